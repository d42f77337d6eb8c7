def jPow (x md : Int32) : Nat → Int32
  | 0 => 1
  | n + 1 => jRem (jPow x md n * x) md
def jCnt (g : Nat → Prop) [DecidablePred g] : Nat → Nat
  | 0 => 0
  | n + 1 => jCnt g n + if g n then 1 else 0
theorem jCnt_t {g : Nat → Prop} [DecidablePred g] {k : Nat} (h : g k) : nI (jCnt g k) + 1 = nI (jCnt g (k + 1)) := by
  show _ = nI (jCnt g k + if g k then 1 else 0)
  rw [if_pos h, nI_1]
theorem jCnt_f {g : Nat → Prop} [DecidablePred g] {k : Nat} (h : ¬ g k) : nI (jCnt g k) + 0 = nI (jCnt g (k + 1)) := by
  show _ = nI (jCnt g k + if g k then 1 else 0)
  rw [if_neg h, Nat.add_zero]
  show nI _ + nI 0 = _
  rw [nI_add, Nat.add_zero]
theorem jCnt_le {g : Nat → Prop} [DecidablePred g] : ∀ k, jCnt g k ≤ k
  | 0 => Nat.le_refl _
  | k + 1 => by
    show jCnt g k + (if g k then 1 else 0) ≤ k + 1
    have := jCnt_le (g := g) k
    by_cases h : g k
    · rw [if_pos h]; omega
    · rw [if_neg h]; omega
/-- a part of a secret, power by power: the sum so far, the power -/
def jPart (s f : Int32) : Nat → Int32 × Int32
  | 0 => (s, 1)
  | j + 1 => (jRem ((jPart s f j).1 + jRem (s * (nI (j + 1) + 3) + 11 * nI (j + 1) + 5) 257 * jRem ((jPart s f j).2 * f) 257) 257, jRem ((jPart s f j).2 * f) 257)
/-- what stands against a paper at a door, in the model's words -/
def jHold (first last rev ends burnt book d : Int32) : Int32 := if d < first then 1 else if last < d then 2 else if (rev ≠ -1000000 ∧ rev ≤ book) ∧ rev ≤ d then 3 else if (ends ≠ -1000000 ∧ ends ≤ book) ∧ ends ≤ d then 4 else if (burnt ≠ -1000000 ∧ burnt ≤ book) ∧ burnt ≤ first then 5 else 0
def jKind (rev day sort : Int32) : Int32 := if rev ≠ -1000000 ∧ rev ≤ day then 5 else sort
/-- a body begins, in the model -/
def jBeg (mem : jMem) (t : Nat) (x : Int32) : jMem := jup (jup mem 91 t x) 66 41 (nI (t + 1))
set_option maxRecDepth 4000 in
set_option maxHeartbeats 1000000 in
theorem m_told_bad (np : Nat) (mem : jMem) (p w : Int32) (hn : np ≤ 12) (hp : mem 66 9 = nI np) (h : ¬ (jin p 0 ((np : Int) - 1) ∧ jin w 0 15)) : jPi yX11_told cX11_told 3 .int 4 [.ref 66, .int p, .int w] np mem (fun v c => v = -1000001 ∧ c = jup mem 66 0 0) := by
  refine jPi.of (own := RX11) rfl rfl (Nat.le_of_ble_eq_true rfl) (fun G X hR hr hE => ?_)
  refine j_aload_n X dX11_told_0 rfl ?_
  refine j_iconst X dX11_told_1 0 (by decide) ?_
  refine j_putI X 11 0 (by decide) (by decide) rfl rfl rfl rfl u950 (o66 np) (k66 np) dX11_told_2 ?_
  refine j_aload_n X dX11_told_5 rfl ?_
  refine j_iload_n X dX11_told_6 rfl ?_
  refine s_callVi X hR (m_isPaper np _ _ hn hp) rfl 11 (by decide) (o66 np) (k66 np) rfl u1151 u1148 u1150 qp39 u12 hyX11_isPaper (by decide) (by decide) (Nat.le_of_ble_eq_true rfl) dX11_told_7 (fun v_7 m_7 h_7 => ?_)
  obtain ⟨e1, e2⟩ := h_7; have e1 := e1.symm; have e2 := e2.symm; subst e1; subst e2
  refine j_ifb_eq X 25 dX11_told_10 (by decide) (fun c_10 => ?_) (fun c_10 => ?_)
  · refine j_ldc X dX11_told_25 u1089 ?_
    refine s_iret X hE hr dX11_told_27 rfl ?_
    first | exact ⟨rfl, rfl⟩ | (exfalso; clear hE hr hR X; (try simp only [lg_cmp_lt, lg_cmp_gt, lg_cmp_le, lg_cmp_ge] at *); (try simp (disch := omega) only [Int64.le_iff_toInt_le, Int64.lt_iff_toInt_lt, Int32.le_iff_toInt_le, Int32.lt_iff_toInt_lt, fa_eq, fa_lit, fa_litL, nI_toInt, pk_lT, Int32.toInt_toInt64, jadd64, jin, jnoneT] at *); omega)
  · refine j_iload_n X dX11_told_13 rfl ?_
    refine j_i2l X dX11_told_14 ?_
    refine j_lconst X dX11_told_15 0 (by decide) ?_
    refine j_ldc2 X dX11_told_16 u1152 ?_
    refine s_callSi X hR (m_inI np _ _ _ _ 0 15 rfl rfl) rfl u1087 u1085 u1086 u12 hyX11_in (by decide) (by decide) (Nat.le_of_ble_eq_true rfl) dX11_told_19 (fun v_19 m_19 h_19 => ?_)
    obtain ⟨e1, e2⟩ := h_19; have e1 := e1.symm; have e2 := e2.symm; subst e1; subst e2
    refine j_ifb_ne X 28 dX11_told_22 (by decide) (fun c_22 => ?_) (fun c_22 => ?_)
    · exfalso
      clear hE hr hR X
      (try simp only [lg_cmp_lt, lg_cmp_gt, lg_cmp_le, lg_cmp_ge] at *); (try simp (disch := omega) only [Int64.le_iff_toInt_le, Int64.lt_iff_toInt_lt, Int32.le_iff_toInt_le, Int32.lt_iff_toInt_lt, fa_eq, fa_lit, fa_litL, nI_toInt, pk_lT, Int32.toInt_toInt64, jadd64, jin, jnoneT] at *); omega
    · refine j_ldc X dX11_told_25 u1089 ?_
      refine s_iret X hE hr dX11_told_27 rfl ?_
      first | exact ⟨rfl, rfl⟩ | (exfalso; clear hE hr hR X; (try simp only [lg_cmp_lt, lg_cmp_gt, lg_cmp_le, lg_cmp_ge] at *); (try simp (disch := omega) only [Int64.le_iff_toInt_le, Int64.lt_iff_toInt_lt, Int32.le_iff_toInt_le, Int32.lt_iff_toInt_lt, fa_eq, fa_lit, fa_litL, nI_toInt, pk_lT, Int32.toInt_toInt64, jadd64, jin, jnoneT] at *); omega)
set_option maxRecDepth 4000 in
set_option maxHeartbeats 1000000 in
theorem m_told0 (np : Nat) (mem : jMem) (p : Nat) (hn : np ≤ 12) (hp : mem 66 9 = nI np) (hp2 : p < np) : jPi yX11_told cX11_told 3 .int 4 [.ref 66, .int (nI p), .int 0] np mem (fun v c => v = mem 74 (9 * p + 5) ∧ c = jup mem 66 0 0) := by
  refine jPi.of (own := RX11) rfl rfl (Nat.le_of_ble_eq_true rfl) (fun G X hR hr hE => ?_)
  refine j_aload_n X dX11_told_0 rfl ?_
  refine j_iconst X dX11_told_1 0 (by decide) ?_
  refine j_putI X 11 0 (by decide) (by decide) rfl rfl rfl rfl u950 (o66 np) (k66 np) dX11_told_2 ?_
  refine j_aload_n X dX11_told_5 rfl ?_
  refine j_iload_n X dX11_told_6 rfl ?_
  refine s_callVi X hR (m_isPaper np _ _ hn hp) rfl 11 (by decide) (o66 np) (k66 np) rfl u1151 u1148 u1150 qp39 u12 hyX11_isPaper (by decide) (by decide) (Nat.le_of_ble_eq_true rfl) dX11_told_7 (fun v_7 m_7 h_7 => ?_)
  obtain ⟨e1, e2⟩ := h_7; have e1 := e1.symm; have e2 := e2.symm; subst e1; subst e2
  refine j_ifb_eq X 25 dX11_told_10 (by decide) (fun c_10 => ?_) (fun c_10 => ?_)
  · exfalso
    clear hE hr hR X
    (try simp only [lg_cmp_lt, lg_cmp_gt, lg_cmp_le, lg_cmp_ge] at *); (try simp (disch := omega) only [Int64.le_iff_toInt_le, Int64.lt_iff_toInt_lt, Int32.le_iff_toInt_le, Int32.lt_iff_toInt_lt, fa_eq, fa_lit, fa_litL, nI_toInt, pk_lT, Int32.toInt_toInt64, jadd64, jin, jnoneT] at *); omega
  · refine j_iload_n X dX11_told_13 rfl ?_
    refine j_i2l X dX11_told_14 ?_
    refine j_lconst X dX11_told_15 0 (by decide) ?_
    refine j_ldc2 X dX11_told_16 u1152 ?_
    refine s_callSi X hR (m_inI np _ _ _ _ 0 15 rfl rfl) rfl u1087 u1085 u1086 u12 hyX11_in (by decide) (by decide) (Nat.le_of_ble_eq_true rfl) dX11_told_19 (fun v_19 m_19 h_19 => ?_)
    obtain ⟨e1, e2⟩ := h_19; have e1 := e1.symm; have e2 := e2.symm; subst e1; subst e2
    refine j_ifb_ne X 28 dX11_told_22 (by decide) (fun c_22 => ?_) (fun c_22 => ?_)
    · refine j_iload_n X dX11_told_28 rfl ?_
      refine j_tabOut X 135 dX11_told_29 (by decide) (by decide) ?_
      refine j_iload_n X dX11_told_135 rfl ?_
      refine j_iconst X dX11_told_136 4 (by decide) ?_
      refine j_icmp_ge X 149 dX11_told_137 (by decide) (fun c_137 => absurd c_137 (by decide)) (fun c_137 => ?_)
      refine j_aload_n X dX11_told_140 rfl ?_
      refine j_iload_n X dX11_told_141 rfl ?_
      refine j_iload_n X dX11_told_142 rfl ?_
      refine s_callVi X hR (m_field0 np _ _ (by omega)) rfl 11 (by decide) (o66 np) (k66 np) rfl u1160 u1157 u1159 qp41 u12 hyX11_field (by decide) (by decide) (Nat.le_of_ble_eq_true rfl) dX11_told_143 (fun v_143 m_143 h_143 => ?_)
      obtain ⟨e1, e2⟩ := h_143; have e1 := e1.symm; have e2 := e2.symm; subst e1; subst e2
      refine j_goto X 158 dX11_told_146 (by decide) ?_
      refine s_iret X hE hr dX11_told_158 rfl ?_
      first | exact ⟨rfl, rfl⟩ | (exfalso; clear hE hr hR X; (try simp only [lg_cmp_lt, lg_cmp_gt, lg_cmp_le, lg_cmp_ge] at *); (try simp (disch := omega) only [Int64.le_iff_toInt_le, Int64.lt_iff_toInt_lt, Int32.le_iff_toInt_le, Int32.lt_iff_toInt_lt, fa_eq, fa_lit, fa_litL, nI_toInt, pk_lT, Int32.toInt_toInt64, jadd64, jin, jnoneT] at *); omega)
    · exfalso
      clear hE hr hR X
      (try simp only [lg_cmp_lt, lg_cmp_gt, lg_cmp_le, lg_cmp_ge] at *); (try simp (disch := omega) only [Int64.le_iff_toInt_le, Int64.lt_iff_toInt_lt, Int32.le_iff_toInt_le, Int32.lt_iff_toInt_lt, fa_eq, fa_lit, fa_litL, nI_toInt, pk_lT, Int32.toInt_toInt64, jadd64, jin, jnoneT] at *); omega
set_option maxRecDepth 4000 in
set_option maxHeartbeats 1000000 in
theorem m_told1 (np : Nat) (mem : jMem) (p : Nat) (hn : np ≤ 12) (hp : mem 66 9 = nI np) (hp2 : p < np) : jPi yX11_told cX11_told 3 .int 4 [.ref 66, .int (nI p), .int 1] np mem (fun v c => v = mem 74 (9 * p + 6) ∧ c = jup mem 66 0 0) := by
  refine jPi.of (own := RX11) rfl rfl (Nat.le_of_ble_eq_true rfl) (fun G X hR hr hE => ?_)
  refine j_aload_n X dX11_told_0 rfl ?_
  refine j_iconst X dX11_told_1 0 (by decide) ?_
  refine j_putI X 11 0 (by decide) (by decide) rfl rfl rfl rfl u950 (o66 np) (k66 np) dX11_told_2 ?_
  refine j_aload_n X dX11_told_5 rfl ?_
  refine j_iload_n X dX11_told_6 rfl ?_
  refine s_callVi X hR (m_isPaper np _ _ hn hp) rfl 11 (by decide) (o66 np) (k66 np) rfl u1151 u1148 u1150 qp39 u12 hyX11_isPaper (by decide) (by decide) (Nat.le_of_ble_eq_true rfl) dX11_told_7 (fun v_7 m_7 h_7 => ?_)
  obtain ⟨e1, e2⟩ := h_7; have e1 := e1.symm; have e2 := e2.symm; subst e1; subst e2
  refine j_ifb_eq X 25 dX11_told_10 (by decide) (fun c_10 => ?_) (fun c_10 => ?_)
  · exfalso
    clear hE hr hR X
    (try simp only [lg_cmp_lt, lg_cmp_gt, lg_cmp_le, lg_cmp_ge] at *); (try simp (disch := omega) only [Int64.le_iff_toInt_le, Int64.lt_iff_toInt_lt, Int32.le_iff_toInt_le, Int32.lt_iff_toInt_lt, fa_eq, fa_lit, fa_litL, nI_toInt, pk_lT, Int32.toInt_toInt64, jadd64, jin, jnoneT] at *); omega
  · refine j_iload_n X dX11_told_13 rfl ?_
    refine j_i2l X dX11_told_14 ?_
    refine j_lconst X dX11_told_15 0 (by decide) ?_
    refine j_ldc2 X dX11_told_16 u1152 ?_
    refine s_callSi X hR (m_inI np _ _ _ _ 0 15 rfl rfl) rfl u1087 u1085 u1086 u12 hyX11_in (by decide) (by decide) (Nat.le_of_ble_eq_true rfl) dX11_told_19 (fun v_19 m_19 h_19 => ?_)
    obtain ⟨e1, e2⟩ := h_19; have e1 := e1.symm; have e2 := e2.symm; subst e1; subst e2
    refine j_ifb_ne X 28 dX11_told_22 (by decide) (fun c_22 => ?_) (fun c_22 => ?_)
    · refine j_iload_n X dX11_told_28 rfl ?_
      refine j_tabOut X 135 dX11_told_29 (by decide) (by decide) ?_
      refine j_iload_n X dX11_told_135 rfl ?_
      refine j_iconst X dX11_told_136 4 (by decide) ?_
      refine j_icmp_ge X 149 dX11_told_137 (by decide) (fun c_137 => absurd c_137 (by decide)) (fun c_137 => ?_)
      refine j_aload_n X dX11_told_140 rfl ?_
      refine j_iload_n X dX11_told_141 rfl ?_
      refine j_iload_n X dX11_told_142 rfl ?_
      refine s_callVi X hR (m_field1 np _ _ (by omega)) rfl 11 (by decide) (o66 np) (k66 np) rfl u1160 u1157 u1159 qp41 u12 hyX11_field (by decide) (by decide) (Nat.le_of_ble_eq_true rfl) dX11_told_143 (fun v_143 m_143 h_143 => ?_)
      obtain ⟨e1, e2⟩ := h_143; have e1 := e1.symm; have e2 := e2.symm; subst e1; subst e2
      refine j_goto X 158 dX11_told_146 (by decide) ?_
      refine s_iret X hE hr dX11_told_158 rfl ?_
      first | exact ⟨rfl, rfl⟩ | (exfalso; clear hE hr hR X; (try simp only [lg_cmp_lt, lg_cmp_gt, lg_cmp_le, lg_cmp_ge] at *); (try simp (disch := omega) only [Int64.le_iff_toInt_le, Int64.lt_iff_toInt_lt, Int32.le_iff_toInt_le, Int32.lt_iff_toInt_lt, fa_eq, fa_lit, fa_litL, nI_toInt, pk_lT, Int32.toInt_toInt64, jadd64, jin, jnoneT] at *); omega)
    · exfalso
      clear hE hr hR X
      (try simp only [lg_cmp_lt, lg_cmp_gt, lg_cmp_le, lg_cmp_ge] at *); (try simp (disch := omega) only [Int64.le_iff_toInt_le, Int64.lt_iff_toInt_lt, Int32.le_iff_toInt_le, Int32.lt_iff_toInt_lt, fa_eq, fa_lit, fa_litL, nI_toInt, pk_lT, Int32.toInt_toInt64, jadd64, jin, jnoneT] at *); omega
set_option maxRecDepth 4000 in
set_option maxHeartbeats 1000000 in
theorem m_told2 (np : Nat) (mem : jMem) (p : Nat) (hn : np ≤ 12) (hp : mem 66 9 = nI np) (hp2 : p < np) : jPi yX11_told cX11_told 3 .int 4 [.ref 66, .int (nI p), .int 2] np mem (fun v c => v = mem 74 (9 * p + 7) ∧ c = jup mem 66 0 0) := by
  refine jPi.of (own := RX11) rfl rfl (Nat.le_of_ble_eq_true rfl) (fun G X hR hr hE => ?_)
  refine j_aload_n X dX11_told_0 rfl ?_
  refine j_iconst X dX11_told_1 0 (by decide) ?_
  refine j_putI X 11 0 (by decide) (by decide) rfl rfl rfl rfl u950 (o66 np) (k66 np) dX11_told_2 ?_
  refine j_aload_n X dX11_told_5 rfl ?_
  refine j_iload_n X dX11_told_6 rfl ?_
  refine s_callVi X hR (m_isPaper np _ _ hn hp) rfl 11 (by decide) (o66 np) (k66 np) rfl u1151 u1148 u1150 qp39 u12 hyX11_isPaper (by decide) (by decide) (Nat.le_of_ble_eq_true rfl) dX11_told_7 (fun v_7 m_7 h_7 => ?_)
  obtain ⟨e1, e2⟩ := h_7; have e1 := e1.symm; have e2 := e2.symm; subst e1; subst e2
  refine j_ifb_eq X 25 dX11_told_10 (by decide) (fun c_10 => ?_) (fun c_10 => ?_)
  · exfalso
    clear hE hr hR X
    (try simp only [lg_cmp_lt, lg_cmp_gt, lg_cmp_le, lg_cmp_ge] at *); (try simp (disch := omega) only [Int64.le_iff_toInt_le, Int64.lt_iff_toInt_lt, Int32.le_iff_toInt_le, Int32.lt_iff_toInt_lt, fa_eq, fa_lit, fa_litL, nI_toInt, pk_lT, Int32.toInt_toInt64, jadd64, jin, jnoneT] at *); omega
  · refine j_iload_n X dX11_told_13 rfl ?_
    refine j_i2l X dX11_told_14 ?_
    refine j_lconst X dX11_told_15 0 (by decide) ?_
    refine j_ldc2 X dX11_told_16 u1152 ?_
    refine s_callSi X hR (m_inI np _ _ _ _ 0 15 rfl rfl) rfl u1087 u1085 u1086 u12 hyX11_in (by decide) (by decide) (Nat.le_of_ble_eq_true rfl) dX11_told_19 (fun v_19 m_19 h_19 => ?_)
    obtain ⟨e1, e2⟩ := h_19; have e1 := e1.symm; have e2 := e2.symm; subst e1; subst e2
    refine j_ifb_ne X 28 dX11_told_22 (by decide) (fun c_22 => ?_) (fun c_22 => ?_)
    · refine j_iload_n X dX11_told_28 rfl ?_
      refine j_tabOut X 135 dX11_told_29 (by decide) (by decide) ?_
      refine j_iload_n X dX11_told_135 rfl ?_
      refine j_iconst X dX11_told_136 4 (by decide) ?_
      refine j_icmp_ge X 149 dX11_told_137 (by decide) (fun c_137 => absurd c_137 (by decide)) (fun c_137 => ?_)
      refine j_aload_n X dX11_told_140 rfl ?_
      refine j_iload_n X dX11_told_141 rfl ?_
      refine j_iload_n X dX11_told_142 rfl ?_
      refine s_callVi X hR (m_field2 np _ _ (by omega)) rfl 11 (by decide) (o66 np) (k66 np) rfl u1160 u1157 u1159 qp41 u12 hyX11_field (by decide) (by decide) (Nat.le_of_ble_eq_true rfl) dX11_told_143 (fun v_143 m_143 h_143 => ?_)
      obtain ⟨e1, e2⟩ := h_143; have e1 := e1.symm; have e2 := e2.symm; subst e1; subst e2
      refine j_goto X 158 dX11_told_146 (by decide) ?_
      refine s_iret X hE hr dX11_told_158 rfl ?_
      first | exact ⟨rfl, rfl⟩ | (exfalso; clear hE hr hR X; (try simp only [lg_cmp_lt, lg_cmp_gt, lg_cmp_le, lg_cmp_ge] at *); (try simp (disch := omega) only [Int64.le_iff_toInt_le, Int64.lt_iff_toInt_lt, Int32.le_iff_toInt_le, Int32.lt_iff_toInt_lt, fa_eq, fa_lit, fa_litL, nI_toInt, pk_lT, Int32.toInt_toInt64, jadd64, jin, jnoneT] at *); omega)
    · exfalso
      clear hE hr hR X
      (try simp only [lg_cmp_lt, lg_cmp_gt, lg_cmp_le, lg_cmp_ge] at *); (try simp (disch := omega) only [Int64.le_iff_toInt_le, Int64.lt_iff_toInt_lt, Int32.le_iff_toInt_le, Int32.lt_iff_toInt_lt, fa_eq, fa_lit, fa_litL, nI_toInt, pk_lT, Int32.toInt_toInt64, jadd64, jin, jnoneT] at *); omega
set_option maxRecDepth 4000 in
set_option maxHeartbeats 1000000 in
theorem m_told3 (np : Nat) (mem : jMem) (p : Nat) (hn : np ≤ 12) (hp : mem 66 9 = nI np) (hp2 : p < np) : jPi yX11_told cX11_told 3 .int 4 [.ref 66, .int (nI p), .int 3] np mem (fun v c => v = mem 74 (9 * p + 8) ∧ c = jup mem 66 0 0) := by
  refine jPi.of (own := RX11) rfl rfl (Nat.le_of_ble_eq_true rfl) (fun G X hR hr hE => ?_)
  refine j_aload_n X dX11_told_0 rfl ?_
  refine j_iconst X dX11_told_1 0 (by decide) ?_
  refine j_putI X 11 0 (by decide) (by decide) rfl rfl rfl rfl u950 (o66 np) (k66 np) dX11_told_2 ?_
  refine j_aload_n X dX11_told_5 rfl ?_
  refine j_iload_n X dX11_told_6 rfl ?_
  refine s_callVi X hR (m_isPaper np _ _ hn hp) rfl 11 (by decide) (o66 np) (k66 np) rfl u1151 u1148 u1150 qp39 u12 hyX11_isPaper (by decide) (by decide) (Nat.le_of_ble_eq_true rfl) dX11_told_7 (fun v_7 m_7 h_7 => ?_)
  obtain ⟨e1, e2⟩ := h_7; have e1 := e1.symm; have e2 := e2.symm; subst e1; subst e2
  refine j_ifb_eq X 25 dX11_told_10 (by decide) (fun c_10 => ?_) (fun c_10 => ?_)
  · exfalso
    clear hE hr hR X
    (try simp only [lg_cmp_lt, lg_cmp_gt, lg_cmp_le, lg_cmp_ge] at *); (try simp (disch := omega) only [Int64.le_iff_toInt_le, Int64.lt_iff_toInt_lt, Int32.le_iff_toInt_le, Int32.lt_iff_toInt_lt, fa_eq, fa_lit, fa_litL, nI_toInt, pk_lT, Int32.toInt_toInt64, jadd64, jin, jnoneT] at *); omega
  · refine j_iload_n X dX11_told_13 rfl ?_
    refine j_i2l X dX11_told_14 ?_
    refine j_lconst X dX11_told_15 0 (by decide) ?_
    refine j_ldc2 X dX11_told_16 u1152 ?_
    refine s_callSi X hR (m_inI np _ _ _ _ 0 15 rfl rfl) rfl u1087 u1085 u1086 u12 hyX11_in (by decide) (by decide) (Nat.le_of_ble_eq_true rfl) dX11_told_19 (fun v_19 m_19 h_19 => ?_)
    obtain ⟨e1, e2⟩ := h_19; have e1 := e1.symm; have e2 := e2.symm; subst e1; subst e2
    refine j_ifb_ne X 28 dX11_told_22 (by decide) (fun c_22 => ?_) (fun c_22 => ?_)
    · refine j_iload_n X dX11_told_28 rfl ?_
      refine j_tabOut X 135 dX11_told_29 (by decide) (by decide) ?_
      refine j_iload_n X dX11_told_135 rfl ?_
      refine j_iconst X dX11_told_136 4 (by decide) ?_
      refine j_icmp_ge X 149 dX11_told_137 (by decide) (fun c_137 => absurd c_137 (by decide)) (fun c_137 => ?_)
      refine j_aload_n X dX11_told_140 rfl ?_
      refine j_iload_n X dX11_told_141 rfl ?_
      refine j_iload_n X dX11_told_142 rfl ?_
      refine s_callVi X hR (m_field3 np _ _ (by omega)) rfl 11 (by decide) (o66 np) (k66 np) rfl u1160 u1157 u1159 qp41 u12 hyX11_field (by decide) (by decide) (Nat.le_of_ble_eq_true rfl) dX11_told_143 (fun v_143 m_143 h_143 => ?_)
      obtain ⟨e1, e2⟩ := h_143; have e1 := e1.symm; have e2 := e2.symm; subst e1; subst e2
      refine j_goto X 158 dX11_told_146 (by decide) ?_
      refine s_iret X hE hr dX11_told_158 rfl ?_
      first | exact ⟨rfl, rfl⟩ | (exfalso; clear hE hr hR X; (try simp only [lg_cmp_lt, lg_cmp_gt, lg_cmp_le, lg_cmp_ge] at *); (try simp (disch := omega) only [Int64.le_iff_toInt_le, Int64.lt_iff_toInt_lt, Int32.le_iff_toInt_le, Int32.lt_iff_toInt_lt, fa_eq, fa_lit, fa_litL, nI_toInt, pk_lT, Int32.toInt_toInt64, jadd64, jin, jnoneT] at *); omega)
    · exfalso
      clear hE hr hR X
      (try simp only [lg_cmp_lt, lg_cmp_gt, lg_cmp_le, lg_cmp_ge] at *); (try simp (disch := omega) only [Int64.le_iff_toInt_le, Int64.lt_iff_toInt_lt, Int32.le_iff_toInt_le, Int32.lt_iff_toInt_lt, fa_eq, fa_lit, fa_litL, nI_toInt, pk_lT, Int32.toInt_toInt64, jadd64, jin, jnoneT] at *); omega
set_option maxRecDepth 4000 in
set_option maxHeartbeats 1000000 in
theorem m_told4 (np : Nat) (mem : jMem) (p : Nat) (hn : np ≤ 12) (hp : mem 66 9 = nI np) (hp2 : p < np) : jPi yX11_told cX11_told 3 .int 4 [.ref 66, .int (nI p), .int 4] np mem (fun v c => v = (jJoin (jLeaf (nI p) 0 (mem 74 (9 * p + 5))) (jLeaf (nI p) 1 (mem 74 (9 * p + 6)))) ∧ c = jup mem 66 0 0) := by
  refine jPi.of (own := RX11) rfl rfl (Nat.le_of_ble_eq_true rfl) (fun G X hR hr hE => ?_)
  refine j_aload_n X dX11_told_0 rfl ?_
  refine j_iconst X dX11_told_1 0 (by decide) ?_
  refine j_putI X 11 0 (by decide) (by decide) rfl rfl rfl rfl u950 (o66 np) (k66 np) dX11_told_2 ?_
  refine j_aload_n X dX11_told_5 rfl ?_
  refine j_iload_n X dX11_told_6 rfl ?_
  refine s_callVi X hR (m_isPaper np _ _ hn hp) rfl 11 (by decide) (o66 np) (k66 np) rfl u1151 u1148 u1150 qp39 u12 hyX11_isPaper (by decide) (by decide) (Nat.le_of_ble_eq_true rfl) dX11_told_7 (fun v_7 m_7 h_7 => ?_)
  obtain ⟨e1, e2⟩ := h_7; have e1 := e1.symm; have e2 := e2.symm; subst e1; subst e2
  refine j_ifb_eq X 25 dX11_told_10 (by decide) (fun c_10 => ?_) (fun c_10 => ?_)
  · exfalso
    clear hE hr hR X
    (try simp only [lg_cmp_lt, lg_cmp_gt, lg_cmp_le, lg_cmp_ge] at *); (try simp (disch := omega) only [Int64.le_iff_toInt_le, Int64.lt_iff_toInt_lt, Int32.le_iff_toInt_le, Int32.lt_iff_toInt_lt, fa_eq, fa_lit, fa_litL, nI_toInt, pk_lT, Int32.toInt_toInt64, jadd64, jin, jnoneT] at *); omega
  · refine j_iload_n X dX11_told_13 rfl ?_
    refine j_i2l X dX11_told_14 ?_
    refine j_lconst X dX11_told_15 0 (by decide) ?_
    refine j_ldc2 X dX11_told_16 u1152 ?_
    refine s_callSi X hR (m_inI np _ _ _ _ 0 15 rfl rfl) rfl u1087 u1085 u1086 u12 hyX11_in (by decide) (by decide) (Nat.le_of_ble_eq_true rfl) dX11_told_19 (fun v_19 m_19 h_19 => ?_)
    obtain ⟨e1, e2⟩ := h_19; have e1 := e1.symm; have e2 := e2.symm; subst e1; subst e2
    refine j_ifb_ne X 28 dX11_told_22 (by decide) (fun c_22 => ?_) (fun c_22 => ?_)
    · refine j_iload_n X dX11_told_28 rfl ?_
      refine j_tabIn X (off := 47) 76 dX11_told_29 (by decide) (by decide) (by decide) (by decide) ?_
      refine j_aload_n X dX11_told_76 rfl ?_
      refine j_iload_n X dX11_told_77 rfl ?_
      refine j_iconst X dX11_told_78 0 (by decide) ?_
      refine s_callVi X hR (m_half0 np _ _ (by omega)) rfl 11 (by decide) (o66 np) (k66 np) rfl u1156 u1153 u1155 qp40 u12 hyX11_halfOf (by decide) (by decide) (Nat.le_of_ble_eq_true rfl) dX11_told_79 (fun v_79 m_79 h_79 => ?_)
      obtain ⟨e1, e2⟩ := h_79; have e1 := e1.symm; have e2 := e2.symm; subst e1; subst e2
      refine s_iret X hE hr dX11_told_82 rfl ?_
      first | exact ⟨rfl, rfl⟩ | (exfalso; clear hE hr hR X; (try simp only [lg_cmp_lt, lg_cmp_gt, lg_cmp_le, lg_cmp_ge] at *); (try simp (disch := omega) only [Int64.le_iff_toInt_le, Int64.lt_iff_toInt_lt, Int32.le_iff_toInt_le, Int32.lt_iff_toInt_lt, fa_eq, fa_lit, fa_litL, nI_toInt, pk_lT, Int32.toInt_toInt64, jadd64, jin, jnoneT] at *); omega)
    · exfalso
      clear hE hr hR X
      (try simp only [lg_cmp_lt, lg_cmp_gt, lg_cmp_le, lg_cmp_ge] at *); (try simp (disch := omega) only [Int64.le_iff_toInt_le, Int64.lt_iff_toInt_lt, Int32.le_iff_toInt_le, Int32.lt_iff_toInt_lt, fa_eq, fa_lit, fa_litL, nI_toInt, pk_lT, Int32.toInt_toInt64, jadd64, jin, jnoneT] at *); omega
set_option maxRecDepth 4000 in
set_option maxHeartbeats 1000000 in
theorem m_told5 (np : Nat) (mem : jMem) (p : Nat) (hn : np ≤ 12) (hp : mem 66 9 = nI np) (hp2 : p < np) : jPi yX11_told cX11_told 3 .int 4 [.ref 66, .int (nI p), .int 5] np mem (fun v c => v = (jJoin (jLeaf (nI p) 2 (mem 74 (9 * p + 7))) (jLeaf (nI p) 3 (mem 74 (9 * p + 8)))) ∧ c = jup mem 66 0 0) := by
  refine jPi.of (own := RX11) rfl rfl (Nat.le_of_ble_eq_true rfl) (fun G X hR hr hE => ?_)
  refine j_aload_n X dX11_told_0 rfl ?_
  refine j_iconst X dX11_told_1 0 (by decide) ?_
  refine j_putI X 11 0 (by decide) (by decide) rfl rfl rfl rfl u950 (o66 np) (k66 np) dX11_told_2 ?_
  refine j_aload_n X dX11_told_5 rfl ?_
  refine j_iload_n X dX11_told_6 rfl ?_
  refine s_callVi X hR (m_isPaper np _ _ hn hp) rfl 11 (by decide) (o66 np) (k66 np) rfl u1151 u1148 u1150 qp39 u12 hyX11_isPaper (by decide) (by decide) (Nat.le_of_ble_eq_true rfl) dX11_told_7 (fun v_7 m_7 h_7 => ?_)
  obtain ⟨e1, e2⟩ := h_7; have e1 := e1.symm; have e2 := e2.symm; subst e1; subst e2
  refine j_ifb_eq X 25 dX11_told_10 (by decide) (fun c_10 => ?_) (fun c_10 => ?_)
  · exfalso
    clear hE hr hR X
    (try simp only [lg_cmp_lt, lg_cmp_gt, lg_cmp_le, lg_cmp_ge] at *); (try simp (disch := omega) only [Int64.le_iff_toInt_le, Int64.lt_iff_toInt_lt, Int32.le_iff_toInt_le, Int32.lt_iff_toInt_lt, fa_eq, fa_lit, fa_litL, nI_toInt, pk_lT, Int32.toInt_toInt64, jadd64, jin, jnoneT] at *); omega
  · refine j_iload_n X dX11_told_13 rfl ?_
    refine j_i2l X dX11_told_14 ?_
    refine j_lconst X dX11_told_15 0 (by decide) ?_
    refine j_ldc2 X dX11_told_16 u1152 ?_
    refine s_callSi X hR (m_inI np _ _ _ _ 0 15 rfl rfl) rfl u1087 u1085 u1086 u12 hyX11_in (by decide) (by decide) (Nat.le_of_ble_eq_true rfl) dX11_told_19 (fun v_19 m_19 h_19 => ?_)
    obtain ⟨e1, e2⟩ := h_19; have e1 := e1.symm; have e2 := e2.symm; subst e1; subst e2
    refine j_ifb_ne X 28 dX11_told_22 (by decide) (fun c_22 => ?_) (fun c_22 => ?_)
    · refine j_iload_n X dX11_told_28 rfl ?_
      refine j_tabIn X (off := 54) 83 dX11_told_29 (by decide) (by decide) (by decide) (by decide) ?_
      refine j_aload_n X dX11_told_83 rfl ?_
      refine j_iload_n X dX11_told_84 rfl ?_
      refine j_iconst X dX11_told_85 1 (by decide) ?_
      refine s_callVi X hR (m_half1 np _ _ (by omega)) rfl 11 (by decide) (o66 np) (k66 np) rfl u1156 u1153 u1155 qp40 u12 hyX11_halfOf (by decide) (by decide) (Nat.le_of_ble_eq_true rfl) dX11_told_86 (fun v_86 m_86 h_86 => ?_)
      obtain ⟨e1, e2⟩ := h_86; have e1 := e1.symm; have e2 := e2.symm; subst e1; subst e2
      refine s_iret X hE hr dX11_told_89 rfl ?_
      first | exact ⟨rfl, rfl⟩ | (exfalso; clear hE hr hR X; (try simp only [lg_cmp_lt, lg_cmp_gt, lg_cmp_le, lg_cmp_ge] at *); (try simp (disch := omega) only [Int64.le_iff_toInt_le, Int64.lt_iff_toInt_lt, Int32.le_iff_toInt_le, Int32.lt_iff_toInt_lt, fa_eq, fa_lit, fa_litL, nI_toInt, pk_lT, Int32.toInt_toInt64, jadd64, jin, jnoneT] at *); omega)
    · exfalso
      clear hE hr hR X
      (try simp only [lg_cmp_lt, lg_cmp_gt, lg_cmp_le, lg_cmp_ge] at *); (try simp (disch := omega) only [Int64.le_iff_toInt_le, Int64.lt_iff_toInt_lt, Int32.le_iff_toInt_le, Int32.lt_iff_toInt_lt, fa_eq, fa_lit, fa_litL, nI_toInt, pk_lT, Int32.toInt_toInt64, jadd64, jin, jnoneT] at *); omega
set_option maxRecDepth 4000 in
set_option maxHeartbeats 1000000 in
theorem m_told6 (np : Nat) (mem : jMem) (p : Nat) (hn : np ≤ 12) (hp : mem 66 9 = nI np) (hp2 : p < np) : jPi yX11_told cX11_told 3 .int 4 [.ref 66, .int (nI p), .int 6] np mem (fun v c => v = jRootM (mem 74) p ∧ c = jup mem 66 0 0) := by
  refine jPi.of (own := RX11) rfl rfl (Nat.le_of_ble_eq_true rfl) (fun G X hR hr hE => ?_)
  refine j_aload_n X dX11_told_0 rfl ?_
  refine j_iconst X dX11_told_1 0 (by decide) ?_
  refine j_putI X 11 0 (by decide) (by decide) rfl rfl rfl rfl u950 (o66 np) (k66 np) dX11_told_2 ?_
  refine j_aload_n X dX11_told_5 rfl ?_
  refine j_iload_n X dX11_told_6 rfl ?_
  refine s_callVi X hR (m_isPaper np _ _ hn hp) rfl 11 (by decide) (o66 np) (k66 np) rfl u1151 u1148 u1150 qp39 u12 hyX11_isPaper (by decide) (by decide) (Nat.le_of_ble_eq_true rfl) dX11_told_7 (fun v_7 m_7 h_7 => ?_)
  obtain ⟨e1, e2⟩ := h_7; have e1 := e1.symm; have e2 := e2.symm; subst e1; subst e2
  refine j_ifb_eq X 25 dX11_told_10 (by decide) (fun c_10 => ?_) (fun c_10 => ?_)
  · exfalso
    clear hE hr hR X
    (try simp only [lg_cmp_lt, lg_cmp_gt, lg_cmp_le, lg_cmp_ge] at *); (try simp (disch := omega) only [Int64.le_iff_toInt_le, Int64.lt_iff_toInt_lt, Int32.le_iff_toInt_le, Int32.lt_iff_toInt_lt, fa_eq, fa_lit, fa_litL, nI_toInt, pk_lT, Int32.toInt_toInt64, jadd64, jin, jnoneT] at *); omega
  · refine j_iload_n X dX11_told_13 rfl ?_
    refine j_i2l X dX11_told_14 ?_
    refine j_lconst X dX11_told_15 0 (by decide) ?_
    refine j_ldc2 X dX11_told_16 u1152 ?_
    refine s_callSi X hR (m_inI np _ _ _ _ 0 15 rfl rfl) rfl u1087 u1085 u1086 u12 hyX11_in (by decide) (by decide) (Nat.le_of_ble_eq_true rfl) dX11_told_19 (fun v_19 m_19 h_19 => ?_)
    obtain ⟨e1, e2⟩ := h_19; have e1 := e1.symm; have e2 := e2.symm; subst e1; subst e2
    refine j_ifb_ne X 28 dX11_told_22 (by decide) (fun c_22 => ?_) (fun c_22 => ?_)
    · refine j_iload_n X dX11_told_28 rfl ?_
      refine j_tabIn X (off := 61) 90 dX11_told_29 (by decide) (by decide) (by decide) (by decide) ?_
      refine j_aload_n X dX11_told_90 rfl ?_
      refine j_iload_n X dX11_told_91 rfl ?_
      refine s_callVi X hR (m_rootOf np _ _ (by omega)) rfl 11 (by decide) (o66 np) (k66 np) rfl u1172 u1169 u1171 qp42 u12 hyX11_rootOf (by decide) (by decide) (Nat.le_of_ble_eq_true rfl) dX11_told_92 (fun v_92 m_92 h_92 => ?_)
      obtain ⟨e1, e2⟩ := h_92; have e1 := e1.symm; have e2 := e2.symm; subst e1; subst e2
      refine s_iret X hE hr dX11_told_95 rfl ?_
      first | exact ⟨rfl, rfl⟩ | (exfalso; clear hE hr hR X; (try simp only [lg_cmp_lt, lg_cmp_gt, lg_cmp_le, lg_cmp_ge] at *); (try simp (disch := omega) only [Int64.le_iff_toInt_le, Int64.lt_iff_toInt_lt, Int32.le_iff_toInt_le, Int32.lt_iff_toInt_lt, fa_eq, fa_lit, fa_litL, nI_toInt, pk_lT, Int32.toInt_toInt64, jadd64, jin, jnoneT] at *); omega)
    · exfalso
      clear hE hr hR X
      (try simp only [lg_cmp_lt, lg_cmp_gt, lg_cmp_le, lg_cmp_ge] at *); (try simp (disch := omega) only [Int64.le_iff_toInt_le, Int64.lt_iff_toInt_lt, Int32.le_iff_toInt_le, Int32.lt_iff_toInt_lt, fa_eq, fa_lit, fa_litL, nI_toInt, pk_lT, Int32.toInt_toInt64, jadd64, jin, jnoneT] at *); omega
set_option maxRecDepth 4000 in
set_option maxHeartbeats 1000000 in
theorem m_told7 (np : Nat) (mem : jMem) (p : Nat) (hn : np ≤ 12) (hp : mem 66 9 = nI np) (hp2 : p < np) (o q : Nat) (ho : o < 4) (hpo : mem 74 (9 * p) = nI o) (hq : q ≤ 6) (hc : mem 70 o = nI q) : jPi yX11_told cX11_told 3 .int 4 [.ref 66, .int (nI p), .int 7] np mem (fun v c => v = jSeal (jRootM (mem 74) p) (jKey (fun j => mem 71 (6 * o + j)) (fun j => mem 72 (6 * o + j)) q (nI o) (mem 74 (9 * p + 3))) ∧ c = jup mem 66 0 0) := by
  refine jPi.of (own := RX11) rfl rfl (Nat.le_of_ble_eq_true rfl) (fun G X hR hr hE => ?_)
  refine j_aload_n X dX11_told_0 rfl ?_
  refine j_iconst X dX11_told_1 0 (by decide) ?_
  refine j_putI X 11 0 (by decide) (by decide) rfl rfl rfl rfl u950 (o66 np) (k66 np) dX11_told_2 ?_
  refine j_aload_n X dX11_told_5 rfl ?_
  refine j_iload_n X dX11_told_6 rfl ?_
  refine s_callVi X hR (m_isPaper np _ _ hn hp) rfl 11 (by decide) (o66 np) (k66 np) rfl u1151 u1148 u1150 qp39 u12 hyX11_isPaper (by decide) (by decide) (Nat.le_of_ble_eq_true rfl) dX11_told_7 (fun v_7 m_7 h_7 => ?_)
  obtain ⟨e1, e2⟩ := h_7; have e1 := e1.symm; have e2 := e2.symm; subst e1; subst e2
  refine j_ifb_eq X 25 dX11_told_10 (by decide) (fun c_10 => ?_) (fun c_10 => ?_)
  · exfalso
    clear hE hr hR X
    (try simp only [lg_cmp_lt, lg_cmp_gt, lg_cmp_le, lg_cmp_ge] at *); (try simp (disch := omega) only [Int64.le_iff_toInt_le, Int64.lt_iff_toInt_lt, Int32.le_iff_toInt_le, Int32.lt_iff_toInt_lt, fa_eq, fa_lit, fa_litL, nI_toInt, pk_lT, Int32.toInt_toInt64, jadd64, jin, jnoneT] at *); omega
  · refine j_iload_n X dX11_told_13 rfl ?_
    refine j_i2l X dX11_told_14 ?_
    refine j_lconst X dX11_told_15 0 (by decide) ?_
    refine j_ldc2 X dX11_told_16 u1152 ?_
    refine s_callSi X hR (m_inI np _ _ _ _ 0 15 rfl rfl) rfl u1087 u1085 u1086 u12 hyX11_in (by decide) (by decide) (Nat.le_of_ble_eq_true rfl) dX11_told_19 (fun v_19 m_19 h_19 => ?_)
    obtain ⟨e1, e2⟩ := h_19; have e1 := e1.symm; have e2 := e2.symm; subst e1; subst e2
    refine j_ifb_ne X 28 dX11_told_22 (by decide) (fun c_22 => ?_) (fun c_22 => ?_)
    · refine j_iload_n X dX11_told_28 rfl ?_
      refine j_tabIn X (off := 67) 96 dX11_told_29 (by decide) (by decide) (by decide) (by decide) ?_
      refine j_aload_n X dX11_told_96 rfl ?_
      refine j_iload_n X dX11_told_97 rfl ?_
      refine j_aload_n X dX11_told_98 rfl ?_
      refine j_iload_n X dX11_told_99 rfl ?_
      refine s_callVi X hR (m_rootOf np _ _ (by omega)) rfl 11 (by decide) (o66 np) (k66 np) rfl u1172 u1169 u1171 qp42 u12 hyX11_rootOf (by decide) (by decide) (Nat.le_of_ble_eq_true rfl) dX11_told_100 (fun v_100 m_100 h_100 => ?_)
      obtain ⟨e1, e2⟩ := h_100; have e1 := e1.symm; have e2 := e2.symm; subst e1; subst e2
      refine s_callVi X hR (m_sealOf np _ p o q _ (by omega) ho hpo hq hc) rfl 11 (by decide) (o66 np) (k66 np) rfl u1176 u1173 u1175 qp43 u12 hyX11_sealOf (by decide) (by decide) (Nat.le_of_ble_eq_true rfl) dX11_told_103 (fun v_103 m_103 h_103 => ?_)
      obtain ⟨e1, e2⟩ := h_103; have e1 := e1.symm; have e2 := e2.symm; subst e1; subst e2
      refine s_iret X hE hr dX11_told_106 rfl ?_
      first | exact ⟨rfl, rfl⟩ | (exfalso; clear hE hr hR X; (try simp only [lg_cmp_lt, lg_cmp_gt, lg_cmp_le, lg_cmp_ge] at *); (try simp (disch := omega) only [Int64.le_iff_toInt_le, Int64.lt_iff_toInt_lt, Int32.le_iff_toInt_le, Int32.lt_iff_toInt_lt, fa_eq, fa_lit, fa_litL, nI_toInt, pk_lT, Int32.toInt_toInt64, jadd64, jin, jnoneT] at *); omega)
    · exfalso
      clear hE hr hR X
      (try simp only [lg_cmp_lt, lg_cmp_gt, lg_cmp_le, lg_cmp_ge] at *); (try simp (disch := omega) only [Int64.le_iff_toInt_le, Int64.lt_iff_toInt_lt, Int32.le_iff_toInt_le, Int32.lt_iff_toInt_lt, fa_eq, fa_lit, fa_litL, nI_toInt, pk_lT, Int32.toInt_toInt64, jadd64, jin, jnoneT] at *); omega
set_option maxRecDepth 4000 in
set_option maxHeartbeats 1000000 in
theorem m_told8 (np : Nat) (mem : jMem) (p : Nat) (hn : np ≤ 12) (hp : mem 66 9 = nI np) (hp2 : p < np) : jPi yX11_told cX11_told 3 .int 4 [.ref 66, .int (nI p), .int 8] np mem (fun v c => v = mem 74 (9 * p) ∧ c = jup mem 66 0 0) := by
  refine jPi.of (own := RX11) rfl rfl (Nat.le_of_ble_eq_true rfl) (fun G X hR hr hE => ?_)
  refine j_aload_n X dX11_told_0 rfl ?_
  refine j_iconst X dX11_told_1 0 (by decide) ?_
  refine j_putI X 11 0 (by decide) (by decide) rfl rfl rfl rfl u950 (o66 np) (k66 np) dX11_told_2 ?_
  refine j_aload_n X dX11_told_5 rfl ?_
  refine j_iload_n X dX11_told_6 rfl ?_
  refine s_callVi X hR (m_isPaper np _ _ hn hp) rfl 11 (by decide) (o66 np) (k66 np) rfl u1151 u1148 u1150 qp39 u12 hyX11_isPaper (by decide) (by decide) (Nat.le_of_ble_eq_true rfl) dX11_told_7 (fun v_7 m_7 h_7 => ?_)
  obtain ⟨e1, e2⟩ := h_7; have e1 := e1.symm; have e2 := e2.symm; subst e1; subst e2
  refine j_ifb_eq X 25 dX11_told_10 (by decide) (fun c_10 => ?_) (fun c_10 => ?_)
  · exfalso
    clear hE hr hR X
    (try simp only [lg_cmp_lt, lg_cmp_gt, lg_cmp_le, lg_cmp_ge] at *); (try simp (disch := omega) only [Int64.le_iff_toInt_le, Int64.lt_iff_toInt_lt, Int32.le_iff_toInt_le, Int32.lt_iff_toInt_lt, fa_eq, fa_lit, fa_litL, nI_toInt, pk_lT, Int32.toInt_toInt64, jadd64, jin, jnoneT] at *); omega
  · refine j_iload_n X dX11_told_13 rfl ?_
    refine j_i2l X dX11_told_14 ?_
    refine j_lconst X dX11_told_15 0 (by decide) ?_
    refine j_ldc2 X dX11_told_16 u1152 ?_
    refine s_callSi X hR (m_inI np _ _ _ _ 0 15 rfl rfl) rfl u1087 u1085 u1086 u12 hyX11_in (by decide) (by decide) (Nat.le_of_ble_eq_true rfl) dX11_told_19 (fun v_19 m_19 h_19 => ?_)
    obtain ⟨e1, e2⟩ := h_19; have e1 := e1.symm; have e2 := e2.symm; subst e1; subst e2
    refine j_ifb_ne X 28 dX11_told_22 (by decide) (fun c_22 => ?_) (fun c_22 => ?_)
    · refine j_iload_n X dX11_told_28 rfl ?_
      refine j_tabIn X (off := 78) 107 dX11_told_29 (by decide) (by decide) (by decide) (by decide) ?_
      refine j_aload_n X dX11_told_107 rfl ?_
      refine j_iload_n X dX11_told_108 rfl ?_
      refine j_iconst X dX11_told_109 0 (by decide) ?_
      refine s_callVi X hR (m_of np _ _ 0 (by omega) (by omega)) rfl 11 (by decide) (o66 np) (k66 np) rfl u1180 u1177 u1179 qp44 u12 hyX11_of (by decide) (by decide) (Nat.le_of_ble_eq_true rfl) dX11_told_110 (fun v_110 m_110 h_110 => ?_)
      obtain ⟨e1, e2⟩ := h_110; have e1 := e1.symm; have e2 := e2.symm; subst e1; subst e2
      refine s_iret X hE hr dX11_told_113 rfl ?_
      first | exact ⟨rfl, rfl⟩ | (exfalso; clear hE hr hR X; (try simp only [lg_cmp_lt, lg_cmp_gt, lg_cmp_le, lg_cmp_ge] at *); (try simp (disch := omega) only [Int64.le_iff_toInt_le, Int64.lt_iff_toInt_lt, Int32.le_iff_toInt_le, Int32.lt_iff_toInt_lt, fa_eq, fa_lit, fa_litL, nI_toInt, pk_lT, Int32.toInt_toInt64, jadd64, jin, jnoneT] at *); omega)
    · exfalso
      clear hE hr hR X
      (try simp only [lg_cmp_lt, lg_cmp_gt, lg_cmp_le, lg_cmp_ge] at *); (try simp (disch := omega) only [Int64.le_iff_toInt_le, Int64.lt_iff_toInt_lt, Int32.le_iff_toInt_le, Int32.lt_iff_toInt_lt, fa_eq, fa_lit, fa_litL, nI_toInt, pk_lT, Int32.toInt_toInt64, jadd64, jin, jnoneT] at *); omega
set_option maxRecDepth 4000 in
set_option maxHeartbeats 1000000 in
theorem m_told9 (np : Nat) (mem : jMem) (p : Nat) (hn : np ≤ 12) (hp : mem 66 9 = nI np) (hp2 : p < np) : jPi yX11_told cX11_told 3 .int 4 [.ref 66, .int (nI p), .int 9] np mem (fun v c => v = mem 74 (9 * p + 1) ∧ c = jup mem 66 0 0) := by
  refine jPi.of (own := RX11) rfl rfl (Nat.le_of_ble_eq_true rfl) (fun G X hR hr hE => ?_)
  refine j_aload_n X dX11_told_0 rfl ?_
  refine j_iconst X dX11_told_1 0 (by decide) ?_
  refine j_putI X 11 0 (by decide) (by decide) rfl rfl rfl rfl u950 (o66 np) (k66 np) dX11_told_2 ?_
  refine j_aload_n X dX11_told_5 rfl ?_
  refine j_iload_n X dX11_told_6 rfl ?_
  refine s_callVi X hR (m_isPaper np _ _ hn hp) rfl 11 (by decide) (o66 np) (k66 np) rfl u1151 u1148 u1150 qp39 u12 hyX11_isPaper (by decide) (by decide) (Nat.le_of_ble_eq_true rfl) dX11_told_7 (fun v_7 m_7 h_7 => ?_)
  obtain ⟨e1, e2⟩ := h_7; have e1 := e1.symm; have e2 := e2.symm; subst e1; subst e2
  refine j_ifb_eq X 25 dX11_told_10 (by decide) (fun c_10 => ?_) (fun c_10 => ?_)
  · exfalso
    clear hE hr hR X
    (try simp only [lg_cmp_lt, lg_cmp_gt, lg_cmp_le, lg_cmp_ge] at *); (try simp (disch := omega) only [Int64.le_iff_toInt_le, Int64.lt_iff_toInt_lt, Int32.le_iff_toInt_le, Int32.lt_iff_toInt_lt, fa_eq, fa_lit, fa_litL, nI_toInt, pk_lT, Int32.toInt_toInt64, jadd64, jin, jnoneT] at *); omega
  · refine j_iload_n X dX11_told_13 rfl ?_
    refine j_i2l X dX11_told_14 ?_
    refine j_lconst X dX11_told_15 0 (by decide) ?_
    refine j_ldc2 X dX11_told_16 u1152 ?_
    refine s_callSi X hR (m_inI np _ _ _ _ 0 15 rfl rfl) rfl u1087 u1085 u1086 u12 hyX11_in (by decide) (by decide) (Nat.le_of_ble_eq_true rfl) dX11_told_19 (fun v_19 m_19 h_19 => ?_)
    obtain ⟨e1, e2⟩ := h_19; have e1 := e1.symm; have e2 := e2.symm; subst e1; subst e2
    refine j_ifb_ne X 28 dX11_told_22 (by decide) (fun c_22 => ?_) (fun c_22 => ?_)
    · refine j_iload_n X dX11_told_28 rfl ?_
      refine j_tabIn X (off := 85) 114 dX11_told_29 (by decide) (by decide) (by decide) (by decide) ?_
      refine j_aload_n X dX11_told_114 rfl ?_
      refine j_iload_n X dX11_told_115 rfl ?_
      refine j_iconst X dX11_told_116 1 (by decide) ?_
      refine s_callVi X hR (m_of np _ _ 1 (by omega) (by omega)) rfl 11 (by decide) (o66 np) (k66 np) rfl u1180 u1177 u1179 qp44 u12 hyX11_of (by decide) (by decide) (Nat.le_of_ble_eq_true rfl) dX11_told_117 (fun v_117 m_117 h_117 => ?_)
      obtain ⟨e1, e2⟩ := h_117; have e1 := e1.symm; have e2 := e2.symm; subst e1; subst e2
      refine s_iret X hE hr dX11_told_120 rfl ?_
      first | exact ⟨rfl, rfl⟩ | (exfalso; clear hE hr hR X; (try simp only [lg_cmp_lt, lg_cmp_gt, lg_cmp_le, lg_cmp_ge] at *); (try simp (disch := omega) only [Int64.le_iff_toInt_le, Int64.lt_iff_toInt_lt, Int32.le_iff_toInt_le, Int32.lt_iff_toInt_lt, fa_eq, fa_lit, fa_litL, nI_toInt, pk_lT, Int32.toInt_toInt64, jadd64, jin, jnoneT] at *); omega)
    · exfalso
      clear hE hr hR X
      (try simp only [lg_cmp_lt, lg_cmp_gt, lg_cmp_le, lg_cmp_ge] at *); (try simp (disch := omega) only [Int64.le_iff_toInt_le, Int64.lt_iff_toInt_lt, Int32.le_iff_toInt_le, Int32.lt_iff_toInt_lt, fa_eq, fa_lit, fa_litL, nI_toInt, pk_lT, Int32.toInt_toInt64, jadd64, jin, jnoneT] at *); omega
set_option maxRecDepth 4000 in
set_option maxHeartbeats 1000000 in
theorem m_told10 (np : Nat) (mem : jMem) (p : Nat) (hn : np ≤ 12) (hp : mem 66 9 = nI np) (hp2 : p < np) : jPi yX11_told cX11_told 3 .int 4 [.ref 66, .int (nI p), .int 10] np mem (fun v c => v = mem 74 (9 * p + 3) ∧ c = jup mem 66 0 0) := by
  refine jPi.of (own := RX11) rfl rfl (Nat.le_of_ble_eq_true rfl) (fun G X hR hr hE => ?_)
  refine j_aload_n X dX11_told_0 rfl ?_
  refine j_iconst X dX11_told_1 0 (by decide) ?_
  refine j_putI X 11 0 (by decide) (by decide) rfl rfl rfl rfl u950 (o66 np) (k66 np) dX11_told_2 ?_
  refine j_aload_n X dX11_told_5 rfl ?_
  refine j_iload_n X dX11_told_6 rfl ?_
  refine s_callVi X hR (m_isPaper np _ _ hn hp) rfl 11 (by decide) (o66 np) (k66 np) rfl u1151 u1148 u1150 qp39 u12 hyX11_isPaper (by decide) (by decide) (Nat.le_of_ble_eq_true rfl) dX11_told_7 (fun v_7 m_7 h_7 => ?_)
  obtain ⟨e1, e2⟩ := h_7; have e1 := e1.symm; have e2 := e2.symm; subst e1; subst e2
  refine j_ifb_eq X 25 dX11_told_10 (by decide) (fun c_10 => ?_) (fun c_10 => ?_)
  · exfalso
    clear hE hr hR X
    (try simp only [lg_cmp_lt, lg_cmp_gt, lg_cmp_le, lg_cmp_ge] at *); (try simp (disch := omega) only [Int64.le_iff_toInt_le, Int64.lt_iff_toInt_lt, Int32.le_iff_toInt_le, Int32.lt_iff_toInt_lt, fa_eq, fa_lit, fa_litL, nI_toInt, pk_lT, Int32.toInt_toInt64, jadd64, jin, jnoneT] at *); omega
  · refine j_iload_n X dX11_told_13 rfl ?_
    refine j_i2l X dX11_told_14 ?_
    refine j_lconst X dX11_told_15 0 (by decide) ?_
    refine j_ldc2 X dX11_told_16 u1152 ?_
    refine s_callSi X hR (m_inI np _ _ _ _ 0 15 rfl rfl) rfl u1087 u1085 u1086 u12 hyX11_in (by decide) (by decide) (Nat.le_of_ble_eq_true rfl) dX11_told_19 (fun v_19 m_19 h_19 => ?_)
    obtain ⟨e1, e2⟩ := h_19; have e1 := e1.symm; have e2 := e2.symm; subst e1; subst e2
    refine j_ifb_ne X 28 dX11_told_22 (by decide) (fun c_22 => ?_) (fun c_22 => ?_)
    · refine j_iload_n X dX11_told_28 rfl ?_
      refine j_tabIn X (off := 92) 121 dX11_told_29 (by decide) (by decide) (by decide) (by decide) ?_
      refine j_aload_n X dX11_told_121 rfl ?_
      refine j_iload_n X dX11_told_122 rfl ?_
      refine j_iconst X dX11_told_123 3 (by decide) ?_
      refine s_callVi X hR (m_of np _ _ 3 (by omega) (by omega)) rfl 11 (by decide) (o66 np) (k66 np) rfl u1180 u1177 u1179 qp44 u12 hyX11_of (by decide) (by decide) (Nat.le_of_ble_eq_true rfl) dX11_told_124 (fun v_124 m_124 h_124 => ?_)
      obtain ⟨e1, e2⟩ := h_124; have e1 := e1.symm; have e2 := e2.symm; subst e1; subst e2
      refine s_iret X hE hr dX11_told_127 rfl ?_
      first | exact ⟨rfl, rfl⟩ | (exfalso; clear hE hr hR X; (try simp only [lg_cmp_lt, lg_cmp_gt, lg_cmp_le, lg_cmp_ge] at *); (try simp (disch := omega) only [Int64.le_iff_toInt_le, Int64.lt_iff_toInt_lt, Int32.le_iff_toInt_le, Int32.lt_iff_toInt_lt, fa_eq, fa_lit, fa_litL, nI_toInt, pk_lT, Int32.toInt_toInt64, jadd64, jin, jnoneT] at *); omega)
    · exfalso
      clear hE hr hR X
      (try simp only [lg_cmp_lt, lg_cmp_gt, lg_cmp_le, lg_cmp_ge] at *); (try simp (disch := omega) only [Int64.le_iff_toInt_le, Int64.lt_iff_toInt_lt, Int32.le_iff_toInt_le, Int32.lt_iff_toInt_lt, fa_eq, fa_lit, fa_litL, nI_toInt, pk_lT, Int32.toInt_toInt64, jadd64, jin, jnoneT] at *); omega
set_option maxRecDepth 4000 in
set_option maxHeartbeats 1000000 in
theorem m_told11 (np : Nat) (mem : jMem) (p : Nat) (hn : np ≤ 12) (hp : mem 66 9 = nI np) (hp2 : p < np) : jPi yX11_told cX11_told 3 .int 4 [.ref 66, .int (nI p), .int 11] np mem (fun v c => v = mem 74 (9 * p + 4) ∧ c = jup mem 66 0 0) := by
  refine jPi.of (own := RX11) rfl rfl (Nat.le_of_ble_eq_true rfl) (fun G X hR hr hE => ?_)
  refine j_aload_n X dX11_told_0 rfl ?_
  refine j_iconst X dX11_told_1 0 (by decide) ?_
  refine j_putI X 11 0 (by decide) (by decide) rfl rfl rfl rfl u950 (o66 np) (k66 np) dX11_told_2 ?_
  refine j_aload_n X dX11_told_5 rfl ?_
  refine j_iload_n X dX11_told_6 rfl ?_
  refine s_callVi X hR (m_isPaper np _ _ hn hp) rfl 11 (by decide) (o66 np) (k66 np) rfl u1151 u1148 u1150 qp39 u12 hyX11_isPaper (by decide) (by decide) (Nat.le_of_ble_eq_true rfl) dX11_told_7 (fun v_7 m_7 h_7 => ?_)
  obtain ⟨e1, e2⟩ := h_7; have e1 := e1.symm; have e2 := e2.symm; subst e1; subst e2
  refine j_ifb_eq X 25 dX11_told_10 (by decide) (fun c_10 => ?_) (fun c_10 => ?_)
  · exfalso
    clear hE hr hR X
    (try simp only [lg_cmp_lt, lg_cmp_gt, lg_cmp_le, lg_cmp_ge] at *); (try simp (disch := omega) only [Int64.le_iff_toInt_le, Int64.lt_iff_toInt_lt, Int32.le_iff_toInt_le, Int32.lt_iff_toInt_lt, fa_eq, fa_lit, fa_litL, nI_toInt, pk_lT, Int32.toInt_toInt64, jadd64, jin, jnoneT] at *); omega
  · refine j_iload_n X dX11_told_13 rfl ?_
    refine j_i2l X dX11_told_14 ?_
    refine j_lconst X dX11_told_15 0 (by decide) ?_
    refine j_ldc2 X dX11_told_16 u1152 ?_
    refine s_callSi X hR (m_inI np _ _ _ _ 0 15 rfl rfl) rfl u1087 u1085 u1086 u12 hyX11_in (by decide) (by decide) (Nat.le_of_ble_eq_true rfl) dX11_told_19 (fun v_19 m_19 h_19 => ?_)
    obtain ⟨e1, e2⟩ := h_19; have e1 := e1.symm; have e2 := e2.symm; subst e1; subst e2
    refine j_ifb_ne X 28 dX11_told_22 (by decide) (fun c_22 => ?_) (fun c_22 => ?_)
    · refine j_iload_n X dX11_told_28 rfl ?_
      refine j_tabIn X (off := 99) 128 dX11_told_29 (by decide) (by decide) (by decide) (by decide) ?_
      refine j_aload_n X dX11_told_128 rfl ?_
      refine j_iload_n X dX11_told_129 rfl ?_
      refine j_iconst X dX11_told_130 4 (by decide) ?_
      refine s_callVi X hR (m_of np _ _ 4 (by omega) (by omega)) rfl 11 (by decide) (o66 np) (k66 np) rfl u1180 u1177 u1179 qp44 u12 hyX11_of (by decide) (by decide) (Nat.le_of_ble_eq_true rfl) dX11_told_131 (fun v_131 m_131 h_131 => ?_)
      obtain ⟨e1, e2⟩ := h_131; have e1 := e1.symm; have e2 := e2.symm; subst e1; subst e2
      refine s_iret X hE hr dX11_told_134 rfl ?_
      first | exact ⟨rfl, rfl⟩ | (exfalso; clear hE hr hR X; (try simp only [lg_cmp_lt, lg_cmp_gt, lg_cmp_le, lg_cmp_ge] at *); (try simp (disch := omega) only [Int64.le_iff_toInt_le, Int64.lt_iff_toInt_lt, Int32.le_iff_toInt_le, Int32.lt_iff_toInt_lt, fa_eq, fa_lit, fa_litL, nI_toInt, pk_lT, Int32.toInt_toInt64, jadd64, jin, jnoneT] at *); omega)
    · exfalso
      clear hE hr hR X
      (try simp only [lg_cmp_lt, lg_cmp_gt, lg_cmp_le, lg_cmp_ge] at *); (try simp (disch := omega) only [Int64.le_iff_toInt_le, Int64.lt_iff_toInt_lt, Int32.le_iff_toInt_le, Int32.lt_iff_toInt_lt, fa_eq, fa_lit, fa_litL, nI_toInt, pk_lT, Int32.toInt_toInt64, jadd64, jin, jnoneT] at *); omega
set_option maxRecDepth 4000 in
set_option maxHeartbeats 1000000 in
theorem m_told12 (np : Nat) (mem : jMem) (p : Nat) (hn : np ≤ 12) (hp : mem 66 9 = nI np) (hp2 : p < np) (w : Nat) (hw : mem 74 (9 * p + 5) = nI w) (hw2 : w ≤ 999) : jPi yX11_told cX11_told 3 .int 4 [.ref 66, .int (nI p), .int 12] np mem (fun v c => v = jSteps (101 * nI p + 17 * 0 + 1) (w + 1) ∧ c = jup mem 66 0 0) := by
  refine jPi.of (own := RX11) rfl rfl (Nat.le_of_ble_eq_true rfl) (fun G X hR hr hE => ?_)
  refine j_aload_n X dX11_told_0 rfl ?_
  refine j_iconst X dX11_told_1 0 (by decide) ?_
  refine j_putI X 11 0 (by decide) (by decide) rfl rfl rfl rfl u950 (o66 np) (k66 np) dX11_told_2 ?_
  refine j_aload_n X dX11_told_5 rfl ?_
  refine j_iload_n X dX11_told_6 rfl ?_
  refine s_callVi X hR (m_isPaper np _ _ hn hp) rfl 11 (by decide) (o66 np) (k66 np) rfl u1151 u1148 u1150 qp39 u12 hyX11_isPaper (by decide) (by decide) (Nat.le_of_ble_eq_true rfl) dX11_told_7 (fun v_7 m_7 h_7 => ?_)
  obtain ⟨e1, e2⟩ := h_7; have e1 := e1.symm; have e2 := e2.symm; subst e1; subst e2
  refine j_ifb_eq X 25 dX11_told_10 (by decide) (fun c_10 => ?_) (fun c_10 => ?_)
  · exfalso
    clear hE hr hR X
    (try simp only [lg_cmp_lt, lg_cmp_gt, lg_cmp_le, lg_cmp_ge] at *); (try simp (disch := omega) only [Int64.le_iff_toInt_le, Int64.lt_iff_toInt_lt, Int32.le_iff_toInt_le, Int32.lt_iff_toInt_lt, fa_eq, fa_lit, fa_litL, nI_toInt, pk_lT, Int32.toInt_toInt64, jadd64, jin, jnoneT] at *); omega
  · refine j_iload_n X dX11_told_13 rfl ?_
    refine j_i2l X dX11_told_14 ?_
    refine j_lconst X dX11_told_15 0 (by decide) ?_
    refine j_ldc2 X dX11_told_16 u1152 ?_
    refine s_callSi X hR (m_inI np _ _ _ _ 0 15 rfl rfl) rfl u1087 u1085 u1086 u12 hyX11_in (by decide) (by decide) (Nat.le_of_ble_eq_true rfl) dX11_told_19 (fun v_19 m_19 h_19 => ?_)
    obtain ⟨e1, e2⟩ := h_19; have e1 := e1.symm; have e2 := e2.symm; subst e1; subst e2
    refine j_ifb_ne X 28 dX11_told_22 (by decide) (fun c_22 => ?_) (fun c_22 => ?_)
    · refine j_iload_n X dX11_told_28 rfl ?_
      refine j_tabOut X 135 dX11_told_29 (by decide) (by decide) ?_
      refine j_iload_n X dX11_told_135 rfl ?_
      refine j_iconst X dX11_told_136 4 (by decide) ?_
      refine j_icmp_ge X 149 dX11_told_137 (by decide) (fun c_137 => ?_) (fun c_137 => absurd c_137 (by decide))
      refine j_aload_n X dX11_told_149 rfl ?_
      refine j_iload_n X dX11_told_150 rfl ?_
      refine j_iload_n X dX11_told_151 rfl ?_
      refine j_bipush X dX11_told_152 12 (by decide) ?_
      refine j_isub X dX11_told_154 ?_
      refine j_nrm 0 (by decide) ?_
      refine s_callVi X hR (m_endOf np _ p 0 w (by omega) (by omega) hw hw2) rfl 11 (by decide) (o66 np) (k66 np) rfl u1184 u1181 u1183 qp45 u12 hyX11_endOf (by decide) (by decide) (Nat.le_of_ble_eq_true rfl) dX11_told_155 (fun v_155 m_155 h_155 => ?_)
      obtain ⟨e1, e2⟩ := h_155; have e1 := e1.symm; have e2 := e2.symm; subst e1; subst e2
      refine s_iret X hE hr dX11_told_158 rfl ?_
      first | exact ⟨rfl, rfl⟩ | (exfalso; clear hE hr hR X; (try simp only [lg_cmp_lt, lg_cmp_gt, lg_cmp_le, lg_cmp_ge] at *); (try simp (disch := omega) only [Int64.le_iff_toInt_le, Int64.lt_iff_toInt_lt, Int32.le_iff_toInt_le, Int32.lt_iff_toInt_lt, fa_eq, fa_lit, fa_litL, nI_toInt, pk_lT, Int32.toInt_toInt64, jadd64, jin, jnoneT] at *); omega)
    · exfalso
      clear hE hr hR X
      (try simp only [lg_cmp_lt, lg_cmp_gt, lg_cmp_le, lg_cmp_ge] at *); (try simp (disch := omega) only [Int64.le_iff_toInt_le, Int64.lt_iff_toInt_lt, Int32.le_iff_toInt_le, Int32.lt_iff_toInt_lt, fa_eq, fa_lit, fa_litL, nI_toInt, pk_lT, Int32.toInt_toInt64, jadd64, jin, jnoneT] at *); omega
set_option maxRecDepth 4000 in
set_option maxHeartbeats 1000000 in
theorem m_told13 (np : Nat) (mem : jMem) (p : Nat) (hn : np ≤ 12) (hp : mem 66 9 = nI np) (hp2 : p < np) (w : Nat) (hw : mem 74 (9 * p + 6) = nI w) (hw2 : w ≤ 999) : jPi yX11_told cX11_told 3 .int 4 [.ref 66, .int (nI p), .int 13] np mem (fun v c => v = jSteps (101 * nI p + 17 * 1 + 1) (w + 1) ∧ c = jup mem 66 0 0) := by
  refine jPi.of (own := RX11) rfl rfl (Nat.le_of_ble_eq_true rfl) (fun G X hR hr hE => ?_)
  refine j_aload_n X dX11_told_0 rfl ?_
  refine j_iconst X dX11_told_1 0 (by decide) ?_
  refine j_putI X 11 0 (by decide) (by decide) rfl rfl rfl rfl u950 (o66 np) (k66 np) dX11_told_2 ?_
  refine j_aload_n X dX11_told_5 rfl ?_
  refine j_iload_n X dX11_told_6 rfl ?_
  refine s_callVi X hR (m_isPaper np _ _ hn hp) rfl 11 (by decide) (o66 np) (k66 np) rfl u1151 u1148 u1150 qp39 u12 hyX11_isPaper (by decide) (by decide) (Nat.le_of_ble_eq_true rfl) dX11_told_7 (fun v_7 m_7 h_7 => ?_)
  obtain ⟨e1, e2⟩ := h_7; have e1 := e1.symm; have e2 := e2.symm; subst e1; subst e2
  refine j_ifb_eq X 25 dX11_told_10 (by decide) (fun c_10 => ?_) (fun c_10 => ?_)
  · exfalso
    clear hE hr hR X
    (try simp only [lg_cmp_lt, lg_cmp_gt, lg_cmp_le, lg_cmp_ge] at *); (try simp (disch := omega) only [Int64.le_iff_toInt_le, Int64.lt_iff_toInt_lt, Int32.le_iff_toInt_le, Int32.lt_iff_toInt_lt, fa_eq, fa_lit, fa_litL, nI_toInt, pk_lT, Int32.toInt_toInt64, jadd64, jin, jnoneT] at *); omega
  · refine j_iload_n X dX11_told_13 rfl ?_
    refine j_i2l X dX11_told_14 ?_
    refine j_lconst X dX11_told_15 0 (by decide) ?_
    refine j_ldc2 X dX11_told_16 u1152 ?_
    refine s_callSi X hR (m_inI np _ _ _ _ 0 15 rfl rfl) rfl u1087 u1085 u1086 u12 hyX11_in (by decide) (by decide) (Nat.le_of_ble_eq_true rfl) dX11_told_19 (fun v_19 m_19 h_19 => ?_)
    obtain ⟨e1, e2⟩ := h_19; have e1 := e1.symm; have e2 := e2.symm; subst e1; subst e2
    refine j_ifb_ne X 28 dX11_told_22 (by decide) (fun c_22 => ?_) (fun c_22 => ?_)
    · refine j_iload_n X dX11_told_28 rfl ?_
      refine j_tabOut X 135 dX11_told_29 (by decide) (by decide) ?_
      refine j_iload_n X dX11_told_135 rfl ?_
      refine j_iconst X dX11_told_136 4 (by decide) ?_
      refine j_icmp_ge X 149 dX11_told_137 (by decide) (fun c_137 => ?_) (fun c_137 => absurd c_137 (by decide))
      refine j_aload_n X dX11_told_149 rfl ?_
      refine j_iload_n X dX11_told_150 rfl ?_
      refine j_iload_n X dX11_told_151 rfl ?_
      refine j_bipush X dX11_told_152 12 (by decide) ?_
      refine j_isub X dX11_told_154 ?_
      refine j_nrm 1 (by decide) ?_
      refine s_callVi X hR (m_endOf np _ p 1 w (by omega) (by omega) hw hw2) rfl 11 (by decide) (o66 np) (k66 np) rfl u1184 u1181 u1183 qp45 u12 hyX11_endOf (by decide) (by decide) (Nat.le_of_ble_eq_true rfl) dX11_told_155 (fun v_155 m_155 h_155 => ?_)
      obtain ⟨e1, e2⟩ := h_155; have e1 := e1.symm; have e2 := e2.symm; subst e1; subst e2
      refine s_iret X hE hr dX11_told_158 rfl ?_
      first | exact ⟨rfl, rfl⟩ | (exfalso; clear hE hr hR X; (try simp only [lg_cmp_lt, lg_cmp_gt, lg_cmp_le, lg_cmp_ge] at *); (try simp (disch := omega) only [Int64.le_iff_toInt_le, Int64.lt_iff_toInt_lt, Int32.le_iff_toInt_le, Int32.lt_iff_toInt_lt, fa_eq, fa_lit, fa_litL, nI_toInt, pk_lT, Int32.toInt_toInt64, jadd64, jin, jnoneT] at *); omega)
    · exfalso
      clear hE hr hR X
      (try simp only [lg_cmp_lt, lg_cmp_gt, lg_cmp_le, lg_cmp_ge] at *); (try simp (disch := omega) only [Int64.le_iff_toInt_le, Int64.lt_iff_toInt_lt, Int32.le_iff_toInt_le, Int32.lt_iff_toInt_lt, fa_eq, fa_lit, fa_litL, nI_toInt, pk_lT, Int32.toInt_toInt64, jadd64, jin, jnoneT] at *); omega
set_option maxRecDepth 4000 in
set_option maxHeartbeats 1000000 in
theorem m_told14 (np : Nat) (mem : jMem) (p : Nat) (hn : np ≤ 12) (hp : mem 66 9 = nI np) (hp2 : p < np) (w : Nat) (hw : mem 74 (9 * p + 7) = nI w) (hw2 : w ≤ 999) : jPi yX11_told cX11_told 3 .int 4 [.ref 66, .int (nI p), .int 14] np mem (fun v c => v = jSteps (101 * nI p + 17 * 2 + 1) (w + 1) ∧ c = jup mem 66 0 0) := by
  refine jPi.of (own := RX11) rfl rfl (Nat.le_of_ble_eq_true rfl) (fun G X hR hr hE => ?_)
  refine j_aload_n X dX11_told_0 rfl ?_
  refine j_iconst X dX11_told_1 0 (by decide) ?_
  refine j_putI X 11 0 (by decide) (by decide) rfl rfl rfl rfl u950 (o66 np) (k66 np) dX11_told_2 ?_
  refine j_aload_n X dX11_told_5 rfl ?_
  refine j_iload_n X dX11_told_6 rfl ?_
  refine s_callVi X hR (m_isPaper np _ _ hn hp) rfl 11 (by decide) (o66 np) (k66 np) rfl u1151 u1148 u1150 qp39 u12 hyX11_isPaper (by decide) (by decide) (Nat.le_of_ble_eq_true rfl) dX11_told_7 (fun v_7 m_7 h_7 => ?_)
  obtain ⟨e1, e2⟩ := h_7; have e1 := e1.symm; have e2 := e2.symm; subst e1; subst e2
  refine j_ifb_eq X 25 dX11_told_10 (by decide) (fun c_10 => ?_) (fun c_10 => ?_)
  · exfalso
    clear hE hr hR X
    (try simp only [lg_cmp_lt, lg_cmp_gt, lg_cmp_le, lg_cmp_ge] at *); (try simp (disch := omega) only [Int64.le_iff_toInt_le, Int64.lt_iff_toInt_lt, Int32.le_iff_toInt_le, Int32.lt_iff_toInt_lt, fa_eq, fa_lit, fa_litL, nI_toInt, pk_lT, Int32.toInt_toInt64, jadd64, jin, jnoneT] at *); omega
  · refine j_iload_n X dX11_told_13 rfl ?_
    refine j_i2l X dX11_told_14 ?_
    refine j_lconst X dX11_told_15 0 (by decide) ?_
    refine j_ldc2 X dX11_told_16 u1152 ?_
    refine s_callSi X hR (m_inI np _ _ _ _ 0 15 rfl rfl) rfl u1087 u1085 u1086 u12 hyX11_in (by decide) (by decide) (Nat.le_of_ble_eq_true rfl) dX11_told_19 (fun v_19 m_19 h_19 => ?_)
    obtain ⟨e1, e2⟩ := h_19; have e1 := e1.symm; have e2 := e2.symm; subst e1; subst e2
    refine j_ifb_ne X 28 dX11_told_22 (by decide) (fun c_22 => ?_) (fun c_22 => ?_)
    · refine j_iload_n X dX11_told_28 rfl ?_
      refine j_tabOut X 135 dX11_told_29 (by decide) (by decide) ?_
      refine j_iload_n X dX11_told_135 rfl ?_
      refine j_iconst X dX11_told_136 4 (by decide) ?_
      refine j_icmp_ge X 149 dX11_told_137 (by decide) (fun c_137 => ?_) (fun c_137 => absurd c_137 (by decide))
      refine j_aload_n X dX11_told_149 rfl ?_
      refine j_iload_n X dX11_told_150 rfl ?_
      refine j_iload_n X dX11_told_151 rfl ?_
      refine j_bipush X dX11_told_152 12 (by decide) ?_
      refine j_isub X dX11_told_154 ?_
      refine j_nrm 2 (by decide) ?_
      refine s_callVi X hR (m_endOf np _ p 2 w (by omega) (by omega) hw hw2) rfl 11 (by decide) (o66 np) (k66 np) rfl u1184 u1181 u1183 qp45 u12 hyX11_endOf (by decide) (by decide) (Nat.le_of_ble_eq_true rfl) dX11_told_155 (fun v_155 m_155 h_155 => ?_)
      obtain ⟨e1, e2⟩ := h_155; have e1 := e1.symm; have e2 := e2.symm; subst e1; subst e2
      refine s_iret X hE hr dX11_told_158 rfl ?_
      first | exact ⟨rfl, rfl⟩ | (exfalso; clear hE hr hR X; (try simp only [lg_cmp_lt, lg_cmp_gt, lg_cmp_le, lg_cmp_ge] at *); (try simp (disch := omega) only [Int64.le_iff_toInt_le, Int64.lt_iff_toInt_lt, Int32.le_iff_toInt_le, Int32.lt_iff_toInt_lt, fa_eq, fa_lit, fa_litL, nI_toInt, pk_lT, Int32.toInt_toInt64, jadd64, jin, jnoneT] at *); omega)
    · exfalso
      clear hE hr hR X
      (try simp only [lg_cmp_lt, lg_cmp_gt, lg_cmp_le, lg_cmp_ge] at *); (try simp (disch := omega) only [Int64.le_iff_toInt_le, Int64.lt_iff_toInt_lt, Int32.le_iff_toInt_le, Int32.lt_iff_toInt_lt, fa_eq, fa_lit, fa_litL, nI_toInt, pk_lT, Int32.toInt_toInt64, jadd64, jin, jnoneT] at *); omega
set_option maxRecDepth 4000 in
set_option maxHeartbeats 1000000 in
theorem m_told15 (np : Nat) (mem : jMem) (p : Nat) (hn : np ≤ 12) (hp : mem 66 9 = nI np) (hp2 : p < np) (w : Nat) (hw : mem 74 (9 * p + 8) = nI w) (hw2 : w ≤ 999) : jPi yX11_told cX11_told 3 .int 4 [.ref 66, .int (nI p), .int 15] np mem (fun v c => v = jSteps (101 * nI p + 17 * 3 + 1) (w + 1) ∧ c = jup mem 66 0 0) := by
  refine jPi.of (own := RX11) rfl rfl (Nat.le_of_ble_eq_true rfl) (fun G X hR hr hE => ?_)
  refine j_aload_n X dX11_told_0 rfl ?_
  refine j_iconst X dX11_told_1 0 (by decide) ?_
  refine j_putI X 11 0 (by decide) (by decide) rfl rfl rfl rfl u950 (o66 np) (k66 np) dX11_told_2 ?_
  refine j_aload_n X dX11_told_5 rfl ?_
  refine j_iload_n X dX11_told_6 rfl ?_
  refine s_callVi X hR (m_isPaper np _ _ hn hp) rfl 11 (by decide) (o66 np) (k66 np) rfl u1151 u1148 u1150 qp39 u12 hyX11_isPaper (by decide) (by decide) (Nat.le_of_ble_eq_true rfl) dX11_told_7 (fun v_7 m_7 h_7 => ?_)
  obtain ⟨e1, e2⟩ := h_7; have e1 := e1.symm; have e2 := e2.symm; subst e1; subst e2
  refine j_ifb_eq X 25 dX11_told_10 (by decide) (fun c_10 => ?_) (fun c_10 => ?_)
  · exfalso
    clear hE hr hR X
    (try simp only [lg_cmp_lt, lg_cmp_gt, lg_cmp_le, lg_cmp_ge] at *); (try simp (disch := omega) only [Int64.le_iff_toInt_le, Int64.lt_iff_toInt_lt, Int32.le_iff_toInt_le, Int32.lt_iff_toInt_lt, fa_eq, fa_lit, fa_litL, nI_toInt, pk_lT, Int32.toInt_toInt64, jadd64, jin, jnoneT] at *); omega
  · refine j_iload_n X dX11_told_13 rfl ?_
    refine j_i2l X dX11_told_14 ?_
    refine j_lconst X dX11_told_15 0 (by decide) ?_
    refine j_ldc2 X dX11_told_16 u1152 ?_
    refine s_callSi X hR (m_inI np _ _ _ _ 0 15 rfl rfl) rfl u1087 u1085 u1086 u12 hyX11_in (by decide) (by decide) (Nat.le_of_ble_eq_true rfl) dX11_told_19 (fun v_19 m_19 h_19 => ?_)
    obtain ⟨e1, e2⟩ := h_19; have e1 := e1.symm; have e2 := e2.symm; subst e1; subst e2
    refine j_ifb_ne X 28 dX11_told_22 (by decide) (fun c_22 => ?_) (fun c_22 => ?_)
    · refine j_iload_n X dX11_told_28 rfl ?_
      refine j_tabOut X 135 dX11_told_29 (by decide) (by decide) ?_
      refine j_iload_n X dX11_told_135 rfl ?_
      refine j_iconst X dX11_told_136 4 (by decide) ?_
      refine j_icmp_ge X 149 dX11_told_137 (by decide) (fun c_137 => ?_) (fun c_137 => absurd c_137 (by decide))
      refine j_aload_n X dX11_told_149 rfl ?_
      refine j_iload_n X dX11_told_150 rfl ?_
      refine j_iload_n X dX11_told_151 rfl ?_
      refine j_bipush X dX11_told_152 12 (by decide) ?_
      refine j_isub X dX11_told_154 ?_
      refine j_nrm 3 (by decide) ?_
      refine s_callVi X hR (m_endOf np _ p 3 w (by omega) (by omega) hw hw2) rfl 11 (by decide) (o66 np) (k66 np) rfl u1184 u1181 u1183 qp45 u12 hyX11_endOf (by decide) (by decide) (Nat.le_of_ble_eq_true rfl) dX11_told_155 (fun v_155 m_155 h_155 => ?_)
      obtain ⟨e1, e2⟩ := h_155; have e1 := e1.symm; have e2 := e2.symm; subst e1; subst e2
      refine s_iret X hE hr dX11_told_158 rfl ?_
      first | exact ⟨rfl, rfl⟩ | (exfalso; clear hE hr hR X; (try simp only [lg_cmp_lt, lg_cmp_gt, lg_cmp_le, lg_cmp_ge] at *); (try simp (disch := omega) only [Int64.le_iff_toInt_le, Int64.lt_iff_toInt_lt, Int32.le_iff_toInt_le, Int32.lt_iff_toInt_lt, fa_eq, fa_lit, fa_litL, nI_toInt, pk_lT, Int32.toInt_toInt64, jadd64, jin, jnoneT] at *); omega)
    · exfalso
      clear hE hr hR X
      (try simp only [lg_cmp_lt, lg_cmp_gt, lg_cmp_le, lg_cmp_ge] at *); (try simp (disch := omega) only [Int64.le_iff_toInt_le, Int64.lt_iff_toInt_lt, Int32.le_iff_toInt_le, Int32.lt_iff_toInt_lt, fa_eq, fa_lit, fa_litL, nI_toInt, pk_lT, Int32.toInt_toInt64, jadd64, jin, jnoneT] at *); omega
set_option maxRecDepth 4000 in
set_option maxHeartbeats 1000000 in
theorem m_over_bad (np : Nat) (mem : jMem) (p f b : Int32) (hn : np ≤ 12) (hp : mem 66 9 = nI np) (h : ¬ (jin p 0 ((np : Int) - 1) ∧ jin f 0 3 ∧ jin b 0 999)) : jPi yX11_over cX11_over 4 .int 3 [.ref 66, .int p, .int f, .int b] np mem (fun v c => v = -1000001 ∧ c = jup mem 66 0 0) := by
  refine jPi.of (own := RX11) rfl rfl (Nat.le_of_ble_eq_true rfl) (fun G X hR hr hE => ?_)
  refine j_aload_n X dX11_over_0 rfl ?_
  refine j_iconst X dX11_over_1 0 (by decide) ?_
  refine j_putI X 11 0 (by decide) (by decide) rfl rfl rfl rfl u950 (o66 np) (k66 np) dX11_over_2 ?_
  refine j_aload_n X dX11_over_5 rfl ?_
  refine j_iload_n X dX11_over_6 rfl ?_
  refine s_callVi X hR (m_isPaper np _ _ hn hp) rfl 11 (by decide) (o66 np) (k66 np) rfl u1151 u1148 u1150 qp39 u12 hyX11_isPaper (by decide) (by decide) (Nat.le_of_ble_eq_true rfl) dX11_over_7 (fun v_7 m_7 h_7 => ?_)
  obtain ⟨e1, e2⟩ := h_7; have e1 := e1.symm; have e2 := e2.symm; subst e1; subst e2
  refine j_ifb_eq X 37 dX11_over_10 (by decide) (fun c_10 => ?_) (fun c_10 => ?_)
  · refine j_ldc X dX11_over_37 u1089 ?_
    refine s_iret X hE hr dX11_over_39 rfl ?_
    first | exact ⟨rfl, rfl⟩ | (exfalso; clear hE hr hR X; (try simp only [lg_cmp_lt, lg_cmp_gt, lg_cmp_le, lg_cmp_ge] at *); (try simp (disch := omega) only [Int64.le_iff_toInt_le, Int64.lt_iff_toInt_lt, Int32.le_iff_toInt_le, Int32.lt_iff_toInt_lt, fa_eq, fa_lit, fa_litL, nI_toInt, pk_lT, Int32.toInt_toInt64, jadd64, jin, jnoneT] at *); omega)
  · refine j_iload_n X dX11_over_13 rfl ?_
    refine j_i2l X dX11_over_14 ?_
    refine j_lconst X dX11_over_15 0 (by decide) ?_
    refine j_ldc2 X dX11_over_16 u1114 ?_
    refine s_callSi X hR (m_inI np _ _ _ _ 0 3 rfl rfl) rfl u1087 u1085 u1086 u12 hyX11_in (by decide) (by decide) (Nat.le_of_ble_eq_true rfl) dX11_over_19 (fun v_19 m_19 h_19 => ?_)
    obtain ⟨e1, e2⟩ := h_19; have e1 := e1.symm; have e2 := e2.symm; subst e1; subst e2
    refine j_ifb_eq X 37 dX11_over_22 (by decide) (fun c_22 => ?_) (fun c_22 => ?_)
    · refine j_ldc X dX11_over_37 u1089 ?_
      refine s_iret X hE hr dX11_over_39 rfl ?_
      first | exact ⟨rfl, rfl⟩ | (exfalso; clear hE hr hR X; (try simp only [lg_cmp_lt, lg_cmp_gt, lg_cmp_le, lg_cmp_ge] at *); (try simp (disch := omega) only [Int64.le_iff_toInt_le, Int64.lt_iff_toInt_lt, Int32.le_iff_toInt_le, Int32.lt_iff_toInt_lt, fa_eq, fa_lit, fa_litL, nI_toInt, pk_lT, Int32.toInt_toInt64, jadd64, jin, jnoneT] at *); omega)
    · refine j_iload_n X dX11_over_25 rfl ?_
      refine j_i2l X dX11_over_26 ?_
      refine j_lconst X dX11_over_27 0 (by decide) ?_
      refine j_ldc2 X dX11_over_28 u1118 ?_
      refine s_callSi X hR (m_inI np _ _ _ _ 0 999 rfl rfl) rfl u1087 u1085 u1086 u12 hyX11_in (by decide) (by decide) (Nat.le_of_ble_eq_true rfl) dX11_over_31 (fun v_31 m_31 h_31 => ?_)
      obtain ⟨e1, e2⟩ := h_31; have e1 := e1.symm; have e2 := e2.symm; subst e1; subst e2
      refine j_ifb_ne X 40 dX11_over_34 (by decide) (fun c_34 => ?_) (fun c_34 => ?_)
      · exfalso
        clear hE hr hR X
        (try simp only [lg_cmp_lt, lg_cmp_gt, lg_cmp_le, lg_cmp_ge] at *); (try simp (disch := omega) only [Int64.le_iff_toInt_le, Int64.lt_iff_toInt_lt, Int32.le_iff_toInt_le, Int32.lt_iff_toInt_lt, fa_eq, fa_lit, fa_litL, nI_toInt, pk_lT, Int32.toInt_toInt64, jadd64, jin, jnoneT] at *); omega
      · refine j_ldc X dX11_over_37 u1089 ?_
        refine s_iret X hE hr dX11_over_39 rfl ?_
        first | exact ⟨rfl, rfl⟩ | (exfalso; clear hE hr hR X; (try simp only [lg_cmp_lt, lg_cmp_gt, lg_cmp_le, lg_cmp_ge] at *); (try simp (disch := omega) only [Int64.le_iff_toInt_le, Int64.lt_iff_toInt_lt, Int32.le_iff_toInt_le, Int32.lt_iff_toInt_lt, fa_eq, fa_lit, fa_litL, nI_toInt, pk_lT, Int32.toInt_toInt64, jadd64, jin, jnoneT] at *); omega)
set_option maxRecDepth 4000 in
set_option maxHeartbeats 1000000 in
theorem m_isOver_bad (np : Nat) (mem : jMem) (p f b x : Int32) (hn : np ≤ 12) (hp : mem 66 9 = nI np) (h : ¬ (jin p 0 ((np : Int) - 1) ∧ jin f 0 3 ∧ jin b 0 999 ∧ jin x 0 65520)) : jPi yX11_isOver cX11_isOver 5 .int 3 [.ref 66, .int p, .int f, .int b, .int x] np mem (fun v c => v = -1000001 ∧ c = jup mem 66 0 0) := by
  refine jPi.of (own := RX11) rfl rfl (Nat.le_of_ble_eq_true rfl) (fun G X hR hr hE => ?_)
  refine j_aload_n X dX11_isOver_0 rfl ?_
  refine j_iconst X dX11_isOver_1 0 (by decide) ?_
  refine j_putI X 11 0 (by decide) (by decide) rfl rfl rfl rfl u950 (o66 np) (k66 np) dX11_isOver_2 ?_
  refine j_aload_n X dX11_isOver_5 rfl ?_
  refine j_iload_n X dX11_isOver_6 rfl ?_
  refine s_callVi X hR (m_isPaper np _ _ hn hp) rfl 11 (by decide) (o66 np) (k66 np) rfl u1151 u1148 u1150 qp39 u12 hyX11_isPaper (by decide) (by decide) (Nat.le_of_ble_eq_true rfl) dX11_isOver_7 (fun v_7 m_7 h_7 => ?_)
  obtain ⟨e1, e2⟩ := h_7; have e1 := e1.symm; have e2 := e2.symm; subst e1; subst e2
  refine j_ifb_eq X 50 dX11_isOver_10 (by decide) (fun c_10 => ?_) (fun c_10 => ?_)
  · refine j_ldc X dX11_isOver_50 u1089 ?_
    refine s_iret X hE hr dX11_isOver_52 rfl ?_
    first | exact ⟨rfl, rfl⟩ | (exfalso; clear hE hr hR X; (try simp only [lg_cmp_lt, lg_cmp_gt, lg_cmp_le, lg_cmp_ge] at *); (try simp (disch := omega) only [Int64.le_iff_toInt_le, Int64.lt_iff_toInt_lt, Int32.le_iff_toInt_le, Int32.lt_iff_toInt_lt, fa_eq, fa_lit, fa_litL, nI_toInt, pk_lT, Int32.toInt_toInt64, jadd64, jin, jnoneT] at *); omega)
  · refine j_iload_n X dX11_isOver_13 rfl ?_
    refine j_i2l X dX11_isOver_14 ?_
    refine j_lconst X dX11_isOver_15 0 (by decide) ?_
    refine j_ldc2 X dX11_isOver_16 u1114 ?_
    refine s_callSi X hR (m_inI np _ _ _ _ 0 3 rfl rfl) rfl u1087 u1085 u1086 u12 hyX11_in (by decide) (by decide) (Nat.le_of_ble_eq_true rfl) dX11_isOver_19 (fun v_19 m_19 h_19 => ?_)
    obtain ⟨e1, e2⟩ := h_19; have e1 := e1.symm; have e2 := e2.symm; subst e1; subst e2
    refine j_ifb_eq X 50 dX11_isOver_22 (by decide) (fun c_22 => ?_) (fun c_22 => ?_)
    · refine j_ldc X dX11_isOver_50 u1089 ?_
      refine s_iret X hE hr dX11_isOver_52 rfl ?_
      first | exact ⟨rfl, rfl⟩ | (exfalso; clear hE hr hR X; (try simp only [lg_cmp_lt, lg_cmp_gt, lg_cmp_le, lg_cmp_ge] at *); (try simp (disch := omega) only [Int64.le_iff_toInt_le, Int64.lt_iff_toInt_lt, Int32.le_iff_toInt_le, Int32.lt_iff_toInt_lt, fa_eq, fa_lit, fa_litL, nI_toInt, pk_lT, Int32.toInt_toInt64, jadd64, jin, jnoneT] at *); omega)
    · refine j_iload_n X dX11_isOver_25 rfl ?_
      refine j_i2l X dX11_isOver_26 ?_
      refine j_lconst X dX11_isOver_27 0 (by decide) ?_
      refine j_ldc2 X dX11_isOver_28 u1118 ?_
      refine s_callSi X hR (m_inI np _ _ _ _ 0 999 rfl rfl) rfl u1087 u1085 u1086 u12 hyX11_in (by decide) (by decide) (Nat.le_of_ble_eq_true rfl) dX11_isOver_31 (fun v_31 m_31 h_31 => ?_)
      obtain ⟨e1, e2⟩ := h_31; have e1 := e1.symm; have e2 := e2.symm; subst e1; subst e2
      refine j_ifb_eq X 50 dX11_isOver_34 (by decide) (fun c_34 => ?_) (fun c_34 => ?_)
      · refine j_ldc X dX11_isOver_50 u1089 ?_
        refine s_iret X hE hr dX11_isOver_52 rfl ?_
        first | exact ⟨rfl, rfl⟩ | (exfalso; clear hE hr hR X; (try simp only [lg_cmp_lt, lg_cmp_gt, lg_cmp_le, lg_cmp_ge] at *); (try simp (disch := omega) only [Int64.le_iff_toInt_le, Int64.lt_iff_toInt_lt, Int32.le_iff_toInt_le, Int32.lt_iff_toInt_lt, fa_eq, fa_lit, fa_litL, nI_toInt, pk_lT, Int32.toInt_toInt64, jadd64, jin, jnoneT] at *); omega)
      · refine j_iload X dX11_isOver_37 rfl ?_
        refine j_i2l X dX11_isOver_39 ?_
        refine j_lconst X dX11_isOver_40 0 (by decide) ?_
        refine j_ldc2 X dX11_isOver_41 u1119 ?_
        refine s_callSi X hR (m_inI np _ _ _ _ 0 65520 rfl rfl) rfl u1087 u1085 u1086 u12 hyX11_in (by decide) (by decide) (Nat.le_of_ble_eq_true rfl) dX11_isOver_44 (fun v_44 m_44 h_44 => ?_)
        obtain ⟨e1, e2⟩ := h_44; have e1 := e1.symm; have e2 := e2.symm; subst e1; subst e2
        refine j_ifb_ne X 53 dX11_isOver_47 (by decide) (fun c_47 => ?_) (fun c_47 => ?_)
        · exfalso
          clear hE hr hR X
          (try simp only [lg_cmp_lt, lg_cmp_gt, lg_cmp_le, lg_cmp_ge] at *); (try simp (disch := omega) only [Int64.le_iff_toInt_le, Int64.lt_iff_toInt_lt, Int32.le_iff_toInt_le, Int32.lt_iff_toInt_lt, fa_eq, fa_lit, fa_litL, nI_toInt, pk_lT, Int32.toInt_toInt64, jadd64, jin, jnoneT] at *); omega
        · refine j_ldc X dX11_isOver_50 u1089 ?_
          refine s_iret X hE hr dX11_isOver_52 rfl ?_
          first | exact ⟨rfl, rfl⟩ | (exfalso; clear hE hr hR X; (try simp only [lg_cmp_lt, lg_cmp_gt, lg_cmp_le, lg_cmp_ge] at *); (try simp (disch := omega) only [Int64.le_iff_toInt_le, Int64.lt_iff_toInt_lt, Int32.le_iff_toInt_le, Int32.lt_iff_toInt_lt, fa_eq, fa_lit, fa_litL, nI_toInt, pk_lT, Int32.toInt_toInt64, jadd64, jin, jnoneT] at *); omega)
set_option maxRecDepth 4000 in
set_option maxHeartbeats 1000000 in
theorem m_over0_state (np : Nat) (mem : jMem) (p b w : Nat) (hn : np ≤ 12) (hp : mem 66 9 = nI np) (hp2 : p < np) (hw : mem 74 (9 * p + 5) = nI w) (hw2 : w ≤ 999) (hb : b ≤ 999) (hlt : w < b) : jPi yX11_over cX11_over 4 .int 3 [.ref 66, .int (nI p), .int 0, .int (nI b)] np mem (fun v c => v = -1000002 ∧ c = jup mem 66 0 0) := by
  refine jPi.of (own := RX11) rfl rfl (Nat.le_of_ble_eq_true rfl) (fun G X hR hr hE => ?_)
  refine j_aload_n X dX11_over_0 rfl ?_
  refine j_iconst X dX11_over_1 0 (by decide) ?_
  refine j_putI X 11 0 (by decide) (by decide) rfl rfl rfl rfl u950 (o66 np) (k66 np) dX11_over_2 ?_
  refine j_aload_n X dX11_over_5 rfl ?_
  refine j_iload_n X dX11_over_6 rfl ?_
  refine s_callVi X hR (m_isPaper np _ _ hn hp) rfl 11 (by decide) (o66 np) (k66 np) rfl u1151 u1148 u1150 qp39 u12 hyX11_isPaper (by decide) (by decide) (Nat.le_of_ble_eq_true rfl) dX11_over_7 (fun v_7 m_7 h_7 => ?_)
  obtain ⟨e1, e2⟩ := h_7; have e1 := e1.symm; have e2 := e2.symm; subst e1; subst e2
  refine j_ifb_eq X 37 dX11_over_10 (by decide) (fun c_10 => ?_) (fun c_10 => ?_)
  · exfalso
    clear hE hr hR X
    (try simp only [lg_cmp_lt, lg_cmp_gt, lg_cmp_le, lg_cmp_ge] at *); (try simp (disch := omega) only [Int64.le_iff_toInt_le, Int64.lt_iff_toInt_lt, Int32.le_iff_toInt_le, Int32.lt_iff_toInt_lt, fa_eq, fa_lit, fa_litL, nI_toInt, pk_lT, Int32.toInt_toInt64, jadd64, jin, jnoneT] at *); omega
  · refine j_iload_n X dX11_over_13 rfl ?_
    refine j_i2l X dX11_over_14 ?_
    refine j_lconst X dX11_over_15 0 (by decide) ?_
    refine j_ldc2 X dX11_over_16 u1114 ?_
    refine s_callSi X hR (m_inI np _ _ _ _ 0 3 rfl rfl) rfl u1087 u1085 u1086 u12 hyX11_in (by decide) (by decide) (Nat.le_of_ble_eq_true rfl) dX11_over_19 (fun v_19 m_19 h_19 => ?_)
    obtain ⟨e1, e2⟩ := h_19; have e1 := e1.symm; have e2 := e2.symm; subst e1; subst e2
    refine j_ifb_eq X 37 dX11_over_22 (by decide) (fun c_22 => ?_) (fun c_22 => ?_)
    · exfalso
      clear hE hr hR X
      (try simp only [lg_cmp_lt, lg_cmp_gt, lg_cmp_le, lg_cmp_ge] at *); (try simp (disch := omega) only [Int64.le_iff_toInt_le, Int64.lt_iff_toInt_lt, Int32.le_iff_toInt_le, Int32.lt_iff_toInt_lt, fa_eq, fa_lit, fa_litL, nI_toInt, pk_lT, Int32.toInt_toInt64, jadd64, jin, jnoneT] at *); omega
    · refine j_iload_n X dX11_over_25 rfl ?_
      refine j_i2l X dX11_over_26 ?_
      refine j_lconst X dX11_over_27 0 (by decide) ?_
      refine j_ldc2 X dX11_over_28 u1118 ?_
      refine s_callSi X hR (m_inI np _ _ _ _ 0 999 rfl rfl) rfl u1087 u1085 u1086 u12 hyX11_in (by decide) (by decide) (Nat.le_of_ble_eq_true rfl) dX11_over_31 (fun v_31 m_31 h_31 => ?_)
      obtain ⟨e1, e2⟩ := h_31; have e1 := e1.symm; have e2 := e2.symm; subst e1; subst e2
      refine j_ifb_ne X 40 dX11_over_34 (by decide) (fun c_34 => ?_) (fun c_34 => ?_)
      · refine j_aload_n X dX11_over_40 rfl ?_
        refine j_iload_n X dX11_over_41 rfl ?_
        refine j_iload_n X dX11_over_42 rfl ?_
        refine s_callVi X hR (m_field0 np _ _ (by omega)) rfl 11 (by decide) (o66 np) (k66 np) rfl u1160 u1157 u1159 qp41 u12 hyX11_field (by decide) (by decide) (Nat.le_of_ble_eq_true rfl) dX11_over_43 (fun v_43 m_43 h_43 => ?_)
        obtain ⟨e1, e2⟩ := h_43; have e1 := e1.symm; have e2 := e2.symm; subst e1; subst e2
        refine j_nrm _ hw ?_
        refine j_iload_n X dX11_over_46 rfl ?_
        refine j_icmp_ge X 55 dX11_over_47 (by decide) (fun c_47 => ?_) (fun c_47 => ?_)
        · exfalso
          clear hE hr hR X
          (try simp only [lg_cmp_lt, lg_cmp_gt, lg_cmp_le, lg_cmp_ge] at *); (try simp (disch := omega) only [Int64.le_iff_toInt_le, Int64.lt_iff_toInt_lt, Int32.le_iff_toInt_le, Int32.lt_iff_toInt_lt, fa_eq, fa_lit, fa_litL, nI_toInt, pk_lT, Int32.toInt_toInt64, jadd64, jin, jnoneT] at *); omega
        · refine j_ldc X dX11_over_50 u1133 ?_
          refine j_goto X 71 dX11_over_52 (by decide) ?_
          refine s_iret X hE hr dX11_over_71 rfl ?_
          first | exact ⟨rfl, rfl⟩ | (exfalso; clear hE hr hR X; (try simp only [lg_cmp_lt, lg_cmp_gt, lg_cmp_le, lg_cmp_ge] at *); (try simp (disch := omega) only [Int64.le_iff_toInt_le, Int64.lt_iff_toInt_lt, Int32.le_iff_toInt_le, Int32.lt_iff_toInt_lt, fa_eq, fa_lit, fa_litL, nI_toInt, pk_lT, Int32.toInt_toInt64, jadd64, jin, jnoneT] at *); omega)
      · exfalso
        clear hE hr hR X
        (try simp only [lg_cmp_lt, lg_cmp_gt, lg_cmp_le, lg_cmp_ge] at *); (try simp (disch := omega) only [Int64.le_iff_toInt_le, Int64.lt_iff_toInt_lt, Int32.le_iff_toInt_le, Int32.lt_iff_toInt_lt, fa_eq, fa_lit, fa_litL, nI_toInt, pk_lT, Int32.toInt_toInt64, jadd64, jin, jnoneT] at *); omega
set_option maxRecDepth 4000 in
set_option maxHeartbeats 1000000 in
theorem m_over0 (np : Nat) (mem : jMem) (p b w : Nat) (hn : np ≤ 12) (hp : mem 66 9 = nI np) (hp2 : p < np) (hw : mem 74 (9 * p + 5) = nI w) (hw2 : w ≤ 999) (hb : b ≤ 999) (hlt : b ≤ w) : jPi yX11_over cX11_over 4 .int 3 [.ref 66, .int (nI p), .int 0, .int (nI b)] np mem (fun v c => v = jSteps (101 * nI p + 17 * 0 + 1) (w - b) ∧ c = jup mem 66 0 0) := by
  refine jPi.of (own := RX11) rfl rfl (Nat.le_of_ble_eq_true rfl) (fun G X hR hr hE => ?_)
  refine j_aload_n X dX11_over_0 rfl ?_
  refine j_iconst X dX11_over_1 0 (by decide) ?_
  refine j_putI X 11 0 (by decide) (by decide) rfl rfl rfl rfl u950 (o66 np) (k66 np) dX11_over_2 ?_
  refine j_aload_n X dX11_over_5 rfl ?_
  refine j_iload_n X dX11_over_6 rfl ?_
  refine s_callVi X hR (m_isPaper np _ _ hn hp) rfl 11 (by decide) (o66 np) (k66 np) rfl u1151 u1148 u1150 qp39 u12 hyX11_isPaper (by decide) (by decide) (Nat.le_of_ble_eq_true rfl) dX11_over_7 (fun v_7 m_7 h_7 => ?_)
  obtain ⟨e1, e2⟩ := h_7; have e1 := e1.symm; have e2 := e2.symm; subst e1; subst e2
  refine j_ifb_eq X 37 dX11_over_10 (by decide) (fun c_10 => ?_) (fun c_10 => ?_)
  · exfalso
    clear hE hr hR X
    (try simp only [lg_cmp_lt, lg_cmp_gt, lg_cmp_le, lg_cmp_ge] at *); (try simp (disch := omega) only [Int64.le_iff_toInt_le, Int64.lt_iff_toInt_lt, Int32.le_iff_toInt_le, Int32.lt_iff_toInt_lt, fa_eq, fa_lit, fa_litL, nI_toInt, pk_lT, Int32.toInt_toInt64, jadd64, jin, jnoneT] at *); omega
  · refine j_iload_n X dX11_over_13 rfl ?_
    refine j_i2l X dX11_over_14 ?_
    refine j_lconst X dX11_over_15 0 (by decide) ?_
    refine j_ldc2 X dX11_over_16 u1114 ?_
    refine s_callSi X hR (m_inI np _ _ _ _ 0 3 rfl rfl) rfl u1087 u1085 u1086 u12 hyX11_in (by decide) (by decide) (Nat.le_of_ble_eq_true rfl) dX11_over_19 (fun v_19 m_19 h_19 => ?_)
    obtain ⟨e1, e2⟩ := h_19; have e1 := e1.symm; have e2 := e2.symm; subst e1; subst e2
    refine j_ifb_eq X 37 dX11_over_22 (by decide) (fun c_22 => ?_) (fun c_22 => ?_)
    · exfalso
      clear hE hr hR X
      (try simp only [lg_cmp_lt, lg_cmp_gt, lg_cmp_le, lg_cmp_ge] at *); (try simp (disch := omega) only [Int64.le_iff_toInt_le, Int64.lt_iff_toInt_lt, Int32.le_iff_toInt_le, Int32.lt_iff_toInt_lt, fa_eq, fa_lit, fa_litL, nI_toInt, pk_lT, Int32.toInt_toInt64, jadd64, jin, jnoneT] at *); omega
    · refine j_iload_n X dX11_over_25 rfl ?_
      refine j_i2l X dX11_over_26 ?_
      refine j_lconst X dX11_over_27 0 (by decide) ?_
      refine j_ldc2 X dX11_over_28 u1118 ?_
      refine s_callSi X hR (m_inI np _ _ _ _ 0 999 rfl rfl) rfl u1087 u1085 u1086 u12 hyX11_in (by decide) (by decide) (Nat.le_of_ble_eq_true rfl) dX11_over_31 (fun v_31 m_31 h_31 => ?_)
      obtain ⟨e1, e2⟩ := h_31; have e1 := e1.symm; have e2 := e2.symm; subst e1; subst e2
      refine j_ifb_ne X 40 dX11_over_34 (by decide) (fun c_34 => ?_) (fun c_34 => ?_)
      · refine j_aload_n X dX11_over_40 rfl ?_
        refine j_iload_n X dX11_over_41 rfl ?_
        refine j_iload_n X dX11_over_42 rfl ?_
        refine s_callVi X hR (m_field0 np _ _ (by omega)) rfl 11 (by decide) (o66 np) (k66 np) rfl u1160 u1157 u1159 qp41 u12 hyX11_field (by decide) (by decide) (Nat.le_of_ble_eq_true rfl) dX11_over_43 (fun v_43 m_43 h_43 => ?_)
        obtain ⟨e1, e2⟩ := h_43; have e1 := e1.symm; have e2 := e2.symm; subst e1; subst e2
        refine j_nrm _ hw ?_
        refine j_iload_n X dX11_over_46 rfl ?_
        refine j_icmp_ge X 55 dX11_over_47 (by decide) (fun c_47 => ?_) (fun c_47 => ?_)
        · refine j_iload_n X dX11_over_55 rfl ?_
          refine j_iload_n X dX11_over_56 rfl ?_
          refine s_callSi X hR (m_beginning np _ _ _) rfl u1187 u1185 u1186 u12 hyX11_beginning (by decide) (by decide) (Nat.le_of_ble_eq_true rfl) dX11_over_57 (fun v_57 m_57 h_57 => ?_)
          obtain ⟨e1, e2⟩ := h_57; have e1 := e1.symm; have e2 := e2.symm; subst e1; subst e2
          refine j_aload_n X dX11_over_60 rfl ?_
          refine j_iload_n X dX11_over_61 rfl ?_
          refine j_iload_n X dX11_over_62 rfl ?_
          refine s_callVi X hR (m_field0 np _ _ (by omega)) rfl 11 (by decide) (o66 np) (k66 np) rfl u1160 u1157 u1159 qp41 u12 hyX11_field (by decide) (by decide) (Nat.le_of_ble_eq_true rfl) dX11_over_63 (fun v_63 m_63 h_63 => ?_)
          obtain ⟨e1, e2⟩ := h_63; have e1 := e1.symm; have e2 := e2.symm; subst e1; subst e2
          refine j_nrm _ hw ?_
          refine j_iload_n X dX11_over_66 rfl ?_
          refine j_isub X dX11_over_67 ?_
          refine j_nrm _ (pk_sub hlt) ?_
          refine s_callSi X hR (m_steps np _ _ (w - b) (by omega)) rfl u1190 u1188 u1189 u12 hyX11_steps (by decide) (by decide) (Nat.le_of_ble_eq_true rfl) dX11_over_68 (fun v_68 m_68 h_68 => ?_)
          obtain ⟨e1, e2⟩ := h_68; have e1 := e1.symm; have e2 := e2.symm; subst e1; subst e2
          refine s_iret X hE hr dX11_over_71 rfl ?_
          first | exact ⟨rfl, rfl⟩ | (exfalso; clear hE hr hR X; (try simp only [lg_cmp_lt, lg_cmp_gt, lg_cmp_le, lg_cmp_ge] at *); (try simp (disch := omega) only [Int64.le_iff_toInt_le, Int64.lt_iff_toInt_lt, Int32.le_iff_toInt_le, Int32.lt_iff_toInt_lt, fa_eq, fa_lit, fa_litL, nI_toInt, pk_lT, Int32.toInt_toInt64, jadd64, jin, jnoneT] at *); omega)
        · exfalso
          clear hE hr hR X
          (try simp only [lg_cmp_lt, lg_cmp_gt, lg_cmp_le, lg_cmp_ge] at *); (try simp (disch := omega) only [Int64.le_iff_toInt_le, Int64.lt_iff_toInt_lt, Int32.le_iff_toInt_le, Int32.lt_iff_toInt_lt, fa_eq, fa_lit, fa_litL, nI_toInt, pk_lT, Int32.toInt_toInt64, jadd64, jin, jnoneT] at *); omega
      · exfalso
        clear hE hr hR X
        (try simp only [lg_cmp_lt, lg_cmp_gt, lg_cmp_le, lg_cmp_ge] at *); (try simp (disch := omega) only [Int64.le_iff_toInt_le, Int64.lt_iff_toInt_lt, Int32.le_iff_toInt_le, Int32.lt_iff_toInt_lt, fa_eq, fa_lit, fa_litL, nI_toInt, pk_lT, Int32.toInt_toInt64, jadd64, jin, jnoneT] at *); omega
set_option maxRecDepth 4000 in
set_option maxHeartbeats 1000000 in
theorem m_isOver0 (np : Nat) (mem : jMem) (p b w : Nat) (x : Int32) (hn : np ≤ 12) (hp : mem 66 9 = nI np) (hp2 : p < np) (hw : mem 74 (9 * p + 5) = nI w) (hw2 : w ≤ 999) (hb : b ≤ 999) (hx : jin x 0 65520) : jPi yX11_isOver cX11_isOver 5 .int 3 [.ref 66, .int (nI p), .int 0, .int (nI b), .int x] np mem (fun v c => v = jb (jSteps x (b + 1) = jSteps (101 * nI p + 17 * 0 + 1) (w + 1)) ∧ c = jup mem 66 0 0) := by
  refine jPi.of (own := RX11) rfl rfl (Nat.le_of_ble_eq_true rfl) (fun G X hR hr hE => ?_)
  refine j_aload_n X dX11_isOver_0 rfl ?_
  refine j_iconst X dX11_isOver_1 0 (by decide) ?_
  refine j_putI X 11 0 (by decide) (by decide) rfl rfl rfl rfl u950 (o66 np) (k66 np) dX11_isOver_2 ?_
  refine j_aload_n X dX11_isOver_5 rfl ?_
  refine j_iload_n X dX11_isOver_6 rfl ?_
  refine s_callVi X hR (m_isPaper np _ _ hn hp) rfl 11 (by decide) (o66 np) (k66 np) rfl u1151 u1148 u1150 qp39 u12 hyX11_isPaper (by decide) (by decide) (Nat.le_of_ble_eq_true rfl) dX11_isOver_7 (fun v_7 m_7 h_7 => ?_)
  obtain ⟨e1, e2⟩ := h_7; have e1 := e1.symm; have e2 := e2.symm; subst e1; subst e2
  refine j_ifb_eq X 50 dX11_isOver_10 (by decide) (fun c_10 => ?_) (fun c_10 => ?_)
  · exfalso
    clear hE hr hR X
    (try simp only [lg_cmp_lt, lg_cmp_gt, lg_cmp_le, lg_cmp_ge] at *); (try simp (disch := omega) only [Int64.le_iff_toInt_le, Int64.lt_iff_toInt_lt, Int32.le_iff_toInt_le, Int32.lt_iff_toInt_lt, fa_eq, fa_lit, fa_litL, nI_toInt, pk_lT, Int32.toInt_toInt64, jadd64, jin, jnoneT] at *); omega
  · refine j_iload_n X dX11_isOver_13 rfl ?_
    refine j_i2l X dX11_isOver_14 ?_
    refine j_lconst X dX11_isOver_15 0 (by decide) ?_
    refine j_ldc2 X dX11_isOver_16 u1114 ?_
    refine s_callSi X hR (m_inI np _ _ _ _ 0 3 rfl rfl) rfl u1087 u1085 u1086 u12 hyX11_in (by decide) (by decide) (Nat.le_of_ble_eq_true rfl) dX11_isOver_19 (fun v_19 m_19 h_19 => ?_)
    obtain ⟨e1, e2⟩ := h_19; have e1 := e1.symm; have e2 := e2.symm; subst e1; subst e2
    refine j_ifb_eq X 50 dX11_isOver_22 (by decide) (fun c_22 => ?_) (fun c_22 => ?_)
    · exfalso
      clear hE hr hR X
      (try simp only [lg_cmp_lt, lg_cmp_gt, lg_cmp_le, lg_cmp_ge] at *); (try simp (disch := omega) only [Int64.le_iff_toInt_le, Int64.lt_iff_toInt_lt, Int32.le_iff_toInt_le, Int32.lt_iff_toInt_lt, fa_eq, fa_lit, fa_litL, nI_toInt, pk_lT, Int32.toInt_toInt64, jadd64, jin, jnoneT] at *); omega
    · refine j_iload_n X dX11_isOver_25 rfl ?_
      refine j_i2l X dX11_isOver_26 ?_
      refine j_lconst X dX11_isOver_27 0 (by decide) ?_
      refine j_ldc2 X dX11_isOver_28 u1118 ?_
      refine s_callSi X hR (m_inI np _ _ _ _ 0 999 rfl rfl) rfl u1087 u1085 u1086 u12 hyX11_in (by decide) (by decide) (Nat.le_of_ble_eq_true rfl) dX11_isOver_31 (fun v_31 m_31 h_31 => ?_)
      obtain ⟨e1, e2⟩ := h_31; have e1 := e1.symm; have e2 := e2.symm; subst e1; subst e2
      refine j_ifb_eq X 50 dX11_isOver_34 (by decide) (fun c_34 => ?_) (fun c_34 => ?_)
      · exfalso
        clear hE hr hR X
        (try simp only [lg_cmp_lt, lg_cmp_gt, lg_cmp_le, lg_cmp_ge] at *); (try simp (disch := omega) only [Int64.le_iff_toInt_le, Int64.lt_iff_toInt_lt, Int32.le_iff_toInt_le, Int32.lt_iff_toInt_lt, fa_eq, fa_lit, fa_litL, nI_toInt, pk_lT, Int32.toInt_toInt64, jadd64, jin, jnoneT] at *); omega
      · refine j_iload X dX11_isOver_37 rfl ?_
        refine j_i2l X dX11_isOver_39 ?_
        refine j_lconst X dX11_isOver_40 0 (by decide) ?_
        refine j_ldc2 X dX11_isOver_41 u1119 ?_
        refine s_callSi X hR (m_inI np _ _ _ _ 0 65520 rfl rfl) rfl u1087 u1085 u1086 u12 hyX11_in (by decide) (by decide) (Nat.le_of_ble_eq_true rfl) dX11_isOver_44 (fun v_44 m_44 h_44 => ?_)
        obtain ⟨e1, e2⟩ := h_44; have e1 := e1.symm; have e2 := e2.symm; subst e1; subst e2
        refine j_ifb_ne X 53 dX11_isOver_47 (by decide) (fun c_47 => ?_) (fun c_47 => ?_)
        · refine j_iload X dX11_isOver_53 rfl ?_
          refine j_iload_n X dX11_isOver_55 rfl ?_
          refine j_iconst X dX11_isOver_56 1 (by decide) ?_
          refine j_iadd X dX11_isOver_57 ?_
          refine j_nrm (nI (b + 1)) (nI_1 b) ?_
          refine s_callSi X hR (m_steps np _ _ (b + 1) (by omega)) rfl u1190 u1188 u1189 u12 hyX11_steps (by decide) (by decide) (Nat.le_of_ble_eq_true rfl) dX11_isOver_58 (fun v_58 m_58 h_58 => ?_)
          obtain ⟨e1, e2⟩ := h_58; have e1 := e1.symm; have e2 := e2.symm; subst e1; subst e2
          refine j_aload_n X dX11_isOver_61 rfl ?_
          refine j_iload_n X dX11_isOver_62 rfl ?_
          refine j_iload_n X dX11_isOver_63 rfl ?_
          refine s_callVi X hR (m_endOf np _ p 0 w (by omega) (by omega) hw hw2) rfl 11 (by decide) (o66 np) (k66 np) rfl u1184 u1181 u1183 qp45 u12 hyX11_endOf (by decide) (by decide) (Nat.le_of_ble_eq_true rfl) dX11_isOver_64 (fun v_64 m_64 h_64 => ?_)
          obtain ⟨e1, e2⟩ := h_64; have e1 := e1.symm; have e2 := e2.symm; subst e1; subst e2
          refine j_icmp_ne X 74 dX11_isOver_67 (by decide) (fun c_67 => ?_) (fun c_67 => ?_)
          · refine j_iconst X dX11_isOver_74 0 (by decide) ?_
            refine s_iret X hE hr dX11_isOver_75 rfl ?_
            refine ⟨?_, rfl⟩
            first | exact (jb_t c_67).symm | exact (jb_f c_67).symm
          · refine j_iconst X dX11_isOver_70 1 (by decide) ?_
            refine j_goto X 75 dX11_isOver_71 (by decide) ?_
            refine s_iret X hE hr dX11_isOver_75 rfl ?_
            refine ⟨?_, rfl⟩
            first | exact (jb_t c_67).symm | exact (jb_f c_67).symm
        · exfalso
          clear hE hr hR X
          (try simp only [lg_cmp_lt, lg_cmp_gt, lg_cmp_le, lg_cmp_ge] at *); (try simp (disch := omega) only [Int64.le_iff_toInt_le, Int64.lt_iff_toInt_lt, Int32.le_iff_toInt_le, Int32.lt_iff_toInt_lt, fa_eq, fa_lit, fa_litL, nI_toInt, pk_lT, Int32.toInt_toInt64, jadd64, jin, jnoneT] at *); omega
set_option maxRecDepth 4000 in
set_option maxHeartbeats 1000000 in
theorem m_over1_state (np : Nat) (mem : jMem) (p b w : Nat) (hn : np ≤ 12) (hp : mem 66 9 = nI np) (hp2 : p < np) (hw : mem 74 (9 * p + 6) = nI w) (hw2 : w ≤ 999) (hb : b ≤ 999) (hlt : w < b) : jPi yX11_over cX11_over 4 .int 3 [.ref 66, .int (nI p), .int 1, .int (nI b)] np mem (fun v c => v = -1000002 ∧ c = jup mem 66 0 0) := by
  refine jPi.of (own := RX11) rfl rfl (Nat.le_of_ble_eq_true rfl) (fun G X hR hr hE => ?_)
  refine j_aload_n X dX11_over_0 rfl ?_
  refine j_iconst X dX11_over_1 0 (by decide) ?_
  refine j_putI X 11 0 (by decide) (by decide) rfl rfl rfl rfl u950 (o66 np) (k66 np) dX11_over_2 ?_
  refine j_aload_n X dX11_over_5 rfl ?_
  refine j_iload_n X dX11_over_6 rfl ?_
  refine s_callVi X hR (m_isPaper np _ _ hn hp) rfl 11 (by decide) (o66 np) (k66 np) rfl u1151 u1148 u1150 qp39 u12 hyX11_isPaper (by decide) (by decide) (Nat.le_of_ble_eq_true rfl) dX11_over_7 (fun v_7 m_7 h_7 => ?_)
  obtain ⟨e1, e2⟩ := h_7; have e1 := e1.symm; have e2 := e2.symm; subst e1; subst e2
  refine j_ifb_eq X 37 dX11_over_10 (by decide) (fun c_10 => ?_) (fun c_10 => ?_)
  · exfalso
    clear hE hr hR X
    (try simp only [lg_cmp_lt, lg_cmp_gt, lg_cmp_le, lg_cmp_ge] at *); (try simp (disch := omega) only [Int64.le_iff_toInt_le, Int64.lt_iff_toInt_lt, Int32.le_iff_toInt_le, Int32.lt_iff_toInt_lt, fa_eq, fa_lit, fa_litL, nI_toInt, pk_lT, Int32.toInt_toInt64, jadd64, jin, jnoneT] at *); omega
  · refine j_iload_n X dX11_over_13 rfl ?_
    refine j_i2l X dX11_over_14 ?_
    refine j_lconst X dX11_over_15 0 (by decide) ?_
    refine j_ldc2 X dX11_over_16 u1114 ?_
    refine s_callSi X hR (m_inI np _ _ _ _ 0 3 rfl rfl) rfl u1087 u1085 u1086 u12 hyX11_in (by decide) (by decide) (Nat.le_of_ble_eq_true rfl) dX11_over_19 (fun v_19 m_19 h_19 => ?_)
    obtain ⟨e1, e2⟩ := h_19; have e1 := e1.symm; have e2 := e2.symm; subst e1; subst e2
    refine j_ifb_eq X 37 dX11_over_22 (by decide) (fun c_22 => ?_) (fun c_22 => ?_)
    · exfalso
      clear hE hr hR X
      (try simp only [lg_cmp_lt, lg_cmp_gt, lg_cmp_le, lg_cmp_ge] at *); (try simp (disch := omega) only [Int64.le_iff_toInt_le, Int64.lt_iff_toInt_lt, Int32.le_iff_toInt_le, Int32.lt_iff_toInt_lt, fa_eq, fa_lit, fa_litL, nI_toInt, pk_lT, Int32.toInt_toInt64, jadd64, jin, jnoneT] at *); omega
    · refine j_iload_n X dX11_over_25 rfl ?_
      refine j_i2l X dX11_over_26 ?_
      refine j_lconst X dX11_over_27 0 (by decide) ?_
      refine j_ldc2 X dX11_over_28 u1118 ?_
      refine s_callSi X hR (m_inI np _ _ _ _ 0 999 rfl rfl) rfl u1087 u1085 u1086 u12 hyX11_in (by decide) (by decide) (Nat.le_of_ble_eq_true rfl) dX11_over_31 (fun v_31 m_31 h_31 => ?_)
      obtain ⟨e1, e2⟩ := h_31; have e1 := e1.symm; have e2 := e2.symm; subst e1; subst e2
      refine j_ifb_ne X 40 dX11_over_34 (by decide) (fun c_34 => ?_) (fun c_34 => ?_)
      · refine j_aload_n X dX11_over_40 rfl ?_
        refine j_iload_n X dX11_over_41 rfl ?_
        refine j_iload_n X dX11_over_42 rfl ?_
        refine s_callVi X hR (m_field1 np _ _ (by omega)) rfl 11 (by decide) (o66 np) (k66 np) rfl u1160 u1157 u1159 qp41 u12 hyX11_field (by decide) (by decide) (Nat.le_of_ble_eq_true rfl) dX11_over_43 (fun v_43 m_43 h_43 => ?_)
        obtain ⟨e1, e2⟩ := h_43; have e1 := e1.symm; have e2 := e2.symm; subst e1; subst e2
        refine j_nrm _ hw ?_
        refine j_iload_n X dX11_over_46 rfl ?_
        refine j_icmp_ge X 55 dX11_over_47 (by decide) (fun c_47 => ?_) (fun c_47 => ?_)
        · exfalso
          clear hE hr hR X
          (try simp only [lg_cmp_lt, lg_cmp_gt, lg_cmp_le, lg_cmp_ge] at *); (try simp (disch := omega) only [Int64.le_iff_toInt_le, Int64.lt_iff_toInt_lt, Int32.le_iff_toInt_le, Int32.lt_iff_toInt_lt, fa_eq, fa_lit, fa_litL, nI_toInt, pk_lT, Int32.toInt_toInt64, jadd64, jin, jnoneT] at *); omega
        · refine j_ldc X dX11_over_50 u1133 ?_
          refine j_goto X 71 dX11_over_52 (by decide) ?_
          refine s_iret X hE hr dX11_over_71 rfl ?_
          first | exact ⟨rfl, rfl⟩ | (exfalso; clear hE hr hR X; (try simp only [lg_cmp_lt, lg_cmp_gt, lg_cmp_le, lg_cmp_ge] at *); (try simp (disch := omega) only [Int64.le_iff_toInt_le, Int64.lt_iff_toInt_lt, Int32.le_iff_toInt_le, Int32.lt_iff_toInt_lt, fa_eq, fa_lit, fa_litL, nI_toInt, pk_lT, Int32.toInt_toInt64, jadd64, jin, jnoneT] at *); omega)
      · exfalso
        clear hE hr hR X
        (try simp only [lg_cmp_lt, lg_cmp_gt, lg_cmp_le, lg_cmp_ge] at *); (try simp (disch := omega) only [Int64.le_iff_toInt_le, Int64.lt_iff_toInt_lt, Int32.le_iff_toInt_le, Int32.lt_iff_toInt_lt, fa_eq, fa_lit, fa_litL, nI_toInt, pk_lT, Int32.toInt_toInt64, jadd64, jin, jnoneT] at *); omega
set_option maxRecDepth 4000 in
set_option maxHeartbeats 1000000 in
theorem m_over1 (np : Nat) (mem : jMem) (p b w : Nat) (hn : np ≤ 12) (hp : mem 66 9 = nI np) (hp2 : p < np) (hw : mem 74 (9 * p + 6) = nI w) (hw2 : w ≤ 999) (hb : b ≤ 999) (hlt : b ≤ w) : jPi yX11_over cX11_over 4 .int 3 [.ref 66, .int (nI p), .int 1, .int (nI b)] np mem (fun v c => v = jSteps (101 * nI p + 17 * 1 + 1) (w - b) ∧ c = jup mem 66 0 0) := by
  refine jPi.of (own := RX11) rfl rfl (Nat.le_of_ble_eq_true rfl) (fun G X hR hr hE => ?_)
  refine j_aload_n X dX11_over_0 rfl ?_
  refine j_iconst X dX11_over_1 0 (by decide) ?_
  refine j_putI X 11 0 (by decide) (by decide) rfl rfl rfl rfl u950 (o66 np) (k66 np) dX11_over_2 ?_
  refine j_aload_n X dX11_over_5 rfl ?_
  refine j_iload_n X dX11_over_6 rfl ?_
  refine s_callVi X hR (m_isPaper np _ _ hn hp) rfl 11 (by decide) (o66 np) (k66 np) rfl u1151 u1148 u1150 qp39 u12 hyX11_isPaper (by decide) (by decide) (Nat.le_of_ble_eq_true rfl) dX11_over_7 (fun v_7 m_7 h_7 => ?_)
  obtain ⟨e1, e2⟩ := h_7; have e1 := e1.symm; have e2 := e2.symm; subst e1; subst e2
  refine j_ifb_eq X 37 dX11_over_10 (by decide) (fun c_10 => ?_) (fun c_10 => ?_)
  · exfalso
    clear hE hr hR X
    (try simp only [lg_cmp_lt, lg_cmp_gt, lg_cmp_le, lg_cmp_ge] at *); (try simp (disch := omega) only [Int64.le_iff_toInt_le, Int64.lt_iff_toInt_lt, Int32.le_iff_toInt_le, Int32.lt_iff_toInt_lt, fa_eq, fa_lit, fa_litL, nI_toInt, pk_lT, Int32.toInt_toInt64, jadd64, jin, jnoneT] at *); omega
  · refine j_iload_n X dX11_over_13 rfl ?_
    refine j_i2l X dX11_over_14 ?_
    refine j_lconst X dX11_over_15 0 (by decide) ?_
    refine j_ldc2 X dX11_over_16 u1114 ?_
    refine s_callSi X hR (m_inI np _ _ _ _ 0 3 rfl rfl) rfl u1087 u1085 u1086 u12 hyX11_in (by decide) (by decide) (Nat.le_of_ble_eq_true rfl) dX11_over_19 (fun v_19 m_19 h_19 => ?_)
    obtain ⟨e1, e2⟩ := h_19; have e1 := e1.symm; have e2 := e2.symm; subst e1; subst e2
    refine j_ifb_eq X 37 dX11_over_22 (by decide) (fun c_22 => ?_) (fun c_22 => ?_)
    · exfalso
      clear hE hr hR X
      (try simp only [lg_cmp_lt, lg_cmp_gt, lg_cmp_le, lg_cmp_ge] at *); (try simp (disch := omega) only [Int64.le_iff_toInt_le, Int64.lt_iff_toInt_lt, Int32.le_iff_toInt_le, Int32.lt_iff_toInt_lt, fa_eq, fa_lit, fa_litL, nI_toInt, pk_lT, Int32.toInt_toInt64, jadd64, jin, jnoneT] at *); omega
    · refine j_iload_n X dX11_over_25 rfl ?_
      refine j_i2l X dX11_over_26 ?_
      refine j_lconst X dX11_over_27 0 (by decide) ?_
      refine j_ldc2 X dX11_over_28 u1118 ?_
      refine s_callSi X hR (m_inI np _ _ _ _ 0 999 rfl rfl) rfl u1087 u1085 u1086 u12 hyX11_in (by decide) (by decide) (Nat.le_of_ble_eq_true rfl) dX11_over_31 (fun v_31 m_31 h_31 => ?_)
      obtain ⟨e1, e2⟩ := h_31; have e1 := e1.symm; have e2 := e2.symm; subst e1; subst e2
      refine j_ifb_ne X 40 dX11_over_34 (by decide) (fun c_34 => ?_) (fun c_34 => ?_)
      · refine j_aload_n X dX11_over_40 rfl ?_
        refine j_iload_n X dX11_over_41 rfl ?_
        refine j_iload_n X dX11_over_42 rfl ?_
        refine s_callVi X hR (m_field1 np _ _ (by omega)) rfl 11 (by decide) (o66 np) (k66 np) rfl u1160 u1157 u1159 qp41 u12 hyX11_field (by decide) (by decide) (Nat.le_of_ble_eq_true rfl) dX11_over_43 (fun v_43 m_43 h_43 => ?_)
        obtain ⟨e1, e2⟩ := h_43; have e1 := e1.symm; have e2 := e2.symm; subst e1; subst e2
        refine j_nrm _ hw ?_
        refine j_iload_n X dX11_over_46 rfl ?_
        refine j_icmp_ge X 55 dX11_over_47 (by decide) (fun c_47 => ?_) (fun c_47 => ?_)
        · refine j_iload_n X dX11_over_55 rfl ?_
          refine j_iload_n X dX11_over_56 rfl ?_
          refine s_callSi X hR (m_beginning np _ _ _) rfl u1187 u1185 u1186 u12 hyX11_beginning (by decide) (by decide) (Nat.le_of_ble_eq_true rfl) dX11_over_57 (fun v_57 m_57 h_57 => ?_)
          obtain ⟨e1, e2⟩ := h_57; have e1 := e1.symm; have e2 := e2.symm; subst e1; subst e2
          refine j_aload_n X dX11_over_60 rfl ?_
          refine j_iload_n X dX11_over_61 rfl ?_
          refine j_iload_n X dX11_over_62 rfl ?_
          refine s_callVi X hR (m_field1 np _ _ (by omega)) rfl 11 (by decide) (o66 np) (k66 np) rfl u1160 u1157 u1159 qp41 u12 hyX11_field (by decide) (by decide) (Nat.le_of_ble_eq_true rfl) dX11_over_63 (fun v_63 m_63 h_63 => ?_)
          obtain ⟨e1, e2⟩ := h_63; have e1 := e1.symm; have e2 := e2.symm; subst e1; subst e2
          refine j_nrm _ hw ?_
          refine j_iload_n X dX11_over_66 rfl ?_
          refine j_isub X dX11_over_67 ?_
          refine j_nrm _ (pk_sub hlt) ?_
          refine s_callSi X hR (m_steps np _ _ (w - b) (by omega)) rfl u1190 u1188 u1189 u12 hyX11_steps (by decide) (by decide) (Nat.le_of_ble_eq_true rfl) dX11_over_68 (fun v_68 m_68 h_68 => ?_)
          obtain ⟨e1, e2⟩ := h_68; have e1 := e1.symm; have e2 := e2.symm; subst e1; subst e2
          refine s_iret X hE hr dX11_over_71 rfl ?_
          first | exact ⟨rfl, rfl⟩ | (exfalso; clear hE hr hR X; (try simp only [lg_cmp_lt, lg_cmp_gt, lg_cmp_le, lg_cmp_ge] at *); (try simp (disch := omega) only [Int64.le_iff_toInt_le, Int64.lt_iff_toInt_lt, Int32.le_iff_toInt_le, Int32.lt_iff_toInt_lt, fa_eq, fa_lit, fa_litL, nI_toInt, pk_lT, Int32.toInt_toInt64, jadd64, jin, jnoneT] at *); omega)
        · exfalso
          clear hE hr hR X
          (try simp only [lg_cmp_lt, lg_cmp_gt, lg_cmp_le, lg_cmp_ge] at *); (try simp (disch := omega) only [Int64.le_iff_toInt_le, Int64.lt_iff_toInt_lt, Int32.le_iff_toInt_le, Int32.lt_iff_toInt_lt, fa_eq, fa_lit, fa_litL, nI_toInt, pk_lT, Int32.toInt_toInt64, jadd64, jin, jnoneT] at *); omega
      · exfalso
        clear hE hr hR X
        (try simp only [lg_cmp_lt, lg_cmp_gt, lg_cmp_le, lg_cmp_ge] at *); (try simp (disch := omega) only [Int64.le_iff_toInt_le, Int64.lt_iff_toInt_lt, Int32.le_iff_toInt_le, Int32.lt_iff_toInt_lt, fa_eq, fa_lit, fa_litL, nI_toInt, pk_lT, Int32.toInt_toInt64, jadd64, jin, jnoneT] at *); omega
set_option maxRecDepth 4000 in
set_option maxHeartbeats 1000000 in
theorem m_isOver1 (np : Nat) (mem : jMem) (p b w : Nat) (x : Int32) (hn : np ≤ 12) (hp : mem 66 9 = nI np) (hp2 : p < np) (hw : mem 74 (9 * p + 6) = nI w) (hw2 : w ≤ 999) (hb : b ≤ 999) (hx : jin x 0 65520) : jPi yX11_isOver cX11_isOver 5 .int 3 [.ref 66, .int (nI p), .int 1, .int (nI b), .int x] np mem (fun v c => v = jb (jSteps x (b + 1) = jSteps (101 * nI p + 17 * 1 + 1) (w + 1)) ∧ c = jup mem 66 0 0) := by
  refine jPi.of (own := RX11) rfl rfl (Nat.le_of_ble_eq_true rfl) (fun G X hR hr hE => ?_)
  refine j_aload_n X dX11_isOver_0 rfl ?_
  refine j_iconst X dX11_isOver_1 0 (by decide) ?_
  refine j_putI X 11 0 (by decide) (by decide) rfl rfl rfl rfl u950 (o66 np) (k66 np) dX11_isOver_2 ?_
  refine j_aload_n X dX11_isOver_5 rfl ?_
  refine j_iload_n X dX11_isOver_6 rfl ?_
  refine s_callVi X hR (m_isPaper np _ _ hn hp) rfl 11 (by decide) (o66 np) (k66 np) rfl u1151 u1148 u1150 qp39 u12 hyX11_isPaper (by decide) (by decide) (Nat.le_of_ble_eq_true rfl) dX11_isOver_7 (fun v_7 m_7 h_7 => ?_)
  obtain ⟨e1, e2⟩ := h_7; have e1 := e1.symm; have e2 := e2.symm; subst e1; subst e2
  refine j_ifb_eq X 50 dX11_isOver_10 (by decide) (fun c_10 => ?_) (fun c_10 => ?_)
  · exfalso
    clear hE hr hR X
    (try simp only [lg_cmp_lt, lg_cmp_gt, lg_cmp_le, lg_cmp_ge] at *); (try simp (disch := omega) only [Int64.le_iff_toInt_le, Int64.lt_iff_toInt_lt, Int32.le_iff_toInt_le, Int32.lt_iff_toInt_lt, fa_eq, fa_lit, fa_litL, nI_toInt, pk_lT, Int32.toInt_toInt64, jadd64, jin, jnoneT] at *); omega
  · refine j_iload_n X dX11_isOver_13 rfl ?_
    refine j_i2l X dX11_isOver_14 ?_
    refine j_lconst X dX11_isOver_15 0 (by decide) ?_
    refine j_ldc2 X dX11_isOver_16 u1114 ?_
    refine s_callSi X hR (m_inI np _ _ _ _ 0 3 rfl rfl) rfl u1087 u1085 u1086 u12 hyX11_in (by decide) (by decide) (Nat.le_of_ble_eq_true rfl) dX11_isOver_19 (fun v_19 m_19 h_19 => ?_)
    obtain ⟨e1, e2⟩ := h_19; have e1 := e1.symm; have e2 := e2.symm; subst e1; subst e2
    refine j_ifb_eq X 50 dX11_isOver_22 (by decide) (fun c_22 => ?_) (fun c_22 => ?_)
    · exfalso
      clear hE hr hR X
      (try simp only [lg_cmp_lt, lg_cmp_gt, lg_cmp_le, lg_cmp_ge] at *); (try simp (disch := omega) only [Int64.le_iff_toInt_le, Int64.lt_iff_toInt_lt, Int32.le_iff_toInt_le, Int32.lt_iff_toInt_lt, fa_eq, fa_lit, fa_litL, nI_toInt, pk_lT, Int32.toInt_toInt64, jadd64, jin, jnoneT] at *); omega
    · refine j_iload_n X dX11_isOver_25 rfl ?_
      refine j_i2l X dX11_isOver_26 ?_
      refine j_lconst X dX11_isOver_27 0 (by decide) ?_
      refine j_ldc2 X dX11_isOver_28 u1118 ?_
      refine s_callSi X hR (m_inI np _ _ _ _ 0 999 rfl rfl) rfl u1087 u1085 u1086 u12 hyX11_in (by decide) (by decide) (Nat.le_of_ble_eq_true rfl) dX11_isOver_31 (fun v_31 m_31 h_31 => ?_)
      obtain ⟨e1, e2⟩ := h_31; have e1 := e1.symm; have e2 := e2.symm; subst e1; subst e2
      refine j_ifb_eq X 50 dX11_isOver_34 (by decide) (fun c_34 => ?_) (fun c_34 => ?_)
      · exfalso
        clear hE hr hR X
        (try simp only [lg_cmp_lt, lg_cmp_gt, lg_cmp_le, lg_cmp_ge] at *); (try simp (disch := omega) only [Int64.le_iff_toInt_le, Int64.lt_iff_toInt_lt, Int32.le_iff_toInt_le, Int32.lt_iff_toInt_lt, fa_eq, fa_lit, fa_litL, nI_toInt, pk_lT, Int32.toInt_toInt64, jadd64, jin, jnoneT] at *); omega
      · refine j_iload X dX11_isOver_37 rfl ?_
        refine j_i2l X dX11_isOver_39 ?_
        refine j_lconst X dX11_isOver_40 0 (by decide) ?_
        refine j_ldc2 X dX11_isOver_41 u1119 ?_
        refine s_callSi X hR (m_inI np _ _ _ _ 0 65520 rfl rfl) rfl u1087 u1085 u1086 u12 hyX11_in (by decide) (by decide) (Nat.le_of_ble_eq_true rfl) dX11_isOver_44 (fun v_44 m_44 h_44 => ?_)
        obtain ⟨e1, e2⟩ := h_44; have e1 := e1.symm; have e2 := e2.symm; subst e1; subst e2
        refine j_ifb_ne X 53 dX11_isOver_47 (by decide) (fun c_47 => ?_) (fun c_47 => ?_)
        · refine j_iload X dX11_isOver_53 rfl ?_
          refine j_iload_n X dX11_isOver_55 rfl ?_
          refine j_iconst X dX11_isOver_56 1 (by decide) ?_
          refine j_iadd X dX11_isOver_57 ?_
          refine j_nrm (nI (b + 1)) (nI_1 b) ?_
          refine s_callSi X hR (m_steps np _ _ (b + 1) (by omega)) rfl u1190 u1188 u1189 u12 hyX11_steps (by decide) (by decide) (Nat.le_of_ble_eq_true rfl) dX11_isOver_58 (fun v_58 m_58 h_58 => ?_)
          obtain ⟨e1, e2⟩ := h_58; have e1 := e1.symm; have e2 := e2.symm; subst e1; subst e2
          refine j_aload_n X dX11_isOver_61 rfl ?_
          refine j_iload_n X dX11_isOver_62 rfl ?_
          refine j_iload_n X dX11_isOver_63 rfl ?_
          refine s_callVi X hR (m_endOf np _ p 1 w (by omega) (by omega) hw hw2) rfl 11 (by decide) (o66 np) (k66 np) rfl u1184 u1181 u1183 qp45 u12 hyX11_endOf (by decide) (by decide) (Nat.le_of_ble_eq_true rfl) dX11_isOver_64 (fun v_64 m_64 h_64 => ?_)
          obtain ⟨e1, e2⟩ := h_64; have e1 := e1.symm; have e2 := e2.symm; subst e1; subst e2
          refine j_icmp_ne X 74 dX11_isOver_67 (by decide) (fun c_67 => ?_) (fun c_67 => ?_)
          · refine j_iconst X dX11_isOver_74 0 (by decide) ?_
            refine s_iret X hE hr dX11_isOver_75 rfl ?_
            refine ⟨?_, rfl⟩
            first | exact (jb_t c_67).symm | exact (jb_f c_67).symm
          · refine j_iconst X dX11_isOver_70 1 (by decide) ?_
            refine j_goto X 75 dX11_isOver_71 (by decide) ?_
            refine s_iret X hE hr dX11_isOver_75 rfl ?_
            refine ⟨?_, rfl⟩
            first | exact (jb_t c_67).symm | exact (jb_f c_67).symm
        · exfalso
          clear hE hr hR X
          (try simp only [lg_cmp_lt, lg_cmp_gt, lg_cmp_le, lg_cmp_ge] at *); (try simp (disch := omega) only [Int64.le_iff_toInt_le, Int64.lt_iff_toInt_lt, Int32.le_iff_toInt_le, Int32.lt_iff_toInt_lt, fa_eq, fa_lit, fa_litL, nI_toInt, pk_lT, Int32.toInt_toInt64, jadd64, jin, jnoneT] at *); omega
set_option maxRecDepth 4000 in
set_option maxHeartbeats 1000000 in
theorem m_over2_state (np : Nat) (mem : jMem) (p b w : Nat) (hn : np ≤ 12) (hp : mem 66 9 = nI np) (hp2 : p < np) (hw : mem 74 (9 * p + 7) = nI w) (hw2 : w ≤ 999) (hb : b ≤ 999) (hlt : w < b) : jPi yX11_over cX11_over 4 .int 3 [.ref 66, .int (nI p), .int 2, .int (nI b)] np mem (fun v c => v = -1000002 ∧ c = jup mem 66 0 0) := by
  refine jPi.of (own := RX11) rfl rfl (Nat.le_of_ble_eq_true rfl) (fun G X hR hr hE => ?_)
  refine j_aload_n X dX11_over_0 rfl ?_
  refine j_iconst X dX11_over_1 0 (by decide) ?_
  refine j_putI X 11 0 (by decide) (by decide) rfl rfl rfl rfl u950 (o66 np) (k66 np) dX11_over_2 ?_
  refine j_aload_n X dX11_over_5 rfl ?_
  refine j_iload_n X dX11_over_6 rfl ?_
  refine s_callVi X hR (m_isPaper np _ _ hn hp) rfl 11 (by decide) (o66 np) (k66 np) rfl u1151 u1148 u1150 qp39 u12 hyX11_isPaper (by decide) (by decide) (Nat.le_of_ble_eq_true rfl) dX11_over_7 (fun v_7 m_7 h_7 => ?_)
  obtain ⟨e1, e2⟩ := h_7; have e1 := e1.symm; have e2 := e2.symm; subst e1; subst e2
  refine j_ifb_eq X 37 dX11_over_10 (by decide) (fun c_10 => ?_) (fun c_10 => ?_)
  · exfalso
    clear hE hr hR X
    (try simp only [lg_cmp_lt, lg_cmp_gt, lg_cmp_le, lg_cmp_ge] at *); (try simp (disch := omega) only [Int64.le_iff_toInt_le, Int64.lt_iff_toInt_lt, Int32.le_iff_toInt_le, Int32.lt_iff_toInt_lt, fa_eq, fa_lit, fa_litL, nI_toInt, pk_lT, Int32.toInt_toInt64, jadd64, jin, jnoneT] at *); omega
  · refine j_iload_n X dX11_over_13 rfl ?_
    refine j_i2l X dX11_over_14 ?_
    refine j_lconst X dX11_over_15 0 (by decide) ?_
    refine j_ldc2 X dX11_over_16 u1114 ?_
    refine s_callSi X hR (m_inI np _ _ _ _ 0 3 rfl rfl) rfl u1087 u1085 u1086 u12 hyX11_in (by decide) (by decide) (Nat.le_of_ble_eq_true rfl) dX11_over_19 (fun v_19 m_19 h_19 => ?_)
    obtain ⟨e1, e2⟩ := h_19; have e1 := e1.symm; have e2 := e2.symm; subst e1; subst e2
    refine j_ifb_eq X 37 dX11_over_22 (by decide) (fun c_22 => ?_) (fun c_22 => ?_)
    · exfalso
      clear hE hr hR X
      (try simp only [lg_cmp_lt, lg_cmp_gt, lg_cmp_le, lg_cmp_ge] at *); (try simp (disch := omega) only [Int64.le_iff_toInt_le, Int64.lt_iff_toInt_lt, Int32.le_iff_toInt_le, Int32.lt_iff_toInt_lt, fa_eq, fa_lit, fa_litL, nI_toInt, pk_lT, Int32.toInt_toInt64, jadd64, jin, jnoneT] at *); omega
    · refine j_iload_n X dX11_over_25 rfl ?_
      refine j_i2l X dX11_over_26 ?_
      refine j_lconst X dX11_over_27 0 (by decide) ?_
      refine j_ldc2 X dX11_over_28 u1118 ?_
      refine s_callSi X hR (m_inI np _ _ _ _ 0 999 rfl rfl) rfl u1087 u1085 u1086 u12 hyX11_in (by decide) (by decide) (Nat.le_of_ble_eq_true rfl) dX11_over_31 (fun v_31 m_31 h_31 => ?_)
      obtain ⟨e1, e2⟩ := h_31; have e1 := e1.symm; have e2 := e2.symm; subst e1; subst e2
      refine j_ifb_ne X 40 dX11_over_34 (by decide) (fun c_34 => ?_) (fun c_34 => ?_)
      · refine j_aload_n X dX11_over_40 rfl ?_
        refine j_iload_n X dX11_over_41 rfl ?_
        refine j_iload_n X dX11_over_42 rfl ?_
        refine s_callVi X hR (m_field2 np _ _ (by omega)) rfl 11 (by decide) (o66 np) (k66 np) rfl u1160 u1157 u1159 qp41 u12 hyX11_field (by decide) (by decide) (Nat.le_of_ble_eq_true rfl) dX11_over_43 (fun v_43 m_43 h_43 => ?_)
        obtain ⟨e1, e2⟩ := h_43; have e1 := e1.symm; have e2 := e2.symm; subst e1; subst e2
        refine j_nrm _ hw ?_
        refine j_iload_n X dX11_over_46 rfl ?_
        refine j_icmp_ge X 55 dX11_over_47 (by decide) (fun c_47 => ?_) (fun c_47 => ?_)
        · exfalso
          clear hE hr hR X
          (try simp only [lg_cmp_lt, lg_cmp_gt, lg_cmp_le, lg_cmp_ge] at *); (try simp (disch := omega) only [Int64.le_iff_toInt_le, Int64.lt_iff_toInt_lt, Int32.le_iff_toInt_le, Int32.lt_iff_toInt_lt, fa_eq, fa_lit, fa_litL, nI_toInt, pk_lT, Int32.toInt_toInt64, jadd64, jin, jnoneT] at *); omega
        · refine j_ldc X dX11_over_50 u1133 ?_
          refine j_goto X 71 dX11_over_52 (by decide) ?_
          refine s_iret X hE hr dX11_over_71 rfl ?_
          first | exact ⟨rfl, rfl⟩ | (exfalso; clear hE hr hR X; (try simp only [lg_cmp_lt, lg_cmp_gt, lg_cmp_le, lg_cmp_ge] at *); (try simp (disch := omega) only [Int64.le_iff_toInt_le, Int64.lt_iff_toInt_lt, Int32.le_iff_toInt_le, Int32.lt_iff_toInt_lt, fa_eq, fa_lit, fa_litL, nI_toInt, pk_lT, Int32.toInt_toInt64, jadd64, jin, jnoneT] at *); omega)
      · exfalso
        clear hE hr hR X
        (try simp only [lg_cmp_lt, lg_cmp_gt, lg_cmp_le, lg_cmp_ge] at *); (try simp (disch := omega) only [Int64.le_iff_toInt_le, Int64.lt_iff_toInt_lt, Int32.le_iff_toInt_le, Int32.lt_iff_toInt_lt, fa_eq, fa_lit, fa_litL, nI_toInt, pk_lT, Int32.toInt_toInt64, jadd64, jin, jnoneT] at *); omega
set_option maxRecDepth 4000 in
set_option maxHeartbeats 1000000 in
theorem m_over2 (np : Nat) (mem : jMem) (p b w : Nat) (hn : np ≤ 12) (hp : mem 66 9 = nI np) (hp2 : p < np) (hw : mem 74 (9 * p + 7) = nI w) (hw2 : w ≤ 999) (hb : b ≤ 999) (hlt : b ≤ w) : jPi yX11_over cX11_over 4 .int 3 [.ref 66, .int (nI p), .int 2, .int (nI b)] np mem (fun v c => v = jSteps (101 * nI p + 17 * 2 + 1) (w - b) ∧ c = jup mem 66 0 0) := by
  refine jPi.of (own := RX11) rfl rfl (Nat.le_of_ble_eq_true rfl) (fun G X hR hr hE => ?_)
  refine j_aload_n X dX11_over_0 rfl ?_
  refine j_iconst X dX11_over_1 0 (by decide) ?_
  refine j_putI X 11 0 (by decide) (by decide) rfl rfl rfl rfl u950 (o66 np) (k66 np) dX11_over_2 ?_
  refine j_aload_n X dX11_over_5 rfl ?_
  refine j_iload_n X dX11_over_6 rfl ?_
  refine s_callVi X hR (m_isPaper np _ _ hn hp) rfl 11 (by decide) (o66 np) (k66 np) rfl u1151 u1148 u1150 qp39 u12 hyX11_isPaper (by decide) (by decide) (Nat.le_of_ble_eq_true rfl) dX11_over_7 (fun v_7 m_7 h_7 => ?_)
  obtain ⟨e1, e2⟩ := h_7; have e1 := e1.symm; have e2 := e2.symm; subst e1; subst e2
  refine j_ifb_eq X 37 dX11_over_10 (by decide) (fun c_10 => ?_) (fun c_10 => ?_)
  · exfalso
    clear hE hr hR X
    (try simp only [lg_cmp_lt, lg_cmp_gt, lg_cmp_le, lg_cmp_ge] at *); (try simp (disch := omega) only [Int64.le_iff_toInt_le, Int64.lt_iff_toInt_lt, Int32.le_iff_toInt_le, Int32.lt_iff_toInt_lt, fa_eq, fa_lit, fa_litL, nI_toInt, pk_lT, Int32.toInt_toInt64, jadd64, jin, jnoneT] at *); omega
  · refine j_iload_n X dX11_over_13 rfl ?_
    refine j_i2l X dX11_over_14 ?_
    refine j_lconst X dX11_over_15 0 (by decide) ?_
    refine j_ldc2 X dX11_over_16 u1114 ?_
    refine s_callSi X hR (m_inI np _ _ _ _ 0 3 rfl rfl) rfl u1087 u1085 u1086 u12 hyX11_in (by decide) (by decide) (Nat.le_of_ble_eq_true rfl) dX11_over_19 (fun v_19 m_19 h_19 => ?_)
    obtain ⟨e1, e2⟩ := h_19; have e1 := e1.symm; have e2 := e2.symm; subst e1; subst e2
    refine j_ifb_eq X 37 dX11_over_22 (by decide) (fun c_22 => ?_) (fun c_22 => ?_)
    · exfalso
      clear hE hr hR X
      (try simp only [lg_cmp_lt, lg_cmp_gt, lg_cmp_le, lg_cmp_ge] at *); (try simp (disch := omega) only [Int64.le_iff_toInt_le, Int64.lt_iff_toInt_lt, Int32.le_iff_toInt_le, Int32.lt_iff_toInt_lt, fa_eq, fa_lit, fa_litL, nI_toInt, pk_lT, Int32.toInt_toInt64, jadd64, jin, jnoneT] at *); omega
    · refine j_iload_n X dX11_over_25 rfl ?_
      refine j_i2l X dX11_over_26 ?_
      refine j_lconst X dX11_over_27 0 (by decide) ?_
      refine j_ldc2 X dX11_over_28 u1118 ?_
      refine s_callSi X hR (m_inI np _ _ _ _ 0 999 rfl rfl) rfl u1087 u1085 u1086 u12 hyX11_in (by decide) (by decide) (Nat.le_of_ble_eq_true rfl) dX11_over_31 (fun v_31 m_31 h_31 => ?_)
      obtain ⟨e1, e2⟩ := h_31; have e1 := e1.symm; have e2 := e2.symm; subst e1; subst e2
      refine j_ifb_ne X 40 dX11_over_34 (by decide) (fun c_34 => ?_) (fun c_34 => ?_)
      · refine j_aload_n X dX11_over_40 rfl ?_
        refine j_iload_n X dX11_over_41 rfl ?_
        refine j_iload_n X dX11_over_42 rfl ?_
        refine s_callVi X hR (m_field2 np _ _ (by omega)) rfl 11 (by decide) (o66 np) (k66 np) rfl u1160 u1157 u1159 qp41 u12 hyX11_field (by decide) (by decide) (Nat.le_of_ble_eq_true rfl) dX11_over_43 (fun v_43 m_43 h_43 => ?_)
        obtain ⟨e1, e2⟩ := h_43; have e1 := e1.symm; have e2 := e2.symm; subst e1; subst e2
        refine j_nrm _ hw ?_
        refine j_iload_n X dX11_over_46 rfl ?_
        refine j_icmp_ge X 55 dX11_over_47 (by decide) (fun c_47 => ?_) (fun c_47 => ?_)
        · refine j_iload_n X dX11_over_55 rfl ?_
          refine j_iload_n X dX11_over_56 rfl ?_
          refine s_callSi X hR (m_beginning np _ _ _) rfl u1187 u1185 u1186 u12 hyX11_beginning (by decide) (by decide) (Nat.le_of_ble_eq_true rfl) dX11_over_57 (fun v_57 m_57 h_57 => ?_)
          obtain ⟨e1, e2⟩ := h_57; have e1 := e1.symm; have e2 := e2.symm; subst e1; subst e2
          refine j_aload_n X dX11_over_60 rfl ?_
          refine j_iload_n X dX11_over_61 rfl ?_
          refine j_iload_n X dX11_over_62 rfl ?_
          refine s_callVi X hR (m_field2 np _ _ (by omega)) rfl 11 (by decide) (o66 np) (k66 np) rfl u1160 u1157 u1159 qp41 u12 hyX11_field (by decide) (by decide) (Nat.le_of_ble_eq_true rfl) dX11_over_63 (fun v_63 m_63 h_63 => ?_)
          obtain ⟨e1, e2⟩ := h_63; have e1 := e1.symm; have e2 := e2.symm; subst e1; subst e2
          refine j_nrm _ hw ?_
          refine j_iload_n X dX11_over_66 rfl ?_
          refine j_isub X dX11_over_67 ?_
          refine j_nrm _ (pk_sub hlt) ?_
          refine s_callSi X hR (m_steps np _ _ (w - b) (by omega)) rfl u1190 u1188 u1189 u12 hyX11_steps (by decide) (by decide) (Nat.le_of_ble_eq_true rfl) dX11_over_68 (fun v_68 m_68 h_68 => ?_)
          obtain ⟨e1, e2⟩ := h_68; have e1 := e1.symm; have e2 := e2.symm; subst e1; subst e2
          refine s_iret X hE hr dX11_over_71 rfl ?_
          first | exact ⟨rfl, rfl⟩ | (exfalso; clear hE hr hR X; (try simp only [lg_cmp_lt, lg_cmp_gt, lg_cmp_le, lg_cmp_ge] at *); (try simp (disch := omega) only [Int64.le_iff_toInt_le, Int64.lt_iff_toInt_lt, Int32.le_iff_toInt_le, Int32.lt_iff_toInt_lt, fa_eq, fa_lit, fa_litL, nI_toInt, pk_lT, Int32.toInt_toInt64, jadd64, jin, jnoneT] at *); omega)
        · exfalso
          clear hE hr hR X
          (try simp only [lg_cmp_lt, lg_cmp_gt, lg_cmp_le, lg_cmp_ge] at *); (try simp (disch := omega) only [Int64.le_iff_toInt_le, Int64.lt_iff_toInt_lt, Int32.le_iff_toInt_le, Int32.lt_iff_toInt_lt, fa_eq, fa_lit, fa_litL, nI_toInt, pk_lT, Int32.toInt_toInt64, jadd64, jin, jnoneT] at *); omega
      · exfalso
        clear hE hr hR X
        (try simp only [lg_cmp_lt, lg_cmp_gt, lg_cmp_le, lg_cmp_ge] at *); (try simp (disch := omega) only [Int64.le_iff_toInt_le, Int64.lt_iff_toInt_lt, Int32.le_iff_toInt_le, Int32.lt_iff_toInt_lt, fa_eq, fa_lit, fa_litL, nI_toInt, pk_lT, Int32.toInt_toInt64, jadd64, jin, jnoneT] at *); omega
set_option maxRecDepth 4000 in
set_option maxHeartbeats 1000000 in
theorem m_isOver2 (np : Nat) (mem : jMem) (p b w : Nat) (x : Int32) (hn : np ≤ 12) (hp : mem 66 9 = nI np) (hp2 : p < np) (hw : mem 74 (9 * p + 7) = nI w) (hw2 : w ≤ 999) (hb : b ≤ 999) (hx : jin x 0 65520) : jPi yX11_isOver cX11_isOver 5 .int 3 [.ref 66, .int (nI p), .int 2, .int (nI b), .int x] np mem (fun v c => v = jb (jSteps x (b + 1) = jSteps (101 * nI p + 17 * 2 + 1) (w + 1)) ∧ c = jup mem 66 0 0) := by
  refine jPi.of (own := RX11) rfl rfl (Nat.le_of_ble_eq_true rfl) (fun G X hR hr hE => ?_)
  refine j_aload_n X dX11_isOver_0 rfl ?_
  refine j_iconst X dX11_isOver_1 0 (by decide) ?_
  refine j_putI X 11 0 (by decide) (by decide) rfl rfl rfl rfl u950 (o66 np) (k66 np) dX11_isOver_2 ?_
  refine j_aload_n X dX11_isOver_5 rfl ?_
  refine j_iload_n X dX11_isOver_6 rfl ?_
  refine s_callVi X hR (m_isPaper np _ _ hn hp) rfl 11 (by decide) (o66 np) (k66 np) rfl u1151 u1148 u1150 qp39 u12 hyX11_isPaper (by decide) (by decide) (Nat.le_of_ble_eq_true rfl) dX11_isOver_7 (fun v_7 m_7 h_7 => ?_)
  obtain ⟨e1, e2⟩ := h_7; have e1 := e1.symm; have e2 := e2.symm; subst e1; subst e2
  refine j_ifb_eq X 50 dX11_isOver_10 (by decide) (fun c_10 => ?_) (fun c_10 => ?_)
  · exfalso
    clear hE hr hR X
    (try simp only [lg_cmp_lt, lg_cmp_gt, lg_cmp_le, lg_cmp_ge] at *); (try simp (disch := omega) only [Int64.le_iff_toInt_le, Int64.lt_iff_toInt_lt, Int32.le_iff_toInt_le, Int32.lt_iff_toInt_lt, fa_eq, fa_lit, fa_litL, nI_toInt, pk_lT, Int32.toInt_toInt64, jadd64, jin, jnoneT] at *); omega
  · refine j_iload_n X dX11_isOver_13 rfl ?_
    refine j_i2l X dX11_isOver_14 ?_
    refine j_lconst X dX11_isOver_15 0 (by decide) ?_
    refine j_ldc2 X dX11_isOver_16 u1114 ?_
    refine s_callSi X hR (m_inI np _ _ _ _ 0 3 rfl rfl) rfl u1087 u1085 u1086 u12 hyX11_in (by decide) (by decide) (Nat.le_of_ble_eq_true rfl) dX11_isOver_19 (fun v_19 m_19 h_19 => ?_)
    obtain ⟨e1, e2⟩ := h_19; have e1 := e1.symm; have e2 := e2.symm; subst e1; subst e2
    refine j_ifb_eq X 50 dX11_isOver_22 (by decide) (fun c_22 => ?_) (fun c_22 => ?_)
    · exfalso
      clear hE hr hR X
      (try simp only [lg_cmp_lt, lg_cmp_gt, lg_cmp_le, lg_cmp_ge] at *); (try simp (disch := omega) only [Int64.le_iff_toInt_le, Int64.lt_iff_toInt_lt, Int32.le_iff_toInt_le, Int32.lt_iff_toInt_lt, fa_eq, fa_lit, fa_litL, nI_toInt, pk_lT, Int32.toInt_toInt64, jadd64, jin, jnoneT] at *); omega
    · refine j_iload_n X dX11_isOver_25 rfl ?_
      refine j_i2l X dX11_isOver_26 ?_
      refine j_lconst X dX11_isOver_27 0 (by decide) ?_
      refine j_ldc2 X dX11_isOver_28 u1118 ?_
      refine s_callSi X hR (m_inI np _ _ _ _ 0 999 rfl rfl) rfl u1087 u1085 u1086 u12 hyX11_in (by decide) (by decide) (Nat.le_of_ble_eq_true rfl) dX11_isOver_31 (fun v_31 m_31 h_31 => ?_)
      obtain ⟨e1, e2⟩ := h_31; have e1 := e1.symm; have e2 := e2.symm; subst e1; subst e2
      refine j_ifb_eq X 50 dX11_isOver_34 (by decide) (fun c_34 => ?_) (fun c_34 => ?_)
      · exfalso
        clear hE hr hR X
        (try simp only [lg_cmp_lt, lg_cmp_gt, lg_cmp_le, lg_cmp_ge] at *); (try simp (disch := omega) only [Int64.le_iff_toInt_le, Int64.lt_iff_toInt_lt, Int32.le_iff_toInt_le, Int32.lt_iff_toInt_lt, fa_eq, fa_lit, fa_litL, nI_toInt, pk_lT, Int32.toInt_toInt64, jadd64, jin, jnoneT] at *); omega
      · refine j_iload X dX11_isOver_37 rfl ?_
        refine j_i2l X dX11_isOver_39 ?_
        refine j_lconst X dX11_isOver_40 0 (by decide) ?_
        refine j_ldc2 X dX11_isOver_41 u1119 ?_
        refine s_callSi X hR (m_inI np _ _ _ _ 0 65520 rfl rfl) rfl u1087 u1085 u1086 u12 hyX11_in (by decide) (by decide) (Nat.le_of_ble_eq_true rfl) dX11_isOver_44 (fun v_44 m_44 h_44 => ?_)
        obtain ⟨e1, e2⟩ := h_44; have e1 := e1.symm; have e2 := e2.symm; subst e1; subst e2
        refine j_ifb_ne X 53 dX11_isOver_47 (by decide) (fun c_47 => ?_) (fun c_47 => ?_)
        · refine j_iload X dX11_isOver_53 rfl ?_
          refine j_iload_n X dX11_isOver_55 rfl ?_
          refine j_iconst X dX11_isOver_56 1 (by decide) ?_
          refine j_iadd X dX11_isOver_57 ?_
          refine j_nrm (nI (b + 1)) (nI_1 b) ?_
          refine s_callSi X hR (m_steps np _ _ (b + 1) (by omega)) rfl u1190 u1188 u1189 u12 hyX11_steps (by decide) (by decide) (Nat.le_of_ble_eq_true rfl) dX11_isOver_58 (fun v_58 m_58 h_58 => ?_)
          obtain ⟨e1, e2⟩ := h_58; have e1 := e1.symm; have e2 := e2.symm; subst e1; subst e2
          refine j_aload_n X dX11_isOver_61 rfl ?_
          refine j_iload_n X dX11_isOver_62 rfl ?_
          refine j_iload_n X dX11_isOver_63 rfl ?_
          refine s_callVi X hR (m_endOf np _ p 2 w (by omega) (by omega) hw hw2) rfl 11 (by decide) (o66 np) (k66 np) rfl u1184 u1181 u1183 qp45 u12 hyX11_endOf (by decide) (by decide) (Nat.le_of_ble_eq_true rfl) dX11_isOver_64 (fun v_64 m_64 h_64 => ?_)
          obtain ⟨e1, e2⟩ := h_64; have e1 := e1.symm; have e2 := e2.symm; subst e1; subst e2
          refine j_icmp_ne X 74 dX11_isOver_67 (by decide) (fun c_67 => ?_) (fun c_67 => ?_)
          · refine j_iconst X dX11_isOver_74 0 (by decide) ?_
            refine s_iret X hE hr dX11_isOver_75 rfl ?_
            refine ⟨?_, rfl⟩
            first | exact (jb_t c_67).symm | exact (jb_f c_67).symm
          · refine j_iconst X dX11_isOver_70 1 (by decide) ?_
            refine j_goto X 75 dX11_isOver_71 (by decide) ?_
            refine s_iret X hE hr dX11_isOver_75 rfl ?_
            refine ⟨?_, rfl⟩
            first | exact (jb_t c_67).symm | exact (jb_f c_67).symm
        · exfalso
          clear hE hr hR X
          (try simp only [lg_cmp_lt, lg_cmp_gt, lg_cmp_le, lg_cmp_ge] at *); (try simp (disch := omega) only [Int64.le_iff_toInt_le, Int64.lt_iff_toInt_lt, Int32.le_iff_toInt_le, Int32.lt_iff_toInt_lt, fa_eq, fa_lit, fa_litL, nI_toInt, pk_lT, Int32.toInt_toInt64, jadd64, jin, jnoneT] at *); omega
set_option maxRecDepth 4000 in
set_option maxHeartbeats 1000000 in
theorem m_over3_state (np : Nat) (mem : jMem) (p b w : Nat) (hn : np ≤ 12) (hp : mem 66 9 = nI np) (hp2 : p < np) (hw : mem 74 (9 * p + 8) = nI w) (hw2 : w ≤ 999) (hb : b ≤ 999) (hlt : w < b) : jPi yX11_over cX11_over 4 .int 3 [.ref 66, .int (nI p), .int 3, .int (nI b)] np mem (fun v c => v = -1000002 ∧ c = jup mem 66 0 0) := by
  refine jPi.of (own := RX11) rfl rfl (Nat.le_of_ble_eq_true rfl) (fun G X hR hr hE => ?_)
  refine j_aload_n X dX11_over_0 rfl ?_
  refine j_iconst X dX11_over_1 0 (by decide) ?_
  refine j_putI X 11 0 (by decide) (by decide) rfl rfl rfl rfl u950 (o66 np) (k66 np) dX11_over_2 ?_
  refine j_aload_n X dX11_over_5 rfl ?_
  refine j_iload_n X dX11_over_6 rfl ?_
  refine s_callVi X hR (m_isPaper np _ _ hn hp) rfl 11 (by decide) (o66 np) (k66 np) rfl u1151 u1148 u1150 qp39 u12 hyX11_isPaper (by decide) (by decide) (Nat.le_of_ble_eq_true rfl) dX11_over_7 (fun v_7 m_7 h_7 => ?_)
  obtain ⟨e1, e2⟩ := h_7; have e1 := e1.symm; have e2 := e2.symm; subst e1; subst e2
  refine j_ifb_eq X 37 dX11_over_10 (by decide) (fun c_10 => ?_) (fun c_10 => ?_)
  · exfalso
    clear hE hr hR X
    (try simp only [lg_cmp_lt, lg_cmp_gt, lg_cmp_le, lg_cmp_ge] at *); (try simp (disch := omega) only [Int64.le_iff_toInt_le, Int64.lt_iff_toInt_lt, Int32.le_iff_toInt_le, Int32.lt_iff_toInt_lt, fa_eq, fa_lit, fa_litL, nI_toInt, pk_lT, Int32.toInt_toInt64, jadd64, jin, jnoneT] at *); omega
  · refine j_iload_n X dX11_over_13 rfl ?_
    refine j_i2l X dX11_over_14 ?_
    refine j_lconst X dX11_over_15 0 (by decide) ?_
    refine j_ldc2 X dX11_over_16 u1114 ?_
    refine s_callSi X hR (m_inI np _ _ _ _ 0 3 rfl rfl) rfl u1087 u1085 u1086 u12 hyX11_in (by decide) (by decide) (Nat.le_of_ble_eq_true rfl) dX11_over_19 (fun v_19 m_19 h_19 => ?_)
    obtain ⟨e1, e2⟩ := h_19; have e1 := e1.symm; have e2 := e2.symm; subst e1; subst e2
    refine j_ifb_eq X 37 dX11_over_22 (by decide) (fun c_22 => ?_) (fun c_22 => ?_)
    · exfalso
      clear hE hr hR X
      (try simp only [lg_cmp_lt, lg_cmp_gt, lg_cmp_le, lg_cmp_ge] at *); (try simp (disch := omega) only [Int64.le_iff_toInt_le, Int64.lt_iff_toInt_lt, Int32.le_iff_toInt_le, Int32.lt_iff_toInt_lt, fa_eq, fa_lit, fa_litL, nI_toInt, pk_lT, Int32.toInt_toInt64, jadd64, jin, jnoneT] at *); omega
    · refine j_iload_n X dX11_over_25 rfl ?_
      refine j_i2l X dX11_over_26 ?_
      refine j_lconst X dX11_over_27 0 (by decide) ?_
      refine j_ldc2 X dX11_over_28 u1118 ?_
      refine s_callSi X hR (m_inI np _ _ _ _ 0 999 rfl rfl) rfl u1087 u1085 u1086 u12 hyX11_in (by decide) (by decide) (Nat.le_of_ble_eq_true rfl) dX11_over_31 (fun v_31 m_31 h_31 => ?_)
      obtain ⟨e1, e2⟩ := h_31; have e1 := e1.symm; have e2 := e2.symm; subst e1; subst e2
      refine j_ifb_ne X 40 dX11_over_34 (by decide) (fun c_34 => ?_) (fun c_34 => ?_)
      · refine j_aload_n X dX11_over_40 rfl ?_
        refine j_iload_n X dX11_over_41 rfl ?_
        refine j_iload_n X dX11_over_42 rfl ?_
        refine s_callVi X hR (m_field3 np _ _ (by omega)) rfl 11 (by decide) (o66 np) (k66 np) rfl u1160 u1157 u1159 qp41 u12 hyX11_field (by decide) (by decide) (Nat.le_of_ble_eq_true rfl) dX11_over_43 (fun v_43 m_43 h_43 => ?_)
        obtain ⟨e1, e2⟩ := h_43; have e1 := e1.symm; have e2 := e2.symm; subst e1; subst e2
        refine j_nrm _ hw ?_
        refine j_iload_n X dX11_over_46 rfl ?_
        refine j_icmp_ge X 55 dX11_over_47 (by decide) (fun c_47 => ?_) (fun c_47 => ?_)
        · exfalso
          clear hE hr hR X
          (try simp only [lg_cmp_lt, lg_cmp_gt, lg_cmp_le, lg_cmp_ge] at *); (try simp (disch := omega) only [Int64.le_iff_toInt_le, Int64.lt_iff_toInt_lt, Int32.le_iff_toInt_le, Int32.lt_iff_toInt_lt, fa_eq, fa_lit, fa_litL, nI_toInt, pk_lT, Int32.toInt_toInt64, jadd64, jin, jnoneT] at *); omega
        · refine j_ldc X dX11_over_50 u1133 ?_
          refine j_goto X 71 dX11_over_52 (by decide) ?_
          refine s_iret X hE hr dX11_over_71 rfl ?_
          first | exact ⟨rfl, rfl⟩ | (exfalso; clear hE hr hR X; (try simp only [lg_cmp_lt, lg_cmp_gt, lg_cmp_le, lg_cmp_ge] at *); (try simp (disch := omega) only [Int64.le_iff_toInt_le, Int64.lt_iff_toInt_lt, Int32.le_iff_toInt_le, Int32.lt_iff_toInt_lt, fa_eq, fa_lit, fa_litL, nI_toInt, pk_lT, Int32.toInt_toInt64, jadd64, jin, jnoneT] at *); omega)
      · exfalso
        clear hE hr hR X
        (try simp only [lg_cmp_lt, lg_cmp_gt, lg_cmp_le, lg_cmp_ge] at *); (try simp (disch := omega) only [Int64.le_iff_toInt_le, Int64.lt_iff_toInt_lt, Int32.le_iff_toInt_le, Int32.lt_iff_toInt_lt, fa_eq, fa_lit, fa_litL, nI_toInt, pk_lT, Int32.toInt_toInt64, jadd64, jin, jnoneT] at *); omega
set_option maxRecDepth 4000 in
set_option maxHeartbeats 1000000 in
theorem m_over3 (np : Nat) (mem : jMem) (p b w : Nat) (hn : np ≤ 12) (hp : mem 66 9 = nI np) (hp2 : p < np) (hw : mem 74 (9 * p + 8) = nI w) (hw2 : w ≤ 999) (hb : b ≤ 999) (hlt : b ≤ w) : jPi yX11_over cX11_over 4 .int 3 [.ref 66, .int (nI p), .int 3, .int (nI b)] np mem (fun v c => v = jSteps (101 * nI p + 17 * 3 + 1) (w - b) ∧ c = jup mem 66 0 0) := by
  refine jPi.of (own := RX11) rfl rfl (Nat.le_of_ble_eq_true rfl) (fun G X hR hr hE => ?_)
  refine j_aload_n X dX11_over_0 rfl ?_
  refine j_iconst X dX11_over_1 0 (by decide) ?_
  refine j_putI X 11 0 (by decide) (by decide) rfl rfl rfl rfl u950 (o66 np) (k66 np) dX11_over_2 ?_
  refine j_aload_n X dX11_over_5 rfl ?_
  refine j_iload_n X dX11_over_6 rfl ?_
  refine s_callVi X hR (m_isPaper np _ _ hn hp) rfl 11 (by decide) (o66 np) (k66 np) rfl u1151 u1148 u1150 qp39 u12 hyX11_isPaper (by decide) (by decide) (Nat.le_of_ble_eq_true rfl) dX11_over_7 (fun v_7 m_7 h_7 => ?_)
  obtain ⟨e1, e2⟩ := h_7; have e1 := e1.symm; have e2 := e2.symm; subst e1; subst e2
  refine j_ifb_eq X 37 dX11_over_10 (by decide) (fun c_10 => ?_) (fun c_10 => ?_)
  · exfalso
    clear hE hr hR X
    (try simp only [lg_cmp_lt, lg_cmp_gt, lg_cmp_le, lg_cmp_ge] at *); (try simp (disch := omega) only [Int64.le_iff_toInt_le, Int64.lt_iff_toInt_lt, Int32.le_iff_toInt_le, Int32.lt_iff_toInt_lt, fa_eq, fa_lit, fa_litL, nI_toInt, pk_lT, Int32.toInt_toInt64, jadd64, jin, jnoneT] at *); omega
  · refine j_iload_n X dX11_over_13 rfl ?_
    refine j_i2l X dX11_over_14 ?_
    refine j_lconst X dX11_over_15 0 (by decide) ?_
    refine j_ldc2 X dX11_over_16 u1114 ?_
    refine s_callSi X hR (m_inI np _ _ _ _ 0 3 rfl rfl) rfl u1087 u1085 u1086 u12 hyX11_in (by decide) (by decide) (Nat.le_of_ble_eq_true rfl) dX11_over_19 (fun v_19 m_19 h_19 => ?_)
    obtain ⟨e1, e2⟩ := h_19; have e1 := e1.symm; have e2 := e2.symm; subst e1; subst e2
    refine j_ifb_eq X 37 dX11_over_22 (by decide) (fun c_22 => ?_) (fun c_22 => ?_)
    · exfalso
      clear hE hr hR X
      (try simp only [lg_cmp_lt, lg_cmp_gt, lg_cmp_le, lg_cmp_ge] at *); (try simp (disch := omega) only [Int64.le_iff_toInt_le, Int64.lt_iff_toInt_lt, Int32.le_iff_toInt_le, Int32.lt_iff_toInt_lt, fa_eq, fa_lit, fa_litL, nI_toInt, pk_lT, Int32.toInt_toInt64, jadd64, jin, jnoneT] at *); omega
    · refine j_iload_n X dX11_over_25 rfl ?_
      refine j_i2l X dX11_over_26 ?_
      refine j_lconst X dX11_over_27 0 (by decide) ?_
      refine j_ldc2 X dX11_over_28 u1118 ?_
      refine s_callSi X hR (m_inI np _ _ _ _ 0 999 rfl rfl) rfl u1087 u1085 u1086 u12 hyX11_in (by decide) (by decide) (Nat.le_of_ble_eq_true rfl) dX11_over_31 (fun v_31 m_31 h_31 => ?_)
      obtain ⟨e1, e2⟩ := h_31; have e1 := e1.symm; have e2 := e2.symm; subst e1; subst e2
      refine j_ifb_ne X 40 dX11_over_34 (by decide) (fun c_34 => ?_) (fun c_34 => ?_)
      · refine j_aload_n X dX11_over_40 rfl ?_
        refine j_iload_n X dX11_over_41 rfl ?_
        refine j_iload_n X dX11_over_42 rfl ?_
        refine s_callVi X hR (m_field3 np _ _ (by omega)) rfl 11 (by decide) (o66 np) (k66 np) rfl u1160 u1157 u1159 qp41 u12 hyX11_field (by decide) (by decide) (Nat.le_of_ble_eq_true rfl) dX11_over_43 (fun v_43 m_43 h_43 => ?_)
        obtain ⟨e1, e2⟩ := h_43; have e1 := e1.symm; have e2 := e2.symm; subst e1; subst e2
        refine j_nrm _ hw ?_
        refine j_iload_n X dX11_over_46 rfl ?_
        refine j_icmp_ge X 55 dX11_over_47 (by decide) (fun c_47 => ?_) (fun c_47 => ?_)
        · refine j_iload_n X dX11_over_55 rfl ?_
          refine j_iload_n X dX11_over_56 rfl ?_
          refine s_callSi X hR (m_beginning np _ _ _) rfl u1187 u1185 u1186 u12 hyX11_beginning (by decide) (by decide) (Nat.le_of_ble_eq_true rfl) dX11_over_57 (fun v_57 m_57 h_57 => ?_)
          obtain ⟨e1, e2⟩ := h_57; have e1 := e1.symm; have e2 := e2.symm; subst e1; subst e2
          refine j_aload_n X dX11_over_60 rfl ?_
          refine j_iload_n X dX11_over_61 rfl ?_
          refine j_iload_n X dX11_over_62 rfl ?_
          refine s_callVi X hR (m_field3 np _ _ (by omega)) rfl 11 (by decide) (o66 np) (k66 np) rfl u1160 u1157 u1159 qp41 u12 hyX11_field (by decide) (by decide) (Nat.le_of_ble_eq_true rfl) dX11_over_63 (fun v_63 m_63 h_63 => ?_)
          obtain ⟨e1, e2⟩ := h_63; have e1 := e1.symm; have e2 := e2.symm; subst e1; subst e2
          refine j_nrm _ hw ?_
          refine j_iload_n X dX11_over_66 rfl ?_
          refine j_isub X dX11_over_67 ?_
          refine j_nrm _ (pk_sub hlt) ?_
          refine s_callSi X hR (m_steps np _ _ (w - b) (by omega)) rfl u1190 u1188 u1189 u12 hyX11_steps (by decide) (by decide) (Nat.le_of_ble_eq_true rfl) dX11_over_68 (fun v_68 m_68 h_68 => ?_)
          obtain ⟨e1, e2⟩ := h_68; have e1 := e1.symm; have e2 := e2.symm; subst e1; subst e2
          refine s_iret X hE hr dX11_over_71 rfl ?_
          first | exact ⟨rfl, rfl⟩ | (exfalso; clear hE hr hR X; (try simp only [lg_cmp_lt, lg_cmp_gt, lg_cmp_le, lg_cmp_ge] at *); (try simp (disch := omega) only [Int64.le_iff_toInt_le, Int64.lt_iff_toInt_lt, Int32.le_iff_toInt_le, Int32.lt_iff_toInt_lt, fa_eq, fa_lit, fa_litL, nI_toInt, pk_lT, Int32.toInt_toInt64, jadd64, jin, jnoneT] at *); omega)
        · exfalso
          clear hE hr hR X
          (try simp only [lg_cmp_lt, lg_cmp_gt, lg_cmp_le, lg_cmp_ge] at *); (try simp (disch := omega) only [Int64.le_iff_toInt_le, Int64.lt_iff_toInt_lt, Int32.le_iff_toInt_le, Int32.lt_iff_toInt_lt, fa_eq, fa_lit, fa_litL, nI_toInt, pk_lT, Int32.toInt_toInt64, jadd64, jin, jnoneT] at *); omega
      · exfalso
        clear hE hr hR X
        (try simp only [lg_cmp_lt, lg_cmp_gt, lg_cmp_le, lg_cmp_ge] at *); (try simp (disch := omega) only [Int64.le_iff_toInt_le, Int64.lt_iff_toInt_lt, Int32.le_iff_toInt_le, Int32.lt_iff_toInt_lt, fa_eq, fa_lit, fa_litL, nI_toInt, pk_lT, Int32.toInt_toInt64, jadd64, jin, jnoneT] at *); omega
set_option maxRecDepth 4000 in
set_option maxHeartbeats 1000000 in
theorem m_isOver3 (np : Nat) (mem : jMem) (p b w : Nat) (x : Int32) (hn : np ≤ 12) (hp : mem 66 9 = nI np) (hp2 : p < np) (hw : mem 74 (9 * p + 8) = nI w) (hw2 : w ≤ 999) (hb : b ≤ 999) (hx : jin x 0 65520) : jPi yX11_isOver cX11_isOver 5 .int 3 [.ref 66, .int (nI p), .int 3, .int (nI b), .int x] np mem (fun v c => v = jb (jSteps x (b + 1) = jSteps (101 * nI p + 17 * 3 + 1) (w + 1)) ∧ c = jup mem 66 0 0) := by
  refine jPi.of (own := RX11) rfl rfl (Nat.le_of_ble_eq_true rfl) (fun G X hR hr hE => ?_)
  refine j_aload_n X dX11_isOver_0 rfl ?_
  refine j_iconst X dX11_isOver_1 0 (by decide) ?_
  refine j_putI X 11 0 (by decide) (by decide) rfl rfl rfl rfl u950 (o66 np) (k66 np) dX11_isOver_2 ?_
  refine j_aload_n X dX11_isOver_5 rfl ?_
  refine j_iload_n X dX11_isOver_6 rfl ?_
  refine s_callVi X hR (m_isPaper np _ _ hn hp) rfl 11 (by decide) (o66 np) (k66 np) rfl u1151 u1148 u1150 qp39 u12 hyX11_isPaper (by decide) (by decide) (Nat.le_of_ble_eq_true rfl) dX11_isOver_7 (fun v_7 m_7 h_7 => ?_)
  obtain ⟨e1, e2⟩ := h_7; have e1 := e1.symm; have e2 := e2.symm; subst e1; subst e2
  refine j_ifb_eq X 50 dX11_isOver_10 (by decide) (fun c_10 => ?_) (fun c_10 => ?_)
  · exfalso
    clear hE hr hR X
    (try simp only [lg_cmp_lt, lg_cmp_gt, lg_cmp_le, lg_cmp_ge] at *); (try simp (disch := omega) only [Int64.le_iff_toInt_le, Int64.lt_iff_toInt_lt, Int32.le_iff_toInt_le, Int32.lt_iff_toInt_lt, fa_eq, fa_lit, fa_litL, nI_toInt, pk_lT, Int32.toInt_toInt64, jadd64, jin, jnoneT] at *); omega
  · refine j_iload_n X dX11_isOver_13 rfl ?_
    refine j_i2l X dX11_isOver_14 ?_
    refine j_lconst X dX11_isOver_15 0 (by decide) ?_
    refine j_ldc2 X dX11_isOver_16 u1114 ?_
    refine s_callSi X hR (m_inI np _ _ _ _ 0 3 rfl rfl) rfl u1087 u1085 u1086 u12 hyX11_in (by decide) (by decide) (Nat.le_of_ble_eq_true rfl) dX11_isOver_19 (fun v_19 m_19 h_19 => ?_)
    obtain ⟨e1, e2⟩ := h_19; have e1 := e1.symm; have e2 := e2.symm; subst e1; subst e2
    refine j_ifb_eq X 50 dX11_isOver_22 (by decide) (fun c_22 => ?_) (fun c_22 => ?_)
    · exfalso
      clear hE hr hR X
      (try simp only [lg_cmp_lt, lg_cmp_gt, lg_cmp_le, lg_cmp_ge] at *); (try simp (disch := omega) only [Int64.le_iff_toInt_le, Int64.lt_iff_toInt_lt, Int32.le_iff_toInt_le, Int32.lt_iff_toInt_lt, fa_eq, fa_lit, fa_litL, nI_toInt, pk_lT, Int32.toInt_toInt64, jadd64, jin, jnoneT] at *); omega
    · refine j_iload_n X dX11_isOver_25 rfl ?_
      refine j_i2l X dX11_isOver_26 ?_
      refine j_lconst X dX11_isOver_27 0 (by decide) ?_
      refine j_ldc2 X dX11_isOver_28 u1118 ?_
      refine s_callSi X hR (m_inI np _ _ _ _ 0 999 rfl rfl) rfl u1087 u1085 u1086 u12 hyX11_in (by decide) (by decide) (Nat.le_of_ble_eq_true rfl) dX11_isOver_31 (fun v_31 m_31 h_31 => ?_)
      obtain ⟨e1, e2⟩ := h_31; have e1 := e1.symm; have e2 := e2.symm; subst e1; subst e2
      refine j_ifb_eq X 50 dX11_isOver_34 (by decide) (fun c_34 => ?_) (fun c_34 => ?_)
      · exfalso
        clear hE hr hR X
        (try simp only [lg_cmp_lt, lg_cmp_gt, lg_cmp_le, lg_cmp_ge] at *); (try simp (disch := omega) only [Int64.le_iff_toInt_le, Int64.lt_iff_toInt_lt, Int32.le_iff_toInt_le, Int32.lt_iff_toInt_lt, fa_eq, fa_lit, fa_litL, nI_toInt, pk_lT, Int32.toInt_toInt64, jadd64, jin, jnoneT] at *); omega
      · refine j_iload X dX11_isOver_37 rfl ?_
        refine j_i2l X dX11_isOver_39 ?_
        refine j_lconst X dX11_isOver_40 0 (by decide) ?_
        refine j_ldc2 X dX11_isOver_41 u1119 ?_
        refine s_callSi X hR (m_inI np _ _ _ _ 0 65520 rfl rfl) rfl u1087 u1085 u1086 u12 hyX11_in (by decide) (by decide) (Nat.le_of_ble_eq_true rfl) dX11_isOver_44 (fun v_44 m_44 h_44 => ?_)
        obtain ⟨e1, e2⟩ := h_44; have e1 := e1.symm; have e2 := e2.symm; subst e1; subst e2
        refine j_ifb_ne X 53 dX11_isOver_47 (by decide) (fun c_47 => ?_) (fun c_47 => ?_)
        · refine j_iload X dX11_isOver_53 rfl ?_
          refine j_iload_n X dX11_isOver_55 rfl ?_
          refine j_iconst X dX11_isOver_56 1 (by decide) ?_
          refine j_iadd X dX11_isOver_57 ?_
          refine j_nrm (nI (b + 1)) (nI_1 b) ?_
          refine s_callSi X hR (m_steps np _ _ (b + 1) (by omega)) rfl u1190 u1188 u1189 u12 hyX11_steps (by decide) (by decide) (Nat.le_of_ble_eq_true rfl) dX11_isOver_58 (fun v_58 m_58 h_58 => ?_)
          obtain ⟨e1, e2⟩ := h_58; have e1 := e1.symm; have e2 := e2.symm; subst e1; subst e2
          refine j_aload_n X dX11_isOver_61 rfl ?_
          refine j_iload_n X dX11_isOver_62 rfl ?_
          refine j_iload_n X dX11_isOver_63 rfl ?_
          refine s_callVi X hR (m_endOf np _ p 3 w (by omega) (by omega) hw hw2) rfl 11 (by decide) (o66 np) (k66 np) rfl u1184 u1181 u1183 qp45 u12 hyX11_endOf (by decide) (by decide) (Nat.le_of_ble_eq_true rfl) dX11_isOver_64 (fun v_64 m_64 h_64 => ?_)
          obtain ⟨e1, e2⟩ := h_64; have e1 := e1.symm; have e2 := e2.symm; subst e1; subst e2
          refine j_icmp_ne X 74 dX11_isOver_67 (by decide) (fun c_67 => ?_) (fun c_67 => ?_)
          · refine j_iconst X dX11_isOver_74 0 (by decide) ?_
            refine s_iret X hE hr dX11_isOver_75 rfl ?_
            refine ⟨?_, rfl⟩
            first | exact (jb_t c_67).symm | exact (jb_f c_67).symm
          · refine j_iconst X dX11_isOver_70 1 (by decide) ?_
            refine j_goto X 75 dX11_isOver_71 (by decide) ?_
            refine s_iret X hE hr dX11_isOver_75 rfl ?_
            refine ⟨?_, rfl⟩
            first | exact (jb_t c_67).symm | exact (jb_f c_67).symm
        · exfalso
          clear hE hr hR X
          (try simp only [lg_cmp_lt, lg_cmp_gt, lg_cmp_le, lg_cmp_ge] at *); (try simp (disch := omega) only [Int64.le_iff_toInt_le, Int64.lt_iff_toInt_lt, Int32.le_iff_toInt_le, Int32.lt_iff_toInt_lt, fa_eq, fa_lit, fa_litL, nI_toInt, pk_lT, Int32.toInt_toInt64, jadd64, jin, jnoneT] at *); omega
set_option maxRecDepth 4000 in
set_option maxHeartbeats 1000000 in
theorem m_power (np : Nat) (mem : jMem) (x : Int32) (k : Nat) (hk : k < 2 ^ 31) : jPi yX11_power cX11_power 4 .int 1 [.int x, .int (nI k)] np mem (fun v c => v = jPow x 47 k ∧ c = mem) := by
  refine jPi.of (own := RX11) rfl rfl (Nat.le_of_ble_eq_true rfl) (fun G X hR hr hE => ?_)
  refine j_iconst X dX11_power_0 1 (by decide) ?_
  refine j_istore_n X dX11_power_1 (by decide) ?_
  refine j_iconst X dX11_power_2 0 (by decide) ?_
  refine j_istore_n X dX11_power_3 (by decide) ?_
  have lp4 : ∀ (n : Nat) (j : Nat), j ≤ k → k + 1 ≤ j + n → J G RX11 cX11_power 4 0 0 4 (jlv [some (.int x), some (.int (nI k)), some (.int (jPow x 47 j)), some (.int (nI j))]) [] (jS np) (mem) := by
    intro n
    induction n with
    | zero =>
      intro j hj hn
      exact absurd hn (by omega)
    | succ n ih4 =>
      intro j hj hn
      refine j_iload_n X dX11_power_4 rfl ?_
      refine j_iload_n X dX11_power_5 rfl ?_
      refine j_icmp_ge X 22 dX11_power_6 (by decide) (fun c_6 => ?_) (fun c_6 => ?_)
      · obtain rfl : j = k := by clear hE hr hR X; (try simp only [lg_cmp_lt, lg_cmp_gt, lg_cmp_le, lg_cmp_ge] at *); (try simp (disch := omega) only [Int64.le_iff_toInt_le, Int64.lt_iff_toInt_lt, Int32.le_iff_toInt_le, Int32.lt_iff_toInt_lt, fa_eq, fa_lit, fa_litL, nI_toInt, pk_lT, Int32.toInt_toInt64, jadd64, jin, jnoneT] at *); omega
        refine j_iload_n X dX11_power_22 rfl ?_
        refine s_iret X hE hr dX11_power_23 rfl ?_
        first | exact ⟨rfl, rfl⟩ | (exfalso; clear hE hr hR X; (try simp only [lg_cmp_lt, lg_cmp_gt, lg_cmp_le, lg_cmp_ge] at *); (try simp (disch := omega) only [Int64.le_iff_toInt_le, Int64.lt_iff_toInt_lt, Int32.le_iff_toInt_le, Int32.lt_iff_toInt_lt, fa_eq, fa_lit, fa_litL, nI_toInt, pk_lT, Int32.toInt_toInt64, jadd64, jin, jnoneT] at *); omega)
      · have hj2 : j < k := by clear hE hr hR X; (try simp only [lg_cmp_lt, lg_cmp_gt, lg_cmp_le, lg_cmp_ge] at *); (try simp (disch := omega) only [Int64.le_iff_toInt_le, Int64.lt_iff_toInt_lt, Int32.le_iff_toInt_le, Int32.lt_iff_toInt_lt, fa_eq, fa_lit, fa_litL, nI_toInt, pk_lT, Int32.toInt_toInt64, jadd64, jin, jnoneT] at *); omega
        refine j_iload_n X dX11_power_9 rfl ?_
        refine j_iload_n X dX11_power_10 rfl ?_
        refine j_imul X dX11_power_11 ?_
        refine j_bipush X dX11_power_12 47 (by decide) ?_
        refine j_irem X dX11_power_14 (by decide) ?_
        refine j_istore_n X dX11_power_15 (by decide) ?_
        refine j_iinc X dX11_power_16 rfl 1 rfl ?_
        refine j_goto X 4 dX11_power_19 (by decide) ?_
        refine j_lv [some (.int x), some (.int (nI k)), some (.int (jPow x 47 (j + 1))), some (.int (nI (j + 1)))] ⟨rfl, rfl, rfl, (by rw [← nI_1]; rfl), trivial⟩ ?_
        exact ih4 (j + 1) (by omega) (by omega)
  refine j_lv [some (.int x), some (.int (nI k)), some (.int (jPow x 47 0)), some (.int (nI 0))] ⟨rfl, rfl, rfl, rfl, trivial⟩ ?_
  exact lp4 (k + 1) 0 (by omega) (by omega)
set_option maxRecDepth 4000 in
set_option maxHeartbeats 1000000 in
theorem m_secret_bad (np : Nat) (mem : jMem) (b x : Int32) (h : ¬ (jin b 0 5 ∧ jin x 0 22)) : jPi yX11_secret cX11_secret 3 .int 3 [.ref 66, .int b, .int x] np mem (fun v c => v = -1000001 ∧ c = jup mem 66 0 0) := by
  refine jPi.of (own := RX11) rfl rfl (Nat.le_of_ble_eq_true rfl) (fun G X hR hr hE => ?_)
  refine j_aload_n X dX11_secret_0 rfl ?_
  refine j_iconst X dX11_secret_1 0 (by decide) ?_
  refine j_putI X 11 0 (by decide) (by decide) rfl rfl rfl rfl u950 (o66 np) (k66 np) dX11_secret_2 ?_
  refine j_iload_n X dX11_secret_5 rfl ?_
  refine s_callSi X hR (m_isBearer np _ _) rfl u1221 u1219 u1220 u12 hyX11_isBearer (by decide) (by decide) (Nat.le_of_ble_eq_true rfl) dX11_secret_6 (fun v_6 m_6 h_6 => ?_)
  obtain ⟨e1, e2⟩ := h_6; have e1 := e1.symm; have e2 := e2.symm; subst e1; subst e2
  refine j_ifb_eq X 24 dX11_secret_9 (by decide) (fun c_9 => ?_) (fun c_9 => ?_)
  · refine j_ldc X dX11_secret_24 u1089 ?_
    refine s_iret X hE hr dX11_secret_26 rfl ?_
    first | exact ⟨rfl, rfl⟩ | (exfalso; clear hE hr hR X; (try simp only [lg_cmp_lt, lg_cmp_gt, lg_cmp_le, lg_cmp_ge] at *); (try simp (disch := omega) only [Int64.le_iff_toInt_le, Int64.lt_iff_toInt_lt, Int32.le_iff_toInt_le, Int32.lt_iff_toInt_lt, fa_eq, fa_lit, fa_litL, nI_toInt, pk_lT, Int32.toInt_toInt64, jadd64, jin, jnoneT] at *); omega)
  · refine j_iload_n X dX11_secret_12 rfl ?_
    refine j_i2l X dX11_secret_13 ?_
    refine j_lconst X dX11_secret_14 0 (by decide) ?_
    refine j_ldc2 X dX11_secret_15 u1222 ?_
    refine s_callSi X hR (m_inI np _ _ _ _ 0 22 rfl rfl) rfl u1087 u1085 u1086 u12 hyX11_in (by decide) (by decide) (Nat.le_of_ble_eq_true rfl) dX11_secret_18 (fun v_18 m_18 h_18 => ?_)
    obtain ⟨e1, e2⟩ := h_18; have e1 := e1.symm; have e2 := e2.symm; subst e1; subst e2
    refine j_ifb_ne X 27 dX11_secret_21 (by decide) (fun c_21 => ?_) (fun c_21 => ?_)
    · exfalso
      clear hE hr hR X
      (try simp only [lg_cmp_lt, lg_cmp_gt, lg_cmp_le, lg_cmp_ge] at *); (try simp (disch := omega) only [Int64.le_iff_toInt_le, Int64.lt_iff_toInt_lt, Int32.le_iff_toInt_le, Int32.lt_iff_toInt_lt, fa_eq, fa_lit, fa_litL, nI_toInt, pk_lT, Int32.toInt_toInt64, jadd64, jin, jnoneT] at *); omega
    · refine j_ldc X dX11_secret_24 u1089 ?_
      refine s_iret X hE hr dX11_secret_26 rfl ?_
      first | exact ⟨rfl, rfl⟩ | (exfalso; clear hE hr hR X; (try simp only [lg_cmp_lt, lg_cmp_gt, lg_cmp_le, lg_cmp_ge] at *); (try simp (disch := omega) only [Int64.le_iff_toInt_le, Int64.lt_iff_toInt_lt, Int32.le_iff_toInt_le, Int32.lt_iff_toInt_lt, fa_eq, fa_lit, fa_litL, nI_toInt, pk_lT, Int32.toInt_toInt64, jadd64, jin, jnoneT] at *); omega)
set_option maxRecDepth 4000 in
set_option maxHeartbeats 1000000 in
theorem m_secret0 (np : Nat) (mem : jMem) (b w : Nat) (hb : b < 6) (hw : mem 78 b = nI w) (hw2 : w ≤ 22) : jPi yX11_secret cX11_secret 3 .int 3 [.ref 66, .int (nI b), .int 0] np mem (fun v c => v = jPow 4 47 w ∧ c = jup (jup mem 66 0 0) 78 b (nI w)) := by
  refine jPi.of (own := RX11) rfl rfl (Nat.le_of_ble_eq_true rfl) (fun G X hR hr hE => ?_)
  refine j_aload_n X dX11_secret_0 rfl ?_
  refine j_iconst X dX11_secret_1 0 (by decide) ?_
  refine j_putI X 11 0 (by decide) (by decide) rfl rfl rfl rfl u950 (o66 np) (k66 np) dX11_secret_2 ?_
  refine j_iload_n X dX11_secret_5 rfl ?_
  refine s_callSi X hR (m_isBearer np _ _) rfl u1221 u1219 u1220 u12 hyX11_isBearer (by decide) (by decide) (Nat.le_of_ble_eq_true rfl) dX11_secret_6 (fun v_6 m_6 h_6 => ?_)
  obtain ⟨e1, e2⟩ := h_6; have e1 := e1.symm; have e2 := e2.symm; subst e1; subst e2
  refine j_ifb_eq X 24 dX11_secret_9 (by decide) (fun c_9 => ?_) (fun c_9 => ?_)
  · exfalso
    clear hE hr hR X
    (try simp only [lg_cmp_lt, lg_cmp_gt, lg_cmp_le, lg_cmp_ge] at *); (try simp (disch := omega) only [Int64.le_iff_toInt_le, Int64.lt_iff_toInt_lt, Int32.le_iff_toInt_le, Int32.lt_iff_toInt_lt, fa_eq, fa_lit, fa_litL, nI_toInt, pk_lT, Int32.toInt_toInt64, jadd64, jin, jnoneT] at *); omega
  · refine j_iload_n X dX11_secret_12 rfl ?_
    refine j_i2l X dX11_secret_13 ?_
    refine j_lconst X dX11_secret_14 0 (by decide) ?_
    refine j_ldc2 X dX11_secret_15 u1222 ?_
    refine s_callSi X hR (m_inI np _ _ _ _ 0 22 rfl rfl) rfl u1087 u1085 u1086 u12 hyX11_in (by decide) (by decide) (Nat.le_of_ble_eq_true rfl) dX11_secret_18 (fun v_18 m_18 h_18 => ?_)
    obtain ⟨e1, e2⟩ := h_18; have e1 := e1.symm; have e2 := e2.symm; subst e1; subst e2
    refine j_ifb_ne X 27 dX11_secret_21 (by decide) (fun c_21 => ?_) (fun c_21 => ?_)
    · refine j_aload_n X dX11_secret_27 rfl ?_
      refine j_getR X 11 14 (by decide) (by decide) rfl u964 (o66 np) (k66 np) _ (p66_14 np) dX11_secret_28 ?_
      refine j_iload_n X dX11_secret_31 rfl ?_
      refine j_iload_n X dX11_secret_32 rfl ?_
      refine j_if_ne X 45 dX11_secret_33 (by decide) (fun c_33 => absurd c_33 (by decide)) (fun c_33 => ?_)
      refine j_aload_n X dX11_secret_36 rfl ?_
      refine j_getR X 11 14 (by decide) (by decide) rfl u964 (o66 np) (k66 np) _ (p66_14 np) dX11_secret_37 ?_
      refine j_iload_n X dX11_secret_40 rfl ?_
      refine j_nrm _ (by first | (simp only [fa_lit, pk_mul, nI_add]; done) | (simp only [fa_lit, pk_mul, nI_add]; rfl) | rfl) ?_
      refine j_ialdN X (o78 np) (k78 np) (by rw [l78]; omega) (by rw [l78]; decide) (mem 78) rfl dX11_secret_41 ?_
      refine j_goto X 46 dX11_secret_42 (by decide) ?_
      refine j_nrm _ hw ?_
      refine j_nrm2 _ (by first | (simp only [fa_lit, pk_mul, nI_add]; done) | (simp only [fa_lit, pk_mul, nI_add]; rfl) | rfl) ?_
      refine j_iastN X (o78 np) (k78 np) (by rw [l78]; omega) (by rw [l78]; decide) dX11_secret_46 ?_
      refine j_iconst X dX11_secret_47 4 (by decide) ?_
      refine j_aload_n X dX11_secret_48 rfl ?_
      refine j_getR X 11 14 (by decide) (by decide) rfl u964 (o66 np) (k66 np) _ (p66_14 np) dX11_secret_49 ?_
      refine j_iload_n X dX11_secret_52 rfl ?_
      refine j_nrm _ (by first | (simp only [fa_lit, pk_mul, nI_add]; done) | (simp only [fa_lit, pk_mul, nI_add]; rfl) | rfl) ?_
      refine j_ialdN X (o78 np) (k78 np) (by rw [l78]; omega) (by rw [l78]; decide) _ rfl dX11_secret_53 ?_
      refine j_nrm (nI w) (by simp [jup, va_up]) ?_
      refine s_callSi X hR (m_power np _ _ w (by omega)) rfl u1225 u1223 u1224 u12 hyX11_power (by decide) (by decide) (Nat.le_of_ble_eq_true rfl) dX11_secret_54 (fun v_54 m_54 h_54 => ?_)
      obtain ⟨e1, e2⟩ := h_54; have e1 := e1.symm; have e2 := e2.symm; subst e1; subst e2
      refine s_iret X hE hr dX11_secret_57 rfl ?_
      first | exact ⟨rfl, rfl⟩ | (exfalso; clear hE hr hR X; (try simp only [lg_cmp_lt, lg_cmp_gt, lg_cmp_le, lg_cmp_ge] at *); (try simp (disch := omega) only [Int64.le_iff_toInt_le, Int64.lt_iff_toInt_lt, Int32.le_iff_toInt_le, Int32.lt_iff_toInt_lt, fa_eq, fa_lit, fa_litL, nI_toInt, pk_lT, Int32.toInt_toInt64, jadd64, jin, jnoneT] at *); omega)
    · exfalso
      clear hE hr hR X
      (try simp only [lg_cmp_lt, lg_cmp_gt, lg_cmp_le, lg_cmp_ge] at *); (try simp (disch := omega) only [Int64.le_iff_toInt_le, Int64.lt_iff_toInt_lt, Int32.le_iff_toInt_le, Int32.lt_iff_toInt_lt, fa_eq, fa_lit, fa_litL, nI_toInt, pk_lT, Int32.toInt_toInt64, jadd64, jin, jnoneT] at *); omega
set_option maxRecDepth 4000 in
set_option maxHeartbeats 1000000 in
theorem m_secret1 (np : Nat) (mem : jMem) (b x : Nat) (hb : b < 6) (hx : 0 < x) (hx2 : x ≤ 22) : jPi yX11_secret cX11_secret 3 .int 3 [.ref 66, .int (nI b), .int (nI x)] np mem (fun v c => v = jPow 4 47 x ∧ c = jup (jup mem 66 0 0) 78 b (nI x)) := by
  refine jPi.of (own := RX11) rfl rfl (Nat.le_of_ble_eq_true rfl) (fun G X hR hr hE => ?_)
  refine j_aload_n X dX11_secret_0 rfl ?_
  refine j_iconst X dX11_secret_1 0 (by decide) ?_
  refine j_putI X 11 0 (by decide) (by decide) rfl rfl rfl rfl u950 (o66 np) (k66 np) dX11_secret_2 ?_
  refine j_iload_n X dX11_secret_5 rfl ?_
  refine s_callSi X hR (m_isBearer np _ _) rfl u1221 u1219 u1220 u12 hyX11_isBearer (by decide) (by decide) (Nat.le_of_ble_eq_true rfl) dX11_secret_6 (fun v_6 m_6 h_6 => ?_)
  obtain ⟨e1, e2⟩ := h_6; have e1 := e1.symm; have e2 := e2.symm; subst e1; subst e2
  refine j_ifb_eq X 24 dX11_secret_9 (by decide) (fun c_9 => ?_) (fun c_9 => ?_)
  · exfalso
    clear hE hr hR X
    (try simp only [lg_cmp_lt, lg_cmp_gt, lg_cmp_le, lg_cmp_ge] at *); (try simp (disch := omega) only [Int64.le_iff_toInt_le, Int64.lt_iff_toInt_lt, Int32.le_iff_toInt_le, Int32.lt_iff_toInt_lt, fa_eq, fa_lit, fa_litL, nI_toInt, pk_lT, Int32.toInt_toInt64, jadd64, jin, jnoneT] at *); omega
  · refine j_iload_n X dX11_secret_12 rfl ?_
    refine j_i2l X dX11_secret_13 ?_
    refine j_lconst X dX11_secret_14 0 (by decide) ?_
    refine j_ldc2 X dX11_secret_15 u1222 ?_
    refine s_callSi X hR (m_inI np _ _ _ _ 0 22 rfl rfl) rfl u1087 u1085 u1086 u12 hyX11_in (by decide) (by decide) (Nat.le_of_ble_eq_true rfl) dX11_secret_18 (fun v_18 m_18 h_18 => ?_)
    obtain ⟨e1, e2⟩ := h_18; have e1 := e1.symm; have e2 := e2.symm; subst e1; subst e2
    refine j_ifb_ne X 27 dX11_secret_21 (by decide) (fun c_21 => ?_) (fun c_21 => ?_)
    · refine j_aload_n X dX11_secret_27 rfl ?_
      refine j_getR X 11 14 (by decide) (by decide) rfl u964 (o66 np) (k66 np) _ (p66_14 np) dX11_secret_28 ?_
      refine j_iload_n X dX11_secret_31 rfl ?_
      refine j_iload_n X dX11_secret_32 rfl ?_
      refine j_if_ne X 45 dX11_secret_33 (by decide) (fun c_33 => ?_) (fun c_33 => ?_)
      · refine j_iload_n X dX11_secret_45 rfl ?_
        refine j_nrm2 _ (by first | (simp only [fa_lit, pk_mul, nI_add]; done) | (simp only [fa_lit, pk_mul, nI_add]; rfl) | rfl) ?_
        refine j_iastN X (o78 np) (k78 np) (by rw [l78]; omega) (by rw [l78]; decide) dX11_secret_46 ?_
        refine j_iconst X dX11_secret_47 4 (by decide) ?_
        refine j_aload_n X dX11_secret_48 rfl ?_
        refine j_getR X 11 14 (by decide) (by decide) rfl u964 (o66 np) (k66 np) _ (p66_14 np) dX11_secret_49 ?_
        refine j_iload_n X dX11_secret_52 rfl ?_
        refine j_nrm _ (by first | (simp only [fa_lit, pk_mul, nI_add]; done) | (simp only [fa_lit, pk_mul, nI_add]; rfl) | rfl) ?_
        refine j_ialdN X (o78 np) (k78 np) (by rw [l78]; omega) (by rw [l78]; decide) _ rfl dX11_secret_53 ?_
        refine j_nrm (nI x) (by simp [jup, va_up]) ?_
        refine s_callSi X hR (m_power np _ _ x (by omega)) rfl u1225 u1223 u1224 u12 hyX11_power (by decide) (by decide) (Nat.le_of_ble_eq_true rfl) dX11_secret_54 (fun v_54 m_54 h_54 => ?_)
        obtain ⟨e1, e2⟩ := h_54; have e1 := e1.symm; have e2 := e2.symm; subst e1; subst e2
        refine s_iret X hE hr dX11_secret_57 rfl ?_
        first | exact ⟨rfl, rfl⟩ | (exfalso; clear hE hr hR X; (try simp only [lg_cmp_lt, lg_cmp_gt, lg_cmp_le, lg_cmp_ge] at *); (try simp (disch := omega) only [Int64.le_iff_toInt_le, Int64.lt_iff_toInt_lt, Int32.le_iff_toInt_le, Int32.lt_iff_toInt_lt, fa_eq, fa_lit, fa_litL, nI_toInt, pk_lT, Int32.toInt_toInt64, jadd64, jin, jnoneT] at *); omega)
      · exfalso
        clear hE hr hR X
        (try simp only [lg_cmp_lt, lg_cmp_gt, lg_cmp_le, lg_cmp_ge] at *); (try simp (disch := omega) only [Int64.le_iff_toInt_le, Int64.lt_iff_toInt_lt, Int32.le_iff_toInt_le, Int32.lt_iff_toInt_lt, fa_eq, fa_lit, fa_litL, nI_toInt, pk_lT, Int32.toInt_toInt64, jadd64, jin, jnoneT] at *); omega
    · exfalso
      clear hE hr hR X
      (try simp only [lg_cmp_lt, lg_cmp_gt, lg_cmp_le, lg_cmp_ge] at *); (try simp (disch := omega) only [Int64.le_iff_toInt_le, Int64.lt_iff_toInt_lt, Int32.le_iff_toInt_le, Int32.lt_iff_toInt_lt, fa_eq, fa_lit, fa_litL, nI_toInt, pk_lT, Int32.toInt_toInt64, jadd64, jin, jnoneT] at *); omega
set_option maxRecDepth 4000 in
set_option maxHeartbeats 1000000 in
theorem m_answer_bad (np : Nat) (mem : jMem) (b r c w : Int32) (h : ¬ (jin b 0 5 ∧ jin r 0 22 ∧ jin c 0 22 ∧ jin w 0 1)) : jPi yX11_answer cX11_answer 5 .int 3 [.ref 66, .int b, .int r, .int c, .int w] np mem (fun v c => v = -1000001 ∧ c = jup mem 66 0 0) := by
  refine jPi.of (own := RX11) rfl rfl (Nat.le_of_ble_eq_true rfl) (fun G X hR hr hE => ?_)
  refine j_aload_n X dX11_answer_0 rfl ?_
  refine j_iconst X dX11_answer_1 0 (by decide) ?_
  refine j_putI X 11 0 (by decide) (by decide) rfl rfl rfl rfl u950 (o66 np) (k66 np) dX11_answer_2 ?_
  refine j_iload_n X dX11_answer_5 rfl ?_
  refine s_callSi X hR (m_isBearer np _ _) rfl u1221 u1219 u1220 u12 hyX11_isBearer (by decide) (by decide) (Nat.le_of_ble_eq_true rfl) dX11_answer_6 (fun v_6 m_6 h_6 => ?_)
  obtain ⟨e1, e2⟩ := h_6; have e1 := e1.symm; have e2 := e2.symm; subst e1; subst e2
  refine j_ifb_eq X 47 dX11_answer_9 (by decide) (fun c_9 => ?_) (fun c_9 => ?_)
  · refine j_ldc X dX11_answer_47 u1089 ?_
    refine s_iret X hE hr dX11_answer_49 rfl ?_
    first | exact ⟨rfl, rfl⟩ | (exfalso; clear hE hr hR X; (try simp only [lg_cmp_lt, lg_cmp_gt, lg_cmp_le, lg_cmp_ge] at *); (try simp (disch := omega) only [Int64.le_iff_toInt_le, Int64.lt_iff_toInt_lt, Int32.le_iff_toInt_le, Int32.lt_iff_toInt_lt, fa_eq, fa_lit, fa_litL, nI_toInt, pk_lT, Int32.toInt_toInt64, jadd64, jin, jnoneT] at *); omega)
  · refine j_iload_n X dX11_answer_12 rfl ?_
    refine j_i2l X dX11_answer_13 ?_
    refine j_lconst X dX11_answer_14 0 (by decide) ?_
    refine j_ldc2 X dX11_answer_15 u1222 ?_
    refine s_callSi X hR (m_inI np _ _ _ _ 0 22 rfl rfl) rfl u1087 u1085 u1086 u12 hyX11_in (by decide) (by decide) (Nat.le_of_ble_eq_true rfl) dX11_answer_18 (fun v_18 m_18 h_18 => ?_)
    obtain ⟨e1, e2⟩ := h_18; have e1 := e1.symm; have e2 := e2.symm; subst e1; subst e2
    refine j_ifb_eq X 47 dX11_answer_21 (by decide) (fun c_21 => ?_) (fun c_21 => ?_)
    · refine j_ldc X dX11_answer_47 u1089 ?_
      refine s_iret X hE hr dX11_answer_49 rfl ?_
      first | exact ⟨rfl, rfl⟩ | (exfalso; clear hE hr hR X; (try simp only [lg_cmp_lt, lg_cmp_gt, lg_cmp_le, lg_cmp_ge] at *); (try simp (disch := omega) only [Int64.le_iff_toInt_le, Int64.lt_iff_toInt_lt, Int32.le_iff_toInt_le, Int32.lt_iff_toInt_lt, fa_eq, fa_lit, fa_litL, nI_toInt, pk_lT, Int32.toInt_toInt64, jadd64, jin, jnoneT] at *); omega)
    · refine j_iload_n X dX11_answer_24 rfl ?_
      refine j_i2l X dX11_answer_25 ?_
      refine j_lconst X dX11_answer_26 0 (by decide) ?_
      refine j_ldc2 X dX11_answer_27 u1222 ?_
      refine s_callSi X hR (m_inI np _ _ _ _ 0 22 rfl rfl) rfl u1087 u1085 u1086 u12 hyX11_in (by decide) (by decide) (Nat.le_of_ble_eq_true rfl) dX11_answer_30 (fun v_30 m_30 h_30 => ?_)
      obtain ⟨e1, e2⟩ := h_30; have e1 := e1.symm; have e2 := e2.symm; subst e1; subst e2
      refine j_ifb_eq X 47 dX11_answer_33 (by decide) (fun c_33 => ?_) (fun c_33 => ?_)
      · refine j_ldc X dX11_answer_47 u1089 ?_
        refine s_iret X hE hr dX11_answer_49 rfl ?_
        first | exact ⟨rfl, rfl⟩ | (exfalso; clear hE hr hR X; (try simp only [lg_cmp_lt, lg_cmp_gt, lg_cmp_le, lg_cmp_ge] at *); (try simp (disch := omega) only [Int64.le_iff_toInt_le, Int64.lt_iff_toInt_lt, Int32.le_iff_toInt_le, Int32.lt_iff_toInt_lt, fa_eq, fa_lit, fa_litL, nI_toInt, pk_lT, Int32.toInt_toInt64, jadd64, jin, jnoneT] at *); omega)
      · refine j_iload X dX11_answer_36 rfl ?_
        refine j_i2l X dX11_answer_38 ?_
        refine j_lconst X dX11_answer_39 0 (by decide) ?_
        refine j_lconst X dX11_answer_40 1 (by decide) ?_
        refine s_callSi X hR (m_inI np _ _ _ _ 0 1 rfl rfl) rfl u1087 u1085 u1086 u12 hyX11_in (by decide) (by decide) (Nat.le_of_ble_eq_true rfl) dX11_answer_41 (fun v_41 m_41 h_41 => ?_)
        obtain ⟨e1, e2⟩ := h_41; have e1 := e1.symm; have e2 := e2.symm; subst e1; subst e2
        refine j_ifb_ne X 50 dX11_answer_44 (by decide) (fun c_44 => ?_) (fun c_44 => ?_)
        · exfalso
          clear hE hr hR X
          (try simp only [lg_cmp_lt, lg_cmp_gt, lg_cmp_le, lg_cmp_ge] at *); (try simp (disch := omega) only [Int64.le_iff_toInt_le, Int64.lt_iff_toInt_lt, Int32.le_iff_toInt_le, Int32.lt_iff_toInt_lt, fa_eq, fa_lit, fa_litL, nI_toInt, pk_lT, Int32.toInt_toInt64, jadd64, jin, jnoneT] at *); omega
        · refine j_ldc X dX11_answer_47 u1089 ?_
          refine s_iret X hE hr dX11_answer_49 rfl ?_
          first | exact ⟨rfl, rfl⟩ | (exfalso; clear hE hr hR X; (try simp only [lg_cmp_lt, lg_cmp_gt, lg_cmp_le, lg_cmp_ge] at *); (try simp (disch := omega) only [Int64.le_iff_toInt_le, Int64.lt_iff_toInt_lt, Int32.le_iff_toInt_le, Int32.lt_iff_toInt_lt, fa_eq, fa_lit, fa_litL, nI_toInt, pk_lT, Int32.toInt_toInt64, jadd64, jin, jnoneT] at *); omega)
set_option maxRecDepth 4000 in
set_option maxHeartbeats 1000000 in
theorem m_answer0 (np : Nat) (mem : jMem) (b r : Nat) (y : Int32) (hb : b < 6) (hr2 : r ≤ 22) (hy : jin y 0 22) : jPi yX11_answer cX11_answer 5 .int 3 [.ref 66, .int (nI b), .int (nI r), .int y, .int 0] np mem (fun v c => v = jPow 4 47 r ∧ c = jup mem 66 0 0) := by
  refine jPi.of (own := RX11) rfl rfl (Nat.le_of_ble_eq_true rfl) (fun G X hR hr hE => ?_)
  refine j_aload_n X dX11_answer_0 rfl ?_
  refine j_iconst X dX11_answer_1 0 (by decide) ?_
  refine j_putI X 11 0 (by decide) (by decide) rfl rfl rfl rfl u950 (o66 np) (k66 np) dX11_answer_2 ?_
  refine j_iload_n X dX11_answer_5 rfl ?_
  refine s_callSi X hR (m_isBearer np _ _) rfl u1221 u1219 u1220 u12 hyX11_isBearer (by decide) (by decide) (Nat.le_of_ble_eq_true rfl) dX11_answer_6 (fun v_6 m_6 h_6 => ?_)
  obtain ⟨e1, e2⟩ := h_6; have e1 := e1.symm; have e2 := e2.symm; subst e1; subst e2
  refine j_ifb_eq X 47 dX11_answer_9 (by decide) (fun c_9 => ?_) (fun c_9 => ?_)
  · exfalso
    clear hE hr hR X
    (try simp only [lg_cmp_lt, lg_cmp_gt, lg_cmp_le, lg_cmp_ge] at *); (try simp (disch := omega) only [Int64.le_iff_toInt_le, Int64.lt_iff_toInt_lt, Int32.le_iff_toInt_le, Int32.lt_iff_toInt_lt, fa_eq, fa_lit, fa_litL, nI_toInt, pk_lT, Int32.toInt_toInt64, jadd64, jin, jnoneT] at *); omega
  · refine j_iload_n X dX11_answer_12 rfl ?_
    refine j_i2l X dX11_answer_13 ?_
    refine j_lconst X dX11_answer_14 0 (by decide) ?_
    refine j_ldc2 X dX11_answer_15 u1222 ?_
    refine s_callSi X hR (m_inI np _ _ _ _ 0 22 rfl rfl) rfl u1087 u1085 u1086 u12 hyX11_in (by decide) (by decide) (Nat.le_of_ble_eq_true rfl) dX11_answer_18 (fun v_18 m_18 h_18 => ?_)
    obtain ⟨e1, e2⟩ := h_18; have e1 := e1.symm; have e2 := e2.symm; subst e1; subst e2
    refine j_ifb_eq X 47 dX11_answer_21 (by decide) (fun c_21 => ?_) (fun c_21 => ?_)
    · exfalso
      clear hE hr hR X
      (try simp only [lg_cmp_lt, lg_cmp_gt, lg_cmp_le, lg_cmp_ge] at *); (try simp (disch := omega) only [Int64.le_iff_toInt_le, Int64.lt_iff_toInt_lt, Int32.le_iff_toInt_le, Int32.lt_iff_toInt_lt, fa_eq, fa_lit, fa_litL, nI_toInt, pk_lT, Int32.toInt_toInt64, jadd64, jin, jnoneT] at *); omega
    · refine j_iload_n X dX11_answer_24 rfl ?_
      refine j_i2l X dX11_answer_25 ?_
      refine j_lconst X dX11_answer_26 0 (by decide) ?_
      refine j_ldc2 X dX11_answer_27 u1222 ?_
      refine s_callSi X hR (m_inI np _ _ _ _ 0 22 rfl rfl) rfl u1087 u1085 u1086 u12 hyX11_in (by decide) (by decide) (Nat.le_of_ble_eq_true rfl) dX11_answer_30 (fun v_30 m_30 h_30 => ?_)
      obtain ⟨e1, e2⟩ := h_30; have e1 := e1.symm; have e2 := e2.symm; subst e1; subst e2
      refine j_ifb_eq X 47 dX11_answer_33 (by decide) (fun c_33 => ?_) (fun c_33 => ?_)
      · exfalso
        clear hE hr hR X
        (try simp only [lg_cmp_lt, lg_cmp_gt, lg_cmp_le, lg_cmp_ge] at *); (try simp (disch := omega) only [Int64.le_iff_toInt_le, Int64.lt_iff_toInt_lt, Int32.le_iff_toInt_le, Int32.lt_iff_toInt_lt, fa_eq, fa_lit, fa_litL, nI_toInt, pk_lT, Int32.toInt_toInt64, jadd64, jin, jnoneT] at *); omega
      · refine j_iload X dX11_answer_36 rfl ?_
        refine j_i2l X dX11_answer_38 ?_
        refine j_lconst X dX11_answer_39 0 (by decide) ?_
        refine j_lconst X dX11_answer_40 1 (by decide) ?_
        refine s_callSi X hR (m_inI np _ _ _ _ 0 1 rfl rfl) rfl u1087 u1085 u1086 u12 hyX11_in (by decide) (by decide) (Nat.le_of_ble_eq_true rfl) dX11_answer_41 (fun v_41 m_41 h_41 => ?_)
        obtain ⟨e1, e2⟩ := h_41; have e1 := e1.symm; have e2 := e2.symm; subst e1; subst e2
        refine j_ifb_ne X 50 dX11_answer_44 (by decide) (fun c_44 => ?_) (fun c_44 => ?_)
        · refine j_iload X dX11_answer_50 rfl ?_
          refine j_if_ne X 63 dX11_answer_52 (by decide) (fun c_52 => absurd c_52 (by decide)) (fun c_52 => ?_)
          refine j_iconst X dX11_answer_55 4 (by decide) ?_
          refine j_iload_n X dX11_answer_56 rfl ?_
          refine s_callSi X hR (m_power np _ _ r (by omega)) rfl u1225 u1223 u1224 u12 hyX11_power (by decide) (by decide) (Nat.le_of_ble_eq_true rfl) dX11_answer_57 (fun v_57 m_57 h_57 => ?_)
          obtain ⟨e1, e2⟩ := h_57; have e1 := e1.symm; have e2 := e2.symm; subst e1; subst e2
          refine j_goto X 76 dX11_answer_60 (by decide) ?_
          refine s_iret X hE hr dX11_answer_76 rfl ?_
          first | exact ⟨rfl, rfl⟩ | (exfalso; clear hE hr hR X; (try simp only [lg_cmp_lt, lg_cmp_gt, lg_cmp_le, lg_cmp_ge] at *); (try simp (disch := omega) only [Int64.le_iff_toInt_le, Int64.lt_iff_toInt_lt, Int32.le_iff_toInt_le, Int32.lt_iff_toInt_lt, fa_eq, fa_lit, fa_litL, nI_toInt, pk_lT, Int32.toInt_toInt64, jadd64, jin, jnoneT] at *); omega)
        · exfalso
          clear hE hr hR X
          (try simp only [lg_cmp_lt, lg_cmp_gt, lg_cmp_le, lg_cmp_ge] at *); (try simp (disch := omega) only [Int64.le_iff_toInt_le, Int64.lt_iff_toInt_lt, Int32.le_iff_toInt_le, Int32.lt_iff_toInt_lt, fa_eq, fa_lit, fa_litL, nI_toInt, pk_lT, Int32.toInt_toInt64, jadd64, jin, jnoneT] at *); omega
set_option maxRecDepth 4000 in
set_option maxHeartbeats 1000000 in
theorem m_answer1 (np : Nat) (mem : jMem) (b : Nat) (r y : Int32) (hb : b < 6) (hr2 : jin r 0 22) (hy : jin y 0 22) : jPi yX11_answer cX11_answer 5 .int 3 [.ref 66, .int (nI b), .int r, .int y, .int 1] np mem (fun v c => v = jRem (r + y * mem 78 b) 23 ∧ c = jup mem 66 0 0) := by
  refine jPi.of (own := RX11) rfl rfl (Nat.le_of_ble_eq_true rfl) (fun G X hR hr hE => ?_)
  refine j_aload_n X dX11_answer_0 rfl ?_
  refine j_iconst X dX11_answer_1 0 (by decide) ?_
  refine j_putI X 11 0 (by decide) (by decide) rfl rfl rfl rfl u950 (o66 np) (k66 np) dX11_answer_2 ?_
  refine j_iload_n X dX11_answer_5 rfl ?_
  refine s_callSi X hR (m_isBearer np _ _) rfl u1221 u1219 u1220 u12 hyX11_isBearer (by decide) (by decide) (Nat.le_of_ble_eq_true rfl) dX11_answer_6 (fun v_6 m_6 h_6 => ?_)
  obtain ⟨e1, e2⟩ := h_6; have e1 := e1.symm; have e2 := e2.symm; subst e1; subst e2
  refine j_ifb_eq X 47 dX11_answer_9 (by decide) (fun c_9 => ?_) (fun c_9 => ?_)
  · exfalso
    clear hE hr hR X
    (try simp only [lg_cmp_lt, lg_cmp_gt, lg_cmp_le, lg_cmp_ge] at *); (try simp (disch := omega) only [Int64.le_iff_toInt_le, Int64.lt_iff_toInt_lt, Int32.le_iff_toInt_le, Int32.lt_iff_toInt_lt, fa_eq, fa_lit, fa_litL, nI_toInt, pk_lT, Int32.toInt_toInt64, jadd64, jin, jnoneT] at *); omega
  · refine j_iload_n X dX11_answer_12 rfl ?_
    refine j_i2l X dX11_answer_13 ?_
    refine j_lconst X dX11_answer_14 0 (by decide) ?_
    refine j_ldc2 X dX11_answer_15 u1222 ?_
    refine s_callSi X hR (m_inI np _ _ _ _ 0 22 rfl rfl) rfl u1087 u1085 u1086 u12 hyX11_in (by decide) (by decide) (Nat.le_of_ble_eq_true rfl) dX11_answer_18 (fun v_18 m_18 h_18 => ?_)
    obtain ⟨e1, e2⟩ := h_18; have e1 := e1.symm; have e2 := e2.symm; subst e1; subst e2
    refine j_ifb_eq X 47 dX11_answer_21 (by decide) (fun c_21 => ?_) (fun c_21 => ?_)
    · exfalso
      clear hE hr hR X
      (try simp only [lg_cmp_lt, lg_cmp_gt, lg_cmp_le, lg_cmp_ge] at *); (try simp (disch := omega) only [Int64.le_iff_toInt_le, Int64.lt_iff_toInt_lt, Int32.le_iff_toInt_le, Int32.lt_iff_toInt_lt, fa_eq, fa_lit, fa_litL, nI_toInt, pk_lT, Int32.toInt_toInt64, jadd64, jin, jnoneT] at *); omega
    · refine j_iload_n X dX11_answer_24 rfl ?_
      refine j_i2l X dX11_answer_25 ?_
      refine j_lconst X dX11_answer_26 0 (by decide) ?_
      refine j_ldc2 X dX11_answer_27 u1222 ?_
      refine s_callSi X hR (m_inI np _ _ _ _ 0 22 rfl rfl) rfl u1087 u1085 u1086 u12 hyX11_in (by decide) (by decide) (Nat.le_of_ble_eq_true rfl) dX11_answer_30 (fun v_30 m_30 h_30 => ?_)
      obtain ⟨e1, e2⟩ := h_30; have e1 := e1.symm; have e2 := e2.symm; subst e1; subst e2
      refine j_ifb_eq X 47 dX11_answer_33 (by decide) (fun c_33 => ?_) (fun c_33 => ?_)
      · exfalso
        clear hE hr hR X
        (try simp only [lg_cmp_lt, lg_cmp_gt, lg_cmp_le, lg_cmp_ge] at *); (try simp (disch := omega) only [Int64.le_iff_toInt_le, Int64.lt_iff_toInt_lt, Int32.le_iff_toInt_le, Int32.lt_iff_toInt_lt, fa_eq, fa_lit, fa_litL, nI_toInt, pk_lT, Int32.toInt_toInt64, jadd64, jin, jnoneT] at *); omega
      · refine j_iload X dX11_answer_36 rfl ?_
        refine j_i2l X dX11_answer_38 ?_
        refine j_lconst X dX11_answer_39 0 (by decide) ?_
        refine j_lconst X dX11_answer_40 1 (by decide) ?_
        refine s_callSi X hR (m_inI np _ _ _ _ 0 1 rfl rfl) rfl u1087 u1085 u1086 u12 hyX11_in (by decide) (by decide) (Nat.le_of_ble_eq_true rfl) dX11_answer_41 (fun v_41 m_41 h_41 => ?_)
        obtain ⟨e1, e2⟩ := h_41; have e1 := e1.symm; have e2 := e2.symm; subst e1; subst e2
        refine j_ifb_ne X 50 dX11_answer_44 (by decide) (fun c_44 => ?_) (fun c_44 => ?_)
        · refine j_iload X dX11_answer_50 rfl ?_
          refine j_if_ne X 63 dX11_answer_52 (by decide) (fun c_52 => ?_) (fun c_52 => absurd c_52 (by decide))
          refine j_iload_n X dX11_answer_63 rfl ?_
          refine j_iload_n X dX11_answer_64 rfl ?_
          refine j_aload_n X dX11_answer_65 rfl ?_
          refine j_getR X 11 14 (by decide) (by decide) rfl u964 (o66 np) (k66 np) _ (p66_14 np) dX11_answer_66 ?_
          refine j_iload_n X dX11_answer_69 rfl ?_
          refine j_nrm _ (by first | (simp only [fa_lit, pk_mul, nI_add]; done) | (simp only [fa_lit, pk_mul, nI_add]; rfl) | rfl) ?_
          refine j_ialdN X (o78 np) (k78 np) (by rw [l78]; omega) (by rw [l78]; decide) (mem 78) rfl dX11_answer_70 ?_
          refine j_imul X dX11_answer_71 ?_
          refine j_iadd X dX11_answer_72 ?_
          refine j_bipush X dX11_answer_73 23 (by decide) ?_
          refine j_irem X dX11_answer_75 (by decide) ?_
          refine s_iret X hE hr dX11_answer_76 rfl ?_
          first | exact ⟨rfl, rfl⟩ | (exfalso; clear hE hr hR X; (try simp only [lg_cmp_lt, lg_cmp_gt, lg_cmp_le, lg_cmp_ge] at *); (try simp (disch := omega) only [Int64.le_iff_toInt_le, Int64.lt_iff_toInt_lt, Int32.le_iff_toInt_le, Int32.lt_iff_toInt_lt, fa_eq, fa_lit, fa_litL, nI_toInt, pk_lT, Int32.toInt_toInt64, jadd64, jin, jnoneT] at *); omega)
        · exfalso
          clear hE hr hR X
          (try simp only [lg_cmp_lt, lg_cmp_gt, lg_cmp_le, lg_cmp_ge] at *); (try simp (disch := omega) only [Int64.le_iff_toInt_le, Int64.lt_iff_toInt_lt, Int32.le_iff_toInt_le, Int32.lt_iff_toInt_lt, fa_eq, fa_lit, fa_litL, nI_toInt, pk_lT, Int32.toInt_toInt64, jadd64, jin, jnoneT] at *); omega
set_option maxRecDepth 4000 in
set_option maxHeartbeats 1000000 in
theorem m_isTaken (np : Nat) (mem : jMem) (b w y s : Nat) (t : Int32) (hb : b < 6) (hw : mem 78 b = nI w) (hw2 : w ≤ 22) (hy : y ≤ 22) (hs : s ≤ 22) : jPi yX11_isTaken cX11_isTaken 5 .boolean 2 [.ref 66, .int (nI b), .int t, .int (nI y), .int (nI s)] np mem (fun v c => v = jb (jPow 4 47 s = jRem (t * jPow (jPow 4 47 w) 47 y) 47) ∧ c = mem) := by
  refine jPi.of (own := RX11) rfl rfl (Nat.le_of_ble_eq_true rfl) (fun G X hR hr hE => ?_)
  refine j_iconst X dX11_isTaken_0 4 (by decide) ?_
  refine j_iload X dX11_isTaken_1 rfl ?_
  refine s_callSi X hR (m_power np _ _ s (by omega)) rfl u1225 u1223 u1224 u12 hyX11_power (by decide) (by decide) (Nat.le_of_ble_eq_true rfl) dX11_isTaken_3 (fun v_3 m_3 h_3 => ?_)
  obtain ⟨e1, e2⟩ := h_3; have e1 := e1.symm; have e2 := e2.symm; subst e1; subst e2
  refine j_iload_n X dX11_isTaken_6 rfl ?_
  refine j_iconst X dX11_isTaken_7 4 (by decide) ?_
  refine j_aload_n X dX11_isTaken_8 rfl ?_
  refine j_getR X 11 14 (by decide) (by decide) rfl u964 (o66 np) (k66 np) _ (p66_14 np) dX11_isTaken_9 ?_
  refine j_iload_n X dX11_isTaken_12 rfl ?_
  refine j_nrm _ (by first | (simp only [fa_lit, pk_mul, nI_add]; done) | (simp only [fa_lit, pk_mul, nI_add]; rfl) | rfl) ?_
  refine j_ialdN X (o78 np) (k78 np) (by rw [l78]; omega) (by rw [l78]; decide) (mem 78) rfl dX11_isTaken_13 ?_
  refine j_nrm _ hw ?_
  refine s_callSi X hR (m_power np _ _ w (by omega)) rfl u1225 u1223 u1224 u12 hyX11_power (by decide) (by decide) (Nat.le_of_ble_eq_true rfl) dX11_isTaken_14 (fun v_14 m_14 h_14 => ?_)
  obtain ⟨e1, e2⟩ := h_14; have e1 := e1.symm; have e2 := e2.symm; subst e1; subst e2
  refine j_iload_n X dX11_isTaken_17 rfl ?_
  refine s_callSi X hR (m_power np _ _ y (by omega)) rfl u1225 u1223 u1224 u12 hyX11_power (by decide) (by decide) (Nat.le_of_ble_eq_true rfl) dX11_isTaken_18 (fun v_18 m_18 h_18 => ?_)
  obtain ⟨e1, e2⟩ := h_18; have e1 := e1.symm; have e2 := e2.symm; subst e1; subst e2
  refine j_imul X dX11_isTaken_21 ?_
  refine j_bipush X dX11_isTaken_22 47 (by decide) ?_
  refine j_irem X dX11_isTaken_24 (by decide) ?_
  refine j_icmp_ne X 32 dX11_isTaken_25 (by decide) (fun c_25 => ?_) (fun c_25 => ?_)
  · refine j_iconst X dX11_isTaken_32 0 (by decide) ?_
    refine s_iret X hE hr dX11_isTaken_33 (by first | exact jb_nar | rfl) ?_
    refine ⟨?_, rfl⟩
    first | exact (jb_t c_25).symm | exact (jb_f c_25).symm
  · refine j_iconst X dX11_isTaken_28 1 (by decide) ?_
    refine j_goto X 33 dX11_isTaken_29 (by decide) ?_
    refine s_iret X hE hr dX11_isTaken_33 (by first | exact jb_nar | rfl) ?_
    refine ⟨?_, rfl⟩
    first | exact (jb_t c_25).symm | exact (jb_f c_25).symm
set_option maxRecDepth 4000 in
set_option maxHeartbeats 1000000 in
theorem m_taken_bad (np : Nat) (mem : jMem) (b t y s : Int32) (h : ¬ (jin b 0 5 ∧ jin t 0 46 ∧ jin y 0 22 ∧ jin s 0 22)) : jPi yX11_taken cX11_taken 5 .int 3 [.ref 66, .int b, .int t, .int y, .int s] np mem (fun v c => v = -1000001 ∧ c = jup mem 66 0 0) := by
  refine jPi.of (own := RX11) rfl rfl (Nat.le_of_ble_eq_true rfl) (fun G X hR hr hE => ?_)
  refine j_aload_n X dX11_taken_0 rfl ?_
  refine j_iconst X dX11_taken_1 0 (by decide) ?_
  refine j_putI X 11 0 (by decide) (by decide) rfl rfl rfl rfl u950 (o66 np) (k66 np) dX11_taken_2 ?_
  refine j_iload_n X dX11_taken_5 rfl ?_
  refine s_callSi X hR (m_isBearer np _ _) rfl u1221 u1219 u1220 u12 hyX11_isBearer (by decide) (by decide) (Nat.le_of_ble_eq_true rfl) dX11_taken_6 (fun v_6 m_6 h_6 => ?_)
  obtain ⟨e1, e2⟩ := h_6; have e1 := e1.symm; have e2 := e2.symm; subst e1; subst e2
  refine j_ifb_eq X 49 dX11_taken_9 (by decide) (fun c_9 => ?_) (fun c_9 => ?_)
  · refine j_ldc X dX11_taken_49 u1089 ?_
    refine s_iret X hE hr dX11_taken_51 rfl ?_
    first | exact ⟨rfl, rfl⟩ | (exfalso; clear hE hr hR X; (try simp only [lg_cmp_lt, lg_cmp_gt, lg_cmp_le, lg_cmp_ge] at *); (try simp (disch := omega) only [Int64.le_iff_toInt_le, Int64.lt_iff_toInt_lt, Int32.le_iff_toInt_le, Int32.lt_iff_toInt_lt, fa_eq, fa_lit, fa_litL, nI_toInt, pk_lT, Int32.toInt_toInt64, jadd64, jin, jnoneT] at *); omega)
  · refine j_iload_n X dX11_taken_12 rfl ?_
    refine j_i2l X dX11_taken_13 ?_
    refine j_lconst X dX11_taken_14 0 (by decide) ?_
    refine j_ldc2 X dX11_taken_15 u1234 ?_
    refine s_callSi X hR (m_inI np _ _ _ _ 0 46 rfl rfl) rfl u1087 u1085 u1086 u12 hyX11_in (by decide) (by decide) (Nat.le_of_ble_eq_true rfl) dX11_taken_18 (fun v_18 m_18 h_18 => ?_)
    obtain ⟨e1, e2⟩ := h_18; have e1 := e1.symm; have e2 := e2.symm; subst e1; subst e2
    refine j_ifb_eq X 49 dX11_taken_21 (by decide) (fun c_21 => ?_) (fun c_21 => ?_)
    · refine j_ldc X dX11_taken_49 u1089 ?_
      refine s_iret X hE hr dX11_taken_51 rfl ?_
      first | exact ⟨rfl, rfl⟩ | (exfalso; clear hE hr hR X; (try simp only [lg_cmp_lt, lg_cmp_gt, lg_cmp_le, lg_cmp_ge] at *); (try simp (disch := omega) only [Int64.le_iff_toInt_le, Int64.lt_iff_toInt_lt, Int32.le_iff_toInt_le, Int32.lt_iff_toInt_lt, fa_eq, fa_lit, fa_litL, nI_toInt, pk_lT, Int32.toInt_toInt64, jadd64, jin, jnoneT] at *); omega)
    · refine j_iload_n X dX11_taken_24 rfl ?_
      refine j_i2l X dX11_taken_25 ?_
      refine j_lconst X dX11_taken_26 0 (by decide) ?_
      refine j_ldc2 X dX11_taken_27 u1222 ?_
      refine s_callSi X hR (m_inI np _ _ _ _ 0 22 rfl rfl) rfl u1087 u1085 u1086 u12 hyX11_in (by decide) (by decide) (Nat.le_of_ble_eq_true rfl) dX11_taken_30 (fun v_30 m_30 h_30 => ?_)
      obtain ⟨e1, e2⟩ := h_30; have e1 := e1.symm; have e2 := e2.symm; subst e1; subst e2
      refine j_ifb_eq X 49 dX11_taken_33 (by decide) (fun c_33 => ?_) (fun c_33 => ?_)
      · refine j_ldc X dX11_taken_49 u1089 ?_
        refine s_iret X hE hr dX11_taken_51 rfl ?_
        first | exact ⟨rfl, rfl⟩ | (exfalso; clear hE hr hR X; (try simp only [lg_cmp_lt, lg_cmp_gt, lg_cmp_le, lg_cmp_ge] at *); (try simp (disch := omega) only [Int64.le_iff_toInt_le, Int64.lt_iff_toInt_lt, Int32.le_iff_toInt_le, Int32.lt_iff_toInt_lt, fa_eq, fa_lit, fa_litL, nI_toInt, pk_lT, Int32.toInt_toInt64, jadd64, jin, jnoneT] at *); omega)
      · refine j_iload X dX11_taken_36 rfl ?_
        refine j_i2l X dX11_taken_38 ?_
        refine j_lconst X dX11_taken_39 0 (by decide) ?_
        refine j_ldc2 X dX11_taken_40 u1222 ?_
        refine s_callSi X hR (m_inI np _ _ _ _ 0 22 rfl rfl) rfl u1087 u1085 u1086 u12 hyX11_in (by decide) (by decide) (Nat.le_of_ble_eq_true rfl) dX11_taken_43 (fun v_43 m_43 h_43 => ?_)
        obtain ⟨e1, e2⟩ := h_43; have e1 := e1.symm; have e2 := e2.symm; subst e1; subst e2
        refine j_ifb_ne X 52 dX11_taken_46 (by decide) (fun c_46 => ?_) (fun c_46 => ?_)
        · exfalso
          clear hE hr hR X
          (try simp only [lg_cmp_lt, lg_cmp_gt, lg_cmp_le, lg_cmp_ge] at *); (try simp (disch := omega) only [Int64.le_iff_toInt_le, Int64.lt_iff_toInt_lt, Int32.le_iff_toInt_le, Int32.lt_iff_toInt_lt, fa_eq, fa_lit, fa_litL, nI_toInt, pk_lT, Int32.toInt_toInt64, jadd64, jin, jnoneT] at *); omega
        · refine j_ldc X dX11_taken_49 u1089 ?_
          refine s_iret X hE hr dX11_taken_51 rfl ?_
          first | exact ⟨rfl, rfl⟩ | (exfalso; clear hE hr hR X; (try simp only [lg_cmp_lt, lg_cmp_gt, lg_cmp_le, lg_cmp_ge] at *); (try simp (disch := omega) only [Int64.le_iff_toInt_le, Int64.lt_iff_toInt_lt, Int32.le_iff_toInt_le, Int32.lt_iff_toInt_lt, fa_eq, fa_lit, fa_litL, nI_toInt, pk_lT, Int32.toInt_toInt64, jadd64, jin, jnoneT] at *); omega)
set_option maxRecDepth 4000 in
set_option maxHeartbeats 1000000 in
theorem m_taken (np : Nat) (mem : jMem) (b w y s : Nat) (t : Int32) (hb : b < 6) (hw : mem 78 b = nI w) (hw2 : w ≤ 22) (ht : jin t 0 46) (hy : y ≤ 22) (hs : s ≤ 22) : jPi yX11_taken cX11_taken 5 .int 3 [.ref 66, .int (nI b), .int t, .int (nI y), .int (nI s)] np mem (fun v c => v = jb (jPow 4 47 s = jRem (t * jPow (jPow 4 47 w) 47 y) 47) ∧ c = jup mem 66 0 0) := by
  refine jPi.of (own := RX11) rfl rfl (Nat.le_of_ble_eq_true rfl) (fun G X hR hr hE => ?_)
  refine j_aload_n X dX11_taken_0 rfl ?_
  refine j_iconst X dX11_taken_1 0 (by decide) ?_
  refine j_putI X 11 0 (by decide) (by decide) rfl rfl rfl rfl u950 (o66 np) (k66 np) dX11_taken_2 ?_
  refine j_iload_n X dX11_taken_5 rfl ?_
  refine s_callSi X hR (m_isBearer np _ _) rfl u1221 u1219 u1220 u12 hyX11_isBearer (by decide) (by decide) (Nat.le_of_ble_eq_true rfl) dX11_taken_6 (fun v_6 m_6 h_6 => ?_)
  obtain ⟨e1, e2⟩ := h_6; have e1 := e1.symm; have e2 := e2.symm; subst e1; subst e2
  refine j_ifb_eq X 49 dX11_taken_9 (by decide) (fun c_9 => ?_) (fun c_9 => ?_)
  · exfalso
    clear hE hr hR X
    (try simp only [lg_cmp_lt, lg_cmp_gt, lg_cmp_le, lg_cmp_ge] at *); (try simp (disch := omega) only [Int64.le_iff_toInt_le, Int64.lt_iff_toInt_lt, Int32.le_iff_toInt_le, Int32.lt_iff_toInt_lt, fa_eq, fa_lit, fa_litL, nI_toInt, pk_lT, Int32.toInt_toInt64, jadd64, jin, jnoneT] at *); omega
  · refine j_iload_n X dX11_taken_12 rfl ?_
    refine j_i2l X dX11_taken_13 ?_
    refine j_lconst X dX11_taken_14 0 (by decide) ?_
    refine j_ldc2 X dX11_taken_15 u1234 ?_
    refine s_callSi X hR (m_inI np _ _ _ _ 0 46 rfl rfl) rfl u1087 u1085 u1086 u12 hyX11_in (by decide) (by decide) (Nat.le_of_ble_eq_true rfl) dX11_taken_18 (fun v_18 m_18 h_18 => ?_)
    obtain ⟨e1, e2⟩ := h_18; have e1 := e1.symm; have e2 := e2.symm; subst e1; subst e2
    refine j_ifb_eq X 49 dX11_taken_21 (by decide) (fun c_21 => ?_) (fun c_21 => ?_)
    · exfalso
      clear hE hr hR X
      (try simp only [lg_cmp_lt, lg_cmp_gt, lg_cmp_le, lg_cmp_ge] at *); (try simp (disch := omega) only [Int64.le_iff_toInt_le, Int64.lt_iff_toInt_lt, Int32.le_iff_toInt_le, Int32.lt_iff_toInt_lt, fa_eq, fa_lit, fa_litL, nI_toInt, pk_lT, Int32.toInt_toInt64, jadd64, jin, jnoneT] at *); omega
    · refine j_iload_n X dX11_taken_24 rfl ?_
      refine j_i2l X dX11_taken_25 ?_
      refine j_lconst X dX11_taken_26 0 (by decide) ?_
      refine j_ldc2 X dX11_taken_27 u1222 ?_
      refine s_callSi X hR (m_inI np _ _ _ _ 0 22 rfl rfl) rfl u1087 u1085 u1086 u12 hyX11_in (by decide) (by decide) (Nat.le_of_ble_eq_true rfl) dX11_taken_30 (fun v_30 m_30 h_30 => ?_)
      obtain ⟨e1, e2⟩ := h_30; have e1 := e1.symm; have e2 := e2.symm; subst e1; subst e2
      refine j_ifb_eq X 49 dX11_taken_33 (by decide) (fun c_33 => ?_) (fun c_33 => ?_)
      · exfalso
        clear hE hr hR X
        (try simp only [lg_cmp_lt, lg_cmp_gt, lg_cmp_le, lg_cmp_ge] at *); (try simp (disch := omega) only [Int64.le_iff_toInt_le, Int64.lt_iff_toInt_lt, Int32.le_iff_toInt_le, Int32.lt_iff_toInt_lt, fa_eq, fa_lit, fa_litL, nI_toInt, pk_lT, Int32.toInt_toInt64, jadd64, jin, jnoneT] at *); omega
      · refine j_iload X dX11_taken_36 rfl ?_
        refine j_i2l X dX11_taken_38 ?_
        refine j_lconst X dX11_taken_39 0 (by decide) ?_
        refine j_ldc2 X dX11_taken_40 u1222 ?_
        refine s_callSi X hR (m_inI np _ _ _ _ 0 22 rfl rfl) rfl u1087 u1085 u1086 u12 hyX11_in (by decide) (by decide) (Nat.le_of_ble_eq_true rfl) dX11_taken_43 (fun v_43 m_43 h_43 => ?_)
        obtain ⟨e1, e2⟩ := h_43; have e1 := e1.symm; have e2 := e2.symm; subst e1; subst e2
        refine j_ifb_ne X 52 dX11_taken_46 (by decide) (fun c_46 => ?_) (fun c_46 => ?_)
        · refine j_aload_n X dX11_taken_52 rfl ?_
          refine j_iload_n X dX11_taken_53 rfl ?_
          refine j_iload_n X dX11_taken_54 rfl ?_
          refine j_iload_n X dX11_taken_55 rfl ?_
          refine j_iload X dX11_taken_56 rfl ?_
          refine s_callVi X hR (m_isTaken np _ b w y s t hb hw hw2 hy hs) rfl 11 (by decide) (o66 np) (k66 np) rfl u1238 u1235 u1237 qp47 u12 hyX11_isTaken (by decide) (by decide) (Nat.le_of_ble_eq_true rfl) dX11_taken_58 (fun v_58 m_58 h_58 => ?_)
          obtain ⟨e1, e2⟩ := h_58; have e1 := e1.symm; have e2 := e2.symm; subst e1; subst e2
          refine j_ifb_eq X 68 dX11_taken_61 (by decide) (fun c_61 => ?_) (fun c_61 => ?_)
          · refine j_iconst X dX11_taken_68 0 (by decide) ?_
            refine s_iret X hE hr dX11_taken_69 rfl ?_
            refine ⟨?_, rfl⟩
            first | exact (jb_t c_61).symm | exact (jb_f c_61).symm
          · refine j_iconst X dX11_taken_64 1 (by decide) ?_
            refine j_goto X 69 dX11_taken_65 (by decide) ?_
            refine s_iret X hE hr dX11_taken_69 rfl ?_
            refine ⟨?_, rfl⟩
            first | exact (jb_t c_61).symm | exact (jb_f c_61).symm
        · exfalso
          clear hE hr hR X
          (try simp only [lg_cmp_lt, lg_cmp_gt, lg_cmp_le, lg_cmp_ge] at *); (try simp (disch := omega) only [Int64.le_iff_toInt_le, Int64.lt_iff_toInt_lt, Int32.le_iff_toInt_le, Int32.lt_iff_toInt_lt, fa_eq, fa_lit, fa_litL, nI_toInt, pk_lT, Int32.toInt_toInt64, jadd64, jin, jnoneT] at *); omega
set_option maxRecDepth 4000 in
set_option maxHeartbeats 1000000 in
theorem m_odds_bad (np : Nat) (mem : jMem) (b t s : Int32) (h : ¬ (jin b 0 5 ∧ jin t 0 46 ∧ jin s 0 22)) : jPi yX11_odds cX11_odds 6 .int 3 [.ref 66, .int b, .int t, .int s] np mem (fun v c => v = -1000001 ∧ c = jup mem 66 0 0) := by
  refine jPi.of (own := RX11) rfl rfl (Nat.le_of_ble_eq_true rfl) (fun G X hR hr hE => ?_)
  refine j_aload_n X dX11_odds_0 rfl ?_
  refine j_iconst X dX11_odds_1 0 (by decide) ?_
  refine j_putI X 11 0 (by decide) (by decide) rfl rfl rfl rfl u950 (o66 np) (k66 np) dX11_odds_2 ?_
  refine j_iload_n X dX11_odds_5 rfl ?_
  refine s_callSi X hR (m_isBearer np _ _) rfl u1221 u1219 u1220 u12 hyX11_isBearer (by decide) (by decide) (Nat.le_of_ble_eq_true rfl) dX11_odds_6 (fun v_6 m_6 h_6 => ?_)
  obtain ⟨e1, e2⟩ := h_6; have e1 := e1.symm; have e2 := e2.symm; subst e1; subst e2
  refine j_ifb_eq X 36 dX11_odds_9 (by decide) (fun c_9 => ?_) (fun c_9 => ?_)
  · refine j_ldc X dX11_odds_36 u1089 ?_
    refine s_iret X hE hr dX11_odds_38 rfl ?_
    first | exact ⟨rfl, rfl⟩ | (exfalso; clear hE hr hR X; (try simp only [lg_cmp_lt, lg_cmp_gt, lg_cmp_le, lg_cmp_ge] at *); (try simp (disch := omega) only [Int64.le_iff_toInt_le, Int64.lt_iff_toInt_lt, Int32.le_iff_toInt_le, Int32.lt_iff_toInt_lt, fa_eq, fa_lit, fa_litL, nI_toInt, pk_lT, Int32.toInt_toInt64, jadd64, jin, jnoneT] at *); omega)
  · refine j_iload_n X dX11_odds_12 rfl ?_
    refine j_i2l X dX11_odds_13 ?_
    refine j_lconst X dX11_odds_14 0 (by decide) ?_
    refine j_ldc2 X dX11_odds_15 u1234 ?_
    refine s_callSi X hR (m_inI np _ _ _ _ 0 46 rfl rfl) rfl u1087 u1085 u1086 u12 hyX11_in (by decide) (by decide) (Nat.le_of_ble_eq_true rfl) dX11_odds_18 (fun v_18 m_18 h_18 => ?_)
    obtain ⟨e1, e2⟩ := h_18; have e1 := e1.symm; have e2 := e2.symm; subst e1; subst e2
    refine j_ifb_eq X 36 dX11_odds_21 (by decide) (fun c_21 => ?_) (fun c_21 => ?_)
    · refine j_ldc X dX11_odds_36 u1089 ?_
      refine s_iret X hE hr dX11_odds_38 rfl ?_
      first | exact ⟨rfl, rfl⟩ | (exfalso; clear hE hr hR X; (try simp only [lg_cmp_lt, lg_cmp_gt, lg_cmp_le, lg_cmp_ge] at *); (try simp (disch := omega) only [Int64.le_iff_toInt_le, Int64.lt_iff_toInt_lt, Int32.le_iff_toInt_le, Int32.lt_iff_toInt_lt, fa_eq, fa_lit, fa_litL, nI_toInt, pk_lT, Int32.toInt_toInt64, jadd64, jin, jnoneT] at *); omega)
    · refine j_iload_n X dX11_odds_24 rfl ?_
      refine j_i2l X dX11_odds_25 ?_
      refine j_lconst X dX11_odds_26 0 (by decide) ?_
      refine j_ldc2 X dX11_odds_27 u1222 ?_
      refine s_callSi X hR (m_inI np _ _ _ _ 0 22 rfl rfl) rfl u1087 u1085 u1086 u12 hyX11_in (by decide) (by decide) (Nat.le_of_ble_eq_true rfl) dX11_odds_30 (fun v_30 m_30 h_30 => ?_)
      obtain ⟨e1, e2⟩ := h_30; have e1 := e1.symm; have e2 := e2.symm; subst e1; subst e2
      refine j_ifb_ne X 39 dX11_odds_33 (by decide) (fun c_33 => ?_) (fun c_33 => ?_)
      · exfalso
        clear hE hr hR X
        (try simp only [lg_cmp_lt, lg_cmp_gt, lg_cmp_le, lg_cmp_ge] at *); (try simp (disch := omega) only [Int64.le_iff_toInt_le, Int64.lt_iff_toInt_lt, Int32.le_iff_toInt_le, Int32.lt_iff_toInt_lt, fa_eq, fa_lit, fa_litL, nI_toInt, pk_lT, Int32.toInt_toInt64, jadd64, jin, jnoneT] at *); omega
      · refine j_ldc X dX11_odds_36 u1089 ?_
        refine s_iret X hE hr dX11_odds_38 rfl ?_
        first | exact ⟨rfl, rfl⟩ | (exfalso; clear hE hr hR X; (try simp only [lg_cmp_lt, lg_cmp_gt, lg_cmp_le, lg_cmp_ge] at *); (try simp (disch := omega) only [Int64.le_iff_toInt_le, Int64.lt_iff_toInt_lt, Int32.le_iff_toInt_le, Int32.lt_iff_toInt_lt, fa_eq, fa_lit, fa_litL, nI_toInt, pk_lT, Int32.toInt_toInt64, jadd64, jin, jnoneT] at *); omega)
set_option maxRecDepth 4000 in
set_option maxHeartbeats 1000000 in
theorem m_odds (np : Nat) (mem : jMem) (b w s : Nat) (t : Int32) (hb : b < 6) (hw : mem 78 b = nI w) (hw2 : w ≤ 22) (ht : jin t 0 46) (hs : s ≤ 22) : jPi yX11_odds cX11_odds 6 .int 3 [.ref 66, .int (nI b), .int t, .int (nI s)] np mem (fun v c => v = nI (jCnt (fun y => jPow 4 47 s = jRem (t * jPow (jPow 4 47 w) 47 y) 47) 23) ∧ c = jup mem 66 0 0) := by
  refine jPi.of (own := RX11) rfl rfl (Nat.le_of_ble_eq_true rfl) (fun G X hR hr hE => ?_)
  refine j_aload_n X dX11_odds_0 rfl ?_
  refine j_iconst X dX11_odds_1 0 (by decide) ?_
  refine j_putI X 11 0 (by decide) (by decide) rfl rfl rfl rfl u950 (o66 np) (k66 np) dX11_odds_2 ?_
  refine j_iload_n X dX11_odds_5 rfl ?_
  refine s_callSi X hR (m_isBearer np _ _) rfl u1221 u1219 u1220 u12 hyX11_isBearer (by decide) (by decide) (Nat.le_of_ble_eq_true rfl) dX11_odds_6 (fun v_6 m_6 h_6 => ?_)
  obtain ⟨e1, e2⟩ := h_6; have e1 := e1.symm; have e2 := e2.symm; subst e1; subst e2
  refine j_ifb_eq X 36 dX11_odds_9 (by decide) (fun c_9 => ?_) (fun c_9 => ?_)
  · exfalso
    clear hE hr hR X
    (try simp only [lg_cmp_lt, lg_cmp_gt, lg_cmp_le, lg_cmp_ge] at *); (try simp (disch := omega) only [Int64.le_iff_toInt_le, Int64.lt_iff_toInt_lt, Int32.le_iff_toInt_le, Int32.lt_iff_toInt_lt, fa_eq, fa_lit, fa_litL, nI_toInt, pk_lT, Int32.toInt_toInt64, jadd64, jin, jnoneT] at *); omega
  · refine j_iload_n X dX11_odds_12 rfl ?_
    refine j_i2l X dX11_odds_13 ?_
    refine j_lconst X dX11_odds_14 0 (by decide) ?_
    refine j_ldc2 X dX11_odds_15 u1234 ?_
    refine s_callSi X hR (m_inI np _ _ _ _ 0 46 rfl rfl) rfl u1087 u1085 u1086 u12 hyX11_in (by decide) (by decide) (Nat.le_of_ble_eq_true rfl) dX11_odds_18 (fun v_18 m_18 h_18 => ?_)
    obtain ⟨e1, e2⟩ := h_18; have e1 := e1.symm; have e2 := e2.symm; subst e1; subst e2
    refine j_ifb_eq X 36 dX11_odds_21 (by decide) (fun c_21 => ?_) (fun c_21 => ?_)
    · exfalso
      clear hE hr hR X
      (try simp only [lg_cmp_lt, lg_cmp_gt, lg_cmp_le, lg_cmp_ge] at *); (try simp (disch := omega) only [Int64.le_iff_toInt_le, Int64.lt_iff_toInt_lt, Int32.le_iff_toInt_le, Int32.lt_iff_toInt_lt, fa_eq, fa_lit, fa_litL, nI_toInt, pk_lT, Int32.toInt_toInt64, jadd64, jin, jnoneT] at *); omega
    · refine j_iload_n X dX11_odds_24 rfl ?_
      refine j_i2l X dX11_odds_25 ?_
      refine j_lconst X dX11_odds_26 0 (by decide) ?_
      refine j_ldc2 X dX11_odds_27 u1222 ?_
      refine s_callSi X hR (m_inI np _ _ _ _ 0 22 rfl rfl) rfl u1087 u1085 u1086 u12 hyX11_in (by decide) (by decide) (Nat.le_of_ble_eq_true rfl) dX11_odds_30 (fun v_30 m_30 h_30 => ?_)
      obtain ⟨e1, e2⟩ := h_30; have e1 := e1.symm; have e2 := e2.symm; subst e1; subst e2
      refine j_ifb_ne X 39 dX11_odds_33 (by decide) (fun c_33 => ?_) (fun c_33 => ?_)
      · refine j_iconst X dX11_odds_39 0 (by decide) ?_
        refine j_istore X dX11_odds_40 (by decide) ?_
        refine j_iconst X dX11_odds_42 0 (by decide) ?_
        refine j_istore X dX11_odds_43 (by decide) ?_
        have lp45 : ∀ (n : Nat) (j : Nat), j ≤ 23 → 24 ≤ j + n → J G RX11 cX11_odds 6 0 0 45 (jlv [some (.ref 66), some (.int (nI b)), some (.int t), some (.int (nI s)), some (.int (nI (jCnt (fun y => jPow 4 47 s = jRem (t * jPow (jPow 4 47 w) 47 y) 47) j))), some (.int (nI j))]) [] (jS np) (jup mem 66 0 0) := by
          intro n
          induction n with
          | zero =>
            intro j hj hn
            exact absurd hn (by omega)
          | succ n ih45 =>
            intro j hj hn
            refine j_iload X dX11_odds_45 rfl ?_
            refine j_bipush X dX11_odds_47 23 (by decide) ?_
            refine j_icmp_ge X 80 dX11_odds_49 (by decide) (fun c_49 => ?_) (fun c_49 => ?_)
            · obtain rfl : j = 23 := by clear hE hr hR X; (try simp only [lg_cmp_lt, lg_cmp_gt, lg_cmp_le, lg_cmp_ge] at *); (try simp (disch := omega) only [Int64.le_iff_toInt_le, Int64.lt_iff_toInt_lt, Int32.le_iff_toInt_le, Int32.lt_iff_toInt_lt, fa_eq, fa_lit, fa_litL, nI_toInt, pk_lT, Int32.toInt_toInt64, jadd64, jin, jnoneT] at *); omega
              refine j_iload X dX11_odds_80 rfl ?_
              refine s_iret X hE hr dX11_odds_82 rfl ?_
              first | exact ⟨rfl, rfl⟩ | (exfalso; clear hE hr hR X; (try simp only [lg_cmp_lt, lg_cmp_gt, lg_cmp_le, lg_cmp_ge] at *); (try simp (disch := omega) only [Int64.le_iff_toInt_le, Int64.lt_iff_toInt_lt, Int32.le_iff_toInt_le, Int32.lt_iff_toInt_lt, fa_eq, fa_lit, fa_litL, nI_toInt, pk_lT, Int32.toInt_toInt64, jadd64, jin, jnoneT] at *); omega)
            · have hj2 : j < 23 := by clear hE hr hR X; (try simp only [lg_cmp_lt, lg_cmp_gt, lg_cmp_le, lg_cmp_ge] at *); (try simp (disch := omega) only [Int64.le_iff_toInt_le, Int64.lt_iff_toInt_lt, Int32.le_iff_toInt_le, Int32.lt_iff_toInt_lt, fa_eq, fa_lit, fa_litL, nI_toInt, pk_lT, Int32.toInt_toInt64, jadd64, jin, jnoneT] at *); omega
              refine j_iload X dX11_odds_52 rfl ?_
              refine j_aload_n X dX11_odds_54 rfl ?_
              refine j_iload_n X dX11_odds_55 rfl ?_
              refine j_iload_n X dX11_odds_56 rfl ?_
              refine j_iload X dX11_odds_57 rfl ?_
              refine j_iload_n X dX11_odds_59 rfl ?_
              refine s_callVi X hR (m_isTaken np _ b w j s t hb hw hw2 (by omega) hs) rfl 11 (by decide) (o66 np) (k66 np) rfl u1238 u1235 u1237 qp47 u12 hyX11_isTaken (by decide) (by decide) (Nat.le_of_ble_eq_true rfl) dX11_odds_60 (fun v_60 m_60 h_60 => ?_)
              obtain ⟨e1, e2⟩ := h_60; have e1 := e1.symm; have e2 := e2.symm; subst e1; subst e2
              refine j_ifb_eq X 70 dX11_odds_63 (by decide) (fun c_63 => ?_) (fun c_63 => ?_)
              · refine j_iconst X dX11_odds_70 0 (by decide) ?_
                refine j_iadd X dX11_odds_71 ?_
                refine j_istore X dX11_odds_72 (by decide) ?_
                refine j_iinc X dX11_odds_74 rfl 1 rfl ?_
                refine j_goto X 45 dX11_odds_77 (by decide) ?_
                refine j_lv [some (.ref 66), some (.int (nI b)), some (.int t), some (.int (nI s)), some (.int (nI (jCnt (fun y => jPow 4 47 s = jRem (t * jPow (jPow 4 47 w) 47 y) 47) (j + 1)))), some (.int (nI (j + 1)))] ⟨rfl, rfl, rfl, rfl, (congrArg (fun z => some (Value.int z)) (by first | exact jCnt_t (by exact c_63) | exact jCnt_f (by exact c_63))), (by rw [← nI_1]; rfl), trivial⟩ ?_
                exact ih45 (j + 1) (by omega) (by omega)
              · refine j_iconst X dX11_odds_66 1 (by decide) ?_
                refine j_goto X 71 dX11_odds_67 (by decide) ?_
                refine j_iadd X dX11_odds_71 ?_
                refine j_istore X dX11_odds_72 (by decide) ?_
                refine j_iinc X dX11_odds_74 rfl 1 rfl ?_
                refine j_goto X 45 dX11_odds_77 (by decide) ?_
                refine j_lv [some (.ref 66), some (.int (nI b)), some (.int t), some (.int (nI s)), some (.int (nI (jCnt (fun y => jPow 4 47 s = jRem (t * jPow (jPow 4 47 w) 47 y) 47) (j + 1)))), some (.int (nI (j + 1)))] ⟨rfl, rfl, rfl, rfl, (congrArg (fun z => some (Value.int z)) (by first | exact jCnt_t (by exact c_63) | exact jCnt_f (by exact c_63))), (by rw [← nI_1]; rfl), trivial⟩ ?_
                exact ih45 (j + 1) (by omega) (by omega)
        refine j_lv [some (.ref 66), some (.int (nI b)), some (.int t), some (.int (nI s)), some (.int (nI (jCnt (fun y => jPow 4 47 s = jRem (t * jPow (jPow 4 47 w) 47 y) 47) 0))), some (.int (nI 0))] ⟨rfl, rfl, rfl, rfl, rfl, rfl, trivial⟩ ?_
        exact lp45 24 0 (by omega) (by omega)
      · exfalso
        clear hE hr hR X
        (try simp only [lg_cmp_lt, lg_cmp_gt, lg_cmp_le, lg_cmp_ge] at *); (try simp (disch := omega) only [Int64.le_iff_toInt_le, Int64.lt_iff_toInt_lt, Int32.le_iff_toInt_le, Int32.lt_iff_toInt_lt, fa_eq, fa_lit, fa_litL, nI_toInt, pk_lT, Int32.toInt_toInt64, jadd64, jin, jnoneT] at *); omega
set_option maxRecDepth 4000 in
set_option maxHeartbeats 1000000 in
theorem m_partOf (np : Nat) (mem : jMem) (s f : Int32) (k : Nat) (hk : 1 ≤ k) (hk2 : k ≤ 4) : jPi yX11_partOf cX11_partOf 6 .int 1 [.int s, .int (nI k), .int f] np mem (fun v c => v = (jPart s f (k - 1)).1 ∧ c = mem) := by
  refine jPi.of (own := RX11) rfl rfl (Nat.le_of_ble_eq_true rfl) (fun G X hR hr hE => ?_)
  refine j_iload_n X dX11_partOf_0 rfl ?_
  refine j_istore_n X dX11_partOf_1 (by decide) ?_
  refine j_iconst X dX11_partOf_2 1 (by decide) ?_
  refine j_istore X dX11_partOf_3 (by decide) ?_
  refine j_iconst X dX11_partOf_5 1 (by decide) ?_
  refine j_istore X dX11_partOf_6 (by decide) ?_
  have lp8 : ∀ (n : Nat) (j : Nat), j + 1 ≤ k → k ≤ j + n → J G RX11 cX11_partOf 6 0 0 8 (jlv [some (.int s), some (.int (nI k)), some (.int f), some (.int (jPart s f j).1), some (.int (jPart s f j).2), some (.int (nI (j + 1)))]) [] (jS np) (mem) := by
    intro n
    induction n with
    | zero =>
      intro j hj hn
      exact absurd hn (by omega)
    | succ n ih8 =>
      intro j hj hn
      refine j_iload X dX11_partOf_8 rfl ?_
      refine j_iload_n X dX11_partOf_10 rfl ?_
      refine j_icmp_ge X 58 dX11_partOf_11 (by decide) (fun c_11 => ?_) (fun c_11 => ?_)
      · obtain rfl : k = j + 1 := by clear hE hr hR X; (try simp only [lg_cmp_lt, lg_cmp_gt, lg_cmp_le, lg_cmp_ge] at *); (try simp (disch := omega) only [Int64.le_iff_toInt_le, Int64.lt_iff_toInt_lt, Int32.le_iff_toInt_le, Int32.lt_iff_toInt_lt, fa_eq, fa_lit, fa_litL, nI_toInt, pk_lT, Int32.toInt_toInt64, jadd64, jin, jnoneT] at *); omega
        refine j_iload_n X dX11_partOf_58 rfl ?_
        refine s_iret X hE hr dX11_partOf_59 rfl ?_
        first | exact ⟨rfl, rfl⟩ | (exfalso; clear hE hr hR X; (try simp only [lg_cmp_lt, lg_cmp_gt, lg_cmp_le, lg_cmp_ge] at *); (try simp (disch := omega) only [Int64.le_iff_toInt_le, Int64.lt_iff_toInt_lt, Int32.le_iff_toInt_le, Int32.lt_iff_toInt_lt, fa_eq, fa_lit, fa_litL, nI_toInt, pk_lT, Int32.toInt_toInt64, jadd64, jin, jnoneT] at *); omega)
      · have hj2 : j + 1 < k := by clear hE hr hR X; (try simp only [lg_cmp_lt, lg_cmp_gt, lg_cmp_le, lg_cmp_ge] at *); (try simp (disch := omega) only [Int64.le_iff_toInt_le, Int64.lt_iff_toInt_lt, Int32.le_iff_toInt_le, Int32.lt_iff_toInt_lt, fa_eq, fa_lit, fa_litL, nI_toInt, pk_lT, Int32.toInt_toInt64, jadd64, jin, jnoneT] at *); omega
        refine j_iload X dX11_partOf_14 rfl ?_
        refine j_iload_n X dX11_partOf_16 rfl ?_
        refine j_imul X dX11_partOf_17 ?_
        refine j_sipush X dX11_partOf_18 257 (by decide) ?_
        refine j_irem X dX11_partOf_21 (by decide) ?_
        refine j_istore X dX11_partOf_22 (by decide) ?_
        refine j_iload_n X dX11_partOf_24 rfl ?_
        refine j_iload_n X dX11_partOf_25 rfl ?_
        refine j_iload X dX11_partOf_26 rfl ?_
        refine j_iconst X dX11_partOf_28 3 (by decide) ?_
        refine j_iadd X dX11_partOf_29 ?_
        refine j_imul X dX11_partOf_30 ?_
        refine j_bipush X dX11_partOf_31 11 (by decide) ?_
        refine j_iload X dX11_partOf_33 rfl ?_
        refine j_imul X dX11_partOf_35 ?_
        refine j_iadd X dX11_partOf_36 ?_
        refine j_iconst X dX11_partOf_37 5 (by decide) ?_
        refine j_iadd X dX11_partOf_38 ?_
        refine j_sipush X dX11_partOf_39 257 (by decide) ?_
        refine j_irem X dX11_partOf_42 (by decide) ?_
        refine j_iload X dX11_partOf_43 rfl ?_
        refine j_imul X dX11_partOf_45 ?_
        refine j_iadd X dX11_partOf_46 ?_
        refine j_sipush X dX11_partOf_47 257 (by decide) ?_
        refine j_irem X dX11_partOf_50 (by decide) ?_
        refine j_istore_n X dX11_partOf_51 (by decide) ?_
        refine j_iinc X dX11_partOf_52 rfl 1 rfl ?_
        refine j_goto X 8 dX11_partOf_55 (by decide) ?_
        refine j_lv [some (.int s), some (.int (nI k)), some (.int f), some (.int (jPart s f (j + 1)).1), some (.int (jPart s f (j + 1)).2), some (.int (nI (j + 1 + 1)))] ⟨rfl, rfl, rfl, rfl, rfl, (by rw [← nI_1 (j + 1)]; rfl), trivial⟩ ?_
        exact ih8 (j + 1) (by omega) (by omega)
  refine j_lv [some (.int s), some (.int (nI k)), some (.int f), some (.int (jPart s f 0).1), some (.int (jPart s f 0).2), some (.int (nI (0 + 1)))] ⟨rfl, rfl, rfl, rfl, rfl, rfl, trivial⟩ ?_
  exact lp8 k 0 (by omega) (by omega)
set_option maxRecDepth 4000 in
set_option maxHeartbeats 1000000 in
theorem m_part_bad (np : Nat) (mem : jMem) (s k f : Int32) (h : ¬ (jin s 0 256 ∧ jin k 1 4 ∧ jin f 1 6)) : jPi yX11_part cX11_part 4 .int 2 [.ref 66, .int s, .int k, .int f] np mem (fun v c => v = -1000001 ∧ c = jup mem 66 0 0) := by
  refine jPi.of (own := RX11) rfl rfl (Nat.le_of_ble_eq_true rfl) (fun G X hR hr hE => ?_)
  refine j_aload_n X dX11_part_0 rfl ?_
  refine j_iconst X dX11_part_1 0 (by decide) ?_
  refine j_putI X 11 0 (by decide) (by decide) rfl rfl rfl rfl u950 (o66 np) (k66 np) dX11_part_2 ?_
  refine j_iload_n X dX11_part_5 rfl ?_
  refine j_i2l X dX11_part_6 ?_
  refine j_lconst X dX11_part_7 0 (by decide) ?_
  refine j_ldc2 X dX11_part_8 u1247 ?_
  refine s_callSi X hR (m_inI np _ _ _ _ 0 256 rfl rfl) rfl u1087 u1085 u1086 u12 hyX11_in (by decide) (by decide) (Nat.le_of_ble_eq_true rfl) dX11_part_11 (fun v_11 m_11 h_11 => ?_)
  obtain ⟨e1, e2⟩ := h_11; have e1 := e1.symm; have e2 := e2.symm; subst e1; subst e2
  refine j_ifb_eq X 41 dX11_part_14 (by decide) (fun c_14 => ?_) (fun c_14 => ?_)
  · refine j_ldc X dX11_part_41 u1089 ?_
    refine j_goto X 52 dX11_part_43 (by decide) ?_
    refine s_iret X hE hr dX11_part_52 rfl ?_
    first | exact ⟨rfl, rfl⟩ | (exfalso; clear hE hr hR X; (try simp only [lg_cmp_lt, lg_cmp_gt, lg_cmp_le, lg_cmp_ge] at *); (try simp (disch := omega) only [Int64.le_iff_toInt_le, Int64.lt_iff_toInt_lt, Int32.le_iff_toInt_le, Int32.lt_iff_toInt_lt, fa_eq, fa_lit, fa_litL, nI_toInt, pk_lT, Int32.toInt_toInt64, jadd64, jin, jnoneT] at *); omega)
  · refine j_iload_n X dX11_part_17 rfl ?_
    refine j_i2l X dX11_part_18 ?_
    refine j_lconst X dX11_part_19 1 (by decide) ?_
    refine j_ldc2 X dX11_part_20 u1143 ?_
    refine s_callSi X hR (m_inI np _ _ _ _ 1 4 rfl rfl) rfl u1087 u1085 u1086 u12 hyX11_in (by decide) (by decide) (Nat.le_of_ble_eq_true rfl) dX11_part_23 (fun v_23 m_23 h_23 => ?_)
    obtain ⟨e1, e2⟩ := h_23; have e1 := e1.symm; have e2 := e2.symm; subst e1; subst e2
    refine j_ifb_eq X 41 dX11_part_26 (by decide) (fun c_26 => ?_) (fun c_26 => ?_)
    · refine j_ldc X dX11_part_41 u1089 ?_
      refine j_goto X 52 dX11_part_43 (by decide) ?_
      refine s_iret X hE hr dX11_part_52 rfl ?_
      first | exact ⟨rfl, rfl⟩ | (exfalso; clear hE hr hR X; (try simp only [lg_cmp_lt, lg_cmp_gt, lg_cmp_le, lg_cmp_ge] at *); (try simp (disch := omega) only [Int64.le_iff_toInt_le, Int64.lt_iff_toInt_lt, Int32.le_iff_toInt_le, Int32.lt_iff_toInt_lt, fa_eq, fa_lit, fa_litL, nI_toInt, pk_lT, Int32.toInt_toInt64, jadd64, jin, jnoneT] at *); omega)
    · refine j_iload_n X dX11_part_29 rfl ?_
      refine j_i2l X dX11_part_30 ?_
      refine j_lconst X dX11_part_31 1 (by decide) ?_
      refine j_ldc2 X dX11_part_32 u1248 ?_
      refine s_callSi X hR (m_inI np _ _ _ _ 1 6 rfl rfl) rfl u1087 u1085 u1086 u12 hyX11_in (by decide) (by decide) (Nat.le_of_ble_eq_true rfl) dX11_part_35 (fun v_35 m_35 h_35 => ?_)
      obtain ⟨e1, e2⟩ := h_35; have e1 := e1.symm; have e2 := e2.symm; subst e1; subst e2
      refine j_ifb_ne X 46 dX11_part_38 (by decide) (fun c_38 => ?_) (fun c_38 => ?_)
      · exfalso
        clear hE hr hR X
        (try simp only [lg_cmp_lt, lg_cmp_gt, lg_cmp_le, lg_cmp_ge] at *); (try simp (disch := omega) only [Int64.le_iff_toInt_le, Int64.lt_iff_toInt_lt, Int32.le_iff_toInt_le, Int32.lt_iff_toInt_lt, fa_eq, fa_lit, fa_litL, nI_toInt, pk_lT, Int32.toInt_toInt64, jadd64, jin, jnoneT] at *); omega
      · refine j_ldc X dX11_part_41 u1089 ?_
        refine j_goto X 52 dX11_part_43 (by decide) ?_
        refine s_iret X hE hr dX11_part_52 rfl ?_
        first | exact ⟨rfl, rfl⟩ | (exfalso; clear hE hr hR X; (try simp only [lg_cmp_lt, lg_cmp_gt, lg_cmp_le, lg_cmp_ge] at *); (try simp (disch := omega) only [Int64.le_iff_toInt_le, Int64.lt_iff_toInt_lt, Int32.le_iff_toInt_le, Int32.lt_iff_toInt_lt, fa_eq, fa_lit, fa_litL, nI_toInt, pk_lT, Int32.toInt_toInt64, jadd64, jin, jnoneT] at *); omega)
set_option maxRecDepth 4000 in
set_option maxHeartbeats 1000000 in
theorem m_part (np : Nat) (mem : jMem) (s f : Int32) (k : Nat) (hs : jin s 0 256) (hk : 1 ≤ k) (hk2 : k ≤ 4) (hf : jin f 1 6) : jPi yX11_part cX11_part 4 .int 2 [.ref 66, .int s, .int (nI k), .int f] np mem (fun v c => v = (jPart s f (k - 1)).1 ∧ c = jup mem 66 0 0) := by
  refine jPi.of (own := RX11) rfl rfl (Nat.le_of_ble_eq_true rfl) (fun G X hR hr hE => ?_)
  refine j_aload_n X dX11_part_0 rfl ?_
  refine j_iconst X dX11_part_1 0 (by decide) ?_
  refine j_putI X 11 0 (by decide) (by decide) rfl rfl rfl rfl u950 (o66 np) (k66 np) dX11_part_2 ?_
  refine j_iload_n X dX11_part_5 rfl ?_
  refine j_i2l X dX11_part_6 ?_
  refine j_lconst X dX11_part_7 0 (by decide) ?_
  refine j_ldc2 X dX11_part_8 u1247 ?_
  refine s_callSi X hR (m_inI np _ _ _ _ 0 256 rfl rfl) rfl u1087 u1085 u1086 u12 hyX11_in (by decide) (by decide) (Nat.le_of_ble_eq_true rfl) dX11_part_11 (fun v_11 m_11 h_11 => ?_)
  obtain ⟨e1, e2⟩ := h_11; have e1 := e1.symm; have e2 := e2.symm; subst e1; subst e2
  refine j_ifb_eq X 41 dX11_part_14 (by decide) (fun c_14 => ?_) (fun c_14 => ?_)
  · exfalso
    clear hE hr hR X
    (try simp only [lg_cmp_lt, lg_cmp_gt, lg_cmp_le, lg_cmp_ge] at *); (try simp (disch := omega) only [Int64.le_iff_toInt_le, Int64.lt_iff_toInt_lt, Int32.le_iff_toInt_le, Int32.lt_iff_toInt_lt, fa_eq, fa_lit, fa_litL, nI_toInt, pk_lT, Int32.toInt_toInt64, jadd64, jin, jnoneT] at *); omega
  · refine j_iload_n X dX11_part_17 rfl ?_
    refine j_i2l X dX11_part_18 ?_
    refine j_lconst X dX11_part_19 1 (by decide) ?_
    refine j_ldc2 X dX11_part_20 u1143 ?_
    refine s_callSi X hR (m_inI np _ _ _ _ 1 4 rfl rfl) rfl u1087 u1085 u1086 u12 hyX11_in (by decide) (by decide) (Nat.le_of_ble_eq_true rfl) dX11_part_23 (fun v_23 m_23 h_23 => ?_)
    obtain ⟨e1, e2⟩ := h_23; have e1 := e1.symm; have e2 := e2.symm; subst e1; subst e2
    refine j_ifb_eq X 41 dX11_part_26 (by decide) (fun c_26 => ?_) (fun c_26 => ?_)
    · exfalso
      clear hE hr hR X
      (try simp only [lg_cmp_lt, lg_cmp_gt, lg_cmp_le, lg_cmp_ge] at *); (try simp (disch := omega) only [Int64.le_iff_toInt_le, Int64.lt_iff_toInt_lt, Int32.le_iff_toInt_le, Int32.lt_iff_toInt_lt, fa_eq, fa_lit, fa_litL, nI_toInt, pk_lT, Int32.toInt_toInt64, jadd64, jin, jnoneT] at *); omega
    · refine j_iload_n X dX11_part_29 rfl ?_
      refine j_i2l X dX11_part_30 ?_
      refine j_lconst X dX11_part_31 1 (by decide) ?_
      refine j_ldc2 X dX11_part_32 u1248 ?_
      refine s_callSi X hR (m_inI np _ _ _ _ 1 6 rfl rfl) rfl u1087 u1085 u1086 u12 hyX11_in (by decide) (by decide) (Nat.le_of_ble_eq_true rfl) dX11_part_35 (fun v_35 m_35 h_35 => ?_)
      obtain ⟨e1, e2⟩ := h_35; have e1 := e1.symm; have e2 := e2.symm; subst e1; subst e2
      refine j_ifb_ne X 46 dX11_part_38 (by decide) (fun c_38 => ?_) (fun c_38 => ?_)
      · refine j_iload_n X dX11_part_46 rfl ?_
        refine j_iload_n X dX11_part_47 rfl ?_
        refine j_iload_n X dX11_part_48 rfl ?_
        refine s_callSi X hR (m_partOf np _ _ _ k hk hk2) rfl u1251 u1249 u1250 u12 hyX11_partOf (by decide) (by decide) (Nat.le_of_ble_eq_true rfl) dX11_part_49 (fun v_49 m_49 h_49 => ?_)
        obtain ⟨e1, e2⟩ := h_49; have e1 := e1.symm; have e2 := e2.symm; subst e1; subst e2
        refine s_iret X hE hr dX11_part_52 rfl ?_
        first | exact ⟨rfl, rfl⟩ | (exfalso; clear hE hr hR X; (try simp only [lg_cmp_lt, lg_cmp_gt, lg_cmp_le, lg_cmp_ge] at *); (try simp (disch := omega) only [Int64.le_iff_toInt_le, Int64.lt_iff_toInt_lt, Int32.le_iff_toInt_le, Int32.lt_iff_toInt_lt, fa_eq, fa_lit, fa_litL, nI_toInt, pk_lT, Int32.toInt_toInt64, jadd64, jin, jnoneT] at *); omega)
      · exfalso
        clear hE hr hR X
        (try simp only [lg_cmp_lt, lg_cmp_gt, lg_cmp_le, lg_cmp_ge] at *); (try simp (disch := omega) only [Int64.le_iff_toInt_le, Int64.lt_iff_toInt_lt, Int32.le_iff_toInt_le, Int32.lt_iff_toInt_lt, fa_eq, fa_lit, fa_litL, nI_toInt, pk_lT, Int32.toInt_toInt64, jadd64, jin, jnoneT] at *); omega
set_option maxRecDepth 4000 in
set_option maxHeartbeats 1000000 in
theorem m_book_bad (np : Nat) (mem : jMem) (d t : Int32) (h : ¬ (jin d 0 3 ∧ jin t 0 999)) : jPi yX11_book cX11_book 4 .int 3 [.ref 66, .int d, .int t] np mem (fun v c => v = -1000001 ∧ c = jup mem 66 0 0) := by
  refine jPi.of (own := RX11) rfl rfl (Nat.le_of_ble_eq_true rfl) (fun G X hR hr hE => ?_)
  refine j_aload_n X dX11_book_0 rfl ?_
  refine j_iconst X dX11_book_1 0 (by decide) ?_
  refine j_putI X 11 0 (by decide) (by decide) rfl rfl rfl rfl u950 (o66 np) (k66 np) dX11_book_2 ?_
  refine j_iload_n X dX11_book_5 rfl ?_
  refine s_callSi X hR (m_isDoor np _ _) rfl u1269 u1267 u1268 u12 hyX11_isDoor (by decide) (by decide) (Nat.le_of_ble_eq_true rfl) dX11_book_6 (fun v_6 m_6 h_6 => ?_)
  obtain ⟨e1, e2⟩ := h_6; have e1 := e1.symm; have e2 := e2.symm; subst e1; subst e2
  refine j_ifb_eq X 19 dX11_book_9 (by decide) (fun c_9 => ?_) (fun c_9 => ?_)
  · refine j_ldc X dX11_book_19 u1089 ?_
    refine s_iret X hE hr dX11_book_21 rfl ?_
    first | exact ⟨rfl, rfl⟩ | (exfalso; clear hE hr hR X; (try simp only [lg_cmp_lt, lg_cmp_gt, lg_cmp_le, lg_cmp_ge] at *); (try simp (disch := omega) only [Int64.le_iff_toInt_le, Int64.lt_iff_toInt_lt, Int32.le_iff_toInt_le, Int32.lt_iff_toInt_lt, fa_eq, fa_lit, fa_litL, nI_toInt, pk_lT, Int32.toInt_toInt64, jadd64, jin, jnoneT] at *); omega)
  · refine j_iload_n X dX11_book_12 rfl ?_
    refine s_callSi X hR (m_isDay np _ _) rfl u1117 u1115 u1116 u12 hyX11_isDay (by decide) (by decide) (Nat.le_of_ble_eq_true rfl) dX11_book_13 (fun v_13 m_13 h_13 => ?_)
    obtain ⟨e1, e2⟩ := h_13; have e1 := e1.symm; have e2 := e2.symm; subst e1; subst e2
    refine j_ifb_ne X 22 dX11_book_16 (by decide) (fun c_16 => ?_) (fun c_16 => ?_)
    · exfalso
      clear hE hr hR X
      (try simp only [lg_cmp_lt, lg_cmp_gt, lg_cmp_le, lg_cmp_ge] at *); (try simp (disch := omega) only [Int64.le_iff_toInt_le, Int64.lt_iff_toInt_lt, Int32.le_iff_toInt_le, Int32.lt_iff_toInt_lt, fa_eq, fa_lit, fa_litL, nI_toInt, pk_lT, Int32.toInt_toInt64, jadd64, jin, jnoneT] at *); omega
    · refine j_ldc X dX11_book_19 u1089 ?_
      refine s_iret X hE hr dX11_book_21 rfl ?_
      first | exact ⟨rfl, rfl⟩ | (exfalso; clear hE hr hR X; (try simp only [lg_cmp_lt, lg_cmp_gt, lg_cmp_le, lg_cmp_ge] at *); (try simp (disch := omega) only [Int64.le_iff_toInt_le, Int64.lt_iff_toInt_lt, Int32.le_iff_toInt_le, Int32.lt_iff_toInt_lt, fa_eq, fa_lit, fa_litL, nI_toInt, pk_lT, Int32.toInt_toInt64, jadd64, jin, jnoneT] at *); omega)
set_option maxRecDepth 4000 in
set_option maxHeartbeats 1000000 in
theorem m_book (np : Nat) (mem : jMem) (d : Nat) (t : Int32) (hd : d < 4) (ht : jin t 0 999) : jPi yX11_book cX11_book 4 .int 3 [.ref 66, .int (nI d), .int t] np mem (fun v c => v = mem 79 d ∧ c = jup (jup mem 66 0 0) 79 d t) := by
  refine jPi.of (own := RX11) rfl rfl (Nat.le_of_ble_eq_true rfl) (fun G X hR hr hE => ?_)
  refine j_aload_n X dX11_book_0 rfl ?_
  refine j_iconst X dX11_book_1 0 (by decide) ?_
  refine j_putI X 11 0 (by decide) (by decide) rfl rfl rfl rfl u950 (o66 np) (k66 np) dX11_book_2 ?_
  refine j_iload_n X dX11_book_5 rfl ?_
  refine s_callSi X hR (m_isDoor np _ _) rfl u1269 u1267 u1268 u12 hyX11_isDoor (by decide) (by decide) (Nat.le_of_ble_eq_true rfl) dX11_book_6 (fun v_6 m_6 h_6 => ?_)
  obtain ⟨e1, e2⟩ := h_6; have e1 := e1.symm; have e2 := e2.symm; subst e1; subst e2
  refine j_ifb_eq X 19 dX11_book_9 (by decide) (fun c_9 => ?_) (fun c_9 => ?_)
  · exfalso
    clear hE hr hR X
    (try simp only [lg_cmp_lt, lg_cmp_gt, lg_cmp_le, lg_cmp_ge] at *); (try simp (disch := omega) only [Int64.le_iff_toInt_le, Int64.lt_iff_toInt_lt, Int32.le_iff_toInt_le, Int32.lt_iff_toInt_lt, fa_eq, fa_lit, fa_litL, nI_toInt, pk_lT, Int32.toInt_toInt64, jadd64, jin, jnoneT] at *); omega
  · refine j_iload_n X dX11_book_12 rfl ?_
    refine s_callSi X hR (m_isDay np _ _) rfl u1117 u1115 u1116 u12 hyX11_isDay (by decide) (by decide) (Nat.le_of_ble_eq_true rfl) dX11_book_13 (fun v_13 m_13 h_13 => ?_)
    obtain ⟨e1, e2⟩ := h_13; have e1 := e1.symm; have e2 := e2.symm; subst e1; subst e2
    refine j_ifb_ne X 22 dX11_book_16 (by decide) (fun c_16 => ?_) (fun c_16 => ?_)
    · refine j_aload_n X dX11_book_22 rfl ?_
      refine j_getR X 11 15 (by decide) (by decide) rfl u965 (o66 np) (k66 np) _ (p66_15 np) dX11_book_23 ?_
      refine j_iload_n X dX11_book_26 rfl ?_
      refine j_nrm _ (by first | (simp only [fa_lit, pk_mul, nI_add]; done) | (simp only [fa_lit, pk_mul, nI_add]; rfl) | rfl) ?_
      refine j_ialdN X (o79 np) (k79 np) (by rw [l79]; omega) (by rw [l79]; decide) (mem 79) rfl dX11_book_27 ?_
      refine j_istore_n X dX11_book_28 (by decide) ?_
      refine j_aload_n X dX11_book_29 rfl ?_
      refine j_getR X 11 15 (by decide) (by decide) rfl u965 (o66 np) (k66 np) _ (p66_15 np) dX11_book_30 ?_
      refine j_iload_n X dX11_book_33 rfl ?_
      refine j_iload_n X dX11_book_34 rfl ?_
      refine j_nrm2 _ (by first | (simp only [fa_lit, pk_mul, nI_add]; done) | (simp only [fa_lit, pk_mul, nI_add]; rfl) | rfl) ?_
      refine j_iastN X (o79 np) (k79 np) (by rw [l79]; omega) (by rw [l79]; decide) dX11_book_35 ?_
      refine j_iload_n X dX11_book_36 rfl ?_
      refine s_iret X hE hr dX11_book_37 rfl ?_
      first | exact ⟨rfl, rfl⟩ | (exfalso; clear hE hr hR X; (try simp only [lg_cmp_lt, lg_cmp_gt, lg_cmp_le, lg_cmp_ge] at *); (try simp (disch := omega) only [Int64.le_iff_toInt_le, Int64.lt_iff_toInt_lt, Int32.le_iff_toInt_le, Int32.lt_iff_toInt_lt, fa_eq, fa_lit, fa_litL, nI_toInt, pk_lT, Int32.toInt_toInt64, jadd64, jin, jnoneT] at *); omega)
    · exfalso
      clear hE hr hR X
      (try simp only [lg_cmp_lt, lg_cmp_gt, lg_cmp_le, lg_cmp_ge] at *); (try simp (disch := omega) only [Int64.le_iff_toInt_le, Int64.lt_iff_toInt_lt, Int32.le_iff_toInt_le, Int32.lt_iff_toInt_lt, fa_eq, fa_lit, fa_litL, nI_toInt, pk_lT, Int32.toInt_toInt64, jadd64, jin, jnoneT] at *); omega
set_option maxRecDepth 4000 in
set_option maxHeartbeats 1000000 in
theorem m_revoke_bad (np : Nat) (mem : jMem) (p d : Int32) (hn : np ≤ 12) (hp : mem 66 9 = nI np) (h : ¬ (jin p 0 ((np : Int) - 1) ∧ jin d 0 999)) : jPi yX11_revoke cX11_revoke 3 .int 3 [.ref 66, .int p, .int d] np mem (fun v c => v = -1000001 ∧ c = jup mem 66 0 0) := by
  refine jPi.of (own := RX11) rfl rfl (Nat.le_of_ble_eq_true rfl) (fun G X hR hr hE => ?_)
  refine j_aload_n X dX11_revoke_0 rfl ?_
  refine j_iconst X dX11_revoke_1 0 (by decide) ?_
  refine j_putI X 11 0 (by decide) (by decide) rfl rfl rfl rfl u950 (o66 np) (k66 np) dX11_revoke_2 ?_
  refine j_aload_n X dX11_revoke_5 rfl ?_
  refine j_iload_n X dX11_revoke_6 rfl ?_
  refine s_callVi X hR (m_isPaper np _ _ hn hp) rfl 11 (by decide) (o66 np) (k66 np) rfl u1151 u1148 u1150 qp39 u12 hyX11_isPaper (by decide) (by decide) (Nat.le_of_ble_eq_true rfl) dX11_revoke_7 (fun v_7 m_7 h_7 => ?_)
  obtain ⟨e1, e2⟩ := h_7; have e1 := e1.symm; have e2 := e2.symm; subst e1; subst e2
  refine j_ifb_eq X 20 dX11_revoke_10 (by decide) (fun c_10 => ?_) (fun c_10 => ?_)
  · refine j_ldc X dX11_revoke_20 u1089 ?_
    refine s_iret X hE hr dX11_revoke_22 rfl ?_
    first | exact ⟨rfl, rfl⟩ | (exfalso; clear hE hr hR X; (try simp only [lg_cmp_lt, lg_cmp_gt, lg_cmp_le, lg_cmp_ge] at *); (try simp (disch := omega) only [Int64.le_iff_toInt_le, Int64.lt_iff_toInt_lt, Int32.le_iff_toInt_le, Int32.lt_iff_toInt_lt, fa_eq, fa_lit, fa_litL, nI_toInt, pk_lT, Int32.toInt_toInt64, jadd64, jin, jnoneT] at *); omega)
  · refine j_iload_n X dX11_revoke_13 rfl ?_
    refine s_callSi X hR (m_isDay np _ _) rfl u1117 u1115 u1116 u12 hyX11_isDay (by decide) (by decide) (Nat.le_of_ble_eq_true rfl) dX11_revoke_14 (fun v_14 m_14 h_14 => ?_)
    obtain ⟨e1, e2⟩ := h_14; have e1 := e1.symm; have e2 := e2.symm; subst e1; subst e2
    refine j_ifb_ne X 23 dX11_revoke_17 (by decide) (fun c_17 => ?_) (fun c_17 => ?_)
    · exfalso
      clear hE hr hR X
      (try simp only [lg_cmp_lt, lg_cmp_gt, lg_cmp_le, lg_cmp_ge] at *); (try simp (disch := omega) only [Int64.le_iff_toInt_le, Int64.lt_iff_toInt_lt, Int32.le_iff_toInt_le, Int32.lt_iff_toInt_lt, fa_eq, fa_lit, fa_litL, nI_toInt, pk_lT, Int32.toInt_toInt64, jadd64, jin, jnoneT] at *); omega
    · refine j_ldc X dX11_revoke_20 u1089 ?_
      refine s_iret X hE hr dX11_revoke_22 rfl ?_
      first | exact ⟨rfl, rfl⟩ | (exfalso; clear hE hr hR X; (try simp only [lg_cmp_lt, lg_cmp_gt, lg_cmp_le, lg_cmp_ge] at *); (try simp (disch := omega) only [Int64.le_iff_toInt_le, Int64.lt_iff_toInt_lt, Int32.le_iff_toInt_le, Int32.lt_iff_toInt_lt, fa_eq, fa_lit, fa_litL, nI_toInt, pk_lT, Int32.toInt_toInt64, jadd64, jin, jnoneT] at *); omega)
set_option maxRecDepth 4000 in
set_option maxHeartbeats 1000000 in
theorem m_revoke_state (np : Nat) (mem : jMem) (p : Nat) (d : Int32) (hn : np ≤ 12) (hp : mem 66 9 = nI np) (hp2 : p < np) (hd : jin d 0 999) (hv : ¬ mem 75 p = -1000000) : jPi yX11_revoke cX11_revoke 3 .int 3 [.ref 66, .int (nI p), .int d] np mem (fun v c => v = -1000002 ∧ c = jup mem 66 0 0) := by
  refine jPi.of (own := RX11) rfl rfl (Nat.le_of_ble_eq_true rfl) (fun G X hR hr hE => ?_)
  refine j_aload_n X dX11_revoke_0 rfl ?_
  refine j_iconst X dX11_revoke_1 0 (by decide) ?_
  refine j_putI X 11 0 (by decide) (by decide) rfl rfl rfl rfl u950 (o66 np) (k66 np) dX11_revoke_2 ?_
  refine j_aload_n X dX11_revoke_5 rfl ?_
  refine j_iload_n X dX11_revoke_6 rfl ?_
  refine s_callVi X hR (m_isPaper np _ _ hn hp) rfl 11 (by decide) (o66 np) (k66 np) rfl u1151 u1148 u1150 qp39 u12 hyX11_isPaper (by decide) (by decide) (Nat.le_of_ble_eq_true rfl) dX11_revoke_7 (fun v_7 m_7 h_7 => ?_)
  obtain ⟨e1, e2⟩ := h_7; have e1 := e1.symm; have e2 := e2.symm; subst e1; subst e2
  refine j_ifb_eq X 20 dX11_revoke_10 (by decide) (fun c_10 => ?_) (fun c_10 => ?_)
  · exfalso
    clear hE hr hR X
    (try simp only [lg_cmp_lt, lg_cmp_gt, lg_cmp_le, lg_cmp_ge] at *); (try simp (disch := omega) only [Int64.le_iff_toInt_le, Int64.lt_iff_toInt_lt, Int32.le_iff_toInt_le, Int32.lt_iff_toInt_lt, fa_eq, fa_lit, fa_litL, nI_toInt, pk_lT, Int32.toInt_toInt64, jadd64, jin, jnoneT] at *); omega
  · refine j_iload_n X dX11_revoke_13 rfl ?_
    refine s_callSi X hR (m_isDay np _ _) rfl u1117 u1115 u1116 u12 hyX11_isDay (by decide) (by decide) (Nat.le_of_ble_eq_true rfl) dX11_revoke_14 (fun v_14 m_14 h_14 => ?_)
    obtain ⟨e1, e2⟩ := h_14; have e1 := e1.symm; have e2 := e2.symm; subst e1; subst e2
    refine j_ifb_ne X 23 dX11_revoke_17 (by decide) (fun c_17 => ?_) (fun c_17 => ?_)
    · refine j_aload_n X dX11_revoke_23 rfl ?_
      refine j_getR X 11 11 (by decide) (by decide) rfl u961 (o66 np) (k66 np) _ (p66_11 np) dX11_revoke_24 ?_
      refine j_iload_n X dX11_revoke_27 rfl ?_
      refine j_nrm _ (by first | (simp only [fa_lit, pk_mul, nI_add]; done) | (simp only [fa_lit, pk_mul, nI_add]; rfl) | rfl) ?_
      refine j_ialdN X (o75 np) (k75 np) (by rw [l75]; omega) (by rw [l75]; decide) (mem 75) rfl dX11_revoke_28 ?_
      refine j_ldc X dX11_revoke_29 u949 ?_
      refine j_icmp_eq X 37 dX11_revoke_31 (by decide) (fun c_31 => ?_) (fun c_31 => ?_)
      · exact absurd c_31 hv
      · refine j_ldc X dX11_revoke_34 u1133 ?_
        refine s_iret X hE hr dX11_revoke_36 rfl ?_
        first | exact ⟨rfl, rfl⟩ | (exfalso; clear hE hr hR X; (try simp only [lg_cmp_lt, lg_cmp_gt, lg_cmp_le, lg_cmp_ge] at *); (try simp (disch := omega) only [Int64.le_iff_toInt_le, Int64.lt_iff_toInt_lt, Int32.le_iff_toInt_le, Int32.lt_iff_toInt_lt, fa_eq, fa_lit, fa_litL, nI_toInt, pk_lT, Int32.toInt_toInt64, jadd64, jin, jnoneT] at *); omega)
    · exfalso
      clear hE hr hR X
      (try simp only [lg_cmp_lt, lg_cmp_gt, lg_cmp_le, lg_cmp_ge] at *); (try simp (disch := omega) only [Int64.le_iff_toInt_le, Int64.lt_iff_toInt_lt, Int32.le_iff_toInt_le, Int32.lt_iff_toInt_lt, fa_eq, fa_lit, fa_litL, nI_toInt, pk_lT, Int32.toInt_toInt64, jadd64, jin, jnoneT] at *); omega
set_option maxRecDepth 4000 in
set_option maxHeartbeats 1000000 in
theorem m_revoke (np : Nat) (mem : jMem) (p : Nat) (d : Int32) (hn : np ≤ 12) (hp : mem 66 9 = nI np) (hp2 : p < np) (hd : jin d 0 999) (hv : mem 75 p = -1000000) : jPi yX11_revoke cX11_revoke 3 .int 3 [.ref 66, .int (nI p), .int d] np mem (fun v c => v = 1 ∧ c = jup (jup mem 66 0 0) 75 p d) := by
  refine jPi.of (own := RX11) rfl rfl (Nat.le_of_ble_eq_true rfl) (fun G X hR hr hE => ?_)
  refine j_aload_n X dX11_revoke_0 rfl ?_
  refine j_iconst X dX11_revoke_1 0 (by decide) ?_
  refine j_putI X 11 0 (by decide) (by decide) rfl rfl rfl rfl u950 (o66 np) (k66 np) dX11_revoke_2 ?_
  refine j_aload_n X dX11_revoke_5 rfl ?_
  refine j_iload_n X dX11_revoke_6 rfl ?_
  refine s_callVi X hR (m_isPaper np _ _ hn hp) rfl 11 (by decide) (o66 np) (k66 np) rfl u1151 u1148 u1150 qp39 u12 hyX11_isPaper (by decide) (by decide) (Nat.le_of_ble_eq_true rfl) dX11_revoke_7 (fun v_7 m_7 h_7 => ?_)
  obtain ⟨e1, e2⟩ := h_7; have e1 := e1.symm; have e2 := e2.symm; subst e1; subst e2
  refine j_ifb_eq X 20 dX11_revoke_10 (by decide) (fun c_10 => ?_) (fun c_10 => ?_)
  · exfalso
    clear hE hr hR X
    (try simp only [lg_cmp_lt, lg_cmp_gt, lg_cmp_le, lg_cmp_ge] at *); (try simp (disch := omega) only [Int64.le_iff_toInt_le, Int64.lt_iff_toInt_lt, Int32.le_iff_toInt_le, Int32.lt_iff_toInt_lt, fa_eq, fa_lit, fa_litL, nI_toInt, pk_lT, Int32.toInt_toInt64, jadd64, jin, jnoneT] at *); omega
  · refine j_iload_n X dX11_revoke_13 rfl ?_
    refine s_callSi X hR (m_isDay np _ _) rfl u1117 u1115 u1116 u12 hyX11_isDay (by decide) (by decide) (Nat.le_of_ble_eq_true rfl) dX11_revoke_14 (fun v_14 m_14 h_14 => ?_)
    obtain ⟨e1, e2⟩ := h_14; have e1 := e1.symm; have e2 := e2.symm; subst e1; subst e2
    refine j_ifb_ne X 23 dX11_revoke_17 (by decide) (fun c_17 => ?_) (fun c_17 => ?_)
    · refine j_aload_n X dX11_revoke_23 rfl ?_
      refine j_getR X 11 11 (by decide) (by decide) rfl u961 (o66 np) (k66 np) _ (p66_11 np) dX11_revoke_24 ?_
      refine j_iload_n X dX11_revoke_27 rfl ?_
      refine j_nrm _ (by first | (simp only [fa_lit, pk_mul, nI_add]; done) | (simp only [fa_lit, pk_mul, nI_add]; rfl) | rfl) ?_
      refine j_ialdN X (o75 np) (k75 np) (by rw [l75]; omega) (by rw [l75]; decide) (mem 75) rfl dX11_revoke_28 ?_
      refine j_ldc X dX11_revoke_29 u949 ?_
      refine j_icmp_eq X 37 dX11_revoke_31 (by decide) (fun c_31 => ?_) (fun c_31 => ?_)
      · refine j_aload_n X dX11_revoke_37 rfl ?_
        refine j_getR X 11 11 (by decide) (by decide) rfl u961 (o66 np) (k66 np) _ (p66_11 np) dX11_revoke_38 ?_
        refine j_iload_n X dX11_revoke_41 rfl ?_
        refine j_iload_n X dX11_revoke_42 rfl ?_
        refine j_nrm2 _ (by first | (simp only [fa_lit, pk_mul, nI_add]; done) | (simp only [fa_lit, pk_mul, nI_add]; rfl) | rfl) ?_
        refine j_iastN X (o75 np) (k75 np) (by rw [l75]; omega) (by rw [l75]; decide) dX11_revoke_43 ?_
        refine j_iconst X dX11_revoke_44 1 (by decide) ?_
        refine s_iret X hE hr dX11_revoke_45 rfl ?_
        first | exact ⟨rfl, rfl⟩ | (exfalso; clear hE hr hR X; (try simp only [lg_cmp_lt, lg_cmp_gt, lg_cmp_le, lg_cmp_ge] at *); (try simp (disch := omega) only [Int64.le_iff_toInt_le, Int64.lt_iff_toInt_lt, Int32.le_iff_toInt_le, Int32.lt_iff_toInt_lt, fa_eq, fa_lit, fa_litL, nI_toInt, pk_lT, Int32.toInt_toInt64, jadd64, jin, jnoneT] at *); omega)
      · exact absurd hv c_31
    · exfalso
      clear hE hr hR X
      (try simp only [lg_cmp_lt, lg_cmp_gt, lg_cmp_le, lg_cmp_ge] at *); (try simp (disch := omega) only [Int64.le_iff_toInt_le, Int64.lt_iff_toInt_lt, Int32.le_iff_toInt_le, Int32.lt_iff_toInt_lt, fa_eq, fa_lit, fa_litL, nI_toInt, pk_lT, Int32.toInt_toInt64, jadd64, jin, jnoneT] at *); omega
set_option maxRecDepth 4000 in
set_option maxHeartbeats 1000000 in
theorem m_isKnown (np : Nat) (mem : jMem) (x b : Int32)  : jPi yX11_isKnown cX11_isKnown 2 .boolean 1 [.int x, .int b] np mem (fun v c => v = jb (x ≠ -1000000 ∧ x ≤ b) ∧ c = mem) := by
  refine jPi.of (own := RX11) rfl rfl (Nat.le_of_ble_eq_true rfl) (fun G X hR hr hE => ?_)
  refine j_iload_n X dX11_isKnown_0 rfl ?_
  refine j_ldc X dX11_isKnown_1 u949 ?_
  refine j_icmp_eq X 15 dX11_isKnown_3 (by decide) (fun c_3 => ?_) (fun c_3 => ?_)
  · refine j_iconst X dX11_isKnown_15 0 (by decide) ?_
    refine s_iret X hE hr dX11_isKnown_16 (by first | exact jb_nar | rfl) ?_
    refine ⟨?_, rfl⟩
    first | exact (jb_t ⟨c_3, Int32.not_lt.mp c_8⟩).symm | exact (jb_f (fun z => absurd c_8 (Int32.not_lt.mpr z.2))).symm | exact (jb_f (fun z => absurd c_3 z.1)).symm
  · refine j_iload_n X dX11_isKnown_6 rfl ?_
    refine j_iload_n X dX11_isKnown_7 rfl ?_
    refine j_icmp_gt X 15 dX11_isKnown_8 (by decide) (fun c_8 => ?_) (fun c_8 => ?_)
    · refine j_iconst X dX11_isKnown_15 0 (by decide) ?_
      refine s_iret X hE hr dX11_isKnown_16 (by first | exact jb_nar | rfl) ?_
      refine ⟨?_, rfl⟩
      first | exact (jb_t ⟨c_3, Int32.not_lt.mp c_8⟩).symm | exact (jb_f (fun z => absurd c_8 (Int32.not_lt.mpr z.2))).symm | exact (jb_f (fun z => absurd c_3 z.1)).symm
    · refine j_iconst X dX11_isKnown_11 1 (by decide) ?_
      refine j_goto X 16 dX11_isKnown_12 (by decide) ?_
      refine s_iret X hE hr dX11_isKnown_16 (by first | exact jb_nar | rfl) ?_
      refine ⟨?_, rfl⟩
      first | exact (jb_t ⟨c_3, Int32.not_lt.mp c_8⟩).symm | exact (jb_f (fun z => absurd c_8 (Int32.not_lt.mpr z.2))).symm | exact (jb_f (fun z => absurd c_3 z.1)).symm
set_option maxRecDepth 4000 in
set_option maxHeartbeats 1000000 in
theorem m_holdsAt (np : Nat) (mem : jMem) (p dr o : Nat) (d : Int32) (hp : p < 12) (hdr : dr < 4) (ho : o < 4) (hpo : mem 74 (9 * p) = nI o) : jPi yX11_holdsAt cX11_holdsAt 7 .int 2 [.ref 66, .int (nI p), .int (nI dr), .int d] np mem (fun v c => v = jHold (mem 74 (9 * p + 3)) (mem 74 (9 * p + 4)) (mem 75 p) (mem 73 (2 * o + 1)) (mem 73 (2 * o)) (mem 79 dr) d ∧ c = mem) := by
  refine jPi.of (own := RX11) rfl rfl (Nat.le_of_ble_eq_true rfl) (fun G X hR hr hE => ?_)
  refine j_aload_n X dX11_holdsAt_0 rfl ?_
  refine j_getR X 11 15 (by decide) (by decide) rfl u965 (o66 np) (k66 np) _ (p66_15 np) dX11_holdsAt_1 ?_
  refine j_iload_n X dX11_holdsAt_4 rfl ?_
  refine j_nrm _ (by first | (simp only [fa_lit, pk_mul, nI_add]; done) | (simp only [fa_lit, pk_mul, nI_add]; rfl) | rfl) ?_
  refine j_ialdN X (o79 np) (k79 np) (by rw [l79]; omega) (by rw [l79]; decide) (mem 79) rfl dX11_holdsAt_5 ?_
  refine j_istore X dX11_holdsAt_6 (by decide) ?_
  refine j_aload_n X dX11_holdsAt_8 rfl ?_
  refine j_getR X 11 8 (by decide) (by decide) rfl u958 (o66 np) (k66 np) _ (p66_8 np) dX11_holdsAt_9 ?_
  refine j_iconst X dX11_holdsAt_12 2 (by decide) ?_
  refine j_aload_n X dX11_holdsAt_13 rfl ?_
  refine j_iload_n X dX11_holdsAt_14 rfl ?_
  refine j_iconst X dX11_holdsAt_15 0 (by decide) ?_
  refine s_callVi X hR (m_of np _ p 0 hp (by omega)) rfl 11 (by decide) (o66 np) (k66 np) rfl u1180 u1177 u1179 qp44 u12 hyX11_of (by decide) (by decide) (Nat.le_of_ble_eq_true rfl) dX11_holdsAt_16 (fun v_16 m_16 h_16 => ?_)
  obtain ⟨e1, e2⟩ := h_16; have e1 := e1.symm; have e2 := e2.symm; subst e1; subst e2
  refine j_nrm _ hpo ?_
  refine j_imul X dX11_holdsAt_19 ?_
  refine j_nrm _ (by first | (simp only [fa_lit, pk_mul, nI_add]; done) | (simp only [fa_lit, pk_mul, nI_add]; rfl) | rfl) ?_
  refine j_ialdN X (o73 np) (k73 np) (by rw [l73]; omega) (by rw [l73]; decide) (mem 73) rfl dX11_holdsAt_20 ?_
  refine j_istore X dX11_holdsAt_21 (by decide) ?_
  refine j_aload_n X dX11_holdsAt_23 rfl ?_
  refine j_getR X 11 8 (by decide) (by decide) rfl u958 (o66 np) (k66 np) _ (p66_8 np) dX11_holdsAt_24 ?_
  refine j_iconst X dX11_holdsAt_27 2 (by decide) ?_
  refine j_aload_n X dX11_holdsAt_28 rfl ?_
  refine j_iload_n X dX11_holdsAt_29 rfl ?_
  refine j_iconst X dX11_holdsAt_30 0 (by decide) ?_
  refine s_callVi X hR (m_of np _ p 0 hp (by omega)) rfl 11 (by decide) (o66 np) (k66 np) rfl u1180 u1177 u1179 qp44 u12 hyX11_of (by decide) (by decide) (Nat.le_of_ble_eq_true rfl) dX11_holdsAt_31 (fun v_31 m_31 h_31 => ?_)
  obtain ⟨e1, e2⟩ := h_31; have e1 := e1.symm; have e2 := e2.symm; subst e1; subst e2
  refine j_nrm _ hpo ?_
  refine j_imul X dX11_holdsAt_34 ?_
  refine j_iconst X dX11_holdsAt_35 1 (by decide) ?_
  refine j_iadd X dX11_holdsAt_36 ?_
  refine j_nrm _ (by first | (simp only [fa_lit, pk_mul, nI_add]; done) | (simp only [fa_lit, pk_mul, nI_add]; rfl) | rfl) ?_
  refine j_ialdN X (o73 np) (k73 np) (by rw [l73]; omega) (by rw [l73]; decide) (mem 73) rfl dX11_holdsAt_37 ?_
  refine j_istore X dX11_holdsAt_38 (by decide) ?_
  refine j_iload_n X dX11_holdsAt_40 rfl ?_
  refine j_aload_n X dX11_holdsAt_41 rfl ?_
  refine j_iload_n X dX11_holdsAt_42 rfl ?_
  refine j_iconst X dX11_holdsAt_43 3 (by decide) ?_
  refine s_callVi X hR (m_of np _ p 3 hp (by omega)) rfl 11 (by decide) (o66 np) (k66 np) rfl u1180 u1177 u1179 qp44 u12 hyX11_of (by decide) (by decide) (Nat.le_of_ble_eq_true rfl) dX11_holdsAt_44 (fun v_44 m_44 h_44 => ?_)
  obtain ⟨e1, e2⟩ := h_44; have e1 := e1.symm; have e2 := e2.symm; subst e1; subst e2
  refine j_icmp_ge X 54 dX11_holdsAt_47 (by decide) (fun c_47 => ?_) (fun c_47 => ?_)
  · refine j_iload_n X dX11_holdsAt_54 rfl ?_
    refine j_aload_n X dX11_holdsAt_55 rfl ?_
    refine j_iload_n X dX11_holdsAt_56 rfl ?_
    refine j_iconst X dX11_holdsAt_57 4 (by decide) ?_
    refine s_callVi X hR (m_of np _ p 4 hp (by omega)) rfl 11 (by decide) (o66 np) (k66 np) rfl u1180 u1177 u1179 qp44 u12 hyX11_of (by decide) (by decide) (Nat.le_of_ble_eq_true rfl) dX11_holdsAt_58 (fun v_58 m_58 h_58 => ?_)
    obtain ⟨e1, e2⟩ := h_58; have e1 := e1.symm; have e2 := e2.symm; subst e1; subst e2
    refine j_icmp_le X 68 dX11_holdsAt_61 (by decide) (fun c_61 => ?_) (fun c_61 => ?_)
    · refine j_aload_n X dX11_holdsAt_68 rfl ?_
      refine j_getR X 11 11 (by decide) (by decide) rfl u961 (o66 np) (k66 np) _ (p66_11 np) dX11_holdsAt_69 ?_
      refine j_iload_n X dX11_holdsAt_72 rfl ?_
      refine j_nrm _ (by first | (simp only [fa_lit, pk_mul, nI_add]; done) | (simp only [fa_lit, pk_mul, nI_add]; rfl) | rfl) ?_
      refine j_ialdN X (o75 np) (k75 np) (by rw [l75]; omega) (by rw [l75]; decide) (mem 75) rfl dX11_holdsAt_73 ?_
      refine j_iload X dX11_holdsAt_74 rfl ?_
      refine s_callSi X hR (m_isKnown np _ _ _) rfl u1284 u1282 u1283 u12 hyX11_isKnown (by decide) (by decide) (Nat.le_of_ble_eq_true rfl) dX11_holdsAt_76 (fun v_76 m_76 h_76 => ?_)
      obtain ⟨e1, e2⟩ := h_76; have e1 := e1.symm; have e2 := e2.symm; subst e1; subst e2
      refine j_ifb_eq X 96 dX11_holdsAt_79 (by decide) (fun c_79 => ?_) (fun c_79 => ?_)
      · refine j_iload X dX11_holdsAt_96 rfl ?_
        refine j_iload X dX11_holdsAt_98 rfl ?_
        refine s_callSi X hR (m_isKnown np _ _ _) rfl u1284 u1282 u1283 u12 hyX11_isKnown (by decide) (by decide) (Nat.le_of_ble_eq_true rfl) dX11_holdsAt_100 (fun v_100 m_100 h_100 => ?_)
        obtain ⟨e1, e2⟩ := h_100; have e1 := e1.symm; have e2 := e2.symm; subst e1; subst e2
        refine j_ifb_eq X 116 dX11_holdsAt_103 (by decide) (fun c_103 => ?_) (fun c_103 => ?_)
        · refine j_iload X dX11_holdsAt_116 rfl ?_
          refine j_iload X dX11_holdsAt_118 rfl ?_
          refine s_callSi X hR (m_isKnown np _ _ _) rfl u1284 u1282 u1283 u12 hyX11_isKnown (by decide) (by decide) (Nat.le_of_ble_eq_true rfl) dX11_holdsAt_120 (fun v_120 m_120 h_120 => ?_)
          obtain ⟨e1, e2⟩ := h_120; have e1 := e1.symm; have e2 := e2.symm; subst e1; subst e2
          refine j_ifb_eq X 141 dX11_holdsAt_123 (by decide) (fun c_123 => ?_) (fun c_123 => ?_)
          · refine j_iconst X dX11_holdsAt_141 0 (by decide) ?_
            refine s_iret X hE hr dX11_holdsAt_142 rfl ?_
            refine ⟨?_, rfl⟩
            clear hE hr hR X
            unfold jHold
            (repeat' split) <;> first | rfl | (exfalso; simp only [ne_eq] at *; (try simp only [lg_cmp_lt, lg_cmp_gt, lg_cmp_le, lg_cmp_ge] at *); (try simp (disch := omega) only [Int64.le_iff_toInt_le, Int64.lt_iff_toInt_lt, Int32.le_iff_toInt_le, Int32.lt_iff_toInt_lt, fa_eq, fa_lit, fa_litL, nI_toInt, pk_lT, Int32.toInt_toInt64, jadd64, jin, jnoneT] at *); omega)
          · refine j_aload_n X dX11_holdsAt_126 rfl ?_
            refine j_iload_n X dX11_holdsAt_127 rfl ?_
            refine j_iconst X dX11_holdsAt_128 3 (by decide) ?_
            refine s_callVi X hR (m_of np _ p 3 hp (by omega)) rfl 11 (by decide) (o66 np) (k66 np) rfl u1180 u1177 u1179 qp44 u12 hyX11_of (by decide) (by decide) (Nat.le_of_ble_eq_true rfl) dX11_holdsAt_129 (fun v_129 m_129 h_129 => ?_)
            obtain ⟨e1, e2⟩ := h_129; have e1 := e1.symm; have e2 := e2.symm; subst e1; subst e2
            refine j_iload X dX11_holdsAt_132 rfl ?_
            refine j_icmp_lt X 141 dX11_holdsAt_134 (by decide) (fun c_134 => ?_) (fun c_134 => ?_)
            · refine j_iconst X dX11_holdsAt_141 0 (by decide) ?_
              refine s_iret X hE hr dX11_holdsAt_142 rfl ?_
              refine ⟨?_, rfl⟩
              clear hE hr hR X
              unfold jHold
              (repeat' split) <;> first | rfl | (exfalso; simp only [ne_eq] at *; (try simp only [lg_cmp_lt, lg_cmp_gt, lg_cmp_le, lg_cmp_ge] at *); (try simp (disch := omega) only [Int64.le_iff_toInt_le, Int64.lt_iff_toInt_lt, Int32.le_iff_toInt_le, Int32.lt_iff_toInt_lt, fa_eq, fa_lit, fa_litL, nI_toInt, pk_lT, Int32.toInt_toInt64, jadd64, jin, jnoneT] at *); omega)
            · refine j_iconst X dX11_holdsAt_137 5 (by decide) ?_
              refine j_goto X 142 dX11_holdsAt_138 (by decide) ?_
              refine s_iret X hE hr dX11_holdsAt_142 rfl ?_
              refine ⟨?_, rfl⟩
              clear hE hr hR X
              unfold jHold
              (repeat' split) <;> first | rfl | (exfalso; simp only [ne_eq] at *; (try simp only [lg_cmp_lt, lg_cmp_gt, lg_cmp_le, lg_cmp_ge] at *); (try simp (disch := omega) only [Int64.le_iff_toInt_le, Int64.lt_iff_toInt_lt, Int32.le_iff_toInt_le, Int32.lt_iff_toInt_lt, fa_eq, fa_lit, fa_litL, nI_toInt, pk_lT, Int32.toInt_toInt64, jadd64, jin, jnoneT] at *); omega)
        · refine j_iload X dX11_holdsAt_106 rfl ?_
          refine j_iload_n X dX11_holdsAt_108 rfl ?_
          refine j_icmp_gt X 116 dX11_holdsAt_109 (by decide) (fun c_109 => ?_) (fun c_109 => ?_)
          · refine j_iload X dX11_holdsAt_116 rfl ?_
            refine j_iload X dX11_holdsAt_118 rfl ?_
            refine s_callSi X hR (m_isKnown np _ _ _) rfl u1284 u1282 u1283 u12 hyX11_isKnown (by decide) (by decide) (Nat.le_of_ble_eq_true rfl) dX11_holdsAt_120 (fun v_120 m_120 h_120 => ?_)
            obtain ⟨e1, e2⟩ := h_120; have e1 := e1.symm; have e2 := e2.symm; subst e1; subst e2
            refine j_ifb_eq X 141 dX11_holdsAt_123 (by decide) (fun c_123 => ?_) (fun c_123 => ?_)
            · refine j_iconst X dX11_holdsAt_141 0 (by decide) ?_
              refine s_iret X hE hr dX11_holdsAt_142 rfl ?_
              refine ⟨?_, rfl⟩
              clear hE hr hR X
              unfold jHold
              (repeat' split) <;> first | rfl | (exfalso; simp only [ne_eq] at *; (try simp only [lg_cmp_lt, lg_cmp_gt, lg_cmp_le, lg_cmp_ge] at *); (try simp (disch := omega) only [Int64.le_iff_toInt_le, Int64.lt_iff_toInt_lt, Int32.le_iff_toInt_le, Int32.lt_iff_toInt_lt, fa_eq, fa_lit, fa_litL, nI_toInt, pk_lT, Int32.toInt_toInt64, jadd64, jin, jnoneT] at *); omega)
            · refine j_aload_n X dX11_holdsAt_126 rfl ?_
              refine j_iload_n X dX11_holdsAt_127 rfl ?_
              refine j_iconst X dX11_holdsAt_128 3 (by decide) ?_
              refine s_callVi X hR (m_of np _ p 3 hp (by omega)) rfl 11 (by decide) (o66 np) (k66 np) rfl u1180 u1177 u1179 qp44 u12 hyX11_of (by decide) (by decide) (Nat.le_of_ble_eq_true rfl) dX11_holdsAt_129 (fun v_129 m_129 h_129 => ?_)
              obtain ⟨e1, e2⟩ := h_129; have e1 := e1.symm; have e2 := e2.symm; subst e1; subst e2
              refine j_iload X dX11_holdsAt_132 rfl ?_
              refine j_icmp_lt X 141 dX11_holdsAt_134 (by decide) (fun c_134 => ?_) (fun c_134 => ?_)
              · refine j_iconst X dX11_holdsAt_141 0 (by decide) ?_
                refine s_iret X hE hr dX11_holdsAt_142 rfl ?_
                refine ⟨?_, rfl⟩
                clear hE hr hR X
                unfold jHold
                (repeat' split) <;> first | rfl | (exfalso; simp only [ne_eq] at *; (try simp only [lg_cmp_lt, lg_cmp_gt, lg_cmp_le, lg_cmp_ge] at *); (try simp (disch := omega) only [Int64.le_iff_toInt_le, Int64.lt_iff_toInt_lt, Int32.le_iff_toInt_le, Int32.lt_iff_toInt_lt, fa_eq, fa_lit, fa_litL, nI_toInt, pk_lT, Int32.toInt_toInt64, jadd64, jin, jnoneT] at *); omega)
              · refine j_iconst X dX11_holdsAt_137 5 (by decide) ?_
                refine j_goto X 142 dX11_holdsAt_138 (by decide) ?_
                refine s_iret X hE hr dX11_holdsAt_142 rfl ?_
                refine ⟨?_, rfl⟩
                clear hE hr hR X
                unfold jHold
                (repeat' split) <;> first | rfl | (exfalso; simp only [ne_eq] at *; (try simp only [lg_cmp_lt, lg_cmp_gt, lg_cmp_le, lg_cmp_ge] at *); (try simp (disch := omega) only [Int64.le_iff_toInt_le, Int64.lt_iff_toInt_lt, Int32.le_iff_toInt_le, Int32.lt_iff_toInt_lt, fa_eq, fa_lit, fa_litL, nI_toInt, pk_lT, Int32.toInt_toInt64, jadd64, jin, jnoneT] at *); omega)
          · refine j_iconst X dX11_holdsAt_112 4 (by decide) ?_
            refine j_goto X 142 dX11_holdsAt_113 (by decide) ?_
            refine s_iret X hE hr dX11_holdsAt_142 rfl ?_
            refine ⟨?_, rfl⟩
            clear hE hr hR X
            unfold jHold
            (repeat' split) <;> first | rfl | (exfalso; simp only [ne_eq] at *; (try simp only [lg_cmp_lt, lg_cmp_gt, lg_cmp_le, lg_cmp_ge] at *); (try simp (disch := omega) only [Int64.le_iff_toInt_le, Int64.lt_iff_toInt_lt, Int32.le_iff_toInt_le, Int32.lt_iff_toInt_lt, fa_eq, fa_lit, fa_litL, nI_toInt, pk_lT, Int32.toInt_toInt64, jadd64, jin, jnoneT] at *); omega)
      · refine j_aload_n X dX11_holdsAt_82 rfl ?_
        refine j_getR X 11 11 (by decide) (by decide) rfl u961 (o66 np) (k66 np) _ (p66_11 np) dX11_holdsAt_83 ?_
        refine j_iload_n X dX11_holdsAt_86 rfl ?_
        refine j_nrm _ (by first | (simp only [fa_lit, pk_mul, nI_add]; done) | (simp only [fa_lit, pk_mul, nI_add]; rfl) | rfl) ?_
        refine j_ialdN X (o75 np) (k75 np) (by rw [l75]; omega) (by rw [l75]; decide) (mem 75) rfl dX11_holdsAt_87 ?_
        refine j_iload_n X dX11_holdsAt_88 rfl ?_
        refine j_icmp_gt X 96 dX11_holdsAt_89 (by decide) (fun c_89 => ?_) (fun c_89 => ?_)
        · refine j_iload X dX11_holdsAt_96 rfl ?_
          refine j_iload X dX11_holdsAt_98 rfl ?_
          refine s_callSi X hR (m_isKnown np _ _ _) rfl u1284 u1282 u1283 u12 hyX11_isKnown (by decide) (by decide) (Nat.le_of_ble_eq_true rfl) dX11_holdsAt_100 (fun v_100 m_100 h_100 => ?_)
          obtain ⟨e1, e2⟩ := h_100; have e1 := e1.symm; have e2 := e2.symm; subst e1; subst e2
          refine j_ifb_eq X 116 dX11_holdsAt_103 (by decide) (fun c_103 => ?_) (fun c_103 => ?_)
          · refine j_iload X dX11_holdsAt_116 rfl ?_
            refine j_iload X dX11_holdsAt_118 rfl ?_
            refine s_callSi X hR (m_isKnown np _ _ _) rfl u1284 u1282 u1283 u12 hyX11_isKnown (by decide) (by decide) (Nat.le_of_ble_eq_true rfl) dX11_holdsAt_120 (fun v_120 m_120 h_120 => ?_)
            obtain ⟨e1, e2⟩ := h_120; have e1 := e1.symm; have e2 := e2.symm; subst e1; subst e2
            refine j_ifb_eq X 141 dX11_holdsAt_123 (by decide) (fun c_123 => ?_) (fun c_123 => ?_)
            · refine j_iconst X dX11_holdsAt_141 0 (by decide) ?_
              refine s_iret X hE hr dX11_holdsAt_142 rfl ?_
              refine ⟨?_, rfl⟩
              clear hE hr hR X
              unfold jHold
              (repeat' split) <;> first | rfl | (exfalso; simp only [ne_eq] at *; (try simp only [lg_cmp_lt, lg_cmp_gt, lg_cmp_le, lg_cmp_ge] at *); (try simp (disch := omega) only [Int64.le_iff_toInt_le, Int64.lt_iff_toInt_lt, Int32.le_iff_toInt_le, Int32.lt_iff_toInt_lt, fa_eq, fa_lit, fa_litL, nI_toInt, pk_lT, Int32.toInt_toInt64, jadd64, jin, jnoneT] at *); omega)
            · refine j_aload_n X dX11_holdsAt_126 rfl ?_
              refine j_iload_n X dX11_holdsAt_127 rfl ?_
              refine j_iconst X dX11_holdsAt_128 3 (by decide) ?_
              refine s_callVi X hR (m_of np _ p 3 hp (by omega)) rfl 11 (by decide) (o66 np) (k66 np) rfl u1180 u1177 u1179 qp44 u12 hyX11_of (by decide) (by decide) (Nat.le_of_ble_eq_true rfl) dX11_holdsAt_129 (fun v_129 m_129 h_129 => ?_)
              obtain ⟨e1, e2⟩ := h_129; have e1 := e1.symm; have e2 := e2.symm; subst e1; subst e2
              refine j_iload X dX11_holdsAt_132 rfl ?_
              refine j_icmp_lt X 141 dX11_holdsAt_134 (by decide) (fun c_134 => ?_) (fun c_134 => ?_)
              · refine j_iconst X dX11_holdsAt_141 0 (by decide) ?_
                refine s_iret X hE hr dX11_holdsAt_142 rfl ?_
                refine ⟨?_, rfl⟩
                clear hE hr hR X
                unfold jHold
                (repeat' split) <;> first | rfl | (exfalso; simp only [ne_eq] at *; (try simp only [lg_cmp_lt, lg_cmp_gt, lg_cmp_le, lg_cmp_ge] at *); (try simp (disch := omega) only [Int64.le_iff_toInt_le, Int64.lt_iff_toInt_lt, Int32.le_iff_toInt_le, Int32.lt_iff_toInt_lt, fa_eq, fa_lit, fa_litL, nI_toInt, pk_lT, Int32.toInt_toInt64, jadd64, jin, jnoneT] at *); omega)
              · refine j_iconst X dX11_holdsAt_137 5 (by decide) ?_
                refine j_goto X 142 dX11_holdsAt_138 (by decide) ?_
                refine s_iret X hE hr dX11_holdsAt_142 rfl ?_
                refine ⟨?_, rfl⟩
                clear hE hr hR X
                unfold jHold
                (repeat' split) <;> first | rfl | (exfalso; simp only [ne_eq] at *; (try simp only [lg_cmp_lt, lg_cmp_gt, lg_cmp_le, lg_cmp_ge] at *); (try simp (disch := omega) only [Int64.le_iff_toInt_le, Int64.lt_iff_toInt_lt, Int32.le_iff_toInt_le, Int32.lt_iff_toInt_lt, fa_eq, fa_lit, fa_litL, nI_toInt, pk_lT, Int32.toInt_toInt64, jadd64, jin, jnoneT] at *); omega)
          · refine j_iload X dX11_holdsAt_106 rfl ?_
            refine j_iload_n X dX11_holdsAt_108 rfl ?_
            refine j_icmp_gt X 116 dX11_holdsAt_109 (by decide) (fun c_109 => ?_) (fun c_109 => ?_)
            · refine j_iload X dX11_holdsAt_116 rfl ?_
              refine j_iload X dX11_holdsAt_118 rfl ?_
              refine s_callSi X hR (m_isKnown np _ _ _) rfl u1284 u1282 u1283 u12 hyX11_isKnown (by decide) (by decide) (Nat.le_of_ble_eq_true rfl) dX11_holdsAt_120 (fun v_120 m_120 h_120 => ?_)
              obtain ⟨e1, e2⟩ := h_120; have e1 := e1.symm; have e2 := e2.symm; subst e1; subst e2
              refine j_ifb_eq X 141 dX11_holdsAt_123 (by decide) (fun c_123 => ?_) (fun c_123 => ?_)
              · refine j_iconst X dX11_holdsAt_141 0 (by decide) ?_
                refine s_iret X hE hr dX11_holdsAt_142 rfl ?_
                refine ⟨?_, rfl⟩
                clear hE hr hR X
                unfold jHold
                (repeat' split) <;> first | rfl | (exfalso; simp only [ne_eq] at *; (try simp only [lg_cmp_lt, lg_cmp_gt, lg_cmp_le, lg_cmp_ge] at *); (try simp (disch := omega) only [Int64.le_iff_toInt_le, Int64.lt_iff_toInt_lt, Int32.le_iff_toInt_le, Int32.lt_iff_toInt_lt, fa_eq, fa_lit, fa_litL, nI_toInt, pk_lT, Int32.toInt_toInt64, jadd64, jin, jnoneT] at *); omega)
              · refine j_aload_n X dX11_holdsAt_126 rfl ?_
                refine j_iload_n X dX11_holdsAt_127 rfl ?_
                refine j_iconst X dX11_holdsAt_128 3 (by decide) ?_
                refine s_callVi X hR (m_of np _ p 3 hp (by omega)) rfl 11 (by decide) (o66 np) (k66 np) rfl u1180 u1177 u1179 qp44 u12 hyX11_of (by decide) (by decide) (Nat.le_of_ble_eq_true rfl) dX11_holdsAt_129 (fun v_129 m_129 h_129 => ?_)
                obtain ⟨e1, e2⟩ := h_129; have e1 := e1.symm; have e2 := e2.symm; subst e1; subst e2
                refine j_iload X dX11_holdsAt_132 rfl ?_
                refine j_icmp_lt X 141 dX11_holdsAt_134 (by decide) (fun c_134 => ?_) (fun c_134 => ?_)
                · refine j_iconst X dX11_holdsAt_141 0 (by decide) ?_
                  refine s_iret X hE hr dX11_holdsAt_142 rfl ?_
                  refine ⟨?_, rfl⟩
                  clear hE hr hR X
                  unfold jHold
                  (repeat' split) <;> first | rfl | (exfalso; simp only [ne_eq] at *; (try simp only [lg_cmp_lt, lg_cmp_gt, lg_cmp_le, lg_cmp_ge] at *); (try simp (disch := omega) only [Int64.le_iff_toInt_le, Int64.lt_iff_toInt_lt, Int32.le_iff_toInt_le, Int32.lt_iff_toInt_lt, fa_eq, fa_lit, fa_litL, nI_toInt, pk_lT, Int32.toInt_toInt64, jadd64, jin, jnoneT] at *); omega)
                · refine j_iconst X dX11_holdsAt_137 5 (by decide) ?_
                  refine j_goto X 142 dX11_holdsAt_138 (by decide) ?_
                  refine s_iret X hE hr dX11_holdsAt_142 rfl ?_
                  refine ⟨?_, rfl⟩
                  clear hE hr hR X
                  unfold jHold
                  (repeat' split) <;> first | rfl | (exfalso; simp only [ne_eq] at *; (try simp only [lg_cmp_lt, lg_cmp_gt, lg_cmp_le, lg_cmp_ge] at *); (try simp (disch := omega) only [Int64.le_iff_toInt_le, Int64.lt_iff_toInt_lt, Int32.le_iff_toInt_le, Int32.lt_iff_toInt_lt, fa_eq, fa_lit, fa_litL, nI_toInt, pk_lT, Int32.toInt_toInt64, jadd64, jin, jnoneT] at *); omega)
            · refine j_iconst X dX11_holdsAt_112 4 (by decide) ?_
              refine j_goto X 142 dX11_holdsAt_113 (by decide) ?_
              refine s_iret X hE hr dX11_holdsAt_142 rfl ?_
              refine ⟨?_, rfl⟩
              clear hE hr hR X
              unfold jHold
              (repeat' split) <;> first | rfl | (exfalso; simp only [ne_eq] at *; (try simp only [lg_cmp_lt, lg_cmp_gt, lg_cmp_le, lg_cmp_ge] at *); (try simp (disch := omega) only [Int64.le_iff_toInt_le, Int64.lt_iff_toInt_lt, Int32.le_iff_toInt_le, Int32.lt_iff_toInt_lt, fa_eq, fa_lit, fa_litL, nI_toInt, pk_lT, Int32.toInt_toInt64, jadd64, jin, jnoneT] at *); omega)
        · refine j_iconst X dX11_holdsAt_92 3 (by decide) ?_
          refine j_goto X 142 dX11_holdsAt_93 (by decide) ?_
          refine s_iret X hE hr dX11_holdsAt_142 rfl ?_
          refine ⟨?_, rfl⟩
          clear hE hr hR X
          unfold jHold
          (repeat' split) <;> first | rfl | (exfalso; simp only [ne_eq] at *; (try simp only [lg_cmp_lt, lg_cmp_gt, lg_cmp_le, lg_cmp_ge] at *); (try simp (disch := omega) only [Int64.le_iff_toInt_le, Int64.lt_iff_toInt_lt, Int32.le_iff_toInt_le, Int32.lt_iff_toInt_lt, fa_eq, fa_lit, fa_litL, nI_toInt, pk_lT, Int32.toInt_toInt64, jadd64, jin, jnoneT] at *); omega)
    · refine j_iconst X dX11_holdsAt_64 2 (by decide) ?_
      refine j_goto X 142 dX11_holdsAt_65 (by decide) ?_
      refine s_iret X hE hr dX11_holdsAt_142 rfl ?_
      refine ⟨?_, rfl⟩
      clear hE hr hR X
      unfold jHold
      (repeat' split) <;> first | rfl | (exfalso; simp only [ne_eq] at *; (try simp only [lg_cmp_lt, lg_cmp_gt, lg_cmp_le, lg_cmp_ge] at *); (try simp (disch := omega) only [Int64.le_iff_toInt_le, Int64.lt_iff_toInt_lt, Int32.le_iff_toInt_le, Int32.lt_iff_toInt_lt, fa_eq, fa_lit, fa_litL, nI_toInt, pk_lT, Int32.toInt_toInt64, jadd64, jin, jnoneT] at *); omega)
  · refine j_iconst X dX11_holdsAt_50 1 (by decide) ?_
    refine j_goto X 142 dX11_holdsAt_51 (by decide) ?_
    refine s_iret X hE hr dX11_holdsAt_142 rfl ?_
    refine ⟨?_, rfl⟩
    clear hE hr hR X
    unfold jHold
    (repeat' split) <;> first | rfl | (exfalso; simp only [ne_eq] at *; (try simp only [lg_cmp_lt, lg_cmp_gt, lg_cmp_le, lg_cmp_ge] at *); (try simp (disch := omega) only [Int64.le_iff_toInt_le, Int64.lt_iff_toInt_lt, Int32.le_iff_toInt_le, Int32.lt_iff_toInt_lt, fa_eq, fa_lit, fa_litL, nI_toInt, pk_lT, Int32.toInt_toInt64, jadd64, jin, jnoneT] at *); omega)
set_option maxRecDepth 4000 in
set_option maxHeartbeats 1000000 in
theorem m_holds_bad (np : Nat) (mem : jMem) (p dr d : Int32) (hn : np ≤ 12) (hp : mem 66 9 = nI np) (h : ¬ (jin p 0 ((np : Int) - 1) ∧ jin dr 0 3 ∧ jin d 0 999)) : jPi yX11_holds cX11_holds 4 .int 3 [.ref 66, .int p, .int dr, .int d] np mem (fun v c => v = -1000001 ∧ c = jup mem 66 0 0) := by
  refine jPi.of (own := RX11) rfl rfl (Nat.le_of_ble_eq_true rfl) (fun G X hR hr hE => ?_)
  refine j_aload_n X dX11_holds_0 rfl ?_
  refine j_iconst X dX11_holds_1 0 (by decide) ?_
  refine j_putI X 11 0 (by decide) (by decide) rfl rfl rfl rfl u950 (o66 np) (k66 np) dX11_holds_2 ?_
  refine j_aload_n X dX11_holds_5 rfl ?_
  refine j_iload_n X dX11_holds_6 rfl ?_
  refine s_callVi X hR (m_isPaper np _ _ hn hp) rfl 11 (by decide) (o66 np) (k66 np) rfl u1151 u1148 u1150 qp39 u12 hyX11_isPaper (by decide) (by decide) (Nat.le_of_ble_eq_true rfl) dX11_holds_7 (fun v_7 m_7 h_7 => ?_)
  obtain ⟨e1, e2⟩ := h_7; have e1 := e1.symm; have e2 := e2.symm; subst e1; subst e2
  refine j_ifb_eq X 27 dX11_holds_10 (by decide) (fun c_10 => ?_) (fun c_10 => ?_)
  · refine j_ldc X dX11_holds_27 u1089 ?_
    refine j_goto X 39 dX11_holds_29 (by decide) ?_
    refine s_iret X hE hr dX11_holds_39 rfl ?_
    first | exact ⟨rfl, rfl⟩ | (exfalso; clear hE hr hR X; (try simp only [lg_cmp_lt, lg_cmp_gt, lg_cmp_le, lg_cmp_ge] at *); (try simp (disch := omega) only [Int64.le_iff_toInt_le, Int64.lt_iff_toInt_lt, Int32.le_iff_toInt_le, Int32.lt_iff_toInt_lt, fa_eq, fa_lit, fa_litL, nI_toInt, pk_lT, Int32.toInt_toInt64, jadd64, jin, jnoneT] at *); omega)
  · refine j_iload_n X dX11_holds_13 rfl ?_
    refine s_callSi X hR (m_isDoor np _ _) rfl u1269 u1267 u1268 u12 hyX11_isDoor (by decide) (by decide) (Nat.le_of_ble_eq_true rfl) dX11_holds_14 (fun v_14 m_14 h_14 => ?_)
    obtain ⟨e1, e2⟩ := h_14; have e1 := e1.symm; have e2 := e2.symm; subst e1; subst e2
    refine j_ifb_eq X 27 dX11_holds_17 (by decide) (fun c_17 => ?_) (fun c_17 => ?_)
    · refine j_ldc X dX11_holds_27 u1089 ?_
      refine j_goto X 39 dX11_holds_29 (by decide) ?_
      refine s_iret X hE hr dX11_holds_39 rfl ?_
      first | exact ⟨rfl, rfl⟩ | (exfalso; clear hE hr hR X; (try simp only [lg_cmp_lt, lg_cmp_gt, lg_cmp_le, lg_cmp_ge] at *); (try simp (disch := omega) only [Int64.le_iff_toInt_le, Int64.lt_iff_toInt_lt, Int32.le_iff_toInt_le, Int32.lt_iff_toInt_lt, fa_eq, fa_lit, fa_litL, nI_toInt, pk_lT, Int32.toInt_toInt64, jadd64, jin, jnoneT] at *); omega)
    · refine j_iload_n X dX11_holds_20 rfl ?_
      refine s_callSi X hR (m_isDay np _ _) rfl u1117 u1115 u1116 u12 hyX11_isDay (by decide) (by decide) (Nat.le_of_ble_eq_true rfl) dX11_holds_21 (fun v_21 m_21 h_21 => ?_)
      obtain ⟨e1, e2⟩ := h_21; have e1 := e1.symm; have e2 := e2.symm; subst e1; subst e2
      refine j_ifb_ne X 32 dX11_holds_24 (by decide) (fun c_24 => ?_) (fun c_24 => ?_)
      · exfalso
        clear hE hr hR X
        (try simp only [lg_cmp_lt, lg_cmp_gt, lg_cmp_le, lg_cmp_ge] at *); (try simp (disch := omega) only [Int64.le_iff_toInt_le, Int64.lt_iff_toInt_lt, Int32.le_iff_toInt_le, Int32.lt_iff_toInt_lt, fa_eq, fa_lit, fa_litL, nI_toInt, pk_lT, Int32.toInt_toInt64, jadd64, jin, jnoneT] at *); omega
      · refine j_ldc X dX11_holds_27 u1089 ?_
        refine j_goto X 39 dX11_holds_29 (by decide) ?_
        refine s_iret X hE hr dX11_holds_39 rfl ?_
        first | exact ⟨rfl, rfl⟩ | (exfalso; clear hE hr hR X; (try simp only [lg_cmp_lt, lg_cmp_gt, lg_cmp_le, lg_cmp_ge] at *); (try simp (disch := omega) only [Int64.le_iff_toInt_le, Int64.lt_iff_toInt_lt, Int32.le_iff_toInt_le, Int32.lt_iff_toInt_lt, fa_eq, fa_lit, fa_litL, nI_toInt, pk_lT, Int32.toInt_toInt64, jadd64, jin, jnoneT] at *); omega)
set_option maxRecDepth 4000 in
set_option maxHeartbeats 1000000 in
theorem m_holds (np : Nat) (mem : jMem) (p dr o : Nat) (d : Int32) (hn : np ≤ 12) (hp : mem 66 9 = nI np) (hp2 : p < np) (hdr : dr < 4) (hd : jin d 0 999) (ho : o < 4) (hpo : mem 74 (9 * p) = nI o) : jPi yX11_holds cX11_holds 4 .int 3 [.ref 66, .int (nI p), .int (nI dr), .int d] np mem (fun v c => v = jHold (mem 74 (9 * p + 3)) (mem 74 (9 * p + 4)) (mem 75 p) (mem 73 (2 * o + 1)) (mem 73 (2 * o)) (mem 79 dr) d ∧ c = jup mem 66 0 0) := by
  refine jPi.of (own := RX11) rfl rfl (Nat.le_of_ble_eq_true rfl) (fun G X hR hr hE => ?_)
  refine j_aload_n X dX11_holds_0 rfl ?_
  refine j_iconst X dX11_holds_1 0 (by decide) ?_
  refine j_putI X 11 0 (by decide) (by decide) rfl rfl rfl rfl u950 (o66 np) (k66 np) dX11_holds_2 ?_
  refine j_aload_n X dX11_holds_5 rfl ?_
  refine j_iload_n X dX11_holds_6 rfl ?_
  refine s_callVi X hR (m_isPaper np _ _ hn hp) rfl 11 (by decide) (o66 np) (k66 np) rfl u1151 u1148 u1150 qp39 u12 hyX11_isPaper (by decide) (by decide) (Nat.le_of_ble_eq_true rfl) dX11_holds_7 (fun v_7 m_7 h_7 => ?_)
  obtain ⟨e1, e2⟩ := h_7; have e1 := e1.symm; have e2 := e2.symm; subst e1; subst e2
  refine j_ifb_eq X 27 dX11_holds_10 (by decide) (fun c_10 => ?_) (fun c_10 => ?_)
  · exfalso
    clear hE hr hR X
    (try simp only [lg_cmp_lt, lg_cmp_gt, lg_cmp_le, lg_cmp_ge] at *); (try simp (disch := omega) only [Int64.le_iff_toInt_le, Int64.lt_iff_toInt_lt, Int32.le_iff_toInt_le, Int32.lt_iff_toInt_lt, fa_eq, fa_lit, fa_litL, nI_toInt, pk_lT, Int32.toInt_toInt64, jadd64, jin, jnoneT] at *); omega
  · refine j_iload_n X dX11_holds_13 rfl ?_
    refine s_callSi X hR (m_isDoor np _ _) rfl u1269 u1267 u1268 u12 hyX11_isDoor (by decide) (by decide) (Nat.le_of_ble_eq_true rfl) dX11_holds_14 (fun v_14 m_14 h_14 => ?_)
    obtain ⟨e1, e2⟩ := h_14; have e1 := e1.symm; have e2 := e2.symm; subst e1; subst e2
    refine j_ifb_eq X 27 dX11_holds_17 (by decide) (fun c_17 => ?_) (fun c_17 => ?_)
    · exfalso
      clear hE hr hR X
      (try simp only [lg_cmp_lt, lg_cmp_gt, lg_cmp_le, lg_cmp_ge] at *); (try simp (disch := omega) only [Int64.le_iff_toInt_le, Int64.lt_iff_toInt_lt, Int32.le_iff_toInt_le, Int32.lt_iff_toInt_lt, fa_eq, fa_lit, fa_litL, nI_toInt, pk_lT, Int32.toInt_toInt64, jadd64, jin, jnoneT] at *); omega
    · refine j_iload_n X dX11_holds_20 rfl ?_
      refine s_callSi X hR (m_isDay np _ _) rfl u1117 u1115 u1116 u12 hyX11_isDay (by decide) (by decide) (Nat.le_of_ble_eq_true rfl) dX11_holds_21 (fun v_21 m_21 h_21 => ?_)
      obtain ⟨e1, e2⟩ := h_21; have e1 := e1.symm; have e2 := e2.symm; subst e1; subst e2
      refine j_ifb_ne X 32 dX11_holds_24 (by decide) (fun c_24 => ?_) (fun c_24 => ?_)
      · refine j_aload_n X dX11_holds_32 rfl ?_
        refine j_iload_n X dX11_holds_33 rfl ?_
        refine j_iload_n X dX11_holds_34 rfl ?_
        refine j_iload_n X dX11_holds_35 rfl ?_
        refine s_callVi X hR (m_holdsAt np _ p dr o d (by omega) hdr ho hpo) rfl 11 (by decide) (o66 np) (k66 np) rfl u1281 u1278 u1280 qp49 u12 hyX11_holdsAt (by decide) (by decide) (Nat.le_of_ble_eq_true rfl) dX11_holds_36 (fun v_36 m_36 h_36 => ?_)
        obtain ⟨e1, e2⟩ := h_36; have e1 := e1.symm; have e2 := e2.symm; subst e1; subst e2
        refine s_iret X hE hr dX11_holds_39 rfl ?_
        first | exact ⟨rfl, rfl⟩ | (exfalso; clear hE hr hR X; (try simp only [lg_cmp_lt, lg_cmp_gt, lg_cmp_le, lg_cmp_ge] at *); (try simp (disch := omega) only [Int64.le_iff_toInt_le, Int64.lt_iff_toInt_lt, Int32.le_iff_toInt_le, Int32.lt_iff_toInt_lt, fa_eq, fa_lit, fa_litL, nI_toInt, pk_lT, Int32.toInt_toInt64, jadd64, jin, jnoneT] at *); omega)
      · exfalso
        clear hE hr hR X
        (try simp only [lg_cmp_lt, lg_cmp_gt, lg_cmp_le, lg_cmp_ge] at *); (try simp (disch := omega) only [Int64.le_iff_toInt_le, Int64.lt_iff_toInt_lt, Int32.le_iff_toInt_le, Int32.lt_iff_toInt_lt, fa_eq, fa_lit, fa_litL, nI_toInt, pk_lT, Int32.toInt_toInt64, jadd64, jin, jnoneT] at *); omega
