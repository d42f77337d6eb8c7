/-- all cells but those of S are the same -/
def jeq (S : List Nat) (m m2 : jMem) : Prop := ∀ i, i ∉ S → m2 i = m i
theorem jeq.rf {S : List Nat} {m : jMem} : jeq S m m := fun _ _ => rfl
theorem jeq.up {S : List Nat} {m m2 : jMem} {o k : Nat} {x : Int32} (h : jeq S m m2) (ho : o ∈ S) : jeq S m (jup m2 o k x) := fun i hi => by
  have : i ≠ o := fun e => hi (e ▸ ho)
  unfold jup va_up
  rw [if_neg this]
  exact h i hi
theorem jeq.cg {S : List Nat} {m m2 : jMem} {o k : Nat} {x : Int32} (h : jeq S m m2) (ho : o ∉ S) : jeq S (jup m o k x) (jup m2 o k x) := fun i hi => by
  unfold jup va_up
  by_cases e : i = o
  · rw [if_pos e, if_pos e, h o ho]
  · rw [if_neg e, if_neg e]
    exact h i hi
theorem jeq.tr {S : List Nat} {m m2 m3 : jMem} (h : jeq S m m2) (h2 : jeq S m2 m3) : jeq S m m3 := fun i hi => (h2 i hi).trans (h i hi)
theorem jeq.mo {S T : List Nat} {m m2 : jMem} (h : jeq S m m2) (hs : ∀ x ∈ S, x ∈ T) : jeq T m m2 := fun i hi => h i (fun q => hi (hs i q))
set_option maxRecDepth 4000 in
set_option maxHeartbeats 1000000 in
theorem m_field0 (np : Nat) (mem : jMem) (p : Nat) (hp : p < 12) : jPi yX11_field cX11_field 3 .int 1 [.ref 66, .int (nI p), .int 0] np mem (fun v c => v = mem 74 (9 * p + 5) ∧ c = mem) := by
  refine jPi.of (own := RX11) rfl rfl (Nat.le_of_ble_eq_true rfl) (fun G X hR hr hE => ?_)
  refine j_aload_n X dX11_field_0 rfl ?_
  refine j_getR X 11 10 (by decide) (by decide) rfl u960 (o66 np) (k66 np) _ (p66_10 np) dX11_field_1 ?_
  refine j_bipush X dX11_field_4 9 (by decide) ?_
  refine j_iload_n X dX11_field_6 rfl ?_
  refine j_imul X dX11_field_7 ?_
  refine j_iconst X dX11_field_8 5 (by decide) ?_
  refine j_iadd X dX11_field_9 ?_
  refine j_iload_n X dX11_field_10 rfl ?_
  refine j_iadd X dX11_field_11 ?_
  refine j_nrm _ (by first | (simp only [fa_lit, pk_mul, nI_add]; done) | (simp only [fa_lit, pk_mul, nI_add]; rfl) | rfl) ?_
  refine j_ialdN X (o74 np) (k74 np) (by rw [l74]; omega) (by rw [l74]; decide) (mem 74) rfl dX11_field_12 ?_
  refine s_iret X hE hr dX11_field_13 rfl ?_
  first | exact ⟨rfl, rfl⟩ | (exfalso; clear hE hr hR X; (try simp only [lg_cmp_lt, lg_cmp_gt, lg_cmp_le, lg_cmp_ge] at *); (try simp (disch := omega) only [Int64.le_iff_toInt_le, Int64.lt_iff_toInt_lt, Int32.le_iff_toInt_le, Int32.lt_iff_toInt_lt, fa_eq, fa_lit, fa_litL, nI_toInt, pk_lT, Int32.toInt_toInt64, jadd64, jin, jnoneT] at *); omega)
set_option maxRecDepth 4000 in
set_option maxHeartbeats 1000000 in
theorem m_field1 (np : Nat) (mem : jMem) (p : Nat) (hp : p < 12) : jPi yX11_field cX11_field 3 .int 1 [.ref 66, .int (nI p), .int 1] np mem (fun v c => v = mem 74 (9 * p + 6) ∧ c = mem) := by
  refine jPi.of (own := RX11) rfl rfl (Nat.le_of_ble_eq_true rfl) (fun G X hR hr hE => ?_)
  refine j_aload_n X dX11_field_0 rfl ?_
  refine j_getR X 11 10 (by decide) (by decide) rfl u960 (o66 np) (k66 np) _ (p66_10 np) dX11_field_1 ?_
  refine j_bipush X dX11_field_4 9 (by decide) ?_
  refine j_iload_n X dX11_field_6 rfl ?_
  refine j_imul X dX11_field_7 ?_
  refine j_iconst X dX11_field_8 5 (by decide) ?_
  refine j_iadd X dX11_field_9 ?_
  refine j_iload_n X dX11_field_10 rfl ?_
  refine j_iadd X dX11_field_11 ?_
  refine j_nrm _ (by first | (simp only [fa_lit, pk_mul, nI_add]; done) | (simp only [fa_lit, pk_mul, nI_add]; rfl) | rfl) ?_
  refine j_ialdN X (o74 np) (k74 np) (by rw [l74]; omega) (by rw [l74]; decide) (mem 74) rfl dX11_field_12 ?_
  refine s_iret X hE hr dX11_field_13 rfl ?_
  first | exact ⟨rfl, rfl⟩ | (exfalso; clear hE hr hR X; (try simp only [lg_cmp_lt, lg_cmp_gt, lg_cmp_le, lg_cmp_ge] at *); (try simp (disch := omega) only [Int64.le_iff_toInt_le, Int64.lt_iff_toInt_lt, Int32.le_iff_toInt_le, Int32.lt_iff_toInt_lt, fa_eq, fa_lit, fa_litL, nI_toInt, pk_lT, Int32.toInt_toInt64, jadd64, jin, jnoneT] at *); omega)
set_option maxRecDepth 4000 in
set_option maxHeartbeats 1000000 in
theorem m_field2 (np : Nat) (mem : jMem) (p : Nat) (hp : p < 12) : jPi yX11_field cX11_field 3 .int 1 [.ref 66, .int (nI p), .int 2] np mem (fun v c => v = mem 74 (9 * p + 7) ∧ c = mem) := by
  refine jPi.of (own := RX11) rfl rfl (Nat.le_of_ble_eq_true rfl) (fun G X hR hr hE => ?_)
  refine j_aload_n X dX11_field_0 rfl ?_
  refine j_getR X 11 10 (by decide) (by decide) rfl u960 (o66 np) (k66 np) _ (p66_10 np) dX11_field_1 ?_
  refine j_bipush X dX11_field_4 9 (by decide) ?_
  refine j_iload_n X dX11_field_6 rfl ?_
  refine j_imul X dX11_field_7 ?_
  refine j_iconst X dX11_field_8 5 (by decide) ?_
  refine j_iadd X dX11_field_9 ?_
  refine j_iload_n X dX11_field_10 rfl ?_
  refine j_iadd X dX11_field_11 ?_
  refine j_nrm _ (by first | (simp only [fa_lit, pk_mul, nI_add]; done) | (simp only [fa_lit, pk_mul, nI_add]; rfl) | rfl) ?_
  refine j_ialdN X (o74 np) (k74 np) (by rw [l74]; omega) (by rw [l74]; decide) (mem 74) rfl dX11_field_12 ?_
  refine s_iret X hE hr dX11_field_13 rfl ?_
  first | exact ⟨rfl, rfl⟩ | (exfalso; clear hE hr hR X; (try simp only [lg_cmp_lt, lg_cmp_gt, lg_cmp_le, lg_cmp_ge] at *); (try simp (disch := omega) only [Int64.le_iff_toInt_le, Int64.lt_iff_toInt_lt, Int32.le_iff_toInt_le, Int32.lt_iff_toInt_lt, fa_eq, fa_lit, fa_litL, nI_toInt, pk_lT, Int32.toInt_toInt64, jadd64, jin, jnoneT] at *); omega)
set_option maxRecDepth 4000 in
set_option maxHeartbeats 1000000 in
theorem m_field3 (np : Nat) (mem : jMem) (p : Nat) (hp : p < 12) : jPi yX11_field cX11_field 3 .int 1 [.ref 66, .int (nI p), .int 3] np mem (fun v c => v = mem 74 (9 * p + 8) ∧ c = mem) := by
  refine jPi.of (own := RX11) rfl rfl (Nat.le_of_ble_eq_true rfl) (fun G X hR hr hE => ?_)
  refine j_aload_n X dX11_field_0 rfl ?_
  refine j_getR X 11 10 (by decide) (by decide) rfl u960 (o66 np) (k66 np) _ (p66_10 np) dX11_field_1 ?_
  refine j_bipush X dX11_field_4 9 (by decide) ?_
  refine j_iload_n X dX11_field_6 rfl ?_
  refine j_imul X dX11_field_7 ?_
  refine j_iconst X dX11_field_8 5 (by decide) ?_
  refine j_iadd X dX11_field_9 ?_
  refine j_iload_n X dX11_field_10 rfl ?_
  refine j_iadd X dX11_field_11 ?_
  refine j_nrm _ (by first | (simp only [fa_lit, pk_mul, nI_add]; done) | (simp only [fa_lit, pk_mul, nI_add]; rfl) | rfl) ?_
  refine j_ialdN X (o74 np) (k74 np) (by rw [l74]; omega) (by rw [l74]; decide) (mem 74) rfl dX11_field_12 ?_
  refine s_iret X hE hr dX11_field_13 rfl ?_
  first | exact ⟨rfl, rfl⟩ | (exfalso; clear hE hr hR X; (try simp only [lg_cmp_lt, lg_cmp_gt, lg_cmp_le, lg_cmp_ge] at *); (try simp (disch := omega) only [Int64.le_iff_toInt_le, Int64.lt_iff_toInt_lt, Int32.le_iff_toInt_le, Int32.lt_iff_toInt_lt, fa_eq, fa_lit, fa_litL, nI_toInt, pk_lT, Int32.toInt_toInt64, jadd64, jin, jnoneT] at *); omega)
set_option maxRecDepth 4000 in
set_option maxHeartbeats 1000000 in
theorem m_half0 (np : Nat) (mem : jMem) (p : Nat) (hp : p < 12) : jPi yX11_halfOf cX11_halfOf 3 .int 2 [.ref 66, .int (nI p), .int 0] np mem (fun v c => v = (jJoin (jLeaf (nI p) 0 (mem 74 (9 * p + 5))) (jLeaf (nI p) 1 (mem 74 (9 * p + 6)))) ∧ c = mem) := by
  refine jPi.of (own := RX11) rfl rfl (Nat.le_of_ble_eq_true rfl) (fun G X hR hr hE => ?_)
  refine j_iload_n X dX11_halfOf_0 rfl ?_
  refine j_iconst X dX11_halfOf_1 2 (by decide) ?_
  refine j_iload_n X dX11_halfOf_2 rfl ?_
  refine j_imul X dX11_halfOf_3 ?_
  refine j_aload_n X dX11_halfOf_4 rfl ?_
  refine j_iload_n X dX11_halfOf_5 rfl ?_
  refine j_iconst X dX11_halfOf_6 2 (by decide) ?_
  refine j_iload_n X dX11_halfOf_7 rfl ?_
  refine j_imul X dX11_halfOf_8 ?_
  refine s_callVi X hR (m_field0 np _ _ hp) rfl 11 (by decide) (o66 np) (k66 np) rfl u1160 u1157 u1159 qp41 u12 hyX11_field (by decide) (by decide) (Nat.le_of_ble_eq_true rfl) dX11_halfOf_9 (fun v_9 m_9 h_9 => ?_)
  obtain ⟨e1, e2⟩ := h_9; have e1 := e1.symm; have e2 := e2.symm; subst e1; subst e2
  refine s_callSi X hR (m_leaf np _ _ _ _) rfl u1163 u1161 u1162 u12 hyX11_leaf (by decide) (by decide) (Nat.le_of_ble_eq_true rfl) dX11_halfOf_12 (fun v_12 m_12 h_12 => ?_)
  obtain ⟨e1, e2⟩ := h_12; have e1 := e1.symm; have e2 := e2.symm; subst e1; subst e2
  refine j_iload_n X dX11_halfOf_15 rfl ?_
  refine j_iconst X dX11_halfOf_16 2 (by decide) ?_
  refine j_iload_n X dX11_halfOf_17 rfl ?_
  refine j_imul X dX11_halfOf_18 ?_
  refine j_iconst X dX11_halfOf_19 1 (by decide) ?_
  refine j_iadd X dX11_halfOf_20 ?_
  refine j_aload_n X dX11_halfOf_21 rfl ?_
  refine j_iload_n X dX11_halfOf_22 rfl ?_
  refine j_iconst X dX11_halfOf_23 2 (by decide) ?_
  refine j_iload_n X dX11_halfOf_24 rfl ?_
  refine j_imul X dX11_halfOf_25 ?_
  refine j_iconst X dX11_halfOf_26 1 (by decide) ?_
  refine j_iadd X dX11_halfOf_27 ?_
  refine s_callVi X hR (m_field1 np _ _ hp) rfl 11 (by decide) (o66 np) (k66 np) rfl u1160 u1157 u1159 qp41 u12 hyX11_field (by decide) (by decide) (Nat.le_of_ble_eq_true rfl) dX11_halfOf_28 (fun v_28 m_28 h_28 => ?_)
  obtain ⟨e1, e2⟩ := h_28; have e1 := e1.symm; have e2 := e2.symm; subst e1; subst e2
  refine s_callSi X hR (m_leaf np _ _ _ _) rfl u1163 u1161 u1162 u12 hyX11_leaf (by decide) (by decide) (Nat.le_of_ble_eq_true rfl) dX11_halfOf_31 (fun v_31 m_31 h_31 => ?_)
  obtain ⟨e1, e2⟩ := h_31; have e1 := e1.symm; have e2 := e2.symm; subst e1; subst e2
  refine s_callSi X hR (m_join np _ _ _) rfl u1167 u1165 u1166 u12 hyX11_join (by decide) (by decide) (Nat.le_of_ble_eq_true rfl) dX11_halfOf_34 (fun v_34 m_34 h_34 => ?_)
  obtain ⟨e1, e2⟩ := h_34; have e1 := e1.symm; have e2 := e2.symm; subst e1; subst e2
  refine s_iret X hE hr dX11_halfOf_37 rfl ?_
  first | exact ⟨rfl, rfl⟩ | (exfalso; clear hE hr hR X; (try simp only [lg_cmp_lt, lg_cmp_gt, lg_cmp_le, lg_cmp_ge] at *); (try simp (disch := omega) only [Int64.le_iff_toInt_le, Int64.lt_iff_toInt_lt, Int32.le_iff_toInt_le, Int32.lt_iff_toInt_lt, fa_eq, fa_lit, fa_litL, nI_toInt, pk_lT, Int32.toInt_toInt64, jadd64, jin, jnoneT] at *); omega)
set_option maxRecDepth 4000 in
set_option maxHeartbeats 1000000 in
theorem m_half1 (np : Nat) (mem : jMem) (p : Nat) (hp : p < 12) : jPi yX11_halfOf cX11_halfOf 3 .int 2 [.ref 66, .int (nI p), .int 1] np mem (fun v c => v = (jJoin (jLeaf (nI p) 2 (mem 74 (9 * p + 7))) (jLeaf (nI p) 3 (mem 74 (9 * p + 8)))) ∧ c = mem) := by
  refine jPi.of (own := RX11) rfl rfl (Nat.le_of_ble_eq_true rfl) (fun G X hR hr hE => ?_)
  refine j_iload_n X dX11_halfOf_0 rfl ?_
  refine j_iconst X dX11_halfOf_1 2 (by decide) ?_
  refine j_iload_n X dX11_halfOf_2 rfl ?_
  refine j_imul X dX11_halfOf_3 ?_
  refine j_aload_n X dX11_halfOf_4 rfl ?_
  refine j_iload_n X dX11_halfOf_5 rfl ?_
  refine j_iconst X dX11_halfOf_6 2 (by decide) ?_
  refine j_iload_n X dX11_halfOf_7 rfl ?_
  refine j_imul X dX11_halfOf_8 ?_
  refine s_callVi X hR (m_field2 np _ _ hp) rfl 11 (by decide) (o66 np) (k66 np) rfl u1160 u1157 u1159 qp41 u12 hyX11_field (by decide) (by decide) (Nat.le_of_ble_eq_true rfl) dX11_halfOf_9 (fun v_9 m_9 h_9 => ?_)
  obtain ⟨e1, e2⟩ := h_9; have e1 := e1.symm; have e2 := e2.symm; subst e1; subst e2
  refine s_callSi X hR (m_leaf np _ _ _ _) rfl u1163 u1161 u1162 u12 hyX11_leaf (by decide) (by decide) (Nat.le_of_ble_eq_true rfl) dX11_halfOf_12 (fun v_12 m_12 h_12 => ?_)
  obtain ⟨e1, e2⟩ := h_12; have e1 := e1.symm; have e2 := e2.symm; subst e1; subst e2
  refine j_iload_n X dX11_halfOf_15 rfl ?_
  refine j_iconst X dX11_halfOf_16 2 (by decide) ?_
  refine j_iload_n X dX11_halfOf_17 rfl ?_
  refine j_imul X dX11_halfOf_18 ?_
  refine j_iconst X dX11_halfOf_19 1 (by decide) ?_
  refine j_iadd X dX11_halfOf_20 ?_
  refine j_aload_n X dX11_halfOf_21 rfl ?_
  refine j_iload_n X dX11_halfOf_22 rfl ?_
  refine j_iconst X dX11_halfOf_23 2 (by decide) ?_
  refine j_iload_n X dX11_halfOf_24 rfl ?_
  refine j_imul X dX11_halfOf_25 ?_
  refine j_iconst X dX11_halfOf_26 1 (by decide) ?_
  refine j_iadd X dX11_halfOf_27 ?_
  refine s_callVi X hR (m_field3 np _ _ hp) rfl 11 (by decide) (o66 np) (k66 np) rfl u1160 u1157 u1159 qp41 u12 hyX11_field (by decide) (by decide) (Nat.le_of_ble_eq_true rfl) dX11_halfOf_28 (fun v_28 m_28 h_28 => ?_)
  obtain ⟨e1, e2⟩ := h_28; have e1 := e1.symm; have e2 := e2.symm; subst e1; subst e2
  refine s_callSi X hR (m_leaf np _ _ _ _) rfl u1163 u1161 u1162 u12 hyX11_leaf (by decide) (by decide) (Nat.le_of_ble_eq_true rfl) dX11_halfOf_31 (fun v_31 m_31 h_31 => ?_)
  obtain ⟨e1, e2⟩ := h_31; have e1 := e1.symm; have e2 := e2.symm; subst e1; subst e2
  refine s_callSi X hR (m_join np _ _ _) rfl u1167 u1165 u1166 u12 hyX11_join (by decide) (by decide) (Nat.le_of_ble_eq_true rfl) dX11_halfOf_34 (fun v_34 m_34 h_34 => ?_)
  obtain ⟨e1, e2⟩ := h_34; have e1 := e1.symm; have e2 := e2.symm; subst e1; subst e2
  refine s_iret X hE hr dX11_halfOf_37 rfl ?_
  first | exact ⟨rfl, rfl⟩ | (exfalso; clear hE hr hR X; (try simp only [lg_cmp_lt, lg_cmp_gt, lg_cmp_le, lg_cmp_ge] at *); (try simp (disch := omega) only [Int64.le_iff_toInt_le, Int64.lt_iff_toInt_lt, Int32.le_iff_toInt_le, Int32.lt_iff_toInt_lt, fa_eq, fa_lit, fa_litL, nI_toInt, pk_lT, Int32.toInt_toInt64, jadd64, jin, jnoneT] at *); omega)
set_option maxRecDepth 4000 in
set_option maxHeartbeats 1000000 in
theorem m_showAll0 (np : Nat) (mem : jMem) (p : Nat) (hp : p < 12) : jPi yX11_showAll cX11_showAll 6 .int 3 [.ref 66, .int (nI p), .int 0] np mem (fun v c => v = 2 ∧ c = jup (jup (mem) 76 0 (jJoin (jLeaf (nI p) 0 (mem 74 (9 * p + 5))) (jLeaf (nI p) 1 (mem 74 (9 * p + 6))))) 76 1 (jJoin (jLeaf (nI p) 2 (mem 74 (9 * p + 7))) (jLeaf (nI p) 3 (mem 74 (9 * p + 8))))) := by
  refine jPi.of (own := RX11) rfl rfl (Nat.le_of_ble_eq_true rfl) (fun G X hR hr hE => ?_)
  refine j_iconst X dX11_showAll_0 0 (by decide) ?_
  refine j_istore_n X dX11_showAll_1 (by decide) ?_
  refine j_iconst X dX11_showAll_2 0 (by decide) ?_
  refine j_istore X dX11_showAll_3 (by decide) ?_
  refine j_iload X dX11_showAll_5 rfl ?_
  refine j_iconst X dX11_showAll_7 2 (by decide) ?_
  refine j_icmp_ge X 112 dX11_showAll_8 (by decide) (fun c_8 => absurd c_8 (by decide)) (fun c_8 => ?_)
  refine j_iload_n X dX11_showAll_11 rfl ?_
  refine j_iconst X dX11_showAll_12 2 (by decide) ?_
  refine j_iload X dX11_showAll_13 rfl ?_
  refine j_imul X dX11_showAll_15 ?_
  refine j_ishr X dX11_showAll_16 ?_
  refine j_iconst X dX11_showAll_17 3 (by decide) ?_
  refine j_iand X dX11_showAll_18 ?_
  refine j_if_ne X 41 dX11_showAll_19 (by decide) (fun c_19 => absurd c_19 (by decide)) (fun c_19 => ?_)
  refine j_aload_n X dX11_showAll_22 rfl ?_
  refine j_getR X 11 12 (by decide) (by decide) rfl u962 (o66 np) (k66 np) _ (p66_12 np) dX11_showAll_23 ?_
  refine j_iload_n X dX11_showAll_26 rfl ?_
  refine j_aload_n X dX11_showAll_27 rfl ?_
  refine j_iload_n X dX11_showAll_28 rfl ?_
  refine j_iload X dX11_showAll_29 rfl ?_
  refine s_callVi X hR (m_half0 np _ _ hp) rfl 11 (by decide) (o66 np) (k66 np) rfl u1156 u1153 u1155 qp40 u12 hyX11_halfOf (by decide) (by decide) (Nat.le_of_ble_eq_true rfl) dX11_showAll_31 (fun v_31 m_31 h_31 => ?_)
  obtain ⟨e1, e2⟩ := h_31; have e1 := e1.symm; have e2 := e2.symm; subst e1; subst e2
  refine j_nrm2 _ (by first | (simp only [fa_lit, pk_mul, nI_add]; done) | (simp only [fa_lit, pk_mul, nI_add]; rfl) | rfl) ?_
  refine j_iastN X (o76 np) (k76 np) (by rw [l76]; omega) (by rw [l76]; decide) dX11_showAll_34 ?_
  refine j_iinc X dX11_showAll_35 rfl 1 rfl ?_
  refine j_goto X 106 dX11_showAll_38 (by decide) ?_
  refine j_iinc X dX11_showAll_106 rfl 1 rfl ?_
  refine j_goto X 5 dX11_showAll_109 (by decide) ?_
  refine j_iload X dX11_showAll_5 rfl ?_
  refine j_iconst X dX11_showAll_7 2 (by decide) ?_
  refine j_icmp_ge X 112 dX11_showAll_8 (by decide) (fun c_8 => absurd c_8 (by decide)) (fun c_8 => ?_)
  refine j_iload_n X dX11_showAll_11 rfl ?_
  refine j_iconst X dX11_showAll_12 2 (by decide) ?_
  refine j_iload X dX11_showAll_13 rfl ?_
  refine j_imul X dX11_showAll_15 ?_
  refine j_ishr X dX11_showAll_16 ?_
  refine j_iconst X dX11_showAll_17 3 (by decide) ?_
  refine j_iand X dX11_showAll_18 ?_
  refine j_if_ne X 41 dX11_showAll_19 (by decide) (fun c_19 => absurd c_19 (by decide)) (fun c_19 => ?_)
  refine j_aload_n X dX11_showAll_22 rfl ?_
  refine j_getR X 11 12 (by decide) (by decide) rfl u962 (o66 np) (k66 np) _ (p66_12 np) dX11_showAll_23 ?_
  refine j_iload_n X dX11_showAll_26 rfl ?_
  refine j_aload_n X dX11_showAll_27 rfl ?_
  refine j_iload_n X dX11_showAll_28 rfl ?_
  refine j_iload X dX11_showAll_29 rfl ?_
  refine s_callVi X hR (m_half1 np _ _ hp) rfl 11 (by decide) (o66 np) (k66 np) rfl u1156 u1153 u1155 qp40 u12 hyX11_halfOf (by decide) (by decide) (Nat.le_of_ble_eq_true rfl) dX11_showAll_31 (fun v_31 m_31 h_31 => ?_)
  obtain ⟨e1, e2⟩ := h_31; have e1 := e1.symm; have e2 := e2.symm; subst e1; subst e2
  refine j_nrm2 _ (by first | (simp only [fa_lit, pk_mul, nI_add]; done) | (simp only [fa_lit, pk_mul, nI_add]; rfl) | rfl) ?_
  refine j_iastN X (o76 np) (k76 np) (by rw [l76]; omega) (by rw [l76]; decide) dX11_showAll_34 ?_
  refine j_iinc X dX11_showAll_35 rfl 1 rfl ?_
  refine j_goto X 106 dX11_showAll_38 (by decide) ?_
  refine j_iinc X dX11_showAll_106 rfl 1 rfl ?_
  refine j_goto X 5 dX11_showAll_109 (by decide) ?_
  refine j_iload X dX11_showAll_5 rfl ?_
  refine j_iconst X dX11_showAll_7 2 (by decide) ?_
  refine j_icmp_ge X 112 dX11_showAll_8 (by decide) (fun c_8 => ?_) (fun c_8 => absurd c_8 (by decide))
  refine j_iload_n X dX11_showAll_112 rfl ?_
  refine s_iret X hE hr dX11_showAll_113 rfl ?_
  exact ⟨by decide, rfl⟩
set_option maxRecDepth 4000 in
set_option maxHeartbeats 1000000 in
theorem m_showAll1 (np : Nat) (mem : jMem) (p : Nat) (hp : p < 12) : jPi yX11_showAll cX11_showAll 6 .int 3 [.ref 66, .int (nI p), .int 1] np mem (fun v c => v = 3 ∧ c = jup (jup (jup (mem) 76 0 (mem 74 (9 * p + 5))) 76 1 (jLeaf (nI p) 1 (mem 74 (9 * p + 6)))) 76 2 (jJoin (jLeaf (nI p) 2 (mem 74 (9 * p + 7))) (jLeaf (nI p) 3 (mem 74 (9 * p + 8))))) := by
  refine jPi.of (own := RX11) rfl rfl (Nat.le_of_ble_eq_true rfl) (fun G X hR hr hE => ?_)
  refine j_iconst X dX11_showAll_0 0 (by decide) ?_
  refine j_istore_n X dX11_showAll_1 (by decide) ?_
  refine j_iconst X dX11_showAll_2 0 (by decide) ?_
  refine j_istore X dX11_showAll_3 (by decide) ?_
  refine j_iload X dX11_showAll_5 rfl ?_
  refine j_iconst X dX11_showAll_7 2 (by decide) ?_
  refine j_icmp_ge X 112 dX11_showAll_8 (by decide) (fun c_8 => absurd c_8 (by decide)) (fun c_8 => ?_)
  refine j_iload_n X dX11_showAll_11 rfl ?_
  refine j_iconst X dX11_showAll_12 2 (by decide) ?_
  refine j_iload X dX11_showAll_13 rfl ?_
  refine j_imul X dX11_showAll_15 ?_
  refine j_ishr X dX11_showAll_16 ?_
  refine j_iconst X dX11_showAll_17 3 (by decide) ?_
  refine j_iand X dX11_showAll_18 ?_
  refine j_if_ne X 41 dX11_showAll_19 (by decide) (fun c_19 => ?_) (fun c_19 => absurd c_19 (by decide))
  refine j_iconst X dX11_showAll_41 2 (by decide) ?_
  refine j_iload X dX11_showAll_42 rfl ?_
  refine j_imul X dX11_showAll_44 ?_
  refine j_istore X dX11_showAll_45 (by decide) ?_
  refine j_iload X dX11_showAll_47 rfl ?_
  refine j_iconst X dX11_showAll_49 2 (by decide) ?_
  refine j_iload X dX11_showAll_50 rfl ?_
  refine j_imul X dX11_showAll_52 ?_
  refine j_iconst X dX11_showAll_53 2 (by decide) ?_
  refine j_iadd X dX11_showAll_54 ?_
  refine j_icmp_ge X 106 dX11_showAll_55 (by decide) (fun c_55 => absurd c_55 (by decide)) (fun c_55 => ?_)
  refine j_aload_n X dX11_showAll_58 rfl ?_
  refine j_getR X 11 12 (by decide) (by decide) rfl u962 (o66 np) (k66 np) _ (p66_12 np) dX11_showAll_59 ?_
  refine j_iload_n X dX11_showAll_62 rfl ?_
  refine j_iload_n X dX11_showAll_63 rfl ?_
  refine j_iload X dX11_showAll_64 rfl ?_
  refine j_ishr X dX11_showAll_66 ?_
  refine j_iconst X dX11_showAll_67 1 (by decide) ?_
  refine j_iand X dX11_showAll_68 ?_
  refine j_iconst X dX11_showAll_69 1 (by decide) ?_
  refine j_icmp_ne X 83 dX11_showAll_70 (by decide) (fun c_70 => absurd c_70 (by decide)) (fun c_70 => ?_)
  refine j_aload_n X dX11_showAll_73 rfl ?_
  refine j_iload_n X dX11_showAll_74 rfl ?_
  refine j_iload X dX11_showAll_75 rfl ?_
  refine s_callVi X hR (m_field0 np _ _ hp) rfl 11 (by decide) (o66 np) (k66 np) rfl u1160 u1157 u1159 qp41 u12 hyX11_field (by decide) (by decide) (Nat.le_of_ble_eq_true rfl) dX11_showAll_77 (fun v_77 m_77 h_77 => ?_)
  obtain ⟨e1, e2⟩ := h_77; have e1 := e1.symm; have e2 := e2.symm; subst e1; subst e2
  refine j_goto X 96 dX11_showAll_80 (by decide) ?_
  refine j_nrm2 _ (by first | (simp only [fa_lit, pk_mul, nI_add]; done) | (simp only [fa_lit, pk_mul, nI_add]; rfl) | rfl) ?_
  refine j_iastN X (o76 np) (k76 np) (by rw [l76]; omega) (by rw [l76]; decide) dX11_showAll_96 ?_
  refine j_iinc X dX11_showAll_97 rfl 1 rfl ?_
  refine j_iinc X dX11_showAll_100 rfl 1 rfl ?_
  refine j_goto X 47 dX11_showAll_103 (by decide) ?_
  refine j_iload X dX11_showAll_47 rfl ?_
  refine j_iconst X dX11_showAll_49 2 (by decide) ?_
  refine j_iload X dX11_showAll_50 rfl ?_
  refine j_imul X dX11_showAll_52 ?_
  refine j_iconst X dX11_showAll_53 2 (by decide) ?_
  refine j_iadd X dX11_showAll_54 ?_
  refine j_icmp_ge X 106 dX11_showAll_55 (by decide) (fun c_55 => absurd c_55 (by decide)) (fun c_55 => ?_)
  refine j_aload_n X dX11_showAll_58 rfl ?_
  refine j_getR X 11 12 (by decide) (by decide) rfl u962 (o66 np) (k66 np) _ (p66_12 np) dX11_showAll_59 ?_
  refine j_iload_n X dX11_showAll_62 rfl ?_
  refine j_iload_n X dX11_showAll_63 rfl ?_
  refine j_iload X dX11_showAll_64 rfl ?_
  refine j_ishr X dX11_showAll_66 ?_
  refine j_iconst X dX11_showAll_67 1 (by decide) ?_
  refine j_iand X dX11_showAll_68 ?_
  refine j_iconst X dX11_showAll_69 1 (by decide) ?_
  refine j_icmp_ne X 83 dX11_showAll_70 (by decide) (fun c_70 => ?_) (fun c_70 => absurd c_70 (by decide))
  refine j_iload_n X dX11_showAll_83 rfl ?_
  refine j_iload X dX11_showAll_84 rfl ?_
  refine j_aload_n X dX11_showAll_86 rfl ?_
  refine j_iload_n X dX11_showAll_87 rfl ?_
  refine j_iload X dX11_showAll_88 rfl ?_
  refine s_callVi X hR (m_field1 np _ _ hp) rfl 11 (by decide) (o66 np) (k66 np) rfl u1160 u1157 u1159 qp41 u12 hyX11_field (by decide) (by decide) (Nat.le_of_ble_eq_true rfl) dX11_showAll_90 (fun v_90 m_90 h_90 => ?_)
  obtain ⟨e1, e2⟩ := h_90; have e1 := e1.symm; have e2 := e2.symm; subst e1; subst e2
  refine s_callSi X hR (m_leaf np _ _ _ _) rfl u1163 u1161 u1162 u12 hyX11_leaf (by decide) (by decide) (Nat.le_of_ble_eq_true rfl) dX11_showAll_93 (fun v_93 m_93 h_93 => ?_)
  obtain ⟨e1, e2⟩ := h_93; have e1 := e1.symm; have e2 := e2.symm; subst e1; subst e2
  refine j_nrm2 _ (by first | (simp only [fa_lit, pk_mul, nI_add]; done) | (simp only [fa_lit, pk_mul, nI_add]; rfl) | rfl) ?_
  refine j_iastN X (o76 np) (k76 np) (by rw [l76]; omega) (by rw [l76]; decide) dX11_showAll_96 ?_
  refine j_iinc X dX11_showAll_97 rfl 1 rfl ?_
  refine j_iinc X dX11_showAll_100 rfl 1 rfl ?_
  refine j_goto X 47 dX11_showAll_103 (by decide) ?_
  refine j_iload X dX11_showAll_47 rfl ?_
  refine j_iconst X dX11_showAll_49 2 (by decide) ?_
  refine j_iload X dX11_showAll_50 rfl ?_
  refine j_imul X dX11_showAll_52 ?_
  refine j_iconst X dX11_showAll_53 2 (by decide) ?_
  refine j_iadd X dX11_showAll_54 ?_
  refine j_icmp_ge X 106 dX11_showAll_55 (by decide) (fun c_55 => ?_) (fun c_55 => absurd c_55 (by decide))
  refine j_iinc X dX11_showAll_106 rfl 1 rfl ?_
  refine j_goto X 5 dX11_showAll_109 (by decide) ?_
  refine j_iload X dX11_showAll_5 rfl ?_
  refine j_iconst X dX11_showAll_7 2 (by decide) ?_
  refine j_icmp_ge X 112 dX11_showAll_8 (by decide) (fun c_8 => absurd c_8 (by decide)) (fun c_8 => ?_)
  refine j_iload_n X dX11_showAll_11 rfl ?_
  refine j_iconst X dX11_showAll_12 2 (by decide) ?_
  refine j_iload X dX11_showAll_13 rfl ?_
  refine j_imul X dX11_showAll_15 ?_
  refine j_ishr X dX11_showAll_16 ?_
  refine j_iconst X dX11_showAll_17 3 (by decide) ?_
  refine j_iand X dX11_showAll_18 ?_
  refine j_if_ne X 41 dX11_showAll_19 (by decide) (fun c_19 => absurd c_19 (by decide)) (fun c_19 => ?_)
  refine j_aload_n X dX11_showAll_22 rfl ?_
  refine j_getR X 11 12 (by decide) (by decide) rfl u962 (o66 np) (k66 np) _ (p66_12 np) dX11_showAll_23 ?_
  refine j_iload_n X dX11_showAll_26 rfl ?_
  refine j_aload_n X dX11_showAll_27 rfl ?_
  refine j_iload_n X dX11_showAll_28 rfl ?_
  refine j_iload X dX11_showAll_29 rfl ?_
  refine s_callVi X hR (m_half1 np _ _ hp) rfl 11 (by decide) (o66 np) (k66 np) rfl u1156 u1153 u1155 qp40 u12 hyX11_halfOf (by decide) (by decide) (Nat.le_of_ble_eq_true rfl) dX11_showAll_31 (fun v_31 m_31 h_31 => ?_)
  obtain ⟨e1, e2⟩ := h_31; have e1 := e1.symm; have e2 := e2.symm; subst e1; subst e2
  refine j_nrm2 _ (by first | (simp only [fa_lit, pk_mul, nI_add]; done) | (simp only [fa_lit, pk_mul, nI_add]; rfl) | rfl) ?_
  refine j_iastN X (o76 np) (k76 np) (by rw [l76]; omega) (by rw [l76]; decide) dX11_showAll_34 ?_
  refine j_iinc X dX11_showAll_35 rfl 1 rfl ?_
  refine j_goto X 106 dX11_showAll_38 (by decide) ?_
  refine j_iinc X dX11_showAll_106 rfl 1 rfl ?_
  refine j_goto X 5 dX11_showAll_109 (by decide) ?_
  refine j_iload X dX11_showAll_5 rfl ?_
  refine j_iconst X dX11_showAll_7 2 (by decide) ?_
  refine j_icmp_ge X 112 dX11_showAll_8 (by decide) (fun c_8 => ?_) (fun c_8 => absurd c_8 (by decide))
  refine j_iload_n X dX11_showAll_112 rfl ?_
  refine s_iret X hE hr dX11_showAll_113 rfl ?_
  exact ⟨by decide, rfl⟩
set_option maxRecDepth 4000 in
set_option maxHeartbeats 1000000 in
theorem m_showAll2 (np : Nat) (mem : jMem) (p : Nat) (hp : p < 12) : jPi yX11_showAll cX11_showAll 6 .int 3 [.ref 66, .int (nI p), .int 2] np mem (fun v c => v = 3 ∧ c = jup (jup (jup (mem) 76 0 (jLeaf (nI p) 0 (mem 74 (9 * p + 5)))) 76 1 (mem 74 (9 * p + 6))) 76 2 (jJoin (jLeaf (nI p) 2 (mem 74 (9 * p + 7))) (jLeaf (nI p) 3 (mem 74 (9 * p + 8))))) := by
  refine jPi.of (own := RX11) rfl rfl (Nat.le_of_ble_eq_true rfl) (fun G X hR hr hE => ?_)
  refine j_iconst X dX11_showAll_0 0 (by decide) ?_
  refine j_istore_n X dX11_showAll_1 (by decide) ?_
  refine j_iconst X dX11_showAll_2 0 (by decide) ?_
  refine j_istore X dX11_showAll_3 (by decide) ?_
  refine j_iload X dX11_showAll_5 rfl ?_
  refine j_iconst X dX11_showAll_7 2 (by decide) ?_
  refine j_icmp_ge X 112 dX11_showAll_8 (by decide) (fun c_8 => absurd c_8 (by decide)) (fun c_8 => ?_)
  refine j_iload_n X dX11_showAll_11 rfl ?_
  refine j_iconst X dX11_showAll_12 2 (by decide) ?_
  refine j_iload X dX11_showAll_13 rfl ?_
  refine j_imul X dX11_showAll_15 ?_
  refine j_ishr X dX11_showAll_16 ?_
  refine j_iconst X dX11_showAll_17 3 (by decide) ?_
  refine j_iand X dX11_showAll_18 ?_
  refine j_if_ne X 41 dX11_showAll_19 (by decide) (fun c_19 => ?_) (fun c_19 => absurd c_19 (by decide))
  refine j_iconst X dX11_showAll_41 2 (by decide) ?_
  refine j_iload X dX11_showAll_42 rfl ?_
  refine j_imul X dX11_showAll_44 ?_
  refine j_istore X dX11_showAll_45 (by decide) ?_
  refine j_iload X dX11_showAll_47 rfl ?_
  refine j_iconst X dX11_showAll_49 2 (by decide) ?_
  refine j_iload X dX11_showAll_50 rfl ?_
  refine j_imul X dX11_showAll_52 ?_
  refine j_iconst X dX11_showAll_53 2 (by decide) ?_
  refine j_iadd X dX11_showAll_54 ?_
  refine j_icmp_ge X 106 dX11_showAll_55 (by decide) (fun c_55 => absurd c_55 (by decide)) (fun c_55 => ?_)
  refine j_aload_n X dX11_showAll_58 rfl ?_
  refine j_getR X 11 12 (by decide) (by decide) rfl u962 (o66 np) (k66 np) _ (p66_12 np) dX11_showAll_59 ?_
  refine j_iload_n X dX11_showAll_62 rfl ?_
  refine j_iload_n X dX11_showAll_63 rfl ?_
  refine j_iload X dX11_showAll_64 rfl ?_
  refine j_ishr X dX11_showAll_66 ?_
  refine j_iconst X dX11_showAll_67 1 (by decide) ?_
  refine j_iand X dX11_showAll_68 ?_
  refine j_iconst X dX11_showAll_69 1 (by decide) ?_
  refine j_icmp_ne X 83 dX11_showAll_70 (by decide) (fun c_70 => ?_) (fun c_70 => absurd c_70 (by decide))
  refine j_iload_n X dX11_showAll_83 rfl ?_
  refine j_iload X dX11_showAll_84 rfl ?_
  refine j_aload_n X dX11_showAll_86 rfl ?_
  refine j_iload_n X dX11_showAll_87 rfl ?_
  refine j_iload X dX11_showAll_88 rfl ?_
  refine s_callVi X hR (m_field0 np _ _ hp) rfl 11 (by decide) (o66 np) (k66 np) rfl u1160 u1157 u1159 qp41 u12 hyX11_field (by decide) (by decide) (Nat.le_of_ble_eq_true rfl) dX11_showAll_90 (fun v_90 m_90 h_90 => ?_)
  obtain ⟨e1, e2⟩ := h_90; have e1 := e1.symm; have e2 := e2.symm; subst e1; subst e2
  refine s_callSi X hR (m_leaf np _ _ _ _) rfl u1163 u1161 u1162 u12 hyX11_leaf (by decide) (by decide) (Nat.le_of_ble_eq_true rfl) dX11_showAll_93 (fun v_93 m_93 h_93 => ?_)
  obtain ⟨e1, e2⟩ := h_93; have e1 := e1.symm; have e2 := e2.symm; subst e1; subst e2
  refine j_nrm2 _ (by first | (simp only [fa_lit, pk_mul, nI_add]; done) | (simp only [fa_lit, pk_mul, nI_add]; rfl) | rfl) ?_
  refine j_iastN X (o76 np) (k76 np) (by rw [l76]; omega) (by rw [l76]; decide) dX11_showAll_96 ?_
  refine j_iinc X dX11_showAll_97 rfl 1 rfl ?_
  refine j_iinc X dX11_showAll_100 rfl 1 rfl ?_
  refine j_goto X 47 dX11_showAll_103 (by decide) ?_
  refine j_iload X dX11_showAll_47 rfl ?_
  refine j_iconst X dX11_showAll_49 2 (by decide) ?_
  refine j_iload X dX11_showAll_50 rfl ?_
  refine j_imul X dX11_showAll_52 ?_
  refine j_iconst X dX11_showAll_53 2 (by decide) ?_
  refine j_iadd X dX11_showAll_54 ?_
  refine j_icmp_ge X 106 dX11_showAll_55 (by decide) (fun c_55 => absurd c_55 (by decide)) (fun c_55 => ?_)
  refine j_aload_n X dX11_showAll_58 rfl ?_
  refine j_getR X 11 12 (by decide) (by decide) rfl u962 (o66 np) (k66 np) _ (p66_12 np) dX11_showAll_59 ?_
  refine j_iload_n X dX11_showAll_62 rfl ?_
  refine j_iload_n X dX11_showAll_63 rfl ?_
  refine j_iload X dX11_showAll_64 rfl ?_
  refine j_ishr X dX11_showAll_66 ?_
  refine j_iconst X dX11_showAll_67 1 (by decide) ?_
  refine j_iand X dX11_showAll_68 ?_
  refine j_iconst X dX11_showAll_69 1 (by decide) ?_
  refine j_icmp_ne X 83 dX11_showAll_70 (by decide) (fun c_70 => absurd c_70 (by decide)) (fun c_70 => ?_)
  refine j_aload_n X dX11_showAll_73 rfl ?_
  refine j_iload_n X dX11_showAll_74 rfl ?_
  refine j_iload X dX11_showAll_75 rfl ?_
  refine s_callVi X hR (m_field1 np _ _ hp) rfl 11 (by decide) (o66 np) (k66 np) rfl u1160 u1157 u1159 qp41 u12 hyX11_field (by decide) (by decide) (Nat.le_of_ble_eq_true rfl) dX11_showAll_77 (fun v_77 m_77 h_77 => ?_)
  obtain ⟨e1, e2⟩ := h_77; have e1 := e1.symm; have e2 := e2.symm; subst e1; subst e2
  refine j_goto X 96 dX11_showAll_80 (by decide) ?_
  refine j_nrm2 _ (by first | (simp only [fa_lit, pk_mul, nI_add]; done) | (simp only [fa_lit, pk_mul, nI_add]; rfl) | rfl) ?_
  refine j_iastN X (o76 np) (k76 np) (by rw [l76]; omega) (by rw [l76]; decide) dX11_showAll_96 ?_
  refine j_iinc X dX11_showAll_97 rfl 1 rfl ?_
  refine j_iinc X dX11_showAll_100 rfl 1 rfl ?_
  refine j_goto X 47 dX11_showAll_103 (by decide) ?_
  refine j_iload X dX11_showAll_47 rfl ?_
  refine j_iconst X dX11_showAll_49 2 (by decide) ?_
  refine j_iload X dX11_showAll_50 rfl ?_
  refine j_imul X dX11_showAll_52 ?_
  refine j_iconst X dX11_showAll_53 2 (by decide) ?_
  refine j_iadd X dX11_showAll_54 ?_
  refine j_icmp_ge X 106 dX11_showAll_55 (by decide) (fun c_55 => ?_) (fun c_55 => absurd c_55 (by decide))
  refine j_iinc X dX11_showAll_106 rfl 1 rfl ?_
  refine j_goto X 5 dX11_showAll_109 (by decide) ?_
  refine j_iload X dX11_showAll_5 rfl ?_
  refine j_iconst X dX11_showAll_7 2 (by decide) ?_
  refine j_icmp_ge X 112 dX11_showAll_8 (by decide) (fun c_8 => absurd c_8 (by decide)) (fun c_8 => ?_)
  refine j_iload_n X dX11_showAll_11 rfl ?_
  refine j_iconst X dX11_showAll_12 2 (by decide) ?_
  refine j_iload X dX11_showAll_13 rfl ?_
  refine j_imul X dX11_showAll_15 ?_
  refine j_ishr X dX11_showAll_16 ?_
  refine j_iconst X dX11_showAll_17 3 (by decide) ?_
  refine j_iand X dX11_showAll_18 ?_
  refine j_if_ne X 41 dX11_showAll_19 (by decide) (fun c_19 => absurd c_19 (by decide)) (fun c_19 => ?_)
  refine j_aload_n X dX11_showAll_22 rfl ?_
  refine j_getR X 11 12 (by decide) (by decide) rfl u962 (o66 np) (k66 np) _ (p66_12 np) dX11_showAll_23 ?_
  refine j_iload_n X dX11_showAll_26 rfl ?_
  refine j_aload_n X dX11_showAll_27 rfl ?_
  refine j_iload_n X dX11_showAll_28 rfl ?_
  refine j_iload X dX11_showAll_29 rfl ?_
  refine s_callVi X hR (m_half1 np _ _ hp) rfl 11 (by decide) (o66 np) (k66 np) rfl u1156 u1153 u1155 qp40 u12 hyX11_halfOf (by decide) (by decide) (Nat.le_of_ble_eq_true rfl) dX11_showAll_31 (fun v_31 m_31 h_31 => ?_)
  obtain ⟨e1, e2⟩ := h_31; have e1 := e1.symm; have e2 := e2.symm; subst e1; subst e2
  refine j_nrm2 _ (by first | (simp only [fa_lit, pk_mul, nI_add]; done) | (simp only [fa_lit, pk_mul, nI_add]; rfl) | rfl) ?_
  refine j_iastN X (o76 np) (k76 np) (by rw [l76]; omega) (by rw [l76]; decide) dX11_showAll_34 ?_
  refine j_iinc X dX11_showAll_35 rfl 1 rfl ?_
  refine j_goto X 106 dX11_showAll_38 (by decide) ?_
  refine j_iinc X dX11_showAll_106 rfl 1 rfl ?_
  refine j_goto X 5 dX11_showAll_109 (by decide) ?_
  refine j_iload X dX11_showAll_5 rfl ?_
  refine j_iconst X dX11_showAll_7 2 (by decide) ?_
  refine j_icmp_ge X 112 dX11_showAll_8 (by decide) (fun c_8 => ?_) (fun c_8 => absurd c_8 (by decide))
  refine j_iload_n X dX11_showAll_112 rfl ?_
  refine s_iret X hE hr dX11_showAll_113 rfl ?_
  exact ⟨by decide, rfl⟩
set_option maxRecDepth 4000 in
set_option maxHeartbeats 1000000 in
theorem m_showAll3 (np : Nat) (mem : jMem) (p : Nat) (hp : p < 12) : jPi yX11_showAll cX11_showAll 6 .int 3 [.ref 66, .int (nI p), .int 3] np mem (fun v c => v = 3 ∧ c = jup (jup (jup (mem) 76 0 (mem 74 (9 * p + 5))) 76 1 (mem 74 (9 * p + 6))) 76 2 (jJoin (jLeaf (nI p) 2 (mem 74 (9 * p + 7))) (jLeaf (nI p) 3 (mem 74 (9 * p + 8))))) := by
  refine jPi.of (own := RX11) rfl rfl (Nat.le_of_ble_eq_true rfl) (fun G X hR hr hE => ?_)
  refine j_iconst X dX11_showAll_0 0 (by decide) ?_
  refine j_istore_n X dX11_showAll_1 (by decide) ?_
  refine j_iconst X dX11_showAll_2 0 (by decide) ?_
  refine j_istore X dX11_showAll_3 (by decide) ?_
  refine j_iload X dX11_showAll_5 rfl ?_
  refine j_iconst X dX11_showAll_7 2 (by decide) ?_
  refine j_icmp_ge X 112 dX11_showAll_8 (by decide) (fun c_8 => absurd c_8 (by decide)) (fun c_8 => ?_)
  refine j_iload_n X dX11_showAll_11 rfl ?_
  refine j_iconst X dX11_showAll_12 2 (by decide) ?_
  refine j_iload X dX11_showAll_13 rfl ?_
  refine j_imul X dX11_showAll_15 ?_
  refine j_ishr X dX11_showAll_16 ?_
  refine j_iconst X dX11_showAll_17 3 (by decide) ?_
  refine j_iand X dX11_showAll_18 ?_
  refine j_if_ne X 41 dX11_showAll_19 (by decide) (fun c_19 => ?_) (fun c_19 => absurd c_19 (by decide))
  refine j_iconst X dX11_showAll_41 2 (by decide) ?_
  refine j_iload X dX11_showAll_42 rfl ?_
  refine j_imul X dX11_showAll_44 ?_
  refine j_istore X dX11_showAll_45 (by decide) ?_
  refine j_iload X dX11_showAll_47 rfl ?_
  refine j_iconst X dX11_showAll_49 2 (by decide) ?_
  refine j_iload X dX11_showAll_50 rfl ?_
  refine j_imul X dX11_showAll_52 ?_
  refine j_iconst X dX11_showAll_53 2 (by decide) ?_
  refine j_iadd X dX11_showAll_54 ?_
  refine j_icmp_ge X 106 dX11_showAll_55 (by decide) (fun c_55 => absurd c_55 (by decide)) (fun c_55 => ?_)
  refine j_aload_n X dX11_showAll_58 rfl ?_
  refine j_getR X 11 12 (by decide) (by decide) rfl u962 (o66 np) (k66 np) _ (p66_12 np) dX11_showAll_59 ?_
  refine j_iload_n X dX11_showAll_62 rfl ?_
  refine j_iload_n X dX11_showAll_63 rfl ?_
  refine j_iload X dX11_showAll_64 rfl ?_
  refine j_ishr X dX11_showAll_66 ?_
  refine j_iconst X dX11_showAll_67 1 (by decide) ?_
  refine j_iand X dX11_showAll_68 ?_
  refine j_iconst X dX11_showAll_69 1 (by decide) ?_
  refine j_icmp_ne X 83 dX11_showAll_70 (by decide) (fun c_70 => absurd c_70 (by decide)) (fun c_70 => ?_)
  refine j_aload_n X dX11_showAll_73 rfl ?_
  refine j_iload_n X dX11_showAll_74 rfl ?_
  refine j_iload X dX11_showAll_75 rfl ?_
  refine s_callVi X hR (m_field0 np _ _ hp) rfl 11 (by decide) (o66 np) (k66 np) rfl u1160 u1157 u1159 qp41 u12 hyX11_field (by decide) (by decide) (Nat.le_of_ble_eq_true rfl) dX11_showAll_77 (fun v_77 m_77 h_77 => ?_)
  obtain ⟨e1, e2⟩ := h_77; have e1 := e1.symm; have e2 := e2.symm; subst e1; subst e2
  refine j_goto X 96 dX11_showAll_80 (by decide) ?_
  refine j_nrm2 _ (by first | (simp only [fa_lit, pk_mul, nI_add]; done) | (simp only [fa_lit, pk_mul, nI_add]; rfl) | rfl) ?_
  refine j_iastN X (o76 np) (k76 np) (by rw [l76]; omega) (by rw [l76]; decide) dX11_showAll_96 ?_
  refine j_iinc X dX11_showAll_97 rfl 1 rfl ?_
  refine j_iinc X dX11_showAll_100 rfl 1 rfl ?_
  refine j_goto X 47 dX11_showAll_103 (by decide) ?_
  refine j_iload X dX11_showAll_47 rfl ?_
  refine j_iconst X dX11_showAll_49 2 (by decide) ?_
  refine j_iload X dX11_showAll_50 rfl ?_
  refine j_imul X dX11_showAll_52 ?_
  refine j_iconst X dX11_showAll_53 2 (by decide) ?_
  refine j_iadd X dX11_showAll_54 ?_
  refine j_icmp_ge X 106 dX11_showAll_55 (by decide) (fun c_55 => absurd c_55 (by decide)) (fun c_55 => ?_)
  refine j_aload_n X dX11_showAll_58 rfl ?_
  refine j_getR X 11 12 (by decide) (by decide) rfl u962 (o66 np) (k66 np) _ (p66_12 np) dX11_showAll_59 ?_
  refine j_iload_n X dX11_showAll_62 rfl ?_
  refine j_iload_n X dX11_showAll_63 rfl ?_
  refine j_iload X dX11_showAll_64 rfl ?_
  refine j_ishr X dX11_showAll_66 ?_
  refine j_iconst X dX11_showAll_67 1 (by decide) ?_
  refine j_iand X dX11_showAll_68 ?_
  refine j_iconst X dX11_showAll_69 1 (by decide) ?_
  refine j_icmp_ne X 83 dX11_showAll_70 (by decide) (fun c_70 => absurd c_70 (by decide)) (fun c_70 => ?_)
  refine j_aload_n X dX11_showAll_73 rfl ?_
  refine j_iload_n X dX11_showAll_74 rfl ?_
  refine j_iload X dX11_showAll_75 rfl ?_
  refine s_callVi X hR (m_field1 np _ _ hp) rfl 11 (by decide) (o66 np) (k66 np) rfl u1160 u1157 u1159 qp41 u12 hyX11_field (by decide) (by decide) (Nat.le_of_ble_eq_true rfl) dX11_showAll_77 (fun v_77 m_77 h_77 => ?_)
  obtain ⟨e1, e2⟩ := h_77; have e1 := e1.symm; have e2 := e2.symm; subst e1; subst e2
  refine j_goto X 96 dX11_showAll_80 (by decide) ?_
  refine j_nrm2 _ (by first | (simp only [fa_lit, pk_mul, nI_add]; done) | (simp only [fa_lit, pk_mul, nI_add]; rfl) | rfl) ?_
  refine j_iastN X (o76 np) (k76 np) (by rw [l76]; omega) (by rw [l76]; decide) dX11_showAll_96 ?_
  refine j_iinc X dX11_showAll_97 rfl 1 rfl ?_
  refine j_iinc X dX11_showAll_100 rfl 1 rfl ?_
  refine j_goto X 47 dX11_showAll_103 (by decide) ?_
  refine j_iload X dX11_showAll_47 rfl ?_
  refine j_iconst X dX11_showAll_49 2 (by decide) ?_
  refine j_iload X dX11_showAll_50 rfl ?_
  refine j_imul X dX11_showAll_52 ?_
  refine j_iconst X dX11_showAll_53 2 (by decide) ?_
  refine j_iadd X dX11_showAll_54 ?_
  refine j_icmp_ge X 106 dX11_showAll_55 (by decide) (fun c_55 => ?_) (fun c_55 => absurd c_55 (by decide))
  refine j_iinc X dX11_showAll_106 rfl 1 rfl ?_
  refine j_goto X 5 dX11_showAll_109 (by decide) ?_
  refine j_iload X dX11_showAll_5 rfl ?_
  refine j_iconst X dX11_showAll_7 2 (by decide) ?_
  refine j_icmp_ge X 112 dX11_showAll_8 (by decide) (fun c_8 => absurd c_8 (by decide)) (fun c_8 => ?_)
  refine j_iload_n X dX11_showAll_11 rfl ?_
  refine j_iconst X dX11_showAll_12 2 (by decide) ?_
  refine j_iload X dX11_showAll_13 rfl ?_
  refine j_imul X dX11_showAll_15 ?_
  refine j_ishr X dX11_showAll_16 ?_
  refine j_iconst X dX11_showAll_17 3 (by decide) ?_
  refine j_iand X dX11_showAll_18 ?_
  refine j_if_ne X 41 dX11_showAll_19 (by decide) (fun c_19 => absurd c_19 (by decide)) (fun c_19 => ?_)
  refine j_aload_n X dX11_showAll_22 rfl ?_
  refine j_getR X 11 12 (by decide) (by decide) rfl u962 (o66 np) (k66 np) _ (p66_12 np) dX11_showAll_23 ?_
  refine j_iload_n X dX11_showAll_26 rfl ?_
  refine j_aload_n X dX11_showAll_27 rfl ?_
  refine j_iload_n X dX11_showAll_28 rfl ?_
  refine j_iload X dX11_showAll_29 rfl ?_
  refine s_callVi X hR (m_half1 np _ _ hp) rfl 11 (by decide) (o66 np) (k66 np) rfl u1156 u1153 u1155 qp40 u12 hyX11_halfOf (by decide) (by decide) (Nat.le_of_ble_eq_true rfl) dX11_showAll_31 (fun v_31 m_31 h_31 => ?_)
  obtain ⟨e1, e2⟩ := h_31; have e1 := e1.symm; have e2 := e2.symm; subst e1; subst e2
  refine j_nrm2 _ (by first | (simp only [fa_lit, pk_mul, nI_add]; done) | (simp only [fa_lit, pk_mul, nI_add]; rfl) | rfl) ?_
  refine j_iastN X (o76 np) (k76 np) (by rw [l76]; omega) (by rw [l76]; decide) dX11_showAll_34 ?_
  refine j_iinc X dX11_showAll_35 rfl 1 rfl ?_
  refine j_goto X 106 dX11_showAll_38 (by decide) ?_
  refine j_iinc X dX11_showAll_106 rfl 1 rfl ?_
  refine j_goto X 5 dX11_showAll_109 (by decide) ?_
  refine j_iload X dX11_showAll_5 rfl ?_
  refine j_iconst X dX11_showAll_7 2 (by decide) ?_
  refine j_icmp_ge X 112 dX11_showAll_8 (by decide) (fun c_8 => ?_) (fun c_8 => absurd c_8 (by decide))
  refine j_iload_n X dX11_showAll_112 rfl ?_
  refine s_iret X hE hr dX11_showAll_113 rfl ?_
  exact ⟨by decide, rfl⟩
set_option maxRecDepth 4000 in
set_option maxHeartbeats 1000000 in
theorem m_showAll4 (np : Nat) (mem : jMem) (p : Nat) (hp : p < 12) : jPi yX11_showAll cX11_showAll 6 .int 3 [.ref 66, .int (nI p), .int 4] np mem (fun v c => v = 3 ∧ c = jup (jup (jup (mem) 76 0 (jJoin (jLeaf (nI p) 0 (mem 74 (9 * p + 5))) (jLeaf (nI p) 1 (mem 74 (9 * p + 6))))) 76 1 (mem 74 (9 * p + 7))) 76 2 (jLeaf (nI p) 3 (mem 74 (9 * p + 8)))) := by
  refine jPi.of (own := RX11) rfl rfl (Nat.le_of_ble_eq_true rfl) (fun G X hR hr hE => ?_)
  refine j_iconst X dX11_showAll_0 0 (by decide) ?_
  refine j_istore_n X dX11_showAll_1 (by decide) ?_
  refine j_iconst X dX11_showAll_2 0 (by decide) ?_
  refine j_istore X dX11_showAll_3 (by decide) ?_
  refine j_iload X dX11_showAll_5 rfl ?_
  refine j_iconst X dX11_showAll_7 2 (by decide) ?_
  refine j_icmp_ge X 112 dX11_showAll_8 (by decide) (fun c_8 => absurd c_8 (by decide)) (fun c_8 => ?_)
  refine j_iload_n X dX11_showAll_11 rfl ?_
  refine j_iconst X dX11_showAll_12 2 (by decide) ?_
  refine j_iload X dX11_showAll_13 rfl ?_
  refine j_imul X dX11_showAll_15 ?_
  refine j_ishr X dX11_showAll_16 ?_
  refine j_iconst X dX11_showAll_17 3 (by decide) ?_
  refine j_iand X dX11_showAll_18 ?_
  refine j_if_ne X 41 dX11_showAll_19 (by decide) (fun c_19 => absurd c_19 (by decide)) (fun c_19 => ?_)
  refine j_aload_n X dX11_showAll_22 rfl ?_
  refine j_getR X 11 12 (by decide) (by decide) rfl u962 (o66 np) (k66 np) _ (p66_12 np) dX11_showAll_23 ?_
  refine j_iload_n X dX11_showAll_26 rfl ?_
  refine j_aload_n X dX11_showAll_27 rfl ?_
  refine j_iload_n X dX11_showAll_28 rfl ?_
  refine j_iload X dX11_showAll_29 rfl ?_
  refine s_callVi X hR (m_half0 np _ _ hp) rfl 11 (by decide) (o66 np) (k66 np) rfl u1156 u1153 u1155 qp40 u12 hyX11_halfOf (by decide) (by decide) (Nat.le_of_ble_eq_true rfl) dX11_showAll_31 (fun v_31 m_31 h_31 => ?_)
  obtain ⟨e1, e2⟩ := h_31; have e1 := e1.symm; have e2 := e2.symm; subst e1; subst e2
  refine j_nrm2 _ (by first | (simp only [fa_lit, pk_mul, nI_add]; done) | (simp only [fa_lit, pk_mul, nI_add]; rfl) | rfl) ?_
  refine j_iastN X (o76 np) (k76 np) (by rw [l76]; omega) (by rw [l76]; decide) dX11_showAll_34 ?_
  refine j_iinc X dX11_showAll_35 rfl 1 rfl ?_
  refine j_goto X 106 dX11_showAll_38 (by decide) ?_
  refine j_iinc X dX11_showAll_106 rfl 1 rfl ?_
  refine j_goto X 5 dX11_showAll_109 (by decide) ?_
  refine j_iload X dX11_showAll_5 rfl ?_
  refine j_iconst X dX11_showAll_7 2 (by decide) ?_
  refine j_icmp_ge X 112 dX11_showAll_8 (by decide) (fun c_8 => absurd c_8 (by decide)) (fun c_8 => ?_)
  refine j_iload_n X dX11_showAll_11 rfl ?_
  refine j_iconst X dX11_showAll_12 2 (by decide) ?_
  refine j_iload X dX11_showAll_13 rfl ?_
  refine j_imul X dX11_showAll_15 ?_
  refine j_ishr X dX11_showAll_16 ?_
  refine j_iconst X dX11_showAll_17 3 (by decide) ?_
  refine j_iand X dX11_showAll_18 ?_
  refine j_if_ne X 41 dX11_showAll_19 (by decide) (fun c_19 => ?_) (fun c_19 => absurd c_19 (by decide))
  refine j_iconst X dX11_showAll_41 2 (by decide) ?_
  refine j_iload X dX11_showAll_42 rfl ?_
  refine j_imul X dX11_showAll_44 ?_
  refine j_istore X dX11_showAll_45 (by decide) ?_
  refine j_iload X dX11_showAll_47 rfl ?_
  refine j_iconst X dX11_showAll_49 2 (by decide) ?_
  refine j_iload X dX11_showAll_50 rfl ?_
  refine j_imul X dX11_showAll_52 ?_
  refine j_iconst X dX11_showAll_53 2 (by decide) ?_
  refine j_iadd X dX11_showAll_54 ?_
  refine j_icmp_ge X 106 dX11_showAll_55 (by decide) (fun c_55 => absurd c_55 (by decide)) (fun c_55 => ?_)
  refine j_aload_n X dX11_showAll_58 rfl ?_
  refine j_getR X 11 12 (by decide) (by decide) rfl u962 (o66 np) (k66 np) _ (p66_12 np) dX11_showAll_59 ?_
  refine j_iload_n X dX11_showAll_62 rfl ?_
  refine j_iload_n X dX11_showAll_63 rfl ?_
  refine j_iload X dX11_showAll_64 rfl ?_
  refine j_ishr X dX11_showAll_66 ?_
  refine j_iconst X dX11_showAll_67 1 (by decide) ?_
  refine j_iand X dX11_showAll_68 ?_
  refine j_iconst X dX11_showAll_69 1 (by decide) ?_
  refine j_icmp_ne X 83 dX11_showAll_70 (by decide) (fun c_70 => absurd c_70 (by decide)) (fun c_70 => ?_)
  refine j_aload_n X dX11_showAll_73 rfl ?_
  refine j_iload_n X dX11_showAll_74 rfl ?_
  refine j_iload X dX11_showAll_75 rfl ?_
  refine s_callVi X hR (m_field2 np _ _ hp) rfl 11 (by decide) (o66 np) (k66 np) rfl u1160 u1157 u1159 qp41 u12 hyX11_field (by decide) (by decide) (Nat.le_of_ble_eq_true rfl) dX11_showAll_77 (fun v_77 m_77 h_77 => ?_)
  obtain ⟨e1, e2⟩ := h_77; have e1 := e1.symm; have e2 := e2.symm; subst e1; subst e2
  refine j_goto X 96 dX11_showAll_80 (by decide) ?_
  refine j_nrm2 _ (by first | (simp only [fa_lit, pk_mul, nI_add]; done) | (simp only [fa_lit, pk_mul, nI_add]; rfl) | rfl) ?_
  refine j_iastN X (o76 np) (k76 np) (by rw [l76]; omega) (by rw [l76]; decide) dX11_showAll_96 ?_
  refine j_iinc X dX11_showAll_97 rfl 1 rfl ?_
  refine j_iinc X dX11_showAll_100 rfl 1 rfl ?_
  refine j_goto X 47 dX11_showAll_103 (by decide) ?_
  refine j_iload X dX11_showAll_47 rfl ?_
  refine j_iconst X dX11_showAll_49 2 (by decide) ?_
  refine j_iload X dX11_showAll_50 rfl ?_
  refine j_imul X dX11_showAll_52 ?_
  refine j_iconst X dX11_showAll_53 2 (by decide) ?_
  refine j_iadd X dX11_showAll_54 ?_
  refine j_icmp_ge X 106 dX11_showAll_55 (by decide) (fun c_55 => absurd c_55 (by decide)) (fun c_55 => ?_)
  refine j_aload_n X dX11_showAll_58 rfl ?_
  refine j_getR X 11 12 (by decide) (by decide) rfl u962 (o66 np) (k66 np) _ (p66_12 np) dX11_showAll_59 ?_
  refine j_iload_n X dX11_showAll_62 rfl ?_
  refine j_iload_n X dX11_showAll_63 rfl ?_
  refine j_iload X dX11_showAll_64 rfl ?_
  refine j_ishr X dX11_showAll_66 ?_
  refine j_iconst X dX11_showAll_67 1 (by decide) ?_
  refine j_iand X dX11_showAll_68 ?_
  refine j_iconst X dX11_showAll_69 1 (by decide) ?_
  refine j_icmp_ne X 83 dX11_showAll_70 (by decide) (fun c_70 => ?_) (fun c_70 => absurd c_70 (by decide))
  refine j_iload_n X dX11_showAll_83 rfl ?_
  refine j_iload X dX11_showAll_84 rfl ?_
  refine j_aload_n X dX11_showAll_86 rfl ?_
  refine j_iload_n X dX11_showAll_87 rfl ?_
  refine j_iload X dX11_showAll_88 rfl ?_
  refine s_callVi X hR (m_field3 np _ _ hp) rfl 11 (by decide) (o66 np) (k66 np) rfl u1160 u1157 u1159 qp41 u12 hyX11_field (by decide) (by decide) (Nat.le_of_ble_eq_true rfl) dX11_showAll_90 (fun v_90 m_90 h_90 => ?_)
  obtain ⟨e1, e2⟩ := h_90; have e1 := e1.symm; have e2 := e2.symm; subst e1; subst e2
  refine s_callSi X hR (m_leaf np _ _ _ _) rfl u1163 u1161 u1162 u12 hyX11_leaf (by decide) (by decide) (Nat.le_of_ble_eq_true rfl) dX11_showAll_93 (fun v_93 m_93 h_93 => ?_)
  obtain ⟨e1, e2⟩ := h_93; have e1 := e1.symm; have e2 := e2.symm; subst e1; subst e2
  refine j_nrm2 _ (by first | (simp only [fa_lit, pk_mul, nI_add]; done) | (simp only [fa_lit, pk_mul, nI_add]; rfl) | rfl) ?_
  refine j_iastN X (o76 np) (k76 np) (by rw [l76]; omega) (by rw [l76]; decide) dX11_showAll_96 ?_
  refine j_iinc X dX11_showAll_97 rfl 1 rfl ?_
  refine j_iinc X dX11_showAll_100 rfl 1 rfl ?_
  refine j_goto X 47 dX11_showAll_103 (by decide) ?_
  refine j_iload X dX11_showAll_47 rfl ?_
  refine j_iconst X dX11_showAll_49 2 (by decide) ?_
  refine j_iload X dX11_showAll_50 rfl ?_
  refine j_imul X dX11_showAll_52 ?_
  refine j_iconst X dX11_showAll_53 2 (by decide) ?_
  refine j_iadd X dX11_showAll_54 ?_
  refine j_icmp_ge X 106 dX11_showAll_55 (by decide) (fun c_55 => ?_) (fun c_55 => absurd c_55 (by decide))
  refine j_iinc X dX11_showAll_106 rfl 1 rfl ?_
  refine j_goto X 5 dX11_showAll_109 (by decide) ?_
  refine j_iload X dX11_showAll_5 rfl ?_
  refine j_iconst X dX11_showAll_7 2 (by decide) ?_
  refine j_icmp_ge X 112 dX11_showAll_8 (by decide) (fun c_8 => ?_) (fun c_8 => absurd c_8 (by decide))
  refine j_iload_n X dX11_showAll_112 rfl ?_
  refine s_iret X hE hr dX11_showAll_113 rfl ?_
  exact ⟨by decide, rfl⟩
set_option maxRecDepth 4000 in
set_option maxHeartbeats 1000000 in
theorem m_showAll5 (np : Nat) (mem : jMem) (p : Nat) (hp : p < 12) : jPi yX11_showAll cX11_showAll 6 .int 3 [.ref 66, .int (nI p), .int 5] np mem (fun v c => v = 4 ∧ c = jup (jup (jup (jup (mem) 76 0 (mem 74 (9 * p + 5))) 76 1 (jLeaf (nI p) 1 (mem 74 (9 * p + 6)))) 76 2 (mem 74 (9 * p + 7))) 76 3 (jLeaf (nI p) 3 (mem 74 (9 * p + 8)))) := by
  refine jPi.of (own := RX11) rfl rfl (Nat.le_of_ble_eq_true rfl) (fun G X hR hr hE => ?_)
  refine j_iconst X dX11_showAll_0 0 (by decide) ?_
  refine j_istore_n X dX11_showAll_1 (by decide) ?_
  refine j_iconst X dX11_showAll_2 0 (by decide) ?_
  refine j_istore X dX11_showAll_3 (by decide) ?_
  refine j_iload X dX11_showAll_5 rfl ?_
  refine j_iconst X dX11_showAll_7 2 (by decide) ?_
  refine j_icmp_ge X 112 dX11_showAll_8 (by decide) (fun c_8 => absurd c_8 (by decide)) (fun c_8 => ?_)
  refine j_iload_n X dX11_showAll_11 rfl ?_
  refine j_iconst X dX11_showAll_12 2 (by decide) ?_
  refine j_iload X dX11_showAll_13 rfl ?_
  refine j_imul X dX11_showAll_15 ?_
  refine j_ishr X dX11_showAll_16 ?_
  refine j_iconst X dX11_showAll_17 3 (by decide) ?_
  refine j_iand X dX11_showAll_18 ?_
  refine j_if_ne X 41 dX11_showAll_19 (by decide) (fun c_19 => ?_) (fun c_19 => absurd c_19 (by decide))
  refine j_iconst X dX11_showAll_41 2 (by decide) ?_
  refine j_iload X dX11_showAll_42 rfl ?_
  refine j_imul X dX11_showAll_44 ?_
  refine j_istore X dX11_showAll_45 (by decide) ?_
  refine j_iload X dX11_showAll_47 rfl ?_
  refine j_iconst X dX11_showAll_49 2 (by decide) ?_
  refine j_iload X dX11_showAll_50 rfl ?_
  refine j_imul X dX11_showAll_52 ?_
  refine j_iconst X dX11_showAll_53 2 (by decide) ?_
  refine j_iadd X dX11_showAll_54 ?_
  refine j_icmp_ge X 106 dX11_showAll_55 (by decide) (fun c_55 => absurd c_55 (by decide)) (fun c_55 => ?_)
  refine j_aload_n X dX11_showAll_58 rfl ?_
  refine j_getR X 11 12 (by decide) (by decide) rfl u962 (o66 np) (k66 np) _ (p66_12 np) dX11_showAll_59 ?_
  refine j_iload_n X dX11_showAll_62 rfl ?_
  refine j_iload_n X dX11_showAll_63 rfl ?_
  refine j_iload X dX11_showAll_64 rfl ?_
  refine j_ishr X dX11_showAll_66 ?_
  refine j_iconst X dX11_showAll_67 1 (by decide) ?_
  refine j_iand X dX11_showAll_68 ?_
  refine j_iconst X dX11_showAll_69 1 (by decide) ?_
  refine j_icmp_ne X 83 dX11_showAll_70 (by decide) (fun c_70 => absurd c_70 (by decide)) (fun c_70 => ?_)
  refine j_aload_n X dX11_showAll_73 rfl ?_
  refine j_iload_n X dX11_showAll_74 rfl ?_
  refine j_iload X dX11_showAll_75 rfl ?_
  refine s_callVi X hR (m_field0 np _ _ hp) rfl 11 (by decide) (o66 np) (k66 np) rfl u1160 u1157 u1159 qp41 u12 hyX11_field (by decide) (by decide) (Nat.le_of_ble_eq_true rfl) dX11_showAll_77 (fun v_77 m_77 h_77 => ?_)
  obtain ⟨e1, e2⟩ := h_77; have e1 := e1.symm; have e2 := e2.symm; subst e1; subst e2
  refine j_goto X 96 dX11_showAll_80 (by decide) ?_
  refine j_nrm2 _ (by first | (simp only [fa_lit, pk_mul, nI_add]; done) | (simp only [fa_lit, pk_mul, nI_add]; rfl) | rfl) ?_
  refine j_iastN X (o76 np) (k76 np) (by rw [l76]; omega) (by rw [l76]; decide) dX11_showAll_96 ?_
  refine j_iinc X dX11_showAll_97 rfl 1 rfl ?_
  refine j_iinc X dX11_showAll_100 rfl 1 rfl ?_
  refine j_goto X 47 dX11_showAll_103 (by decide) ?_
  refine j_iload X dX11_showAll_47 rfl ?_
  refine j_iconst X dX11_showAll_49 2 (by decide) ?_
  refine j_iload X dX11_showAll_50 rfl ?_
  refine j_imul X dX11_showAll_52 ?_
  refine j_iconst X dX11_showAll_53 2 (by decide) ?_
  refine j_iadd X dX11_showAll_54 ?_
  refine j_icmp_ge X 106 dX11_showAll_55 (by decide) (fun c_55 => absurd c_55 (by decide)) (fun c_55 => ?_)
  refine j_aload_n X dX11_showAll_58 rfl ?_
  refine j_getR X 11 12 (by decide) (by decide) rfl u962 (o66 np) (k66 np) _ (p66_12 np) dX11_showAll_59 ?_
  refine j_iload_n X dX11_showAll_62 rfl ?_
  refine j_iload_n X dX11_showAll_63 rfl ?_
  refine j_iload X dX11_showAll_64 rfl ?_
  refine j_ishr X dX11_showAll_66 ?_
  refine j_iconst X dX11_showAll_67 1 (by decide) ?_
  refine j_iand X dX11_showAll_68 ?_
  refine j_iconst X dX11_showAll_69 1 (by decide) ?_
  refine j_icmp_ne X 83 dX11_showAll_70 (by decide) (fun c_70 => ?_) (fun c_70 => absurd c_70 (by decide))
  refine j_iload_n X dX11_showAll_83 rfl ?_
  refine j_iload X dX11_showAll_84 rfl ?_
  refine j_aload_n X dX11_showAll_86 rfl ?_
  refine j_iload_n X dX11_showAll_87 rfl ?_
  refine j_iload X dX11_showAll_88 rfl ?_
  refine s_callVi X hR (m_field1 np _ _ hp) rfl 11 (by decide) (o66 np) (k66 np) rfl u1160 u1157 u1159 qp41 u12 hyX11_field (by decide) (by decide) (Nat.le_of_ble_eq_true rfl) dX11_showAll_90 (fun v_90 m_90 h_90 => ?_)
  obtain ⟨e1, e2⟩ := h_90; have e1 := e1.symm; have e2 := e2.symm; subst e1; subst e2
  refine s_callSi X hR (m_leaf np _ _ _ _) rfl u1163 u1161 u1162 u12 hyX11_leaf (by decide) (by decide) (Nat.le_of_ble_eq_true rfl) dX11_showAll_93 (fun v_93 m_93 h_93 => ?_)
  obtain ⟨e1, e2⟩ := h_93; have e1 := e1.symm; have e2 := e2.symm; subst e1; subst e2
  refine j_nrm2 _ (by first | (simp only [fa_lit, pk_mul, nI_add]; done) | (simp only [fa_lit, pk_mul, nI_add]; rfl) | rfl) ?_
  refine j_iastN X (o76 np) (k76 np) (by rw [l76]; omega) (by rw [l76]; decide) dX11_showAll_96 ?_
  refine j_iinc X dX11_showAll_97 rfl 1 rfl ?_
  refine j_iinc X dX11_showAll_100 rfl 1 rfl ?_
  refine j_goto X 47 dX11_showAll_103 (by decide) ?_
  refine j_iload X dX11_showAll_47 rfl ?_
  refine j_iconst X dX11_showAll_49 2 (by decide) ?_
  refine j_iload X dX11_showAll_50 rfl ?_
  refine j_imul X dX11_showAll_52 ?_
  refine j_iconst X dX11_showAll_53 2 (by decide) ?_
  refine j_iadd X dX11_showAll_54 ?_
  refine j_icmp_ge X 106 dX11_showAll_55 (by decide) (fun c_55 => ?_) (fun c_55 => absurd c_55 (by decide))
  refine j_iinc X dX11_showAll_106 rfl 1 rfl ?_
  refine j_goto X 5 dX11_showAll_109 (by decide) ?_
  refine j_iload X dX11_showAll_5 rfl ?_
  refine j_iconst X dX11_showAll_7 2 (by decide) ?_
  refine j_icmp_ge X 112 dX11_showAll_8 (by decide) (fun c_8 => absurd c_8 (by decide)) (fun c_8 => ?_)
  refine j_iload_n X dX11_showAll_11 rfl ?_
  refine j_iconst X dX11_showAll_12 2 (by decide) ?_
  refine j_iload X dX11_showAll_13 rfl ?_
  refine j_imul X dX11_showAll_15 ?_
  refine j_ishr X dX11_showAll_16 ?_
  refine j_iconst X dX11_showAll_17 3 (by decide) ?_
  refine j_iand X dX11_showAll_18 ?_
  refine j_if_ne X 41 dX11_showAll_19 (by decide) (fun c_19 => ?_) (fun c_19 => absurd c_19 (by decide))
  refine j_iconst X dX11_showAll_41 2 (by decide) ?_
  refine j_iload X dX11_showAll_42 rfl ?_
  refine j_imul X dX11_showAll_44 ?_
  refine j_istore X dX11_showAll_45 (by decide) ?_
  refine j_iload X dX11_showAll_47 rfl ?_
  refine j_iconst X dX11_showAll_49 2 (by decide) ?_
  refine j_iload X dX11_showAll_50 rfl ?_
  refine j_imul X dX11_showAll_52 ?_
  refine j_iconst X dX11_showAll_53 2 (by decide) ?_
  refine j_iadd X dX11_showAll_54 ?_
  refine j_icmp_ge X 106 dX11_showAll_55 (by decide) (fun c_55 => absurd c_55 (by decide)) (fun c_55 => ?_)
  refine j_aload_n X dX11_showAll_58 rfl ?_
  refine j_getR X 11 12 (by decide) (by decide) rfl u962 (o66 np) (k66 np) _ (p66_12 np) dX11_showAll_59 ?_
  refine j_iload_n X dX11_showAll_62 rfl ?_
  refine j_iload_n X dX11_showAll_63 rfl ?_
  refine j_iload X dX11_showAll_64 rfl ?_
  refine j_ishr X dX11_showAll_66 ?_
  refine j_iconst X dX11_showAll_67 1 (by decide) ?_
  refine j_iand X dX11_showAll_68 ?_
  refine j_iconst X dX11_showAll_69 1 (by decide) ?_
  refine j_icmp_ne X 83 dX11_showAll_70 (by decide) (fun c_70 => absurd c_70 (by decide)) (fun c_70 => ?_)
  refine j_aload_n X dX11_showAll_73 rfl ?_
  refine j_iload_n X dX11_showAll_74 rfl ?_
  refine j_iload X dX11_showAll_75 rfl ?_
  refine s_callVi X hR (m_field2 np _ _ hp) rfl 11 (by decide) (o66 np) (k66 np) rfl u1160 u1157 u1159 qp41 u12 hyX11_field (by decide) (by decide) (Nat.le_of_ble_eq_true rfl) dX11_showAll_77 (fun v_77 m_77 h_77 => ?_)
  obtain ⟨e1, e2⟩ := h_77; have e1 := e1.symm; have e2 := e2.symm; subst e1; subst e2
  refine j_goto X 96 dX11_showAll_80 (by decide) ?_
  refine j_nrm2 _ (by first | (simp only [fa_lit, pk_mul, nI_add]; done) | (simp only [fa_lit, pk_mul, nI_add]; rfl) | rfl) ?_
  refine j_iastN X (o76 np) (k76 np) (by rw [l76]; omega) (by rw [l76]; decide) dX11_showAll_96 ?_
  refine j_iinc X dX11_showAll_97 rfl 1 rfl ?_
  refine j_iinc X dX11_showAll_100 rfl 1 rfl ?_
  refine j_goto X 47 dX11_showAll_103 (by decide) ?_
  refine j_iload X dX11_showAll_47 rfl ?_
  refine j_iconst X dX11_showAll_49 2 (by decide) ?_
  refine j_iload X dX11_showAll_50 rfl ?_
  refine j_imul X dX11_showAll_52 ?_
  refine j_iconst X dX11_showAll_53 2 (by decide) ?_
  refine j_iadd X dX11_showAll_54 ?_
  refine j_icmp_ge X 106 dX11_showAll_55 (by decide) (fun c_55 => absurd c_55 (by decide)) (fun c_55 => ?_)
  refine j_aload_n X dX11_showAll_58 rfl ?_
  refine j_getR X 11 12 (by decide) (by decide) rfl u962 (o66 np) (k66 np) _ (p66_12 np) dX11_showAll_59 ?_
  refine j_iload_n X dX11_showAll_62 rfl ?_
  refine j_iload_n X dX11_showAll_63 rfl ?_
  refine j_iload X dX11_showAll_64 rfl ?_
  refine j_ishr X dX11_showAll_66 ?_
  refine j_iconst X dX11_showAll_67 1 (by decide) ?_
  refine j_iand X dX11_showAll_68 ?_
  refine j_iconst X dX11_showAll_69 1 (by decide) ?_
  refine j_icmp_ne X 83 dX11_showAll_70 (by decide) (fun c_70 => ?_) (fun c_70 => absurd c_70 (by decide))
  refine j_iload_n X dX11_showAll_83 rfl ?_
  refine j_iload X dX11_showAll_84 rfl ?_
  refine j_aload_n X dX11_showAll_86 rfl ?_
  refine j_iload_n X dX11_showAll_87 rfl ?_
  refine j_iload X dX11_showAll_88 rfl ?_
  refine s_callVi X hR (m_field3 np _ _ hp) rfl 11 (by decide) (o66 np) (k66 np) rfl u1160 u1157 u1159 qp41 u12 hyX11_field (by decide) (by decide) (Nat.le_of_ble_eq_true rfl) dX11_showAll_90 (fun v_90 m_90 h_90 => ?_)
  obtain ⟨e1, e2⟩ := h_90; have e1 := e1.symm; have e2 := e2.symm; subst e1; subst e2
  refine s_callSi X hR (m_leaf np _ _ _ _) rfl u1163 u1161 u1162 u12 hyX11_leaf (by decide) (by decide) (Nat.le_of_ble_eq_true rfl) dX11_showAll_93 (fun v_93 m_93 h_93 => ?_)
  obtain ⟨e1, e2⟩ := h_93; have e1 := e1.symm; have e2 := e2.symm; subst e1; subst e2
  refine j_nrm2 _ (by first | (simp only [fa_lit, pk_mul, nI_add]; done) | (simp only [fa_lit, pk_mul, nI_add]; rfl) | rfl) ?_
  refine j_iastN X (o76 np) (k76 np) (by rw [l76]; omega) (by rw [l76]; decide) dX11_showAll_96 ?_
  refine j_iinc X dX11_showAll_97 rfl 1 rfl ?_
  refine j_iinc X dX11_showAll_100 rfl 1 rfl ?_
  refine j_goto X 47 dX11_showAll_103 (by decide) ?_
  refine j_iload X dX11_showAll_47 rfl ?_
  refine j_iconst X dX11_showAll_49 2 (by decide) ?_
  refine j_iload X dX11_showAll_50 rfl ?_
  refine j_imul X dX11_showAll_52 ?_
  refine j_iconst X dX11_showAll_53 2 (by decide) ?_
  refine j_iadd X dX11_showAll_54 ?_
  refine j_icmp_ge X 106 dX11_showAll_55 (by decide) (fun c_55 => ?_) (fun c_55 => absurd c_55 (by decide))
  refine j_iinc X dX11_showAll_106 rfl 1 rfl ?_
  refine j_goto X 5 dX11_showAll_109 (by decide) ?_
  refine j_iload X dX11_showAll_5 rfl ?_
  refine j_iconst X dX11_showAll_7 2 (by decide) ?_
  refine j_icmp_ge X 112 dX11_showAll_8 (by decide) (fun c_8 => ?_) (fun c_8 => absurd c_8 (by decide))
  refine j_iload_n X dX11_showAll_112 rfl ?_
  refine s_iret X hE hr dX11_showAll_113 rfl ?_
  exact ⟨by decide, rfl⟩
set_option maxRecDepth 4000 in
set_option maxHeartbeats 1000000 in
theorem m_showAll6 (np : Nat) (mem : jMem) (p : Nat) (hp : p < 12) : jPi yX11_showAll cX11_showAll 6 .int 3 [.ref 66, .int (nI p), .int 6] np mem (fun v c => v = 4 ∧ c = jup (jup (jup (jup (mem) 76 0 (jLeaf (nI p) 0 (mem 74 (9 * p + 5)))) 76 1 (mem 74 (9 * p + 6))) 76 2 (mem 74 (9 * p + 7))) 76 3 (jLeaf (nI p) 3 (mem 74 (9 * p + 8)))) := by
  refine jPi.of (own := RX11) rfl rfl (Nat.le_of_ble_eq_true rfl) (fun G X hR hr hE => ?_)
  refine j_iconst X dX11_showAll_0 0 (by decide) ?_
  refine j_istore_n X dX11_showAll_1 (by decide) ?_
  refine j_iconst X dX11_showAll_2 0 (by decide) ?_
  refine j_istore X dX11_showAll_3 (by decide) ?_
  refine j_iload X dX11_showAll_5 rfl ?_
  refine j_iconst X dX11_showAll_7 2 (by decide) ?_
  refine j_icmp_ge X 112 dX11_showAll_8 (by decide) (fun c_8 => absurd c_8 (by decide)) (fun c_8 => ?_)
  refine j_iload_n X dX11_showAll_11 rfl ?_
  refine j_iconst X dX11_showAll_12 2 (by decide) ?_
  refine j_iload X dX11_showAll_13 rfl ?_
  refine j_imul X dX11_showAll_15 ?_
  refine j_ishr X dX11_showAll_16 ?_
  refine j_iconst X dX11_showAll_17 3 (by decide) ?_
  refine j_iand X dX11_showAll_18 ?_
  refine j_if_ne X 41 dX11_showAll_19 (by decide) (fun c_19 => ?_) (fun c_19 => absurd c_19 (by decide))
  refine j_iconst X dX11_showAll_41 2 (by decide) ?_
  refine j_iload X dX11_showAll_42 rfl ?_
  refine j_imul X dX11_showAll_44 ?_
  refine j_istore X dX11_showAll_45 (by decide) ?_
  refine j_iload X dX11_showAll_47 rfl ?_
  refine j_iconst X dX11_showAll_49 2 (by decide) ?_
  refine j_iload X dX11_showAll_50 rfl ?_
  refine j_imul X dX11_showAll_52 ?_
  refine j_iconst X dX11_showAll_53 2 (by decide) ?_
  refine j_iadd X dX11_showAll_54 ?_
  refine j_icmp_ge X 106 dX11_showAll_55 (by decide) (fun c_55 => absurd c_55 (by decide)) (fun c_55 => ?_)
  refine j_aload_n X dX11_showAll_58 rfl ?_
  refine j_getR X 11 12 (by decide) (by decide) rfl u962 (o66 np) (k66 np) _ (p66_12 np) dX11_showAll_59 ?_
  refine j_iload_n X dX11_showAll_62 rfl ?_
  refine j_iload_n X dX11_showAll_63 rfl ?_
  refine j_iload X dX11_showAll_64 rfl ?_
  refine j_ishr X dX11_showAll_66 ?_
  refine j_iconst X dX11_showAll_67 1 (by decide) ?_
  refine j_iand X dX11_showAll_68 ?_
  refine j_iconst X dX11_showAll_69 1 (by decide) ?_
  refine j_icmp_ne X 83 dX11_showAll_70 (by decide) (fun c_70 => ?_) (fun c_70 => absurd c_70 (by decide))
  refine j_iload_n X dX11_showAll_83 rfl ?_
  refine j_iload X dX11_showAll_84 rfl ?_
  refine j_aload_n X dX11_showAll_86 rfl ?_
  refine j_iload_n X dX11_showAll_87 rfl ?_
  refine j_iload X dX11_showAll_88 rfl ?_
  refine s_callVi X hR (m_field0 np _ _ hp) rfl 11 (by decide) (o66 np) (k66 np) rfl u1160 u1157 u1159 qp41 u12 hyX11_field (by decide) (by decide) (Nat.le_of_ble_eq_true rfl) dX11_showAll_90 (fun v_90 m_90 h_90 => ?_)
  obtain ⟨e1, e2⟩ := h_90; have e1 := e1.symm; have e2 := e2.symm; subst e1; subst e2
  refine s_callSi X hR (m_leaf np _ _ _ _) rfl u1163 u1161 u1162 u12 hyX11_leaf (by decide) (by decide) (Nat.le_of_ble_eq_true rfl) dX11_showAll_93 (fun v_93 m_93 h_93 => ?_)
  obtain ⟨e1, e2⟩ := h_93; have e1 := e1.symm; have e2 := e2.symm; subst e1; subst e2
  refine j_nrm2 _ (by first | (simp only [fa_lit, pk_mul, nI_add]; done) | (simp only [fa_lit, pk_mul, nI_add]; rfl) | rfl) ?_
  refine j_iastN X (o76 np) (k76 np) (by rw [l76]; omega) (by rw [l76]; decide) dX11_showAll_96 ?_
  refine j_iinc X dX11_showAll_97 rfl 1 rfl ?_
  refine j_iinc X dX11_showAll_100 rfl 1 rfl ?_
  refine j_goto X 47 dX11_showAll_103 (by decide) ?_
  refine j_iload X dX11_showAll_47 rfl ?_
  refine j_iconst X dX11_showAll_49 2 (by decide) ?_
  refine j_iload X dX11_showAll_50 rfl ?_
  refine j_imul X dX11_showAll_52 ?_
  refine j_iconst X dX11_showAll_53 2 (by decide) ?_
  refine j_iadd X dX11_showAll_54 ?_
  refine j_icmp_ge X 106 dX11_showAll_55 (by decide) (fun c_55 => absurd c_55 (by decide)) (fun c_55 => ?_)
  refine j_aload_n X dX11_showAll_58 rfl ?_
  refine j_getR X 11 12 (by decide) (by decide) rfl u962 (o66 np) (k66 np) _ (p66_12 np) dX11_showAll_59 ?_
  refine j_iload_n X dX11_showAll_62 rfl ?_
  refine j_iload_n X dX11_showAll_63 rfl ?_
  refine j_iload X dX11_showAll_64 rfl ?_
  refine j_ishr X dX11_showAll_66 ?_
  refine j_iconst X dX11_showAll_67 1 (by decide) ?_
  refine j_iand X dX11_showAll_68 ?_
  refine j_iconst X dX11_showAll_69 1 (by decide) ?_
  refine j_icmp_ne X 83 dX11_showAll_70 (by decide) (fun c_70 => absurd c_70 (by decide)) (fun c_70 => ?_)
  refine j_aload_n X dX11_showAll_73 rfl ?_
  refine j_iload_n X dX11_showAll_74 rfl ?_
  refine j_iload X dX11_showAll_75 rfl ?_
  refine s_callVi X hR (m_field1 np _ _ hp) rfl 11 (by decide) (o66 np) (k66 np) rfl u1160 u1157 u1159 qp41 u12 hyX11_field (by decide) (by decide) (Nat.le_of_ble_eq_true rfl) dX11_showAll_77 (fun v_77 m_77 h_77 => ?_)
  obtain ⟨e1, e2⟩ := h_77; have e1 := e1.symm; have e2 := e2.symm; subst e1; subst e2
  refine j_goto X 96 dX11_showAll_80 (by decide) ?_
  refine j_nrm2 _ (by first | (simp only [fa_lit, pk_mul, nI_add]; done) | (simp only [fa_lit, pk_mul, nI_add]; rfl) | rfl) ?_
  refine j_iastN X (o76 np) (k76 np) (by rw [l76]; omega) (by rw [l76]; decide) dX11_showAll_96 ?_
  refine j_iinc X dX11_showAll_97 rfl 1 rfl ?_
  refine j_iinc X dX11_showAll_100 rfl 1 rfl ?_
  refine j_goto X 47 dX11_showAll_103 (by decide) ?_
  refine j_iload X dX11_showAll_47 rfl ?_
  refine j_iconst X dX11_showAll_49 2 (by decide) ?_
  refine j_iload X dX11_showAll_50 rfl ?_
  refine j_imul X dX11_showAll_52 ?_
  refine j_iconst X dX11_showAll_53 2 (by decide) ?_
  refine j_iadd X dX11_showAll_54 ?_
  refine j_icmp_ge X 106 dX11_showAll_55 (by decide) (fun c_55 => ?_) (fun c_55 => absurd c_55 (by decide))
  refine j_iinc X dX11_showAll_106 rfl 1 rfl ?_
  refine j_goto X 5 dX11_showAll_109 (by decide) ?_
  refine j_iload X dX11_showAll_5 rfl ?_
  refine j_iconst X dX11_showAll_7 2 (by decide) ?_
  refine j_icmp_ge X 112 dX11_showAll_8 (by decide) (fun c_8 => absurd c_8 (by decide)) (fun c_8 => ?_)
  refine j_iload_n X dX11_showAll_11 rfl ?_
  refine j_iconst X dX11_showAll_12 2 (by decide) ?_
  refine j_iload X dX11_showAll_13 rfl ?_
  refine j_imul X dX11_showAll_15 ?_
  refine j_ishr X dX11_showAll_16 ?_
  refine j_iconst X dX11_showAll_17 3 (by decide) ?_
  refine j_iand X dX11_showAll_18 ?_
  refine j_if_ne X 41 dX11_showAll_19 (by decide) (fun c_19 => ?_) (fun c_19 => absurd c_19 (by decide))
  refine j_iconst X dX11_showAll_41 2 (by decide) ?_
  refine j_iload X dX11_showAll_42 rfl ?_
  refine j_imul X dX11_showAll_44 ?_
  refine j_istore X dX11_showAll_45 (by decide) ?_
  refine j_iload X dX11_showAll_47 rfl ?_
  refine j_iconst X dX11_showAll_49 2 (by decide) ?_
  refine j_iload X dX11_showAll_50 rfl ?_
  refine j_imul X dX11_showAll_52 ?_
  refine j_iconst X dX11_showAll_53 2 (by decide) ?_
  refine j_iadd X dX11_showAll_54 ?_
  refine j_icmp_ge X 106 dX11_showAll_55 (by decide) (fun c_55 => absurd c_55 (by decide)) (fun c_55 => ?_)
  refine j_aload_n X dX11_showAll_58 rfl ?_
  refine j_getR X 11 12 (by decide) (by decide) rfl u962 (o66 np) (k66 np) _ (p66_12 np) dX11_showAll_59 ?_
  refine j_iload_n X dX11_showAll_62 rfl ?_
  refine j_iload_n X dX11_showAll_63 rfl ?_
  refine j_iload X dX11_showAll_64 rfl ?_
  refine j_ishr X dX11_showAll_66 ?_
  refine j_iconst X dX11_showAll_67 1 (by decide) ?_
  refine j_iand X dX11_showAll_68 ?_
  refine j_iconst X dX11_showAll_69 1 (by decide) ?_
  refine j_icmp_ne X 83 dX11_showAll_70 (by decide) (fun c_70 => absurd c_70 (by decide)) (fun c_70 => ?_)
  refine j_aload_n X dX11_showAll_73 rfl ?_
  refine j_iload_n X dX11_showAll_74 rfl ?_
  refine j_iload X dX11_showAll_75 rfl ?_
  refine s_callVi X hR (m_field2 np _ _ hp) rfl 11 (by decide) (o66 np) (k66 np) rfl u1160 u1157 u1159 qp41 u12 hyX11_field (by decide) (by decide) (Nat.le_of_ble_eq_true rfl) dX11_showAll_77 (fun v_77 m_77 h_77 => ?_)
  obtain ⟨e1, e2⟩ := h_77; have e1 := e1.symm; have e2 := e2.symm; subst e1; subst e2
  refine j_goto X 96 dX11_showAll_80 (by decide) ?_
  refine j_nrm2 _ (by first | (simp only [fa_lit, pk_mul, nI_add]; done) | (simp only [fa_lit, pk_mul, nI_add]; rfl) | rfl) ?_
  refine j_iastN X (o76 np) (k76 np) (by rw [l76]; omega) (by rw [l76]; decide) dX11_showAll_96 ?_
  refine j_iinc X dX11_showAll_97 rfl 1 rfl ?_
  refine j_iinc X dX11_showAll_100 rfl 1 rfl ?_
  refine j_goto X 47 dX11_showAll_103 (by decide) ?_
  refine j_iload X dX11_showAll_47 rfl ?_
  refine j_iconst X dX11_showAll_49 2 (by decide) ?_
  refine j_iload X dX11_showAll_50 rfl ?_
  refine j_imul X dX11_showAll_52 ?_
  refine j_iconst X dX11_showAll_53 2 (by decide) ?_
  refine j_iadd X dX11_showAll_54 ?_
  refine j_icmp_ge X 106 dX11_showAll_55 (by decide) (fun c_55 => absurd c_55 (by decide)) (fun c_55 => ?_)
  refine j_aload_n X dX11_showAll_58 rfl ?_
  refine j_getR X 11 12 (by decide) (by decide) rfl u962 (o66 np) (k66 np) _ (p66_12 np) dX11_showAll_59 ?_
  refine j_iload_n X dX11_showAll_62 rfl ?_
  refine j_iload_n X dX11_showAll_63 rfl ?_
  refine j_iload X dX11_showAll_64 rfl ?_
  refine j_ishr X dX11_showAll_66 ?_
  refine j_iconst X dX11_showAll_67 1 (by decide) ?_
  refine j_iand X dX11_showAll_68 ?_
  refine j_iconst X dX11_showAll_69 1 (by decide) ?_
  refine j_icmp_ne X 83 dX11_showAll_70 (by decide) (fun c_70 => ?_) (fun c_70 => absurd c_70 (by decide))
  refine j_iload_n X dX11_showAll_83 rfl ?_
  refine j_iload X dX11_showAll_84 rfl ?_
  refine j_aload_n X dX11_showAll_86 rfl ?_
  refine j_iload_n X dX11_showAll_87 rfl ?_
  refine j_iload X dX11_showAll_88 rfl ?_
  refine s_callVi X hR (m_field3 np _ _ hp) rfl 11 (by decide) (o66 np) (k66 np) rfl u1160 u1157 u1159 qp41 u12 hyX11_field (by decide) (by decide) (Nat.le_of_ble_eq_true rfl) dX11_showAll_90 (fun v_90 m_90 h_90 => ?_)
  obtain ⟨e1, e2⟩ := h_90; have e1 := e1.symm; have e2 := e2.symm; subst e1; subst e2
  refine s_callSi X hR (m_leaf np _ _ _ _) rfl u1163 u1161 u1162 u12 hyX11_leaf (by decide) (by decide) (Nat.le_of_ble_eq_true rfl) dX11_showAll_93 (fun v_93 m_93 h_93 => ?_)
  obtain ⟨e1, e2⟩ := h_93; have e1 := e1.symm; have e2 := e2.symm; subst e1; subst e2
  refine j_nrm2 _ (by first | (simp only [fa_lit, pk_mul, nI_add]; done) | (simp only [fa_lit, pk_mul, nI_add]; rfl) | rfl) ?_
  refine j_iastN X (o76 np) (k76 np) (by rw [l76]; omega) (by rw [l76]; decide) dX11_showAll_96 ?_
  refine j_iinc X dX11_showAll_97 rfl 1 rfl ?_
  refine j_iinc X dX11_showAll_100 rfl 1 rfl ?_
  refine j_goto X 47 dX11_showAll_103 (by decide) ?_
  refine j_iload X dX11_showAll_47 rfl ?_
  refine j_iconst X dX11_showAll_49 2 (by decide) ?_
  refine j_iload X dX11_showAll_50 rfl ?_
  refine j_imul X dX11_showAll_52 ?_
  refine j_iconst X dX11_showAll_53 2 (by decide) ?_
  refine j_iadd X dX11_showAll_54 ?_
  refine j_icmp_ge X 106 dX11_showAll_55 (by decide) (fun c_55 => ?_) (fun c_55 => absurd c_55 (by decide))
  refine j_iinc X dX11_showAll_106 rfl 1 rfl ?_
  refine j_goto X 5 dX11_showAll_109 (by decide) ?_
  refine j_iload X dX11_showAll_5 rfl ?_
  refine j_iconst X dX11_showAll_7 2 (by decide) ?_
  refine j_icmp_ge X 112 dX11_showAll_8 (by decide) (fun c_8 => ?_) (fun c_8 => absurd c_8 (by decide))
  refine j_iload_n X dX11_showAll_112 rfl ?_
  refine s_iret X hE hr dX11_showAll_113 rfl ?_
  exact ⟨by decide, rfl⟩
set_option maxRecDepth 4000 in
set_option maxHeartbeats 1000000 in
theorem m_showAll7 (np : Nat) (mem : jMem) (p : Nat) (hp : p < 12) : jPi yX11_showAll cX11_showAll 6 .int 3 [.ref 66, .int (nI p), .int 7] np mem (fun v c => v = 4 ∧ c = jup (jup (jup (jup (mem) 76 0 (mem 74 (9 * p + 5))) 76 1 (mem 74 (9 * p + 6))) 76 2 (mem 74 (9 * p + 7))) 76 3 (jLeaf (nI p) 3 (mem 74 (9 * p + 8)))) := by
  refine jPi.of (own := RX11) rfl rfl (Nat.le_of_ble_eq_true rfl) (fun G X hR hr hE => ?_)
  refine j_iconst X dX11_showAll_0 0 (by decide) ?_
  refine j_istore_n X dX11_showAll_1 (by decide) ?_
  refine j_iconst X dX11_showAll_2 0 (by decide) ?_
  refine j_istore X dX11_showAll_3 (by decide) ?_
  refine j_iload X dX11_showAll_5 rfl ?_
  refine j_iconst X dX11_showAll_7 2 (by decide) ?_
  refine j_icmp_ge X 112 dX11_showAll_8 (by decide) (fun c_8 => absurd c_8 (by decide)) (fun c_8 => ?_)
  refine j_iload_n X dX11_showAll_11 rfl ?_
  refine j_iconst X dX11_showAll_12 2 (by decide) ?_
  refine j_iload X dX11_showAll_13 rfl ?_
  refine j_imul X dX11_showAll_15 ?_
  refine j_ishr X dX11_showAll_16 ?_
  refine j_iconst X dX11_showAll_17 3 (by decide) ?_
  refine j_iand X dX11_showAll_18 ?_
  refine j_if_ne X 41 dX11_showAll_19 (by decide) (fun c_19 => ?_) (fun c_19 => absurd c_19 (by decide))
  refine j_iconst X dX11_showAll_41 2 (by decide) ?_
  refine j_iload X dX11_showAll_42 rfl ?_
  refine j_imul X dX11_showAll_44 ?_
  refine j_istore X dX11_showAll_45 (by decide) ?_
  refine j_iload X dX11_showAll_47 rfl ?_
  refine j_iconst X dX11_showAll_49 2 (by decide) ?_
  refine j_iload X dX11_showAll_50 rfl ?_
  refine j_imul X dX11_showAll_52 ?_
  refine j_iconst X dX11_showAll_53 2 (by decide) ?_
  refine j_iadd X dX11_showAll_54 ?_
  refine j_icmp_ge X 106 dX11_showAll_55 (by decide) (fun c_55 => absurd c_55 (by decide)) (fun c_55 => ?_)
  refine j_aload_n X dX11_showAll_58 rfl ?_
  refine j_getR X 11 12 (by decide) (by decide) rfl u962 (o66 np) (k66 np) _ (p66_12 np) dX11_showAll_59 ?_
  refine j_iload_n X dX11_showAll_62 rfl ?_
  refine j_iload_n X dX11_showAll_63 rfl ?_
  refine j_iload X dX11_showAll_64 rfl ?_
  refine j_ishr X dX11_showAll_66 ?_
  refine j_iconst X dX11_showAll_67 1 (by decide) ?_
  refine j_iand X dX11_showAll_68 ?_
  refine j_iconst X dX11_showAll_69 1 (by decide) ?_
  refine j_icmp_ne X 83 dX11_showAll_70 (by decide) (fun c_70 => absurd c_70 (by decide)) (fun c_70 => ?_)
  refine j_aload_n X dX11_showAll_73 rfl ?_
  refine j_iload_n X dX11_showAll_74 rfl ?_
  refine j_iload X dX11_showAll_75 rfl ?_
  refine s_callVi X hR (m_field0 np _ _ hp) rfl 11 (by decide) (o66 np) (k66 np) rfl u1160 u1157 u1159 qp41 u12 hyX11_field (by decide) (by decide) (Nat.le_of_ble_eq_true rfl) dX11_showAll_77 (fun v_77 m_77 h_77 => ?_)
  obtain ⟨e1, e2⟩ := h_77; have e1 := e1.symm; have e2 := e2.symm; subst e1; subst e2
  refine j_goto X 96 dX11_showAll_80 (by decide) ?_
  refine j_nrm2 _ (by first | (simp only [fa_lit, pk_mul, nI_add]; done) | (simp only [fa_lit, pk_mul, nI_add]; rfl) | rfl) ?_
  refine j_iastN X (o76 np) (k76 np) (by rw [l76]; omega) (by rw [l76]; decide) dX11_showAll_96 ?_
  refine j_iinc X dX11_showAll_97 rfl 1 rfl ?_
  refine j_iinc X dX11_showAll_100 rfl 1 rfl ?_
  refine j_goto X 47 dX11_showAll_103 (by decide) ?_
  refine j_iload X dX11_showAll_47 rfl ?_
  refine j_iconst X dX11_showAll_49 2 (by decide) ?_
  refine j_iload X dX11_showAll_50 rfl ?_
  refine j_imul X dX11_showAll_52 ?_
  refine j_iconst X dX11_showAll_53 2 (by decide) ?_
  refine j_iadd X dX11_showAll_54 ?_
  refine j_icmp_ge X 106 dX11_showAll_55 (by decide) (fun c_55 => absurd c_55 (by decide)) (fun c_55 => ?_)
  refine j_aload_n X dX11_showAll_58 rfl ?_
  refine j_getR X 11 12 (by decide) (by decide) rfl u962 (o66 np) (k66 np) _ (p66_12 np) dX11_showAll_59 ?_
  refine j_iload_n X dX11_showAll_62 rfl ?_
  refine j_iload_n X dX11_showAll_63 rfl ?_
  refine j_iload X dX11_showAll_64 rfl ?_
  refine j_ishr X dX11_showAll_66 ?_
  refine j_iconst X dX11_showAll_67 1 (by decide) ?_
  refine j_iand X dX11_showAll_68 ?_
  refine j_iconst X dX11_showAll_69 1 (by decide) ?_
  refine j_icmp_ne X 83 dX11_showAll_70 (by decide) (fun c_70 => absurd c_70 (by decide)) (fun c_70 => ?_)
  refine j_aload_n X dX11_showAll_73 rfl ?_
  refine j_iload_n X dX11_showAll_74 rfl ?_
  refine j_iload X dX11_showAll_75 rfl ?_
  refine s_callVi X hR (m_field1 np _ _ hp) rfl 11 (by decide) (o66 np) (k66 np) rfl u1160 u1157 u1159 qp41 u12 hyX11_field (by decide) (by decide) (Nat.le_of_ble_eq_true rfl) dX11_showAll_77 (fun v_77 m_77 h_77 => ?_)
  obtain ⟨e1, e2⟩ := h_77; have e1 := e1.symm; have e2 := e2.symm; subst e1; subst e2
  refine j_goto X 96 dX11_showAll_80 (by decide) ?_
  refine j_nrm2 _ (by first | (simp only [fa_lit, pk_mul, nI_add]; done) | (simp only [fa_lit, pk_mul, nI_add]; rfl) | rfl) ?_
  refine j_iastN X (o76 np) (k76 np) (by rw [l76]; omega) (by rw [l76]; decide) dX11_showAll_96 ?_
  refine j_iinc X dX11_showAll_97 rfl 1 rfl ?_
  refine j_iinc X dX11_showAll_100 rfl 1 rfl ?_
  refine j_goto X 47 dX11_showAll_103 (by decide) ?_
  refine j_iload X dX11_showAll_47 rfl ?_
  refine j_iconst X dX11_showAll_49 2 (by decide) ?_
  refine j_iload X dX11_showAll_50 rfl ?_
  refine j_imul X dX11_showAll_52 ?_
  refine j_iconst X dX11_showAll_53 2 (by decide) ?_
  refine j_iadd X dX11_showAll_54 ?_
  refine j_icmp_ge X 106 dX11_showAll_55 (by decide) (fun c_55 => ?_) (fun c_55 => absurd c_55 (by decide))
  refine j_iinc X dX11_showAll_106 rfl 1 rfl ?_
  refine j_goto X 5 dX11_showAll_109 (by decide) ?_
  refine j_iload X dX11_showAll_5 rfl ?_
  refine j_iconst X dX11_showAll_7 2 (by decide) ?_
  refine j_icmp_ge X 112 dX11_showAll_8 (by decide) (fun c_8 => absurd c_8 (by decide)) (fun c_8 => ?_)
  refine j_iload_n X dX11_showAll_11 rfl ?_
  refine j_iconst X dX11_showAll_12 2 (by decide) ?_
  refine j_iload X dX11_showAll_13 rfl ?_
  refine j_imul X dX11_showAll_15 ?_
  refine j_ishr X dX11_showAll_16 ?_
  refine j_iconst X dX11_showAll_17 3 (by decide) ?_
  refine j_iand X dX11_showAll_18 ?_
  refine j_if_ne X 41 dX11_showAll_19 (by decide) (fun c_19 => ?_) (fun c_19 => absurd c_19 (by decide))
  refine j_iconst X dX11_showAll_41 2 (by decide) ?_
  refine j_iload X dX11_showAll_42 rfl ?_
  refine j_imul X dX11_showAll_44 ?_
  refine j_istore X dX11_showAll_45 (by decide) ?_
  refine j_iload X dX11_showAll_47 rfl ?_
  refine j_iconst X dX11_showAll_49 2 (by decide) ?_
  refine j_iload X dX11_showAll_50 rfl ?_
  refine j_imul X dX11_showAll_52 ?_
  refine j_iconst X dX11_showAll_53 2 (by decide) ?_
  refine j_iadd X dX11_showAll_54 ?_
  refine j_icmp_ge X 106 dX11_showAll_55 (by decide) (fun c_55 => absurd c_55 (by decide)) (fun c_55 => ?_)
  refine j_aload_n X dX11_showAll_58 rfl ?_
  refine j_getR X 11 12 (by decide) (by decide) rfl u962 (o66 np) (k66 np) _ (p66_12 np) dX11_showAll_59 ?_
  refine j_iload_n X dX11_showAll_62 rfl ?_
  refine j_iload_n X dX11_showAll_63 rfl ?_
  refine j_iload X dX11_showAll_64 rfl ?_
  refine j_ishr X dX11_showAll_66 ?_
  refine j_iconst X dX11_showAll_67 1 (by decide) ?_
  refine j_iand X dX11_showAll_68 ?_
  refine j_iconst X dX11_showAll_69 1 (by decide) ?_
  refine j_icmp_ne X 83 dX11_showAll_70 (by decide) (fun c_70 => absurd c_70 (by decide)) (fun c_70 => ?_)
  refine j_aload_n X dX11_showAll_73 rfl ?_
  refine j_iload_n X dX11_showAll_74 rfl ?_
  refine j_iload X dX11_showAll_75 rfl ?_
  refine s_callVi X hR (m_field2 np _ _ hp) rfl 11 (by decide) (o66 np) (k66 np) rfl u1160 u1157 u1159 qp41 u12 hyX11_field (by decide) (by decide) (Nat.le_of_ble_eq_true rfl) dX11_showAll_77 (fun v_77 m_77 h_77 => ?_)
  obtain ⟨e1, e2⟩ := h_77; have e1 := e1.symm; have e2 := e2.symm; subst e1; subst e2
  refine j_goto X 96 dX11_showAll_80 (by decide) ?_
  refine j_nrm2 _ (by first | (simp only [fa_lit, pk_mul, nI_add]; done) | (simp only [fa_lit, pk_mul, nI_add]; rfl) | rfl) ?_
  refine j_iastN X (o76 np) (k76 np) (by rw [l76]; omega) (by rw [l76]; decide) dX11_showAll_96 ?_
  refine j_iinc X dX11_showAll_97 rfl 1 rfl ?_
  refine j_iinc X dX11_showAll_100 rfl 1 rfl ?_
  refine j_goto X 47 dX11_showAll_103 (by decide) ?_
  refine j_iload X dX11_showAll_47 rfl ?_
  refine j_iconst X dX11_showAll_49 2 (by decide) ?_
  refine j_iload X dX11_showAll_50 rfl ?_
  refine j_imul X dX11_showAll_52 ?_
  refine j_iconst X dX11_showAll_53 2 (by decide) ?_
  refine j_iadd X dX11_showAll_54 ?_
  refine j_icmp_ge X 106 dX11_showAll_55 (by decide) (fun c_55 => absurd c_55 (by decide)) (fun c_55 => ?_)
  refine j_aload_n X dX11_showAll_58 rfl ?_
  refine j_getR X 11 12 (by decide) (by decide) rfl u962 (o66 np) (k66 np) _ (p66_12 np) dX11_showAll_59 ?_
  refine j_iload_n X dX11_showAll_62 rfl ?_
  refine j_iload_n X dX11_showAll_63 rfl ?_
  refine j_iload X dX11_showAll_64 rfl ?_
  refine j_ishr X dX11_showAll_66 ?_
  refine j_iconst X dX11_showAll_67 1 (by decide) ?_
  refine j_iand X dX11_showAll_68 ?_
  refine j_iconst X dX11_showAll_69 1 (by decide) ?_
  refine j_icmp_ne X 83 dX11_showAll_70 (by decide) (fun c_70 => ?_) (fun c_70 => absurd c_70 (by decide))
  refine j_iload_n X dX11_showAll_83 rfl ?_
  refine j_iload X dX11_showAll_84 rfl ?_
  refine j_aload_n X dX11_showAll_86 rfl ?_
  refine j_iload_n X dX11_showAll_87 rfl ?_
  refine j_iload X dX11_showAll_88 rfl ?_
  refine s_callVi X hR (m_field3 np _ _ hp) rfl 11 (by decide) (o66 np) (k66 np) rfl u1160 u1157 u1159 qp41 u12 hyX11_field (by decide) (by decide) (Nat.le_of_ble_eq_true rfl) dX11_showAll_90 (fun v_90 m_90 h_90 => ?_)
  obtain ⟨e1, e2⟩ := h_90; have e1 := e1.symm; have e2 := e2.symm; subst e1; subst e2
  refine s_callSi X hR (m_leaf np _ _ _ _) rfl u1163 u1161 u1162 u12 hyX11_leaf (by decide) (by decide) (Nat.le_of_ble_eq_true rfl) dX11_showAll_93 (fun v_93 m_93 h_93 => ?_)
  obtain ⟨e1, e2⟩ := h_93; have e1 := e1.symm; have e2 := e2.symm; subst e1; subst e2
  refine j_nrm2 _ (by first | (simp only [fa_lit, pk_mul, nI_add]; done) | (simp only [fa_lit, pk_mul, nI_add]; rfl) | rfl) ?_
  refine j_iastN X (o76 np) (k76 np) (by rw [l76]; omega) (by rw [l76]; decide) dX11_showAll_96 ?_
  refine j_iinc X dX11_showAll_97 rfl 1 rfl ?_
  refine j_iinc X dX11_showAll_100 rfl 1 rfl ?_
  refine j_goto X 47 dX11_showAll_103 (by decide) ?_
  refine j_iload X dX11_showAll_47 rfl ?_
  refine j_iconst X dX11_showAll_49 2 (by decide) ?_
  refine j_iload X dX11_showAll_50 rfl ?_
  refine j_imul X dX11_showAll_52 ?_
  refine j_iconst X dX11_showAll_53 2 (by decide) ?_
  refine j_iadd X dX11_showAll_54 ?_
  refine j_icmp_ge X 106 dX11_showAll_55 (by decide) (fun c_55 => ?_) (fun c_55 => absurd c_55 (by decide))
  refine j_iinc X dX11_showAll_106 rfl 1 rfl ?_
  refine j_goto X 5 dX11_showAll_109 (by decide) ?_
  refine j_iload X dX11_showAll_5 rfl ?_
  refine j_iconst X dX11_showAll_7 2 (by decide) ?_
  refine j_icmp_ge X 112 dX11_showAll_8 (by decide) (fun c_8 => ?_) (fun c_8 => absurd c_8 (by decide))
  refine j_iload_n X dX11_showAll_112 rfl ?_
  refine s_iret X hE hr dX11_showAll_113 rfl ?_
  exact ⟨by decide, rfl⟩
set_option maxRecDepth 4000 in
set_option maxHeartbeats 1000000 in
theorem m_showAll8 (np : Nat) (mem : jMem) (p : Nat) (hp : p < 12) : jPi yX11_showAll cX11_showAll 6 .int 3 [.ref 66, .int (nI p), .int 8] np mem (fun v c => v = 3 ∧ c = jup (jup (jup (mem) 76 0 (jJoin (jLeaf (nI p) 0 (mem 74 (9 * p + 5))) (jLeaf (nI p) 1 (mem 74 (9 * p + 6))))) 76 1 (jLeaf (nI p) 2 (mem 74 (9 * p + 7)))) 76 2 (mem 74 (9 * p + 8))) := by
  refine jPi.of (own := RX11) rfl rfl (Nat.le_of_ble_eq_true rfl) (fun G X hR hr hE => ?_)
  refine j_iconst X dX11_showAll_0 0 (by decide) ?_
  refine j_istore_n X dX11_showAll_1 (by decide) ?_
  refine j_iconst X dX11_showAll_2 0 (by decide) ?_
  refine j_istore X dX11_showAll_3 (by decide) ?_
  refine j_iload X dX11_showAll_5 rfl ?_
  refine j_iconst X dX11_showAll_7 2 (by decide) ?_
  refine j_icmp_ge X 112 dX11_showAll_8 (by decide) (fun c_8 => absurd c_8 (by decide)) (fun c_8 => ?_)
  refine j_iload_n X dX11_showAll_11 rfl ?_
  refine j_iconst X dX11_showAll_12 2 (by decide) ?_
  refine j_iload X dX11_showAll_13 rfl ?_
  refine j_imul X dX11_showAll_15 ?_
  refine j_ishr X dX11_showAll_16 ?_
  refine j_iconst X dX11_showAll_17 3 (by decide) ?_
  refine j_iand X dX11_showAll_18 ?_
  refine j_if_ne X 41 dX11_showAll_19 (by decide) (fun c_19 => absurd c_19 (by decide)) (fun c_19 => ?_)
  refine j_aload_n X dX11_showAll_22 rfl ?_
  refine j_getR X 11 12 (by decide) (by decide) rfl u962 (o66 np) (k66 np) _ (p66_12 np) dX11_showAll_23 ?_
  refine j_iload_n X dX11_showAll_26 rfl ?_
  refine j_aload_n X dX11_showAll_27 rfl ?_
  refine j_iload_n X dX11_showAll_28 rfl ?_
  refine j_iload X dX11_showAll_29 rfl ?_
  refine s_callVi X hR (m_half0 np _ _ hp) rfl 11 (by decide) (o66 np) (k66 np) rfl u1156 u1153 u1155 qp40 u12 hyX11_halfOf (by decide) (by decide) (Nat.le_of_ble_eq_true rfl) dX11_showAll_31 (fun v_31 m_31 h_31 => ?_)
  obtain ⟨e1, e2⟩ := h_31; have e1 := e1.symm; have e2 := e2.symm; subst e1; subst e2
  refine j_nrm2 _ (by first | (simp only [fa_lit, pk_mul, nI_add]; done) | (simp only [fa_lit, pk_mul, nI_add]; rfl) | rfl) ?_
  refine j_iastN X (o76 np) (k76 np) (by rw [l76]; omega) (by rw [l76]; decide) dX11_showAll_34 ?_
  refine j_iinc X dX11_showAll_35 rfl 1 rfl ?_
  refine j_goto X 106 dX11_showAll_38 (by decide) ?_
  refine j_iinc X dX11_showAll_106 rfl 1 rfl ?_
  refine j_goto X 5 dX11_showAll_109 (by decide) ?_
  refine j_iload X dX11_showAll_5 rfl ?_
  refine j_iconst X dX11_showAll_7 2 (by decide) ?_
  refine j_icmp_ge X 112 dX11_showAll_8 (by decide) (fun c_8 => absurd c_8 (by decide)) (fun c_8 => ?_)
  refine j_iload_n X dX11_showAll_11 rfl ?_
  refine j_iconst X dX11_showAll_12 2 (by decide) ?_
  refine j_iload X dX11_showAll_13 rfl ?_
  refine j_imul X dX11_showAll_15 ?_
  refine j_ishr X dX11_showAll_16 ?_
  refine j_iconst X dX11_showAll_17 3 (by decide) ?_
  refine j_iand X dX11_showAll_18 ?_
  refine j_if_ne X 41 dX11_showAll_19 (by decide) (fun c_19 => ?_) (fun c_19 => absurd c_19 (by decide))
  refine j_iconst X dX11_showAll_41 2 (by decide) ?_
  refine j_iload X dX11_showAll_42 rfl ?_
  refine j_imul X dX11_showAll_44 ?_
  refine j_istore X dX11_showAll_45 (by decide) ?_
  refine j_iload X dX11_showAll_47 rfl ?_
  refine j_iconst X dX11_showAll_49 2 (by decide) ?_
  refine j_iload X dX11_showAll_50 rfl ?_
  refine j_imul X dX11_showAll_52 ?_
  refine j_iconst X dX11_showAll_53 2 (by decide) ?_
  refine j_iadd X dX11_showAll_54 ?_
  refine j_icmp_ge X 106 dX11_showAll_55 (by decide) (fun c_55 => absurd c_55 (by decide)) (fun c_55 => ?_)
  refine j_aload_n X dX11_showAll_58 rfl ?_
  refine j_getR X 11 12 (by decide) (by decide) rfl u962 (o66 np) (k66 np) _ (p66_12 np) dX11_showAll_59 ?_
  refine j_iload_n X dX11_showAll_62 rfl ?_
  refine j_iload_n X dX11_showAll_63 rfl ?_
  refine j_iload X dX11_showAll_64 rfl ?_
  refine j_ishr X dX11_showAll_66 ?_
  refine j_iconst X dX11_showAll_67 1 (by decide) ?_
  refine j_iand X dX11_showAll_68 ?_
  refine j_iconst X dX11_showAll_69 1 (by decide) ?_
  refine j_icmp_ne X 83 dX11_showAll_70 (by decide) (fun c_70 => ?_) (fun c_70 => absurd c_70 (by decide))
  refine j_iload_n X dX11_showAll_83 rfl ?_
  refine j_iload X dX11_showAll_84 rfl ?_
  refine j_aload_n X dX11_showAll_86 rfl ?_
  refine j_iload_n X dX11_showAll_87 rfl ?_
  refine j_iload X dX11_showAll_88 rfl ?_
  refine s_callVi X hR (m_field2 np _ _ hp) rfl 11 (by decide) (o66 np) (k66 np) rfl u1160 u1157 u1159 qp41 u12 hyX11_field (by decide) (by decide) (Nat.le_of_ble_eq_true rfl) dX11_showAll_90 (fun v_90 m_90 h_90 => ?_)
  obtain ⟨e1, e2⟩ := h_90; have e1 := e1.symm; have e2 := e2.symm; subst e1; subst e2
  refine s_callSi X hR (m_leaf np _ _ _ _) rfl u1163 u1161 u1162 u12 hyX11_leaf (by decide) (by decide) (Nat.le_of_ble_eq_true rfl) dX11_showAll_93 (fun v_93 m_93 h_93 => ?_)
  obtain ⟨e1, e2⟩ := h_93; have e1 := e1.symm; have e2 := e2.symm; subst e1; subst e2
  refine j_nrm2 _ (by first | (simp only [fa_lit, pk_mul, nI_add]; done) | (simp only [fa_lit, pk_mul, nI_add]; rfl) | rfl) ?_
  refine j_iastN X (o76 np) (k76 np) (by rw [l76]; omega) (by rw [l76]; decide) dX11_showAll_96 ?_
  refine j_iinc X dX11_showAll_97 rfl 1 rfl ?_
  refine j_iinc X dX11_showAll_100 rfl 1 rfl ?_
  refine j_goto X 47 dX11_showAll_103 (by decide) ?_
  refine j_iload X dX11_showAll_47 rfl ?_
  refine j_iconst X dX11_showAll_49 2 (by decide) ?_
  refine j_iload X dX11_showAll_50 rfl ?_
  refine j_imul X dX11_showAll_52 ?_
  refine j_iconst X dX11_showAll_53 2 (by decide) ?_
  refine j_iadd X dX11_showAll_54 ?_
  refine j_icmp_ge X 106 dX11_showAll_55 (by decide) (fun c_55 => absurd c_55 (by decide)) (fun c_55 => ?_)
  refine j_aload_n X dX11_showAll_58 rfl ?_
  refine j_getR X 11 12 (by decide) (by decide) rfl u962 (o66 np) (k66 np) _ (p66_12 np) dX11_showAll_59 ?_
  refine j_iload_n X dX11_showAll_62 rfl ?_
  refine j_iload_n X dX11_showAll_63 rfl ?_
  refine j_iload X dX11_showAll_64 rfl ?_
  refine j_ishr X dX11_showAll_66 ?_
  refine j_iconst X dX11_showAll_67 1 (by decide) ?_
  refine j_iand X dX11_showAll_68 ?_
  refine j_iconst X dX11_showAll_69 1 (by decide) ?_
  refine j_icmp_ne X 83 dX11_showAll_70 (by decide) (fun c_70 => absurd c_70 (by decide)) (fun c_70 => ?_)
  refine j_aload_n X dX11_showAll_73 rfl ?_
  refine j_iload_n X dX11_showAll_74 rfl ?_
  refine j_iload X dX11_showAll_75 rfl ?_
  refine s_callVi X hR (m_field3 np _ _ hp) rfl 11 (by decide) (o66 np) (k66 np) rfl u1160 u1157 u1159 qp41 u12 hyX11_field (by decide) (by decide) (Nat.le_of_ble_eq_true rfl) dX11_showAll_77 (fun v_77 m_77 h_77 => ?_)
  obtain ⟨e1, e2⟩ := h_77; have e1 := e1.symm; have e2 := e2.symm; subst e1; subst e2
  refine j_goto X 96 dX11_showAll_80 (by decide) ?_
  refine j_nrm2 _ (by first | (simp only [fa_lit, pk_mul, nI_add]; done) | (simp only [fa_lit, pk_mul, nI_add]; rfl) | rfl) ?_
  refine j_iastN X (o76 np) (k76 np) (by rw [l76]; omega) (by rw [l76]; decide) dX11_showAll_96 ?_
  refine j_iinc X dX11_showAll_97 rfl 1 rfl ?_
  refine j_iinc X dX11_showAll_100 rfl 1 rfl ?_
  refine j_goto X 47 dX11_showAll_103 (by decide) ?_
  refine j_iload X dX11_showAll_47 rfl ?_
  refine j_iconst X dX11_showAll_49 2 (by decide) ?_
  refine j_iload X dX11_showAll_50 rfl ?_
  refine j_imul X dX11_showAll_52 ?_
  refine j_iconst X dX11_showAll_53 2 (by decide) ?_
  refine j_iadd X dX11_showAll_54 ?_
  refine j_icmp_ge X 106 dX11_showAll_55 (by decide) (fun c_55 => ?_) (fun c_55 => absurd c_55 (by decide))
  refine j_iinc X dX11_showAll_106 rfl 1 rfl ?_
  refine j_goto X 5 dX11_showAll_109 (by decide) ?_
  refine j_iload X dX11_showAll_5 rfl ?_
  refine j_iconst X dX11_showAll_7 2 (by decide) ?_
  refine j_icmp_ge X 112 dX11_showAll_8 (by decide) (fun c_8 => ?_) (fun c_8 => absurd c_8 (by decide))
  refine j_iload_n X dX11_showAll_112 rfl ?_
  refine s_iret X hE hr dX11_showAll_113 rfl ?_
  exact ⟨by decide, rfl⟩
set_option maxRecDepth 4000 in
set_option maxHeartbeats 1000000 in
theorem m_showAll9 (np : Nat) (mem : jMem) (p : Nat) (hp : p < 12) : jPi yX11_showAll cX11_showAll 6 .int 3 [.ref 66, .int (nI p), .int 9] np mem (fun v c => v = 4 ∧ c = jup (jup (jup (jup (mem) 76 0 (mem 74 (9 * p + 5))) 76 1 (jLeaf (nI p) 1 (mem 74 (9 * p + 6)))) 76 2 (jLeaf (nI p) 2 (mem 74 (9 * p + 7)))) 76 3 (mem 74 (9 * p + 8))) := by
  refine jPi.of (own := RX11) rfl rfl (Nat.le_of_ble_eq_true rfl) (fun G X hR hr hE => ?_)
  refine j_iconst X dX11_showAll_0 0 (by decide) ?_
  refine j_istore_n X dX11_showAll_1 (by decide) ?_
  refine j_iconst X dX11_showAll_2 0 (by decide) ?_
  refine j_istore X dX11_showAll_3 (by decide) ?_
  refine j_iload X dX11_showAll_5 rfl ?_
  refine j_iconst X dX11_showAll_7 2 (by decide) ?_
  refine j_icmp_ge X 112 dX11_showAll_8 (by decide) (fun c_8 => absurd c_8 (by decide)) (fun c_8 => ?_)
  refine j_iload_n X dX11_showAll_11 rfl ?_
  refine j_iconst X dX11_showAll_12 2 (by decide) ?_
  refine j_iload X dX11_showAll_13 rfl ?_
  refine j_imul X dX11_showAll_15 ?_
  refine j_ishr X dX11_showAll_16 ?_
  refine j_iconst X dX11_showAll_17 3 (by decide) ?_
  refine j_iand X dX11_showAll_18 ?_
  refine j_if_ne X 41 dX11_showAll_19 (by decide) (fun c_19 => ?_) (fun c_19 => absurd c_19 (by decide))
  refine j_iconst X dX11_showAll_41 2 (by decide) ?_
  refine j_iload X dX11_showAll_42 rfl ?_
  refine j_imul X dX11_showAll_44 ?_
  refine j_istore X dX11_showAll_45 (by decide) ?_
  refine j_iload X dX11_showAll_47 rfl ?_
  refine j_iconst X dX11_showAll_49 2 (by decide) ?_
  refine j_iload X dX11_showAll_50 rfl ?_
  refine j_imul X dX11_showAll_52 ?_
  refine j_iconst X dX11_showAll_53 2 (by decide) ?_
  refine j_iadd X dX11_showAll_54 ?_
  refine j_icmp_ge X 106 dX11_showAll_55 (by decide) (fun c_55 => absurd c_55 (by decide)) (fun c_55 => ?_)
  refine j_aload_n X dX11_showAll_58 rfl ?_
  refine j_getR X 11 12 (by decide) (by decide) rfl u962 (o66 np) (k66 np) _ (p66_12 np) dX11_showAll_59 ?_
  refine j_iload_n X dX11_showAll_62 rfl ?_
  refine j_iload_n X dX11_showAll_63 rfl ?_
  refine j_iload X dX11_showAll_64 rfl ?_
  refine j_ishr X dX11_showAll_66 ?_
  refine j_iconst X dX11_showAll_67 1 (by decide) ?_
  refine j_iand X dX11_showAll_68 ?_
  refine j_iconst X dX11_showAll_69 1 (by decide) ?_
  refine j_icmp_ne X 83 dX11_showAll_70 (by decide) (fun c_70 => absurd c_70 (by decide)) (fun c_70 => ?_)
  refine j_aload_n X dX11_showAll_73 rfl ?_
  refine j_iload_n X dX11_showAll_74 rfl ?_
  refine j_iload X dX11_showAll_75 rfl ?_
  refine s_callVi X hR (m_field0 np _ _ hp) rfl 11 (by decide) (o66 np) (k66 np) rfl u1160 u1157 u1159 qp41 u12 hyX11_field (by decide) (by decide) (Nat.le_of_ble_eq_true rfl) dX11_showAll_77 (fun v_77 m_77 h_77 => ?_)
  obtain ⟨e1, e2⟩ := h_77; have e1 := e1.symm; have e2 := e2.symm; subst e1; subst e2
  refine j_goto X 96 dX11_showAll_80 (by decide) ?_
  refine j_nrm2 _ (by first | (simp only [fa_lit, pk_mul, nI_add]; done) | (simp only [fa_lit, pk_mul, nI_add]; rfl) | rfl) ?_
  refine j_iastN X (o76 np) (k76 np) (by rw [l76]; omega) (by rw [l76]; decide) dX11_showAll_96 ?_
  refine j_iinc X dX11_showAll_97 rfl 1 rfl ?_
  refine j_iinc X dX11_showAll_100 rfl 1 rfl ?_
  refine j_goto X 47 dX11_showAll_103 (by decide) ?_
  refine j_iload X dX11_showAll_47 rfl ?_
  refine j_iconst X dX11_showAll_49 2 (by decide) ?_
  refine j_iload X dX11_showAll_50 rfl ?_
  refine j_imul X dX11_showAll_52 ?_
  refine j_iconst X dX11_showAll_53 2 (by decide) ?_
  refine j_iadd X dX11_showAll_54 ?_
  refine j_icmp_ge X 106 dX11_showAll_55 (by decide) (fun c_55 => absurd c_55 (by decide)) (fun c_55 => ?_)
  refine j_aload_n X dX11_showAll_58 rfl ?_
  refine j_getR X 11 12 (by decide) (by decide) rfl u962 (o66 np) (k66 np) _ (p66_12 np) dX11_showAll_59 ?_
  refine j_iload_n X dX11_showAll_62 rfl ?_
  refine j_iload_n X dX11_showAll_63 rfl ?_
  refine j_iload X dX11_showAll_64 rfl ?_
  refine j_ishr X dX11_showAll_66 ?_
  refine j_iconst X dX11_showAll_67 1 (by decide) ?_
  refine j_iand X dX11_showAll_68 ?_
  refine j_iconst X dX11_showAll_69 1 (by decide) ?_
  refine j_icmp_ne X 83 dX11_showAll_70 (by decide) (fun c_70 => ?_) (fun c_70 => absurd c_70 (by decide))
  refine j_iload_n X dX11_showAll_83 rfl ?_
  refine j_iload X dX11_showAll_84 rfl ?_
  refine j_aload_n X dX11_showAll_86 rfl ?_
  refine j_iload_n X dX11_showAll_87 rfl ?_
  refine j_iload X dX11_showAll_88 rfl ?_
  refine s_callVi X hR (m_field1 np _ _ hp) rfl 11 (by decide) (o66 np) (k66 np) rfl u1160 u1157 u1159 qp41 u12 hyX11_field (by decide) (by decide) (Nat.le_of_ble_eq_true rfl) dX11_showAll_90 (fun v_90 m_90 h_90 => ?_)
  obtain ⟨e1, e2⟩ := h_90; have e1 := e1.symm; have e2 := e2.symm; subst e1; subst e2
  refine s_callSi X hR (m_leaf np _ _ _ _) rfl u1163 u1161 u1162 u12 hyX11_leaf (by decide) (by decide) (Nat.le_of_ble_eq_true rfl) dX11_showAll_93 (fun v_93 m_93 h_93 => ?_)
  obtain ⟨e1, e2⟩ := h_93; have e1 := e1.symm; have e2 := e2.symm; subst e1; subst e2
  refine j_nrm2 _ (by first | (simp only [fa_lit, pk_mul, nI_add]; done) | (simp only [fa_lit, pk_mul, nI_add]; rfl) | rfl) ?_
  refine j_iastN X (o76 np) (k76 np) (by rw [l76]; omega) (by rw [l76]; decide) dX11_showAll_96 ?_
  refine j_iinc X dX11_showAll_97 rfl 1 rfl ?_
  refine j_iinc X dX11_showAll_100 rfl 1 rfl ?_
  refine j_goto X 47 dX11_showAll_103 (by decide) ?_
  refine j_iload X dX11_showAll_47 rfl ?_
  refine j_iconst X dX11_showAll_49 2 (by decide) ?_
  refine j_iload X dX11_showAll_50 rfl ?_
  refine j_imul X dX11_showAll_52 ?_
  refine j_iconst X dX11_showAll_53 2 (by decide) ?_
  refine j_iadd X dX11_showAll_54 ?_
  refine j_icmp_ge X 106 dX11_showAll_55 (by decide) (fun c_55 => ?_) (fun c_55 => absurd c_55 (by decide))
  refine j_iinc X dX11_showAll_106 rfl 1 rfl ?_
  refine j_goto X 5 dX11_showAll_109 (by decide) ?_
  refine j_iload X dX11_showAll_5 rfl ?_
  refine j_iconst X dX11_showAll_7 2 (by decide) ?_
  refine j_icmp_ge X 112 dX11_showAll_8 (by decide) (fun c_8 => absurd c_8 (by decide)) (fun c_8 => ?_)
  refine j_iload_n X dX11_showAll_11 rfl ?_
  refine j_iconst X dX11_showAll_12 2 (by decide) ?_
  refine j_iload X dX11_showAll_13 rfl ?_
  refine j_imul X dX11_showAll_15 ?_
  refine j_ishr X dX11_showAll_16 ?_
  refine j_iconst X dX11_showAll_17 3 (by decide) ?_
  refine j_iand X dX11_showAll_18 ?_
  refine j_if_ne X 41 dX11_showAll_19 (by decide) (fun c_19 => ?_) (fun c_19 => absurd c_19 (by decide))
  refine j_iconst X dX11_showAll_41 2 (by decide) ?_
  refine j_iload X dX11_showAll_42 rfl ?_
  refine j_imul X dX11_showAll_44 ?_
  refine j_istore X dX11_showAll_45 (by decide) ?_
  refine j_iload X dX11_showAll_47 rfl ?_
  refine j_iconst X dX11_showAll_49 2 (by decide) ?_
  refine j_iload X dX11_showAll_50 rfl ?_
  refine j_imul X dX11_showAll_52 ?_
  refine j_iconst X dX11_showAll_53 2 (by decide) ?_
  refine j_iadd X dX11_showAll_54 ?_
  refine j_icmp_ge X 106 dX11_showAll_55 (by decide) (fun c_55 => absurd c_55 (by decide)) (fun c_55 => ?_)
  refine j_aload_n X dX11_showAll_58 rfl ?_
  refine j_getR X 11 12 (by decide) (by decide) rfl u962 (o66 np) (k66 np) _ (p66_12 np) dX11_showAll_59 ?_
  refine j_iload_n X dX11_showAll_62 rfl ?_
  refine j_iload_n X dX11_showAll_63 rfl ?_
  refine j_iload X dX11_showAll_64 rfl ?_
  refine j_ishr X dX11_showAll_66 ?_
  refine j_iconst X dX11_showAll_67 1 (by decide) ?_
  refine j_iand X dX11_showAll_68 ?_
  refine j_iconst X dX11_showAll_69 1 (by decide) ?_
  refine j_icmp_ne X 83 dX11_showAll_70 (by decide) (fun c_70 => ?_) (fun c_70 => absurd c_70 (by decide))
  refine j_iload_n X dX11_showAll_83 rfl ?_
  refine j_iload X dX11_showAll_84 rfl ?_
  refine j_aload_n X dX11_showAll_86 rfl ?_
  refine j_iload_n X dX11_showAll_87 rfl ?_
  refine j_iload X dX11_showAll_88 rfl ?_
  refine s_callVi X hR (m_field2 np _ _ hp) rfl 11 (by decide) (o66 np) (k66 np) rfl u1160 u1157 u1159 qp41 u12 hyX11_field (by decide) (by decide) (Nat.le_of_ble_eq_true rfl) dX11_showAll_90 (fun v_90 m_90 h_90 => ?_)
  obtain ⟨e1, e2⟩ := h_90; have e1 := e1.symm; have e2 := e2.symm; subst e1; subst e2
  refine s_callSi X hR (m_leaf np _ _ _ _) rfl u1163 u1161 u1162 u12 hyX11_leaf (by decide) (by decide) (Nat.le_of_ble_eq_true rfl) dX11_showAll_93 (fun v_93 m_93 h_93 => ?_)
  obtain ⟨e1, e2⟩ := h_93; have e1 := e1.symm; have e2 := e2.symm; subst e1; subst e2
  refine j_nrm2 _ (by first | (simp only [fa_lit, pk_mul, nI_add]; done) | (simp only [fa_lit, pk_mul, nI_add]; rfl) | rfl) ?_
  refine j_iastN X (o76 np) (k76 np) (by rw [l76]; omega) (by rw [l76]; decide) dX11_showAll_96 ?_
  refine j_iinc X dX11_showAll_97 rfl 1 rfl ?_
  refine j_iinc X dX11_showAll_100 rfl 1 rfl ?_
  refine j_goto X 47 dX11_showAll_103 (by decide) ?_
  refine j_iload X dX11_showAll_47 rfl ?_
  refine j_iconst X dX11_showAll_49 2 (by decide) ?_
  refine j_iload X dX11_showAll_50 rfl ?_
  refine j_imul X dX11_showAll_52 ?_
  refine j_iconst X dX11_showAll_53 2 (by decide) ?_
  refine j_iadd X dX11_showAll_54 ?_
  refine j_icmp_ge X 106 dX11_showAll_55 (by decide) (fun c_55 => absurd c_55 (by decide)) (fun c_55 => ?_)
  refine j_aload_n X dX11_showAll_58 rfl ?_
  refine j_getR X 11 12 (by decide) (by decide) rfl u962 (o66 np) (k66 np) _ (p66_12 np) dX11_showAll_59 ?_
  refine j_iload_n X dX11_showAll_62 rfl ?_
  refine j_iload_n X dX11_showAll_63 rfl ?_
  refine j_iload X dX11_showAll_64 rfl ?_
  refine j_ishr X dX11_showAll_66 ?_
  refine j_iconst X dX11_showAll_67 1 (by decide) ?_
  refine j_iand X dX11_showAll_68 ?_
  refine j_iconst X dX11_showAll_69 1 (by decide) ?_
  refine j_icmp_ne X 83 dX11_showAll_70 (by decide) (fun c_70 => absurd c_70 (by decide)) (fun c_70 => ?_)
  refine j_aload_n X dX11_showAll_73 rfl ?_
  refine j_iload_n X dX11_showAll_74 rfl ?_
  refine j_iload X dX11_showAll_75 rfl ?_
  refine s_callVi X hR (m_field3 np _ _ hp) rfl 11 (by decide) (o66 np) (k66 np) rfl u1160 u1157 u1159 qp41 u12 hyX11_field (by decide) (by decide) (Nat.le_of_ble_eq_true rfl) dX11_showAll_77 (fun v_77 m_77 h_77 => ?_)
  obtain ⟨e1, e2⟩ := h_77; have e1 := e1.symm; have e2 := e2.symm; subst e1; subst e2
  refine j_goto X 96 dX11_showAll_80 (by decide) ?_
  refine j_nrm2 _ (by first | (simp only [fa_lit, pk_mul, nI_add]; done) | (simp only [fa_lit, pk_mul, nI_add]; rfl) | rfl) ?_
  refine j_iastN X (o76 np) (k76 np) (by rw [l76]; omega) (by rw [l76]; decide) dX11_showAll_96 ?_
  refine j_iinc X dX11_showAll_97 rfl 1 rfl ?_
  refine j_iinc X dX11_showAll_100 rfl 1 rfl ?_
  refine j_goto X 47 dX11_showAll_103 (by decide) ?_
  refine j_iload X dX11_showAll_47 rfl ?_
  refine j_iconst X dX11_showAll_49 2 (by decide) ?_
  refine j_iload X dX11_showAll_50 rfl ?_
  refine j_imul X dX11_showAll_52 ?_
  refine j_iconst X dX11_showAll_53 2 (by decide) ?_
  refine j_iadd X dX11_showAll_54 ?_
  refine j_icmp_ge X 106 dX11_showAll_55 (by decide) (fun c_55 => ?_) (fun c_55 => absurd c_55 (by decide))
  refine j_iinc X dX11_showAll_106 rfl 1 rfl ?_
  refine j_goto X 5 dX11_showAll_109 (by decide) ?_
  refine j_iload X dX11_showAll_5 rfl ?_
  refine j_iconst X dX11_showAll_7 2 (by decide) ?_
  refine j_icmp_ge X 112 dX11_showAll_8 (by decide) (fun c_8 => ?_) (fun c_8 => absurd c_8 (by decide))
  refine j_iload_n X dX11_showAll_112 rfl ?_
  refine s_iret X hE hr dX11_showAll_113 rfl ?_
  exact ⟨by decide, rfl⟩
set_option maxRecDepth 4000 in
set_option maxHeartbeats 1000000 in
theorem m_showAll10 (np : Nat) (mem : jMem) (p : Nat) (hp : p < 12) : jPi yX11_showAll cX11_showAll 6 .int 3 [.ref 66, .int (nI p), .int 10] np mem (fun v c => v = 4 ∧ c = jup (jup (jup (jup (mem) 76 0 (jLeaf (nI p) 0 (mem 74 (9 * p + 5)))) 76 1 (mem 74 (9 * p + 6))) 76 2 (jLeaf (nI p) 2 (mem 74 (9 * p + 7)))) 76 3 (mem 74 (9 * p + 8))) := by
  refine jPi.of (own := RX11) rfl rfl (Nat.le_of_ble_eq_true rfl) (fun G X hR hr hE => ?_)
  refine j_iconst X dX11_showAll_0 0 (by decide) ?_
  refine j_istore_n X dX11_showAll_1 (by decide) ?_
  refine j_iconst X dX11_showAll_2 0 (by decide) ?_
  refine j_istore X dX11_showAll_3 (by decide) ?_
  refine j_iload X dX11_showAll_5 rfl ?_
  refine j_iconst X dX11_showAll_7 2 (by decide) ?_
  refine j_icmp_ge X 112 dX11_showAll_8 (by decide) (fun c_8 => absurd c_8 (by decide)) (fun c_8 => ?_)
  refine j_iload_n X dX11_showAll_11 rfl ?_
  refine j_iconst X dX11_showAll_12 2 (by decide) ?_
  refine j_iload X dX11_showAll_13 rfl ?_
  refine j_imul X dX11_showAll_15 ?_
  refine j_ishr X dX11_showAll_16 ?_
  refine j_iconst X dX11_showAll_17 3 (by decide) ?_
  refine j_iand X dX11_showAll_18 ?_
  refine j_if_ne X 41 dX11_showAll_19 (by decide) (fun c_19 => ?_) (fun c_19 => absurd c_19 (by decide))
  refine j_iconst X dX11_showAll_41 2 (by decide) ?_
  refine j_iload X dX11_showAll_42 rfl ?_
  refine j_imul X dX11_showAll_44 ?_
  refine j_istore X dX11_showAll_45 (by decide) ?_
  refine j_iload X dX11_showAll_47 rfl ?_
  refine j_iconst X dX11_showAll_49 2 (by decide) ?_
  refine j_iload X dX11_showAll_50 rfl ?_
  refine j_imul X dX11_showAll_52 ?_
  refine j_iconst X dX11_showAll_53 2 (by decide) ?_
  refine j_iadd X dX11_showAll_54 ?_
  refine j_icmp_ge X 106 dX11_showAll_55 (by decide) (fun c_55 => absurd c_55 (by decide)) (fun c_55 => ?_)
  refine j_aload_n X dX11_showAll_58 rfl ?_
  refine j_getR X 11 12 (by decide) (by decide) rfl u962 (o66 np) (k66 np) _ (p66_12 np) dX11_showAll_59 ?_
  refine j_iload_n X dX11_showAll_62 rfl ?_
  refine j_iload_n X dX11_showAll_63 rfl ?_
  refine j_iload X dX11_showAll_64 rfl ?_
  refine j_ishr X dX11_showAll_66 ?_
  refine j_iconst X dX11_showAll_67 1 (by decide) ?_
  refine j_iand X dX11_showAll_68 ?_
  refine j_iconst X dX11_showAll_69 1 (by decide) ?_
  refine j_icmp_ne X 83 dX11_showAll_70 (by decide) (fun c_70 => ?_) (fun c_70 => absurd c_70 (by decide))
  refine j_iload_n X dX11_showAll_83 rfl ?_
  refine j_iload X dX11_showAll_84 rfl ?_
  refine j_aload_n X dX11_showAll_86 rfl ?_
  refine j_iload_n X dX11_showAll_87 rfl ?_
  refine j_iload X dX11_showAll_88 rfl ?_
  refine s_callVi X hR (m_field0 np _ _ hp) rfl 11 (by decide) (o66 np) (k66 np) rfl u1160 u1157 u1159 qp41 u12 hyX11_field (by decide) (by decide) (Nat.le_of_ble_eq_true rfl) dX11_showAll_90 (fun v_90 m_90 h_90 => ?_)
  obtain ⟨e1, e2⟩ := h_90; have e1 := e1.symm; have e2 := e2.symm; subst e1; subst e2
  refine s_callSi X hR (m_leaf np _ _ _ _) rfl u1163 u1161 u1162 u12 hyX11_leaf (by decide) (by decide) (Nat.le_of_ble_eq_true rfl) dX11_showAll_93 (fun v_93 m_93 h_93 => ?_)
  obtain ⟨e1, e2⟩ := h_93; have e1 := e1.symm; have e2 := e2.symm; subst e1; subst e2
  refine j_nrm2 _ (by first | (simp only [fa_lit, pk_mul, nI_add]; done) | (simp only [fa_lit, pk_mul, nI_add]; rfl) | rfl) ?_
  refine j_iastN X (o76 np) (k76 np) (by rw [l76]; omega) (by rw [l76]; decide) dX11_showAll_96 ?_
  refine j_iinc X dX11_showAll_97 rfl 1 rfl ?_
  refine j_iinc X dX11_showAll_100 rfl 1 rfl ?_
  refine j_goto X 47 dX11_showAll_103 (by decide) ?_
  refine j_iload X dX11_showAll_47 rfl ?_
  refine j_iconst X dX11_showAll_49 2 (by decide) ?_
  refine j_iload X dX11_showAll_50 rfl ?_
  refine j_imul X dX11_showAll_52 ?_
  refine j_iconst X dX11_showAll_53 2 (by decide) ?_
  refine j_iadd X dX11_showAll_54 ?_
  refine j_icmp_ge X 106 dX11_showAll_55 (by decide) (fun c_55 => absurd c_55 (by decide)) (fun c_55 => ?_)
  refine j_aload_n X dX11_showAll_58 rfl ?_
  refine j_getR X 11 12 (by decide) (by decide) rfl u962 (o66 np) (k66 np) _ (p66_12 np) dX11_showAll_59 ?_
  refine j_iload_n X dX11_showAll_62 rfl ?_
  refine j_iload_n X dX11_showAll_63 rfl ?_
  refine j_iload X dX11_showAll_64 rfl ?_
  refine j_ishr X dX11_showAll_66 ?_
  refine j_iconst X dX11_showAll_67 1 (by decide) ?_
  refine j_iand X dX11_showAll_68 ?_
  refine j_iconst X dX11_showAll_69 1 (by decide) ?_
  refine j_icmp_ne X 83 dX11_showAll_70 (by decide) (fun c_70 => absurd c_70 (by decide)) (fun c_70 => ?_)
  refine j_aload_n X dX11_showAll_73 rfl ?_
  refine j_iload_n X dX11_showAll_74 rfl ?_
  refine j_iload X dX11_showAll_75 rfl ?_
  refine s_callVi X hR (m_field1 np _ _ hp) rfl 11 (by decide) (o66 np) (k66 np) rfl u1160 u1157 u1159 qp41 u12 hyX11_field (by decide) (by decide) (Nat.le_of_ble_eq_true rfl) dX11_showAll_77 (fun v_77 m_77 h_77 => ?_)
  obtain ⟨e1, e2⟩ := h_77; have e1 := e1.symm; have e2 := e2.symm; subst e1; subst e2
  refine j_goto X 96 dX11_showAll_80 (by decide) ?_
  refine j_nrm2 _ (by first | (simp only [fa_lit, pk_mul, nI_add]; done) | (simp only [fa_lit, pk_mul, nI_add]; rfl) | rfl) ?_
  refine j_iastN X (o76 np) (k76 np) (by rw [l76]; omega) (by rw [l76]; decide) dX11_showAll_96 ?_
  refine j_iinc X dX11_showAll_97 rfl 1 rfl ?_
  refine j_iinc X dX11_showAll_100 rfl 1 rfl ?_
  refine j_goto X 47 dX11_showAll_103 (by decide) ?_
  refine j_iload X dX11_showAll_47 rfl ?_
  refine j_iconst X dX11_showAll_49 2 (by decide) ?_
  refine j_iload X dX11_showAll_50 rfl ?_
  refine j_imul X dX11_showAll_52 ?_
  refine j_iconst X dX11_showAll_53 2 (by decide) ?_
  refine j_iadd X dX11_showAll_54 ?_
  refine j_icmp_ge X 106 dX11_showAll_55 (by decide) (fun c_55 => ?_) (fun c_55 => absurd c_55 (by decide))
  refine j_iinc X dX11_showAll_106 rfl 1 rfl ?_
  refine j_goto X 5 dX11_showAll_109 (by decide) ?_
  refine j_iload X dX11_showAll_5 rfl ?_
  refine j_iconst X dX11_showAll_7 2 (by decide) ?_
  refine j_icmp_ge X 112 dX11_showAll_8 (by decide) (fun c_8 => absurd c_8 (by decide)) (fun c_8 => ?_)
  refine j_iload_n X dX11_showAll_11 rfl ?_
  refine j_iconst X dX11_showAll_12 2 (by decide) ?_
  refine j_iload X dX11_showAll_13 rfl ?_
  refine j_imul X dX11_showAll_15 ?_
  refine j_ishr X dX11_showAll_16 ?_
  refine j_iconst X dX11_showAll_17 3 (by decide) ?_
  refine j_iand X dX11_showAll_18 ?_
  refine j_if_ne X 41 dX11_showAll_19 (by decide) (fun c_19 => ?_) (fun c_19 => absurd c_19 (by decide))
  refine j_iconst X dX11_showAll_41 2 (by decide) ?_
  refine j_iload X dX11_showAll_42 rfl ?_
  refine j_imul X dX11_showAll_44 ?_
  refine j_istore X dX11_showAll_45 (by decide) ?_
  refine j_iload X dX11_showAll_47 rfl ?_
  refine j_iconst X dX11_showAll_49 2 (by decide) ?_
  refine j_iload X dX11_showAll_50 rfl ?_
  refine j_imul X dX11_showAll_52 ?_
  refine j_iconst X dX11_showAll_53 2 (by decide) ?_
  refine j_iadd X dX11_showAll_54 ?_
  refine j_icmp_ge X 106 dX11_showAll_55 (by decide) (fun c_55 => absurd c_55 (by decide)) (fun c_55 => ?_)
  refine j_aload_n X dX11_showAll_58 rfl ?_
  refine j_getR X 11 12 (by decide) (by decide) rfl u962 (o66 np) (k66 np) _ (p66_12 np) dX11_showAll_59 ?_
  refine j_iload_n X dX11_showAll_62 rfl ?_
  refine j_iload_n X dX11_showAll_63 rfl ?_
  refine j_iload X dX11_showAll_64 rfl ?_
  refine j_ishr X dX11_showAll_66 ?_
  refine j_iconst X dX11_showAll_67 1 (by decide) ?_
  refine j_iand X dX11_showAll_68 ?_
  refine j_iconst X dX11_showAll_69 1 (by decide) ?_
  refine j_icmp_ne X 83 dX11_showAll_70 (by decide) (fun c_70 => ?_) (fun c_70 => absurd c_70 (by decide))
  refine j_iload_n X dX11_showAll_83 rfl ?_
  refine j_iload X dX11_showAll_84 rfl ?_
  refine j_aload_n X dX11_showAll_86 rfl ?_
  refine j_iload_n X dX11_showAll_87 rfl ?_
  refine j_iload X dX11_showAll_88 rfl ?_
  refine s_callVi X hR (m_field2 np _ _ hp) rfl 11 (by decide) (o66 np) (k66 np) rfl u1160 u1157 u1159 qp41 u12 hyX11_field (by decide) (by decide) (Nat.le_of_ble_eq_true rfl) dX11_showAll_90 (fun v_90 m_90 h_90 => ?_)
  obtain ⟨e1, e2⟩ := h_90; have e1 := e1.symm; have e2 := e2.symm; subst e1; subst e2
  refine s_callSi X hR (m_leaf np _ _ _ _) rfl u1163 u1161 u1162 u12 hyX11_leaf (by decide) (by decide) (Nat.le_of_ble_eq_true rfl) dX11_showAll_93 (fun v_93 m_93 h_93 => ?_)
  obtain ⟨e1, e2⟩ := h_93; have e1 := e1.symm; have e2 := e2.symm; subst e1; subst e2
  refine j_nrm2 _ (by first | (simp only [fa_lit, pk_mul, nI_add]; done) | (simp only [fa_lit, pk_mul, nI_add]; rfl) | rfl) ?_
  refine j_iastN X (o76 np) (k76 np) (by rw [l76]; omega) (by rw [l76]; decide) dX11_showAll_96 ?_
  refine j_iinc X dX11_showAll_97 rfl 1 rfl ?_
  refine j_iinc X dX11_showAll_100 rfl 1 rfl ?_
  refine j_goto X 47 dX11_showAll_103 (by decide) ?_
  refine j_iload X dX11_showAll_47 rfl ?_
  refine j_iconst X dX11_showAll_49 2 (by decide) ?_
  refine j_iload X dX11_showAll_50 rfl ?_
  refine j_imul X dX11_showAll_52 ?_
  refine j_iconst X dX11_showAll_53 2 (by decide) ?_
  refine j_iadd X dX11_showAll_54 ?_
  refine j_icmp_ge X 106 dX11_showAll_55 (by decide) (fun c_55 => absurd c_55 (by decide)) (fun c_55 => ?_)
  refine j_aload_n X dX11_showAll_58 rfl ?_
  refine j_getR X 11 12 (by decide) (by decide) rfl u962 (o66 np) (k66 np) _ (p66_12 np) dX11_showAll_59 ?_
  refine j_iload_n X dX11_showAll_62 rfl ?_
  refine j_iload_n X dX11_showAll_63 rfl ?_
  refine j_iload X dX11_showAll_64 rfl ?_
  refine j_ishr X dX11_showAll_66 ?_
  refine j_iconst X dX11_showAll_67 1 (by decide) ?_
  refine j_iand X dX11_showAll_68 ?_
  refine j_iconst X dX11_showAll_69 1 (by decide) ?_
  refine j_icmp_ne X 83 dX11_showAll_70 (by decide) (fun c_70 => absurd c_70 (by decide)) (fun c_70 => ?_)
  refine j_aload_n X dX11_showAll_73 rfl ?_
  refine j_iload_n X dX11_showAll_74 rfl ?_
  refine j_iload X dX11_showAll_75 rfl ?_
  refine s_callVi X hR (m_field3 np _ _ hp) rfl 11 (by decide) (o66 np) (k66 np) rfl u1160 u1157 u1159 qp41 u12 hyX11_field (by decide) (by decide) (Nat.le_of_ble_eq_true rfl) dX11_showAll_77 (fun v_77 m_77 h_77 => ?_)
  obtain ⟨e1, e2⟩ := h_77; have e1 := e1.symm; have e2 := e2.symm; subst e1; subst e2
  refine j_goto X 96 dX11_showAll_80 (by decide) ?_
  refine j_nrm2 _ (by first | (simp only [fa_lit, pk_mul, nI_add]; done) | (simp only [fa_lit, pk_mul, nI_add]; rfl) | rfl) ?_
  refine j_iastN X (o76 np) (k76 np) (by rw [l76]; omega) (by rw [l76]; decide) dX11_showAll_96 ?_
  refine j_iinc X dX11_showAll_97 rfl 1 rfl ?_
  refine j_iinc X dX11_showAll_100 rfl 1 rfl ?_
  refine j_goto X 47 dX11_showAll_103 (by decide) ?_
  refine j_iload X dX11_showAll_47 rfl ?_
  refine j_iconst X dX11_showAll_49 2 (by decide) ?_
  refine j_iload X dX11_showAll_50 rfl ?_
  refine j_imul X dX11_showAll_52 ?_
  refine j_iconst X dX11_showAll_53 2 (by decide) ?_
  refine j_iadd X dX11_showAll_54 ?_
  refine j_icmp_ge X 106 dX11_showAll_55 (by decide) (fun c_55 => ?_) (fun c_55 => absurd c_55 (by decide))
  refine j_iinc X dX11_showAll_106 rfl 1 rfl ?_
  refine j_goto X 5 dX11_showAll_109 (by decide) ?_
  refine j_iload X dX11_showAll_5 rfl ?_
  refine j_iconst X dX11_showAll_7 2 (by decide) ?_
  refine j_icmp_ge X 112 dX11_showAll_8 (by decide) (fun c_8 => ?_) (fun c_8 => absurd c_8 (by decide))
  refine j_iload_n X dX11_showAll_112 rfl ?_
  refine s_iret X hE hr dX11_showAll_113 rfl ?_
  exact ⟨by decide, rfl⟩
set_option maxRecDepth 4000 in
set_option maxHeartbeats 1000000 in
theorem m_showAll11 (np : Nat) (mem : jMem) (p : Nat) (hp : p < 12) : jPi yX11_showAll cX11_showAll 6 .int 3 [.ref 66, .int (nI p), .int 11] np mem (fun v c => v = 4 ∧ c = jup (jup (jup (jup (mem) 76 0 (mem 74 (9 * p + 5))) 76 1 (mem 74 (9 * p + 6))) 76 2 (jLeaf (nI p) 2 (mem 74 (9 * p + 7)))) 76 3 (mem 74 (9 * p + 8))) := by
  refine jPi.of (own := RX11) rfl rfl (Nat.le_of_ble_eq_true rfl) (fun G X hR hr hE => ?_)
  refine j_iconst X dX11_showAll_0 0 (by decide) ?_
  refine j_istore_n X dX11_showAll_1 (by decide) ?_
  refine j_iconst X dX11_showAll_2 0 (by decide) ?_
  refine j_istore X dX11_showAll_3 (by decide) ?_
  refine j_iload X dX11_showAll_5 rfl ?_
  refine j_iconst X dX11_showAll_7 2 (by decide) ?_
  refine j_icmp_ge X 112 dX11_showAll_8 (by decide) (fun c_8 => absurd c_8 (by decide)) (fun c_8 => ?_)
  refine j_iload_n X dX11_showAll_11 rfl ?_
  refine j_iconst X dX11_showAll_12 2 (by decide) ?_
  refine j_iload X dX11_showAll_13 rfl ?_
  refine j_imul X dX11_showAll_15 ?_
  refine j_ishr X dX11_showAll_16 ?_
  refine j_iconst X dX11_showAll_17 3 (by decide) ?_
  refine j_iand X dX11_showAll_18 ?_
  refine j_if_ne X 41 dX11_showAll_19 (by decide) (fun c_19 => ?_) (fun c_19 => absurd c_19 (by decide))
  refine j_iconst X dX11_showAll_41 2 (by decide) ?_
  refine j_iload X dX11_showAll_42 rfl ?_
  refine j_imul X dX11_showAll_44 ?_
  refine j_istore X dX11_showAll_45 (by decide) ?_
  refine j_iload X dX11_showAll_47 rfl ?_
  refine j_iconst X dX11_showAll_49 2 (by decide) ?_
  refine j_iload X dX11_showAll_50 rfl ?_
  refine j_imul X dX11_showAll_52 ?_
  refine j_iconst X dX11_showAll_53 2 (by decide) ?_
  refine j_iadd X dX11_showAll_54 ?_
  refine j_icmp_ge X 106 dX11_showAll_55 (by decide) (fun c_55 => absurd c_55 (by decide)) (fun c_55 => ?_)
  refine j_aload_n X dX11_showAll_58 rfl ?_
  refine j_getR X 11 12 (by decide) (by decide) rfl u962 (o66 np) (k66 np) _ (p66_12 np) dX11_showAll_59 ?_
  refine j_iload_n X dX11_showAll_62 rfl ?_
  refine j_iload_n X dX11_showAll_63 rfl ?_
  refine j_iload X dX11_showAll_64 rfl ?_
  refine j_ishr X dX11_showAll_66 ?_
  refine j_iconst X dX11_showAll_67 1 (by decide) ?_
  refine j_iand X dX11_showAll_68 ?_
  refine j_iconst X dX11_showAll_69 1 (by decide) ?_
  refine j_icmp_ne X 83 dX11_showAll_70 (by decide) (fun c_70 => absurd c_70 (by decide)) (fun c_70 => ?_)
  refine j_aload_n X dX11_showAll_73 rfl ?_
  refine j_iload_n X dX11_showAll_74 rfl ?_
  refine j_iload X dX11_showAll_75 rfl ?_
  refine s_callVi X hR (m_field0 np _ _ hp) rfl 11 (by decide) (o66 np) (k66 np) rfl u1160 u1157 u1159 qp41 u12 hyX11_field (by decide) (by decide) (Nat.le_of_ble_eq_true rfl) dX11_showAll_77 (fun v_77 m_77 h_77 => ?_)
  obtain ⟨e1, e2⟩ := h_77; have e1 := e1.symm; have e2 := e2.symm; subst e1; subst e2
  refine j_goto X 96 dX11_showAll_80 (by decide) ?_
  refine j_nrm2 _ (by first | (simp only [fa_lit, pk_mul, nI_add]; done) | (simp only [fa_lit, pk_mul, nI_add]; rfl) | rfl) ?_
  refine j_iastN X (o76 np) (k76 np) (by rw [l76]; omega) (by rw [l76]; decide) dX11_showAll_96 ?_
  refine j_iinc X dX11_showAll_97 rfl 1 rfl ?_
  refine j_iinc X dX11_showAll_100 rfl 1 rfl ?_
  refine j_goto X 47 dX11_showAll_103 (by decide) ?_
  refine j_iload X dX11_showAll_47 rfl ?_
  refine j_iconst X dX11_showAll_49 2 (by decide) ?_
  refine j_iload X dX11_showAll_50 rfl ?_
  refine j_imul X dX11_showAll_52 ?_
  refine j_iconst X dX11_showAll_53 2 (by decide) ?_
  refine j_iadd X dX11_showAll_54 ?_
  refine j_icmp_ge X 106 dX11_showAll_55 (by decide) (fun c_55 => absurd c_55 (by decide)) (fun c_55 => ?_)
  refine j_aload_n X dX11_showAll_58 rfl ?_
  refine j_getR X 11 12 (by decide) (by decide) rfl u962 (o66 np) (k66 np) _ (p66_12 np) dX11_showAll_59 ?_
  refine j_iload_n X dX11_showAll_62 rfl ?_
  refine j_iload_n X dX11_showAll_63 rfl ?_
  refine j_iload X dX11_showAll_64 rfl ?_
  refine j_ishr X dX11_showAll_66 ?_
  refine j_iconst X dX11_showAll_67 1 (by decide) ?_
  refine j_iand X dX11_showAll_68 ?_
  refine j_iconst X dX11_showAll_69 1 (by decide) ?_
  refine j_icmp_ne X 83 dX11_showAll_70 (by decide) (fun c_70 => absurd c_70 (by decide)) (fun c_70 => ?_)
  refine j_aload_n X dX11_showAll_73 rfl ?_
  refine j_iload_n X dX11_showAll_74 rfl ?_
  refine j_iload X dX11_showAll_75 rfl ?_
  refine s_callVi X hR (m_field1 np _ _ hp) rfl 11 (by decide) (o66 np) (k66 np) rfl u1160 u1157 u1159 qp41 u12 hyX11_field (by decide) (by decide) (Nat.le_of_ble_eq_true rfl) dX11_showAll_77 (fun v_77 m_77 h_77 => ?_)
  obtain ⟨e1, e2⟩ := h_77; have e1 := e1.symm; have e2 := e2.symm; subst e1; subst e2
  refine j_goto X 96 dX11_showAll_80 (by decide) ?_
  refine j_nrm2 _ (by first | (simp only [fa_lit, pk_mul, nI_add]; done) | (simp only [fa_lit, pk_mul, nI_add]; rfl) | rfl) ?_
  refine j_iastN X (o76 np) (k76 np) (by rw [l76]; omega) (by rw [l76]; decide) dX11_showAll_96 ?_
  refine j_iinc X dX11_showAll_97 rfl 1 rfl ?_
  refine j_iinc X dX11_showAll_100 rfl 1 rfl ?_
  refine j_goto X 47 dX11_showAll_103 (by decide) ?_
  refine j_iload X dX11_showAll_47 rfl ?_
  refine j_iconst X dX11_showAll_49 2 (by decide) ?_
  refine j_iload X dX11_showAll_50 rfl ?_
  refine j_imul X dX11_showAll_52 ?_
  refine j_iconst X dX11_showAll_53 2 (by decide) ?_
  refine j_iadd X dX11_showAll_54 ?_
  refine j_icmp_ge X 106 dX11_showAll_55 (by decide) (fun c_55 => ?_) (fun c_55 => absurd c_55 (by decide))
  refine j_iinc X dX11_showAll_106 rfl 1 rfl ?_
  refine j_goto X 5 dX11_showAll_109 (by decide) ?_
  refine j_iload X dX11_showAll_5 rfl ?_
  refine j_iconst X dX11_showAll_7 2 (by decide) ?_
  refine j_icmp_ge X 112 dX11_showAll_8 (by decide) (fun c_8 => absurd c_8 (by decide)) (fun c_8 => ?_)
  refine j_iload_n X dX11_showAll_11 rfl ?_
  refine j_iconst X dX11_showAll_12 2 (by decide) ?_
  refine j_iload X dX11_showAll_13 rfl ?_
  refine j_imul X dX11_showAll_15 ?_
  refine j_ishr X dX11_showAll_16 ?_
  refine j_iconst X dX11_showAll_17 3 (by decide) ?_
  refine j_iand X dX11_showAll_18 ?_
  refine j_if_ne X 41 dX11_showAll_19 (by decide) (fun c_19 => ?_) (fun c_19 => absurd c_19 (by decide))
  refine j_iconst X dX11_showAll_41 2 (by decide) ?_
  refine j_iload X dX11_showAll_42 rfl ?_
  refine j_imul X dX11_showAll_44 ?_
  refine j_istore X dX11_showAll_45 (by decide) ?_
  refine j_iload X dX11_showAll_47 rfl ?_
  refine j_iconst X dX11_showAll_49 2 (by decide) ?_
  refine j_iload X dX11_showAll_50 rfl ?_
  refine j_imul X dX11_showAll_52 ?_
  refine j_iconst X dX11_showAll_53 2 (by decide) ?_
  refine j_iadd X dX11_showAll_54 ?_
  refine j_icmp_ge X 106 dX11_showAll_55 (by decide) (fun c_55 => absurd c_55 (by decide)) (fun c_55 => ?_)
  refine j_aload_n X dX11_showAll_58 rfl ?_
  refine j_getR X 11 12 (by decide) (by decide) rfl u962 (o66 np) (k66 np) _ (p66_12 np) dX11_showAll_59 ?_
  refine j_iload_n X dX11_showAll_62 rfl ?_
  refine j_iload_n X dX11_showAll_63 rfl ?_
  refine j_iload X dX11_showAll_64 rfl ?_
  refine j_ishr X dX11_showAll_66 ?_
  refine j_iconst X dX11_showAll_67 1 (by decide) ?_
  refine j_iand X dX11_showAll_68 ?_
  refine j_iconst X dX11_showAll_69 1 (by decide) ?_
  refine j_icmp_ne X 83 dX11_showAll_70 (by decide) (fun c_70 => ?_) (fun c_70 => absurd c_70 (by decide))
  refine j_iload_n X dX11_showAll_83 rfl ?_
  refine j_iload X dX11_showAll_84 rfl ?_
  refine j_aload_n X dX11_showAll_86 rfl ?_
  refine j_iload_n X dX11_showAll_87 rfl ?_
  refine j_iload X dX11_showAll_88 rfl ?_
  refine s_callVi X hR (m_field2 np _ _ hp) rfl 11 (by decide) (o66 np) (k66 np) rfl u1160 u1157 u1159 qp41 u12 hyX11_field (by decide) (by decide) (Nat.le_of_ble_eq_true rfl) dX11_showAll_90 (fun v_90 m_90 h_90 => ?_)
  obtain ⟨e1, e2⟩ := h_90; have e1 := e1.symm; have e2 := e2.symm; subst e1; subst e2
  refine s_callSi X hR (m_leaf np _ _ _ _) rfl u1163 u1161 u1162 u12 hyX11_leaf (by decide) (by decide) (Nat.le_of_ble_eq_true rfl) dX11_showAll_93 (fun v_93 m_93 h_93 => ?_)
  obtain ⟨e1, e2⟩ := h_93; have e1 := e1.symm; have e2 := e2.symm; subst e1; subst e2
  refine j_nrm2 _ (by first | (simp only [fa_lit, pk_mul, nI_add]; done) | (simp only [fa_lit, pk_mul, nI_add]; rfl) | rfl) ?_
  refine j_iastN X (o76 np) (k76 np) (by rw [l76]; omega) (by rw [l76]; decide) dX11_showAll_96 ?_
  refine j_iinc X dX11_showAll_97 rfl 1 rfl ?_
  refine j_iinc X dX11_showAll_100 rfl 1 rfl ?_
  refine j_goto X 47 dX11_showAll_103 (by decide) ?_
  refine j_iload X dX11_showAll_47 rfl ?_
  refine j_iconst X dX11_showAll_49 2 (by decide) ?_
  refine j_iload X dX11_showAll_50 rfl ?_
  refine j_imul X dX11_showAll_52 ?_
  refine j_iconst X dX11_showAll_53 2 (by decide) ?_
  refine j_iadd X dX11_showAll_54 ?_
  refine j_icmp_ge X 106 dX11_showAll_55 (by decide) (fun c_55 => absurd c_55 (by decide)) (fun c_55 => ?_)
  refine j_aload_n X dX11_showAll_58 rfl ?_
  refine j_getR X 11 12 (by decide) (by decide) rfl u962 (o66 np) (k66 np) _ (p66_12 np) dX11_showAll_59 ?_
  refine j_iload_n X dX11_showAll_62 rfl ?_
  refine j_iload_n X dX11_showAll_63 rfl ?_
  refine j_iload X dX11_showAll_64 rfl ?_
  refine j_ishr X dX11_showAll_66 ?_
  refine j_iconst X dX11_showAll_67 1 (by decide) ?_
  refine j_iand X dX11_showAll_68 ?_
  refine j_iconst X dX11_showAll_69 1 (by decide) ?_
  refine j_icmp_ne X 83 dX11_showAll_70 (by decide) (fun c_70 => absurd c_70 (by decide)) (fun c_70 => ?_)
  refine j_aload_n X dX11_showAll_73 rfl ?_
  refine j_iload_n X dX11_showAll_74 rfl ?_
  refine j_iload X dX11_showAll_75 rfl ?_
  refine s_callVi X hR (m_field3 np _ _ hp) rfl 11 (by decide) (o66 np) (k66 np) rfl u1160 u1157 u1159 qp41 u12 hyX11_field (by decide) (by decide) (Nat.le_of_ble_eq_true rfl) dX11_showAll_77 (fun v_77 m_77 h_77 => ?_)
  obtain ⟨e1, e2⟩ := h_77; have e1 := e1.symm; have e2 := e2.symm; subst e1; subst e2
  refine j_goto X 96 dX11_showAll_80 (by decide) ?_
  refine j_nrm2 _ (by first | (simp only [fa_lit, pk_mul, nI_add]; done) | (simp only [fa_lit, pk_mul, nI_add]; rfl) | rfl) ?_
  refine j_iastN X (o76 np) (k76 np) (by rw [l76]; omega) (by rw [l76]; decide) dX11_showAll_96 ?_
  refine j_iinc X dX11_showAll_97 rfl 1 rfl ?_
  refine j_iinc X dX11_showAll_100 rfl 1 rfl ?_
  refine j_goto X 47 dX11_showAll_103 (by decide) ?_
  refine j_iload X dX11_showAll_47 rfl ?_
  refine j_iconst X dX11_showAll_49 2 (by decide) ?_
  refine j_iload X dX11_showAll_50 rfl ?_
  refine j_imul X dX11_showAll_52 ?_
  refine j_iconst X dX11_showAll_53 2 (by decide) ?_
  refine j_iadd X dX11_showAll_54 ?_
  refine j_icmp_ge X 106 dX11_showAll_55 (by decide) (fun c_55 => ?_) (fun c_55 => absurd c_55 (by decide))
  refine j_iinc X dX11_showAll_106 rfl 1 rfl ?_
  refine j_goto X 5 dX11_showAll_109 (by decide) ?_
  refine j_iload X dX11_showAll_5 rfl ?_
  refine j_iconst X dX11_showAll_7 2 (by decide) ?_
  refine j_icmp_ge X 112 dX11_showAll_8 (by decide) (fun c_8 => ?_) (fun c_8 => absurd c_8 (by decide))
  refine j_iload_n X dX11_showAll_112 rfl ?_
  refine s_iret X hE hr dX11_showAll_113 rfl ?_
  exact ⟨by decide, rfl⟩
set_option maxRecDepth 4000 in
set_option maxHeartbeats 1000000 in
theorem m_showAll12 (np : Nat) (mem : jMem) (p : Nat) (hp : p < 12) : jPi yX11_showAll cX11_showAll 6 .int 3 [.ref 66, .int (nI p), .int 12] np mem (fun v c => v = 3 ∧ c = jup (jup (jup (mem) 76 0 (jJoin (jLeaf (nI p) 0 (mem 74 (9 * p + 5))) (jLeaf (nI p) 1 (mem 74 (9 * p + 6))))) 76 1 (mem 74 (9 * p + 7))) 76 2 (mem 74 (9 * p + 8))) := by
  refine jPi.of (own := RX11) rfl rfl (Nat.le_of_ble_eq_true rfl) (fun G X hR hr hE => ?_)
  refine j_iconst X dX11_showAll_0 0 (by decide) ?_
  refine j_istore_n X dX11_showAll_1 (by decide) ?_
  refine j_iconst X dX11_showAll_2 0 (by decide) ?_
  refine j_istore X dX11_showAll_3 (by decide) ?_
  refine j_iload X dX11_showAll_5 rfl ?_
  refine j_iconst X dX11_showAll_7 2 (by decide) ?_
  refine j_icmp_ge X 112 dX11_showAll_8 (by decide) (fun c_8 => absurd c_8 (by decide)) (fun c_8 => ?_)
  refine j_iload_n X dX11_showAll_11 rfl ?_
  refine j_iconst X dX11_showAll_12 2 (by decide) ?_
  refine j_iload X dX11_showAll_13 rfl ?_
  refine j_imul X dX11_showAll_15 ?_
  refine j_ishr X dX11_showAll_16 ?_
  refine j_iconst X dX11_showAll_17 3 (by decide) ?_
  refine j_iand X dX11_showAll_18 ?_
  refine j_if_ne X 41 dX11_showAll_19 (by decide) (fun c_19 => absurd c_19 (by decide)) (fun c_19 => ?_)
  refine j_aload_n X dX11_showAll_22 rfl ?_
  refine j_getR X 11 12 (by decide) (by decide) rfl u962 (o66 np) (k66 np) _ (p66_12 np) dX11_showAll_23 ?_
  refine j_iload_n X dX11_showAll_26 rfl ?_
  refine j_aload_n X dX11_showAll_27 rfl ?_
  refine j_iload_n X dX11_showAll_28 rfl ?_
  refine j_iload X dX11_showAll_29 rfl ?_
  refine s_callVi X hR (m_half0 np _ _ hp) rfl 11 (by decide) (o66 np) (k66 np) rfl u1156 u1153 u1155 qp40 u12 hyX11_halfOf (by decide) (by decide) (Nat.le_of_ble_eq_true rfl) dX11_showAll_31 (fun v_31 m_31 h_31 => ?_)
  obtain ⟨e1, e2⟩ := h_31; have e1 := e1.symm; have e2 := e2.symm; subst e1; subst e2
  refine j_nrm2 _ (by first | (simp only [fa_lit, pk_mul, nI_add]; done) | (simp only [fa_lit, pk_mul, nI_add]; rfl) | rfl) ?_
  refine j_iastN X (o76 np) (k76 np) (by rw [l76]; omega) (by rw [l76]; decide) dX11_showAll_34 ?_
  refine j_iinc X dX11_showAll_35 rfl 1 rfl ?_
  refine j_goto X 106 dX11_showAll_38 (by decide) ?_
  refine j_iinc X dX11_showAll_106 rfl 1 rfl ?_
  refine j_goto X 5 dX11_showAll_109 (by decide) ?_
  refine j_iload X dX11_showAll_5 rfl ?_
  refine j_iconst X dX11_showAll_7 2 (by decide) ?_
  refine j_icmp_ge X 112 dX11_showAll_8 (by decide) (fun c_8 => absurd c_8 (by decide)) (fun c_8 => ?_)
  refine j_iload_n X dX11_showAll_11 rfl ?_
  refine j_iconst X dX11_showAll_12 2 (by decide) ?_
  refine j_iload X dX11_showAll_13 rfl ?_
  refine j_imul X dX11_showAll_15 ?_
  refine j_ishr X dX11_showAll_16 ?_
  refine j_iconst X dX11_showAll_17 3 (by decide) ?_
  refine j_iand X dX11_showAll_18 ?_
  refine j_if_ne X 41 dX11_showAll_19 (by decide) (fun c_19 => ?_) (fun c_19 => absurd c_19 (by decide))
  refine j_iconst X dX11_showAll_41 2 (by decide) ?_
  refine j_iload X dX11_showAll_42 rfl ?_
  refine j_imul X dX11_showAll_44 ?_
  refine j_istore X dX11_showAll_45 (by decide) ?_
  refine j_iload X dX11_showAll_47 rfl ?_
  refine j_iconst X dX11_showAll_49 2 (by decide) ?_
  refine j_iload X dX11_showAll_50 rfl ?_
  refine j_imul X dX11_showAll_52 ?_
  refine j_iconst X dX11_showAll_53 2 (by decide) ?_
  refine j_iadd X dX11_showAll_54 ?_
  refine j_icmp_ge X 106 dX11_showAll_55 (by decide) (fun c_55 => absurd c_55 (by decide)) (fun c_55 => ?_)
  refine j_aload_n X dX11_showAll_58 rfl ?_
  refine j_getR X 11 12 (by decide) (by decide) rfl u962 (o66 np) (k66 np) _ (p66_12 np) dX11_showAll_59 ?_
  refine j_iload_n X dX11_showAll_62 rfl ?_
  refine j_iload_n X dX11_showAll_63 rfl ?_
  refine j_iload X dX11_showAll_64 rfl ?_
  refine j_ishr X dX11_showAll_66 ?_
  refine j_iconst X dX11_showAll_67 1 (by decide) ?_
  refine j_iand X dX11_showAll_68 ?_
  refine j_iconst X dX11_showAll_69 1 (by decide) ?_
  refine j_icmp_ne X 83 dX11_showAll_70 (by decide) (fun c_70 => absurd c_70 (by decide)) (fun c_70 => ?_)
  refine j_aload_n X dX11_showAll_73 rfl ?_
  refine j_iload_n X dX11_showAll_74 rfl ?_
  refine j_iload X dX11_showAll_75 rfl ?_
  refine s_callVi X hR (m_field2 np _ _ hp) rfl 11 (by decide) (o66 np) (k66 np) rfl u1160 u1157 u1159 qp41 u12 hyX11_field (by decide) (by decide) (Nat.le_of_ble_eq_true rfl) dX11_showAll_77 (fun v_77 m_77 h_77 => ?_)
  obtain ⟨e1, e2⟩ := h_77; have e1 := e1.symm; have e2 := e2.symm; subst e1; subst e2
  refine j_goto X 96 dX11_showAll_80 (by decide) ?_
  refine j_nrm2 _ (by first | (simp only [fa_lit, pk_mul, nI_add]; done) | (simp only [fa_lit, pk_mul, nI_add]; rfl) | rfl) ?_
  refine j_iastN X (o76 np) (k76 np) (by rw [l76]; omega) (by rw [l76]; decide) dX11_showAll_96 ?_
  refine j_iinc X dX11_showAll_97 rfl 1 rfl ?_
  refine j_iinc X dX11_showAll_100 rfl 1 rfl ?_
  refine j_goto X 47 dX11_showAll_103 (by decide) ?_
  refine j_iload X dX11_showAll_47 rfl ?_
  refine j_iconst X dX11_showAll_49 2 (by decide) ?_
  refine j_iload X dX11_showAll_50 rfl ?_
  refine j_imul X dX11_showAll_52 ?_
  refine j_iconst X dX11_showAll_53 2 (by decide) ?_
  refine j_iadd X dX11_showAll_54 ?_
  refine j_icmp_ge X 106 dX11_showAll_55 (by decide) (fun c_55 => absurd c_55 (by decide)) (fun c_55 => ?_)
  refine j_aload_n X dX11_showAll_58 rfl ?_
  refine j_getR X 11 12 (by decide) (by decide) rfl u962 (o66 np) (k66 np) _ (p66_12 np) dX11_showAll_59 ?_
  refine j_iload_n X dX11_showAll_62 rfl ?_
  refine j_iload_n X dX11_showAll_63 rfl ?_
  refine j_iload X dX11_showAll_64 rfl ?_
  refine j_ishr X dX11_showAll_66 ?_
  refine j_iconst X dX11_showAll_67 1 (by decide) ?_
  refine j_iand X dX11_showAll_68 ?_
  refine j_iconst X dX11_showAll_69 1 (by decide) ?_
  refine j_icmp_ne X 83 dX11_showAll_70 (by decide) (fun c_70 => absurd c_70 (by decide)) (fun c_70 => ?_)
  refine j_aload_n X dX11_showAll_73 rfl ?_
  refine j_iload_n X dX11_showAll_74 rfl ?_
  refine j_iload X dX11_showAll_75 rfl ?_
  refine s_callVi X hR (m_field3 np _ _ hp) rfl 11 (by decide) (o66 np) (k66 np) rfl u1160 u1157 u1159 qp41 u12 hyX11_field (by decide) (by decide) (Nat.le_of_ble_eq_true rfl) dX11_showAll_77 (fun v_77 m_77 h_77 => ?_)
  obtain ⟨e1, e2⟩ := h_77; have e1 := e1.symm; have e2 := e2.symm; subst e1; subst e2
  refine j_goto X 96 dX11_showAll_80 (by decide) ?_
  refine j_nrm2 _ (by first | (simp only [fa_lit, pk_mul, nI_add]; done) | (simp only [fa_lit, pk_mul, nI_add]; rfl) | rfl) ?_
  refine j_iastN X (o76 np) (k76 np) (by rw [l76]; omega) (by rw [l76]; decide) dX11_showAll_96 ?_
  refine j_iinc X dX11_showAll_97 rfl 1 rfl ?_
  refine j_iinc X dX11_showAll_100 rfl 1 rfl ?_
  refine j_goto X 47 dX11_showAll_103 (by decide) ?_
  refine j_iload X dX11_showAll_47 rfl ?_
  refine j_iconst X dX11_showAll_49 2 (by decide) ?_
  refine j_iload X dX11_showAll_50 rfl ?_
  refine j_imul X dX11_showAll_52 ?_
  refine j_iconst X dX11_showAll_53 2 (by decide) ?_
  refine j_iadd X dX11_showAll_54 ?_
  refine j_icmp_ge X 106 dX11_showAll_55 (by decide) (fun c_55 => ?_) (fun c_55 => absurd c_55 (by decide))
  refine j_iinc X dX11_showAll_106 rfl 1 rfl ?_
  refine j_goto X 5 dX11_showAll_109 (by decide) ?_
  refine j_iload X dX11_showAll_5 rfl ?_
  refine j_iconst X dX11_showAll_7 2 (by decide) ?_
  refine j_icmp_ge X 112 dX11_showAll_8 (by decide) (fun c_8 => ?_) (fun c_8 => absurd c_8 (by decide))
  refine j_iload_n X dX11_showAll_112 rfl ?_
  refine s_iret X hE hr dX11_showAll_113 rfl ?_
  exact ⟨by decide, rfl⟩
set_option maxRecDepth 4000 in
set_option maxHeartbeats 1000000 in
theorem m_showAll13 (np : Nat) (mem : jMem) (p : Nat) (hp : p < 12) : jPi yX11_showAll cX11_showAll 6 .int 3 [.ref 66, .int (nI p), .int 13] np mem (fun v c => v = 4 ∧ c = jup (jup (jup (jup (mem) 76 0 (mem 74 (9 * p + 5))) 76 1 (jLeaf (nI p) 1 (mem 74 (9 * p + 6)))) 76 2 (mem 74 (9 * p + 7))) 76 3 (mem 74 (9 * p + 8))) := by
  refine jPi.of (own := RX11) rfl rfl (Nat.le_of_ble_eq_true rfl) (fun G X hR hr hE => ?_)
  refine j_iconst X dX11_showAll_0 0 (by decide) ?_
  refine j_istore_n X dX11_showAll_1 (by decide) ?_
  refine j_iconst X dX11_showAll_2 0 (by decide) ?_
  refine j_istore X dX11_showAll_3 (by decide) ?_
  refine j_iload X dX11_showAll_5 rfl ?_
  refine j_iconst X dX11_showAll_7 2 (by decide) ?_
  refine j_icmp_ge X 112 dX11_showAll_8 (by decide) (fun c_8 => absurd c_8 (by decide)) (fun c_8 => ?_)
  refine j_iload_n X dX11_showAll_11 rfl ?_
  refine j_iconst X dX11_showAll_12 2 (by decide) ?_
  refine j_iload X dX11_showAll_13 rfl ?_
  refine j_imul X dX11_showAll_15 ?_
  refine j_ishr X dX11_showAll_16 ?_
  refine j_iconst X dX11_showAll_17 3 (by decide) ?_
  refine j_iand X dX11_showAll_18 ?_
  refine j_if_ne X 41 dX11_showAll_19 (by decide) (fun c_19 => ?_) (fun c_19 => absurd c_19 (by decide))
  refine j_iconst X dX11_showAll_41 2 (by decide) ?_
  refine j_iload X dX11_showAll_42 rfl ?_
  refine j_imul X dX11_showAll_44 ?_
  refine j_istore X dX11_showAll_45 (by decide) ?_
  refine j_iload X dX11_showAll_47 rfl ?_
  refine j_iconst X dX11_showAll_49 2 (by decide) ?_
  refine j_iload X dX11_showAll_50 rfl ?_
  refine j_imul X dX11_showAll_52 ?_
  refine j_iconst X dX11_showAll_53 2 (by decide) ?_
  refine j_iadd X dX11_showAll_54 ?_
  refine j_icmp_ge X 106 dX11_showAll_55 (by decide) (fun c_55 => absurd c_55 (by decide)) (fun c_55 => ?_)
  refine j_aload_n X dX11_showAll_58 rfl ?_
  refine j_getR X 11 12 (by decide) (by decide) rfl u962 (o66 np) (k66 np) _ (p66_12 np) dX11_showAll_59 ?_
  refine j_iload_n X dX11_showAll_62 rfl ?_
  refine j_iload_n X dX11_showAll_63 rfl ?_
  refine j_iload X dX11_showAll_64 rfl ?_
  refine j_ishr X dX11_showAll_66 ?_
  refine j_iconst X dX11_showAll_67 1 (by decide) ?_
  refine j_iand X dX11_showAll_68 ?_
  refine j_iconst X dX11_showAll_69 1 (by decide) ?_
  refine j_icmp_ne X 83 dX11_showAll_70 (by decide) (fun c_70 => absurd c_70 (by decide)) (fun c_70 => ?_)
  refine j_aload_n X dX11_showAll_73 rfl ?_
  refine j_iload_n X dX11_showAll_74 rfl ?_
  refine j_iload X dX11_showAll_75 rfl ?_
  refine s_callVi X hR (m_field0 np _ _ hp) rfl 11 (by decide) (o66 np) (k66 np) rfl u1160 u1157 u1159 qp41 u12 hyX11_field (by decide) (by decide) (Nat.le_of_ble_eq_true rfl) dX11_showAll_77 (fun v_77 m_77 h_77 => ?_)
  obtain ⟨e1, e2⟩ := h_77; have e1 := e1.symm; have e2 := e2.symm; subst e1; subst e2
  refine j_goto X 96 dX11_showAll_80 (by decide) ?_
  refine j_nrm2 _ (by first | (simp only [fa_lit, pk_mul, nI_add]; done) | (simp only [fa_lit, pk_mul, nI_add]; rfl) | rfl) ?_
  refine j_iastN X (o76 np) (k76 np) (by rw [l76]; omega) (by rw [l76]; decide) dX11_showAll_96 ?_
  refine j_iinc X dX11_showAll_97 rfl 1 rfl ?_
  refine j_iinc X dX11_showAll_100 rfl 1 rfl ?_
  refine j_goto X 47 dX11_showAll_103 (by decide) ?_
  refine j_iload X dX11_showAll_47 rfl ?_
  refine j_iconst X dX11_showAll_49 2 (by decide) ?_
  refine j_iload X dX11_showAll_50 rfl ?_
  refine j_imul X dX11_showAll_52 ?_
  refine j_iconst X dX11_showAll_53 2 (by decide) ?_
  refine j_iadd X dX11_showAll_54 ?_
  refine j_icmp_ge X 106 dX11_showAll_55 (by decide) (fun c_55 => absurd c_55 (by decide)) (fun c_55 => ?_)
  refine j_aload_n X dX11_showAll_58 rfl ?_
  refine j_getR X 11 12 (by decide) (by decide) rfl u962 (o66 np) (k66 np) _ (p66_12 np) dX11_showAll_59 ?_
  refine j_iload_n X dX11_showAll_62 rfl ?_
  refine j_iload_n X dX11_showAll_63 rfl ?_
  refine j_iload X dX11_showAll_64 rfl ?_
  refine j_ishr X dX11_showAll_66 ?_
  refine j_iconst X dX11_showAll_67 1 (by decide) ?_
  refine j_iand X dX11_showAll_68 ?_
  refine j_iconst X dX11_showAll_69 1 (by decide) ?_
  refine j_icmp_ne X 83 dX11_showAll_70 (by decide) (fun c_70 => ?_) (fun c_70 => absurd c_70 (by decide))
  refine j_iload_n X dX11_showAll_83 rfl ?_
  refine j_iload X dX11_showAll_84 rfl ?_
  refine j_aload_n X dX11_showAll_86 rfl ?_
  refine j_iload_n X dX11_showAll_87 rfl ?_
  refine j_iload X dX11_showAll_88 rfl ?_
  refine s_callVi X hR (m_field1 np _ _ hp) rfl 11 (by decide) (o66 np) (k66 np) rfl u1160 u1157 u1159 qp41 u12 hyX11_field (by decide) (by decide) (Nat.le_of_ble_eq_true rfl) dX11_showAll_90 (fun v_90 m_90 h_90 => ?_)
  obtain ⟨e1, e2⟩ := h_90; have e1 := e1.symm; have e2 := e2.symm; subst e1; subst e2
  refine s_callSi X hR (m_leaf np _ _ _ _) rfl u1163 u1161 u1162 u12 hyX11_leaf (by decide) (by decide) (Nat.le_of_ble_eq_true rfl) dX11_showAll_93 (fun v_93 m_93 h_93 => ?_)
  obtain ⟨e1, e2⟩ := h_93; have e1 := e1.symm; have e2 := e2.symm; subst e1; subst e2
  refine j_nrm2 _ (by first | (simp only [fa_lit, pk_mul, nI_add]; done) | (simp only [fa_lit, pk_mul, nI_add]; rfl) | rfl) ?_
  refine j_iastN X (o76 np) (k76 np) (by rw [l76]; omega) (by rw [l76]; decide) dX11_showAll_96 ?_
  refine j_iinc X dX11_showAll_97 rfl 1 rfl ?_
  refine j_iinc X dX11_showAll_100 rfl 1 rfl ?_
  refine j_goto X 47 dX11_showAll_103 (by decide) ?_
  refine j_iload X dX11_showAll_47 rfl ?_
  refine j_iconst X dX11_showAll_49 2 (by decide) ?_
  refine j_iload X dX11_showAll_50 rfl ?_
  refine j_imul X dX11_showAll_52 ?_
  refine j_iconst X dX11_showAll_53 2 (by decide) ?_
  refine j_iadd X dX11_showAll_54 ?_
  refine j_icmp_ge X 106 dX11_showAll_55 (by decide) (fun c_55 => ?_) (fun c_55 => absurd c_55 (by decide))
  refine j_iinc X dX11_showAll_106 rfl 1 rfl ?_
  refine j_goto X 5 dX11_showAll_109 (by decide) ?_
  refine j_iload X dX11_showAll_5 rfl ?_
  refine j_iconst X dX11_showAll_7 2 (by decide) ?_
  refine j_icmp_ge X 112 dX11_showAll_8 (by decide) (fun c_8 => absurd c_8 (by decide)) (fun c_8 => ?_)
  refine j_iload_n X dX11_showAll_11 rfl ?_
  refine j_iconst X dX11_showAll_12 2 (by decide) ?_
  refine j_iload X dX11_showAll_13 rfl ?_
  refine j_imul X dX11_showAll_15 ?_
  refine j_ishr X dX11_showAll_16 ?_
  refine j_iconst X dX11_showAll_17 3 (by decide) ?_
  refine j_iand X dX11_showAll_18 ?_
  refine j_if_ne X 41 dX11_showAll_19 (by decide) (fun c_19 => ?_) (fun c_19 => absurd c_19 (by decide))
  refine j_iconst X dX11_showAll_41 2 (by decide) ?_
  refine j_iload X dX11_showAll_42 rfl ?_
  refine j_imul X dX11_showAll_44 ?_
  refine j_istore X dX11_showAll_45 (by decide) ?_
  refine j_iload X dX11_showAll_47 rfl ?_
  refine j_iconst X dX11_showAll_49 2 (by decide) ?_
  refine j_iload X dX11_showAll_50 rfl ?_
  refine j_imul X dX11_showAll_52 ?_
  refine j_iconst X dX11_showAll_53 2 (by decide) ?_
  refine j_iadd X dX11_showAll_54 ?_
  refine j_icmp_ge X 106 dX11_showAll_55 (by decide) (fun c_55 => absurd c_55 (by decide)) (fun c_55 => ?_)
  refine j_aload_n X dX11_showAll_58 rfl ?_
  refine j_getR X 11 12 (by decide) (by decide) rfl u962 (o66 np) (k66 np) _ (p66_12 np) dX11_showAll_59 ?_
  refine j_iload_n X dX11_showAll_62 rfl ?_
  refine j_iload_n X dX11_showAll_63 rfl ?_
  refine j_iload X dX11_showAll_64 rfl ?_
  refine j_ishr X dX11_showAll_66 ?_
  refine j_iconst X dX11_showAll_67 1 (by decide) ?_
  refine j_iand X dX11_showAll_68 ?_
  refine j_iconst X dX11_showAll_69 1 (by decide) ?_
  refine j_icmp_ne X 83 dX11_showAll_70 (by decide) (fun c_70 => absurd c_70 (by decide)) (fun c_70 => ?_)
  refine j_aload_n X dX11_showAll_73 rfl ?_
  refine j_iload_n X dX11_showAll_74 rfl ?_
  refine j_iload X dX11_showAll_75 rfl ?_
  refine s_callVi X hR (m_field2 np _ _ hp) rfl 11 (by decide) (o66 np) (k66 np) rfl u1160 u1157 u1159 qp41 u12 hyX11_field (by decide) (by decide) (Nat.le_of_ble_eq_true rfl) dX11_showAll_77 (fun v_77 m_77 h_77 => ?_)
  obtain ⟨e1, e2⟩ := h_77; have e1 := e1.symm; have e2 := e2.symm; subst e1; subst e2
  refine j_goto X 96 dX11_showAll_80 (by decide) ?_
  refine j_nrm2 _ (by first | (simp only [fa_lit, pk_mul, nI_add]; done) | (simp only [fa_lit, pk_mul, nI_add]; rfl) | rfl) ?_
  refine j_iastN X (o76 np) (k76 np) (by rw [l76]; omega) (by rw [l76]; decide) dX11_showAll_96 ?_
  refine j_iinc X dX11_showAll_97 rfl 1 rfl ?_
  refine j_iinc X dX11_showAll_100 rfl 1 rfl ?_
  refine j_goto X 47 dX11_showAll_103 (by decide) ?_
  refine j_iload X dX11_showAll_47 rfl ?_
  refine j_iconst X dX11_showAll_49 2 (by decide) ?_
  refine j_iload X dX11_showAll_50 rfl ?_
  refine j_imul X dX11_showAll_52 ?_
  refine j_iconst X dX11_showAll_53 2 (by decide) ?_
  refine j_iadd X dX11_showAll_54 ?_
  refine j_icmp_ge X 106 dX11_showAll_55 (by decide) (fun c_55 => absurd c_55 (by decide)) (fun c_55 => ?_)
  refine j_aload_n X dX11_showAll_58 rfl ?_
  refine j_getR X 11 12 (by decide) (by decide) rfl u962 (o66 np) (k66 np) _ (p66_12 np) dX11_showAll_59 ?_
  refine j_iload_n X dX11_showAll_62 rfl ?_
  refine j_iload_n X dX11_showAll_63 rfl ?_
  refine j_iload X dX11_showAll_64 rfl ?_
  refine j_ishr X dX11_showAll_66 ?_
  refine j_iconst X dX11_showAll_67 1 (by decide) ?_
  refine j_iand X dX11_showAll_68 ?_
  refine j_iconst X dX11_showAll_69 1 (by decide) ?_
  refine j_icmp_ne X 83 dX11_showAll_70 (by decide) (fun c_70 => absurd c_70 (by decide)) (fun c_70 => ?_)
  refine j_aload_n X dX11_showAll_73 rfl ?_
  refine j_iload_n X dX11_showAll_74 rfl ?_
  refine j_iload X dX11_showAll_75 rfl ?_
  refine s_callVi X hR (m_field3 np _ _ hp) rfl 11 (by decide) (o66 np) (k66 np) rfl u1160 u1157 u1159 qp41 u12 hyX11_field (by decide) (by decide) (Nat.le_of_ble_eq_true rfl) dX11_showAll_77 (fun v_77 m_77 h_77 => ?_)
  obtain ⟨e1, e2⟩ := h_77; have e1 := e1.symm; have e2 := e2.symm; subst e1; subst e2
  refine j_goto X 96 dX11_showAll_80 (by decide) ?_
  refine j_nrm2 _ (by first | (simp only [fa_lit, pk_mul, nI_add]; done) | (simp only [fa_lit, pk_mul, nI_add]; rfl) | rfl) ?_
  refine j_iastN X (o76 np) (k76 np) (by rw [l76]; omega) (by rw [l76]; decide) dX11_showAll_96 ?_
  refine j_iinc X dX11_showAll_97 rfl 1 rfl ?_
  refine j_iinc X dX11_showAll_100 rfl 1 rfl ?_
  refine j_goto X 47 dX11_showAll_103 (by decide) ?_
  refine j_iload X dX11_showAll_47 rfl ?_
  refine j_iconst X dX11_showAll_49 2 (by decide) ?_
  refine j_iload X dX11_showAll_50 rfl ?_
  refine j_imul X dX11_showAll_52 ?_
  refine j_iconst X dX11_showAll_53 2 (by decide) ?_
  refine j_iadd X dX11_showAll_54 ?_
  refine j_icmp_ge X 106 dX11_showAll_55 (by decide) (fun c_55 => ?_) (fun c_55 => absurd c_55 (by decide))
  refine j_iinc X dX11_showAll_106 rfl 1 rfl ?_
  refine j_goto X 5 dX11_showAll_109 (by decide) ?_
  refine j_iload X dX11_showAll_5 rfl ?_
  refine j_iconst X dX11_showAll_7 2 (by decide) ?_
  refine j_icmp_ge X 112 dX11_showAll_8 (by decide) (fun c_8 => ?_) (fun c_8 => absurd c_8 (by decide))
  refine j_iload_n X dX11_showAll_112 rfl ?_
  refine s_iret X hE hr dX11_showAll_113 rfl ?_
  exact ⟨by decide, rfl⟩
set_option maxRecDepth 4000 in
set_option maxHeartbeats 1000000 in
theorem m_showAll14 (np : Nat) (mem : jMem) (p : Nat) (hp : p < 12) : jPi yX11_showAll cX11_showAll 6 .int 3 [.ref 66, .int (nI p), .int 14] np mem (fun v c => v = 4 ∧ c = jup (jup (jup (jup (mem) 76 0 (jLeaf (nI p) 0 (mem 74 (9 * p + 5)))) 76 1 (mem 74 (9 * p + 6))) 76 2 (mem 74 (9 * p + 7))) 76 3 (mem 74 (9 * p + 8))) := by
  refine jPi.of (own := RX11) rfl rfl (Nat.le_of_ble_eq_true rfl) (fun G X hR hr hE => ?_)
  refine j_iconst X dX11_showAll_0 0 (by decide) ?_
  refine j_istore_n X dX11_showAll_1 (by decide) ?_
  refine j_iconst X dX11_showAll_2 0 (by decide) ?_
  refine j_istore X dX11_showAll_3 (by decide) ?_
  refine j_iload X dX11_showAll_5 rfl ?_
  refine j_iconst X dX11_showAll_7 2 (by decide) ?_
  refine j_icmp_ge X 112 dX11_showAll_8 (by decide) (fun c_8 => absurd c_8 (by decide)) (fun c_8 => ?_)
  refine j_iload_n X dX11_showAll_11 rfl ?_
  refine j_iconst X dX11_showAll_12 2 (by decide) ?_
  refine j_iload X dX11_showAll_13 rfl ?_
  refine j_imul X dX11_showAll_15 ?_
  refine j_ishr X dX11_showAll_16 ?_
  refine j_iconst X dX11_showAll_17 3 (by decide) ?_
  refine j_iand X dX11_showAll_18 ?_
  refine j_if_ne X 41 dX11_showAll_19 (by decide) (fun c_19 => ?_) (fun c_19 => absurd c_19 (by decide))
  refine j_iconst X dX11_showAll_41 2 (by decide) ?_
  refine j_iload X dX11_showAll_42 rfl ?_
  refine j_imul X dX11_showAll_44 ?_
  refine j_istore X dX11_showAll_45 (by decide) ?_
  refine j_iload X dX11_showAll_47 rfl ?_
  refine j_iconst X dX11_showAll_49 2 (by decide) ?_
  refine j_iload X dX11_showAll_50 rfl ?_
  refine j_imul X dX11_showAll_52 ?_
  refine j_iconst X dX11_showAll_53 2 (by decide) ?_
  refine j_iadd X dX11_showAll_54 ?_
  refine j_icmp_ge X 106 dX11_showAll_55 (by decide) (fun c_55 => absurd c_55 (by decide)) (fun c_55 => ?_)
  refine j_aload_n X dX11_showAll_58 rfl ?_
  refine j_getR X 11 12 (by decide) (by decide) rfl u962 (o66 np) (k66 np) _ (p66_12 np) dX11_showAll_59 ?_
  refine j_iload_n X dX11_showAll_62 rfl ?_
  refine j_iload_n X dX11_showAll_63 rfl ?_
  refine j_iload X dX11_showAll_64 rfl ?_
  refine j_ishr X dX11_showAll_66 ?_
  refine j_iconst X dX11_showAll_67 1 (by decide) ?_
  refine j_iand X dX11_showAll_68 ?_
  refine j_iconst X dX11_showAll_69 1 (by decide) ?_
  refine j_icmp_ne X 83 dX11_showAll_70 (by decide) (fun c_70 => ?_) (fun c_70 => absurd c_70 (by decide))
  refine j_iload_n X dX11_showAll_83 rfl ?_
  refine j_iload X dX11_showAll_84 rfl ?_
  refine j_aload_n X dX11_showAll_86 rfl ?_
  refine j_iload_n X dX11_showAll_87 rfl ?_
  refine j_iload X dX11_showAll_88 rfl ?_
  refine s_callVi X hR (m_field0 np _ _ hp) rfl 11 (by decide) (o66 np) (k66 np) rfl u1160 u1157 u1159 qp41 u12 hyX11_field (by decide) (by decide) (Nat.le_of_ble_eq_true rfl) dX11_showAll_90 (fun v_90 m_90 h_90 => ?_)
  obtain ⟨e1, e2⟩ := h_90; have e1 := e1.symm; have e2 := e2.symm; subst e1; subst e2
  refine s_callSi X hR (m_leaf np _ _ _ _) rfl u1163 u1161 u1162 u12 hyX11_leaf (by decide) (by decide) (Nat.le_of_ble_eq_true rfl) dX11_showAll_93 (fun v_93 m_93 h_93 => ?_)
  obtain ⟨e1, e2⟩ := h_93; have e1 := e1.symm; have e2 := e2.symm; subst e1; subst e2
  refine j_nrm2 _ (by first | (simp only [fa_lit, pk_mul, nI_add]; done) | (simp only [fa_lit, pk_mul, nI_add]; rfl) | rfl) ?_
  refine j_iastN X (o76 np) (k76 np) (by rw [l76]; omega) (by rw [l76]; decide) dX11_showAll_96 ?_
  refine j_iinc X dX11_showAll_97 rfl 1 rfl ?_
  refine j_iinc X dX11_showAll_100 rfl 1 rfl ?_
  refine j_goto X 47 dX11_showAll_103 (by decide) ?_
  refine j_iload X dX11_showAll_47 rfl ?_
  refine j_iconst X dX11_showAll_49 2 (by decide) ?_
  refine j_iload X dX11_showAll_50 rfl ?_
  refine j_imul X dX11_showAll_52 ?_
  refine j_iconst X dX11_showAll_53 2 (by decide) ?_
  refine j_iadd X dX11_showAll_54 ?_
  refine j_icmp_ge X 106 dX11_showAll_55 (by decide) (fun c_55 => absurd c_55 (by decide)) (fun c_55 => ?_)
  refine j_aload_n X dX11_showAll_58 rfl ?_
  refine j_getR X 11 12 (by decide) (by decide) rfl u962 (o66 np) (k66 np) _ (p66_12 np) dX11_showAll_59 ?_
  refine j_iload_n X dX11_showAll_62 rfl ?_
  refine j_iload_n X dX11_showAll_63 rfl ?_
  refine j_iload X dX11_showAll_64 rfl ?_
  refine j_ishr X dX11_showAll_66 ?_
  refine j_iconst X dX11_showAll_67 1 (by decide) ?_
  refine j_iand X dX11_showAll_68 ?_
  refine j_iconst X dX11_showAll_69 1 (by decide) ?_
  refine j_icmp_ne X 83 dX11_showAll_70 (by decide) (fun c_70 => absurd c_70 (by decide)) (fun c_70 => ?_)
  refine j_aload_n X dX11_showAll_73 rfl ?_
  refine j_iload_n X dX11_showAll_74 rfl ?_
  refine j_iload X dX11_showAll_75 rfl ?_
  refine s_callVi X hR (m_field1 np _ _ hp) rfl 11 (by decide) (o66 np) (k66 np) rfl u1160 u1157 u1159 qp41 u12 hyX11_field (by decide) (by decide) (Nat.le_of_ble_eq_true rfl) dX11_showAll_77 (fun v_77 m_77 h_77 => ?_)
  obtain ⟨e1, e2⟩ := h_77; have e1 := e1.symm; have e2 := e2.symm; subst e1; subst e2
  refine j_goto X 96 dX11_showAll_80 (by decide) ?_
  refine j_nrm2 _ (by first | (simp only [fa_lit, pk_mul, nI_add]; done) | (simp only [fa_lit, pk_mul, nI_add]; rfl) | rfl) ?_
  refine j_iastN X (o76 np) (k76 np) (by rw [l76]; omega) (by rw [l76]; decide) dX11_showAll_96 ?_
  refine j_iinc X dX11_showAll_97 rfl 1 rfl ?_
  refine j_iinc X dX11_showAll_100 rfl 1 rfl ?_
  refine j_goto X 47 dX11_showAll_103 (by decide) ?_
  refine j_iload X dX11_showAll_47 rfl ?_
  refine j_iconst X dX11_showAll_49 2 (by decide) ?_
  refine j_iload X dX11_showAll_50 rfl ?_
  refine j_imul X dX11_showAll_52 ?_
  refine j_iconst X dX11_showAll_53 2 (by decide) ?_
  refine j_iadd X dX11_showAll_54 ?_
  refine j_icmp_ge X 106 dX11_showAll_55 (by decide) (fun c_55 => ?_) (fun c_55 => absurd c_55 (by decide))
  refine j_iinc X dX11_showAll_106 rfl 1 rfl ?_
  refine j_goto X 5 dX11_showAll_109 (by decide) ?_
  refine j_iload X dX11_showAll_5 rfl ?_
  refine j_iconst X dX11_showAll_7 2 (by decide) ?_
  refine j_icmp_ge X 112 dX11_showAll_8 (by decide) (fun c_8 => absurd c_8 (by decide)) (fun c_8 => ?_)
  refine j_iload_n X dX11_showAll_11 rfl ?_
  refine j_iconst X dX11_showAll_12 2 (by decide) ?_
  refine j_iload X dX11_showAll_13 rfl ?_
  refine j_imul X dX11_showAll_15 ?_
  refine j_ishr X dX11_showAll_16 ?_
  refine j_iconst X dX11_showAll_17 3 (by decide) ?_
  refine j_iand X dX11_showAll_18 ?_
  refine j_if_ne X 41 dX11_showAll_19 (by decide) (fun c_19 => ?_) (fun c_19 => absurd c_19 (by decide))
  refine j_iconst X dX11_showAll_41 2 (by decide) ?_
  refine j_iload X dX11_showAll_42 rfl ?_
  refine j_imul X dX11_showAll_44 ?_
  refine j_istore X dX11_showAll_45 (by decide) ?_
  refine j_iload X dX11_showAll_47 rfl ?_
  refine j_iconst X dX11_showAll_49 2 (by decide) ?_
  refine j_iload X dX11_showAll_50 rfl ?_
  refine j_imul X dX11_showAll_52 ?_
  refine j_iconst X dX11_showAll_53 2 (by decide) ?_
  refine j_iadd X dX11_showAll_54 ?_
  refine j_icmp_ge X 106 dX11_showAll_55 (by decide) (fun c_55 => absurd c_55 (by decide)) (fun c_55 => ?_)
  refine j_aload_n X dX11_showAll_58 rfl ?_
  refine j_getR X 11 12 (by decide) (by decide) rfl u962 (o66 np) (k66 np) _ (p66_12 np) dX11_showAll_59 ?_
  refine j_iload_n X dX11_showAll_62 rfl ?_
  refine j_iload_n X dX11_showAll_63 rfl ?_
  refine j_iload X dX11_showAll_64 rfl ?_
  refine j_ishr X dX11_showAll_66 ?_
  refine j_iconst X dX11_showAll_67 1 (by decide) ?_
  refine j_iand X dX11_showAll_68 ?_
  refine j_iconst X dX11_showAll_69 1 (by decide) ?_
  refine j_icmp_ne X 83 dX11_showAll_70 (by decide) (fun c_70 => absurd c_70 (by decide)) (fun c_70 => ?_)
  refine j_aload_n X dX11_showAll_73 rfl ?_
  refine j_iload_n X dX11_showAll_74 rfl ?_
  refine j_iload X dX11_showAll_75 rfl ?_
  refine s_callVi X hR (m_field2 np _ _ hp) rfl 11 (by decide) (o66 np) (k66 np) rfl u1160 u1157 u1159 qp41 u12 hyX11_field (by decide) (by decide) (Nat.le_of_ble_eq_true rfl) dX11_showAll_77 (fun v_77 m_77 h_77 => ?_)
  obtain ⟨e1, e2⟩ := h_77; have e1 := e1.symm; have e2 := e2.symm; subst e1; subst e2
  refine j_goto X 96 dX11_showAll_80 (by decide) ?_
  refine j_nrm2 _ (by first | (simp only [fa_lit, pk_mul, nI_add]; done) | (simp only [fa_lit, pk_mul, nI_add]; rfl) | rfl) ?_
  refine j_iastN X (o76 np) (k76 np) (by rw [l76]; omega) (by rw [l76]; decide) dX11_showAll_96 ?_
  refine j_iinc X dX11_showAll_97 rfl 1 rfl ?_
  refine j_iinc X dX11_showAll_100 rfl 1 rfl ?_
  refine j_goto X 47 dX11_showAll_103 (by decide) ?_
  refine j_iload X dX11_showAll_47 rfl ?_
  refine j_iconst X dX11_showAll_49 2 (by decide) ?_
  refine j_iload X dX11_showAll_50 rfl ?_
  refine j_imul X dX11_showAll_52 ?_
  refine j_iconst X dX11_showAll_53 2 (by decide) ?_
  refine j_iadd X dX11_showAll_54 ?_
  refine j_icmp_ge X 106 dX11_showAll_55 (by decide) (fun c_55 => absurd c_55 (by decide)) (fun c_55 => ?_)
  refine j_aload_n X dX11_showAll_58 rfl ?_
  refine j_getR X 11 12 (by decide) (by decide) rfl u962 (o66 np) (k66 np) _ (p66_12 np) dX11_showAll_59 ?_
  refine j_iload_n X dX11_showAll_62 rfl ?_
  refine j_iload_n X dX11_showAll_63 rfl ?_
  refine j_iload X dX11_showAll_64 rfl ?_
  refine j_ishr X dX11_showAll_66 ?_
  refine j_iconst X dX11_showAll_67 1 (by decide) ?_
  refine j_iand X dX11_showAll_68 ?_
  refine j_iconst X dX11_showAll_69 1 (by decide) ?_
  refine j_icmp_ne X 83 dX11_showAll_70 (by decide) (fun c_70 => absurd c_70 (by decide)) (fun c_70 => ?_)
  refine j_aload_n X dX11_showAll_73 rfl ?_
  refine j_iload_n X dX11_showAll_74 rfl ?_
  refine j_iload X dX11_showAll_75 rfl ?_
  refine s_callVi X hR (m_field3 np _ _ hp) rfl 11 (by decide) (o66 np) (k66 np) rfl u1160 u1157 u1159 qp41 u12 hyX11_field (by decide) (by decide) (Nat.le_of_ble_eq_true rfl) dX11_showAll_77 (fun v_77 m_77 h_77 => ?_)
  obtain ⟨e1, e2⟩ := h_77; have e1 := e1.symm; have e2 := e2.symm; subst e1; subst e2
  refine j_goto X 96 dX11_showAll_80 (by decide) ?_
  refine j_nrm2 _ (by first | (simp only [fa_lit, pk_mul, nI_add]; done) | (simp only [fa_lit, pk_mul, nI_add]; rfl) | rfl) ?_
  refine j_iastN X (o76 np) (k76 np) (by rw [l76]; omega) (by rw [l76]; decide) dX11_showAll_96 ?_
  refine j_iinc X dX11_showAll_97 rfl 1 rfl ?_
  refine j_iinc X dX11_showAll_100 rfl 1 rfl ?_
  refine j_goto X 47 dX11_showAll_103 (by decide) ?_
  refine j_iload X dX11_showAll_47 rfl ?_
  refine j_iconst X dX11_showAll_49 2 (by decide) ?_
  refine j_iload X dX11_showAll_50 rfl ?_
  refine j_imul X dX11_showAll_52 ?_
  refine j_iconst X dX11_showAll_53 2 (by decide) ?_
  refine j_iadd X dX11_showAll_54 ?_
  refine j_icmp_ge X 106 dX11_showAll_55 (by decide) (fun c_55 => ?_) (fun c_55 => absurd c_55 (by decide))
  refine j_iinc X dX11_showAll_106 rfl 1 rfl ?_
  refine j_goto X 5 dX11_showAll_109 (by decide) ?_
  refine j_iload X dX11_showAll_5 rfl ?_
  refine j_iconst X dX11_showAll_7 2 (by decide) ?_
  refine j_icmp_ge X 112 dX11_showAll_8 (by decide) (fun c_8 => ?_) (fun c_8 => absurd c_8 (by decide))
  refine j_iload_n X dX11_showAll_112 rfl ?_
  refine s_iret X hE hr dX11_showAll_113 rfl ?_
  exact ⟨by decide, rfl⟩
set_option maxRecDepth 4000 in
set_option maxHeartbeats 1000000 in
theorem m_showAll15 (np : Nat) (mem : jMem) (p : Nat) (hp : p < 12) : jPi yX11_showAll cX11_showAll 6 .int 3 [.ref 66, .int (nI p), .int 15] np mem (fun v c => v = 4 ∧ c = jup (jup (jup (jup (mem) 76 0 (mem 74 (9 * p + 5))) 76 1 (mem 74 (9 * p + 6))) 76 2 (mem 74 (9 * p + 7))) 76 3 (mem 74 (9 * p + 8))) := by
  refine jPi.of (own := RX11) rfl rfl (Nat.le_of_ble_eq_true rfl) (fun G X hR hr hE => ?_)
  refine j_iconst X dX11_showAll_0 0 (by decide) ?_
  refine j_istore_n X dX11_showAll_1 (by decide) ?_
  refine j_iconst X dX11_showAll_2 0 (by decide) ?_
  refine j_istore X dX11_showAll_3 (by decide) ?_
  refine j_iload X dX11_showAll_5 rfl ?_
  refine j_iconst X dX11_showAll_7 2 (by decide) ?_
  refine j_icmp_ge X 112 dX11_showAll_8 (by decide) (fun c_8 => absurd c_8 (by decide)) (fun c_8 => ?_)
  refine j_iload_n X dX11_showAll_11 rfl ?_
  refine j_iconst X dX11_showAll_12 2 (by decide) ?_
  refine j_iload X dX11_showAll_13 rfl ?_
  refine j_imul X dX11_showAll_15 ?_
  refine j_ishr X dX11_showAll_16 ?_
  refine j_iconst X dX11_showAll_17 3 (by decide) ?_
  refine j_iand X dX11_showAll_18 ?_
  refine j_if_ne X 41 dX11_showAll_19 (by decide) (fun c_19 => ?_) (fun c_19 => absurd c_19 (by decide))
  refine j_iconst X dX11_showAll_41 2 (by decide) ?_
  refine j_iload X dX11_showAll_42 rfl ?_
  refine j_imul X dX11_showAll_44 ?_
  refine j_istore X dX11_showAll_45 (by decide) ?_
  refine j_iload X dX11_showAll_47 rfl ?_
  refine j_iconst X dX11_showAll_49 2 (by decide) ?_
  refine j_iload X dX11_showAll_50 rfl ?_
  refine j_imul X dX11_showAll_52 ?_
  refine j_iconst X dX11_showAll_53 2 (by decide) ?_
  refine j_iadd X dX11_showAll_54 ?_
  refine j_icmp_ge X 106 dX11_showAll_55 (by decide) (fun c_55 => absurd c_55 (by decide)) (fun c_55 => ?_)
  refine j_aload_n X dX11_showAll_58 rfl ?_
  refine j_getR X 11 12 (by decide) (by decide) rfl u962 (o66 np) (k66 np) _ (p66_12 np) dX11_showAll_59 ?_
  refine j_iload_n X dX11_showAll_62 rfl ?_
  refine j_iload_n X dX11_showAll_63 rfl ?_
  refine j_iload X dX11_showAll_64 rfl ?_
  refine j_ishr X dX11_showAll_66 ?_
  refine j_iconst X dX11_showAll_67 1 (by decide) ?_
  refine j_iand X dX11_showAll_68 ?_
  refine j_iconst X dX11_showAll_69 1 (by decide) ?_
  refine j_icmp_ne X 83 dX11_showAll_70 (by decide) (fun c_70 => absurd c_70 (by decide)) (fun c_70 => ?_)
  refine j_aload_n X dX11_showAll_73 rfl ?_
  refine j_iload_n X dX11_showAll_74 rfl ?_
  refine j_iload X dX11_showAll_75 rfl ?_
  refine s_callVi X hR (m_field0 np _ _ hp) rfl 11 (by decide) (o66 np) (k66 np) rfl u1160 u1157 u1159 qp41 u12 hyX11_field (by decide) (by decide) (Nat.le_of_ble_eq_true rfl) dX11_showAll_77 (fun v_77 m_77 h_77 => ?_)
  obtain ⟨e1, e2⟩ := h_77; have e1 := e1.symm; have e2 := e2.symm; subst e1; subst e2
  refine j_goto X 96 dX11_showAll_80 (by decide) ?_
  refine j_nrm2 _ (by first | (simp only [fa_lit, pk_mul, nI_add]; done) | (simp only [fa_lit, pk_mul, nI_add]; rfl) | rfl) ?_
  refine j_iastN X (o76 np) (k76 np) (by rw [l76]; omega) (by rw [l76]; decide) dX11_showAll_96 ?_
  refine j_iinc X dX11_showAll_97 rfl 1 rfl ?_
  refine j_iinc X dX11_showAll_100 rfl 1 rfl ?_
  refine j_goto X 47 dX11_showAll_103 (by decide) ?_
  refine j_iload X dX11_showAll_47 rfl ?_
  refine j_iconst X dX11_showAll_49 2 (by decide) ?_
  refine j_iload X dX11_showAll_50 rfl ?_
  refine j_imul X dX11_showAll_52 ?_
  refine j_iconst X dX11_showAll_53 2 (by decide) ?_
  refine j_iadd X dX11_showAll_54 ?_
  refine j_icmp_ge X 106 dX11_showAll_55 (by decide) (fun c_55 => absurd c_55 (by decide)) (fun c_55 => ?_)
  refine j_aload_n X dX11_showAll_58 rfl ?_
  refine j_getR X 11 12 (by decide) (by decide) rfl u962 (o66 np) (k66 np) _ (p66_12 np) dX11_showAll_59 ?_
  refine j_iload_n X dX11_showAll_62 rfl ?_
  refine j_iload_n X dX11_showAll_63 rfl ?_
  refine j_iload X dX11_showAll_64 rfl ?_
  refine j_ishr X dX11_showAll_66 ?_
  refine j_iconst X dX11_showAll_67 1 (by decide) ?_
  refine j_iand X dX11_showAll_68 ?_
  refine j_iconst X dX11_showAll_69 1 (by decide) ?_
  refine j_icmp_ne X 83 dX11_showAll_70 (by decide) (fun c_70 => absurd c_70 (by decide)) (fun c_70 => ?_)
  refine j_aload_n X dX11_showAll_73 rfl ?_
  refine j_iload_n X dX11_showAll_74 rfl ?_
  refine j_iload X dX11_showAll_75 rfl ?_
  refine s_callVi X hR (m_field1 np _ _ hp) rfl 11 (by decide) (o66 np) (k66 np) rfl u1160 u1157 u1159 qp41 u12 hyX11_field (by decide) (by decide) (Nat.le_of_ble_eq_true rfl) dX11_showAll_77 (fun v_77 m_77 h_77 => ?_)
  obtain ⟨e1, e2⟩ := h_77; have e1 := e1.symm; have e2 := e2.symm; subst e1; subst e2
  refine j_goto X 96 dX11_showAll_80 (by decide) ?_
  refine j_nrm2 _ (by first | (simp only [fa_lit, pk_mul, nI_add]; done) | (simp only [fa_lit, pk_mul, nI_add]; rfl) | rfl) ?_
  refine j_iastN X (o76 np) (k76 np) (by rw [l76]; omega) (by rw [l76]; decide) dX11_showAll_96 ?_
  refine j_iinc X dX11_showAll_97 rfl 1 rfl ?_
  refine j_iinc X dX11_showAll_100 rfl 1 rfl ?_
  refine j_goto X 47 dX11_showAll_103 (by decide) ?_
  refine j_iload X dX11_showAll_47 rfl ?_
  refine j_iconst X dX11_showAll_49 2 (by decide) ?_
  refine j_iload X dX11_showAll_50 rfl ?_
  refine j_imul X dX11_showAll_52 ?_
  refine j_iconst X dX11_showAll_53 2 (by decide) ?_
  refine j_iadd X dX11_showAll_54 ?_
  refine j_icmp_ge X 106 dX11_showAll_55 (by decide) (fun c_55 => ?_) (fun c_55 => absurd c_55 (by decide))
  refine j_iinc X dX11_showAll_106 rfl 1 rfl ?_
  refine j_goto X 5 dX11_showAll_109 (by decide) ?_
  refine j_iload X dX11_showAll_5 rfl ?_
  refine j_iconst X dX11_showAll_7 2 (by decide) ?_
  refine j_icmp_ge X 112 dX11_showAll_8 (by decide) (fun c_8 => absurd c_8 (by decide)) (fun c_8 => ?_)
  refine j_iload_n X dX11_showAll_11 rfl ?_
  refine j_iconst X dX11_showAll_12 2 (by decide) ?_
  refine j_iload X dX11_showAll_13 rfl ?_
  refine j_imul X dX11_showAll_15 ?_
  refine j_ishr X dX11_showAll_16 ?_
  refine j_iconst X dX11_showAll_17 3 (by decide) ?_
  refine j_iand X dX11_showAll_18 ?_
  refine j_if_ne X 41 dX11_showAll_19 (by decide) (fun c_19 => ?_) (fun c_19 => absurd c_19 (by decide))
  refine j_iconst X dX11_showAll_41 2 (by decide) ?_
  refine j_iload X dX11_showAll_42 rfl ?_
  refine j_imul X dX11_showAll_44 ?_
  refine j_istore X dX11_showAll_45 (by decide) ?_
  refine j_iload X dX11_showAll_47 rfl ?_
  refine j_iconst X dX11_showAll_49 2 (by decide) ?_
  refine j_iload X dX11_showAll_50 rfl ?_
  refine j_imul X dX11_showAll_52 ?_
  refine j_iconst X dX11_showAll_53 2 (by decide) ?_
  refine j_iadd X dX11_showAll_54 ?_
  refine j_icmp_ge X 106 dX11_showAll_55 (by decide) (fun c_55 => absurd c_55 (by decide)) (fun c_55 => ?_)
  refine j_aload_n X dX11_showAll_58 rfl ?_
  refine j_getR X 11 12 (by decide) (by decide) rfl u962 (o66 np) (k66 np) _ (p66_12 np) dX11_showAll_59 ?_
  refine j_iload_n X dX11_showAll_62 rfl ?_
  refine j_iload_n X dX11_showAll_63 rfl ?_
  refine j_iload X dX11_showAll_64 rfl ?_
  refine j_ishr X dX11_showAll_66 ?_
  refine j_iconst X dX11_showAll_67 1 (by decide) ?_
  refine j_iand X dX11_showAll_68 ?_
  refine j_iconst X dX11_showAll_69 1 (by decide) ?_
  refine j_icmp_ne X 83 dX11_showAll_70 (by decide) (fun c_70 => absurd c_70 (by decide)) (fun c_70 => ?_)
  refine j_aload_n X dX11_showAll_73 rfl ?_
  refine j_iload_n X dX11_showAll_74 rfl ?_
  refine j_iload X dX11_showAll_75 rfl ?_
  refine s_callVi X hR (m_field2 np _ _ hp) rfl 11 (by decide) (o66 np) (k66 np) rfl u1160 u1157 u1159 qp41 u12 hyX11_field (by decide) (by decide) (Nat.le_of_ble_eq_true rfl) dX11_showAll_77 (fun v_77 m_77 h_77 => ?_)
  obtain ⟨e1, e2⟩ := h_77; have e1 := e1.symm; have e2 := e2.symm; subst e1; subst e2
  refine j_goto X 96 dX11_showAll_80 (by decide) ?_
  refine j_nrm2 _ (by first | (simp only [fa_lit, pk_mul, nI_add]; done) | (simp only [fa_lit, pk_mul, nI_add]; rfl) | rfl) ?_
  refine j_iastN X (o76 np) (k76 np) (by rw [l76]; omega) (by rw [l76]; decide) dX11_showAll_96 ?_
  refine j_iinc X dX11_showAll_97 rfl 1 rfl ?_
  refine j_iinc X dX11_showAll_100 rfl 1 rfl ?_
  refine j_goto X 47 dX11_showAll_103 (by decide) ?_
  refine j_iload X dX11_showAll_47 rfl ?_
  refine j_iconst X dX11_showAll_49 2 (by decide) ?_
  refine j_iload X dX11_showAll_50 rfl ?_
  refine j_imul X dX11_showAll_52 ?_
  refine j_iconst X dX11_showAll_53 2 (by decide) ?_
  refine j_iadd X dX11_showAll_54 ?_
  refine j_icmp_ge X 106 dX11_showAll_55 (by decide) (fun c_55 => absurd c_55 (by decide)) (fun c_55 => ?_)
  refine j_aload_n X dX11_showAll_58 rfl ?_
  refine j_getR X 11 12 (by decide) (by decide) rfl u962 (o66 np) (k66 np) _ (p66_12 np) dX11_showAll_59 ?_
  refine j_iload_n X dX11_showAll_62 rfl ?_
  refine j_iload_n X dX11_showAll_63 rfl ?_
  refine j_iload X dX11_showAll_64 rfl ?_
  refine j_ishr X dX11_showAll_66 ?_
  refine j_iconst X dX11_showAll_67 1 (by decide) ?_
  refine j_iand X dX11_showAll_68 ?_
  refine j_iconst X dX11_showAll_69 1 (by decide) ?_
  refine j_icmp_ne X 83 dX11_showAll_70 (by decide) (fun c_70 => absurd c_70 (by decide)) (fun c_70 => ?_)
  refine j_aload_n X dX11_showAll_73 rfl ?_
  refine j_iload_n X dX11_showAll_74 rfl ?_
  refine j_iload X dX11_showAll_75 rfl ?_
  refine s_callVi X hR (m_field3 np _ _ hp) rfl 11 (by decide) (o66 np) (k66 np) rfl u1160 u1157 u1159 qp41 u12 hyX11_field (by decide) (by decide) (Nat.le_of_ble_eq_true rfl) dX11_showAll_77 (fun v_77 m_77 h_77 => ?_)
  obtain ⟨e1, e2⟩ := h_77; have e1 := e1.symm; have e2 := e2.symm; subst e1; subst e2
  refine j_goto X 96 dX11_showAll_80 (by decide) ?_
  refine j_nrm2 _ (by first | (simp only [fa_lit, pk_mul, nI_add]; done) | (simp only [fa_lit, pk_mul, nI_add]; rfl) | rfl) ?_
  refine j_iastN X (o76 np) (k76 np) (by rw [l76]; omega) (by rw [l76]; decide) dX11_showAll_96 ?_
  refine j_iinc X dX11_showAll_97 rfl 1 rfl ?_
  refine j_iinc X dX11_showAll_100 rfl 1 rfl ?_
  refine j_goto X 47 dX11_showAll_103 (by decide) ?_
  refine j_iload X dX11_showAll_47 rfl ?_
  refine j_iconst X dX11_showAll_49 2 (by decide) ?_
  refine j_iload X dX11_showAll_50 rfl ?_
  refine j_imul X dX11_showAll_52 ?_
  refine j_iconst X dX11_showAll_53 2 (by decide) ?_
  refine j_iadd X dX11_showAll_54 ?_
  refine j_icmp_ge X 106 dX11_showAll_55 (by decide) (fun c_55 => ?_) (fun c_55 => absurd c_55 (by decide))
  refine j_iinc X dX11_showAll_106 rfl 1 rfl ?_
  refine j_goto X 5 dX11_showAll_109 (by decide) ?_
  refine j_iload X dX11_showAll_5 rfl ?_
  refine j_iconst X dX11_showAll_7 2 (by decide) ?_
  refine j_icmp_ge X 112 dX11_showAll_8 (by decide) (fun c_8 => ?_) (fun c_8 => absurd c_8 (by decide))
  refine j_iload_n X dX11_showAll_112 rfl ?_
  refine s_iret X hE hr dX11_showAll_113 rfl ?_
  exact ⟨by decide, rfl⟩
set_option maxRecDepth 4000 in
set_option maxHeartbeats 1000000 in
theorem m_show_bad (np : Nat) (mem : jMem) (p s i : Int32) (hn : np ≤ 12) (hp : mem 66 9 = nI np) (h : ¬ (jin p 0 ((np : Int) - 1) ∧ jin s 0 15 ∧ -1 ≤ i.toInt)) : jPi yX11_show cX11_show 5 .int 4 [.ref 66, .int p, .int s, .int i] np mem (fun v c => v = -1000001 ∧ c = jup mem 66 0 0) := by
  refine jPi.of (own := RX11) rfl rfl (Nat.le_of_ble_eq_true rfl) (fun G X hR hr hE => ?_)
  refine j_aload_n X dX11_show_0 rfl ?_
  refine j_iconst X dX11_show_1 0 (by decide) ?_
  refine j_putI X 11 0 (by decide) (by decide) rfl rfl rfl rfl u950 (o66 np) (k66 np) dX11_show_2 ?_
  refine j_aload_n X dX11_show_5 rfl ?_
  refine j_iload_n X dX11_show_6 rfl ?_
  refine s_callVi X hR (m_isPaper np _ _ hn hp) rfl 11 (by decide) (o66 np) (k66 np) rfl u1151 u1148 u1150 qp39 u12 hyX11_isPaper (by decide) (by decide) (Nat.le_of_ble_eq_true rfl) dX11_show_7 (fun v_7 m_7 h_7 => ?_)
  obtain ⟨e1, e2⟩ := h_7; have e1 := e1.symm; have e2 := e2.symm; subst e1; subst e2
  refine j_ifb_eq X 30 dX11_show_10 (by decide) (fun c_10 => ?_) (fun c_10 => ?_)
  · refine j_ldc X dX11_show_30 u1089 ?_
    refine s_iret X hE hr dX11_show_32 rfl ?_
    first | exact ⟨rfl, rfl⟩ | (exfalso; clear hE hr hR X; (try simp only [lg_cmp_lt, lg_cmp_gt, lg_cmp_le, lg_cmp_ge] at *); (try simp (disch := omega) only [Int64.le_iff_toInt_le, Int64.lt_iff_toInt_lt, Int32.le_iff_toInt_le, Int32.lt_iff_toInt_lt, fa_eq, fa_lit, fa_litL, nI_toInt, pk_lT, Int32.toInt_toInt64, jadd64, jin, jnoneT] at *); omega)
  · refine j_iload_n X dX11_show_13 rfl ?_
    refine j_i2l X dX11_show_14 ?_
    refine j_lconst X dX11_show_15 0 (by decide) ?_
    refine j_ldc2 X dX11_show_16 u1152 ?_
    refine s_callSi X hR (m_inI np _ _ _ _ 0 15 rfl rfl) rfl u1087 u1085 u1086 u12 hyX11_in (by decide) (by decide) (Nat.le_of_ble_eq_true rfl) dX11_show_19 (fun v_19 m_19 h_19 => ?_)
    obtain ⟨e1, e2⟩ := h_19; have e1 := e1.symm; have e2 := e2.symm; subst e1; subst e2
    refine j_ifb_eq X 30 dX11_show_22 (by decide) (fun c_22 => ?_) (fun c_22 => ?_)
    · refine j_ldc X dX11_show_30 u1089 ?_
      refine s_iret X hE hr dX11_show_32 rfl ?_
      first | exact ⟨rfl, rfl⟩ | (exfalso; clear hE hr hR X; (try simp only [lg_cmp_lt, lg_cmp_gt, lg_cmp_le, lg_cmp_ge] at *); (try simp (disch := omega) only [Int64.le_iff_toInt_le, Int64.lt_iff_toInt_lt, Int32.le_iff_toInt_le, Int32.lt_iff_toInt_lt, fa_eq, fa_lit, fa_litL, nI_toInt, pk_lT, Int32.toInt_toInt64, jadd64, jin, jnoneT] at *); omega)
    · refine j_iload_n X dX11_show_25 rfl ?_
      refine j_iconst X dX11_show_26 (-1) (by decide) ?_
      refine j_icmp_ge X 33 dX11_show_27 (by decide) (fun c_27 => ?_) (fun c_27 => ?_)
      · exfalso
        clear hE hr hR X
        have e1 : (-1 : Int32).toInt = -1 := by decide
        (try simp only [lg_cmp_lt, lg_cmp_gt, lg_cmp_le, lg_cmp_ge] at *); (try simp (disch := omega) only [Int64.le_iff_toInt_le, Int64.lt_iff_toInt_lt, Int32.le_iff_toInt_le, Int32.lt_iff_toInt_lt, fa_eq, fa_lit, fa_litL, nI_toInt, pk_lT, Int32.toInt_toInt64, jadd64, jin, jnoneT] at *); omega
      · refine j_ldc X dX11_show_30 u1089 ?_
        refine s_iret X hE hr dX11_show_32 rfl ?_
        first | exact ⟨rfl, rfl⟩ | (exfalso; clear hE hr hR X; (try simp only [lg_cmp_lt, lg_cmp_gt, lg_cmp_le, lg_cmp_ge] at *); (try simp (disch := omega) only [Int64.le_iff_toInt_le, Int64.lt_iff_toInt_lt, Int32.le_iff_toInt_le, Int32.lt_iff_toInt_lt, fa_eq, fa_lit, fa_litL, nI_toInt, pk_lT, Int32.toInt_toInt64, jadd64, jin, jnoneT] at *); omega)
set_option maxRecDepth 4000 in
set_option maxHeartbeats 1000000 in
theorem m_show0_n (np : Nat) (mem : jMem) (p : Nat) (hn : np ≤ 12) (hp : mem 66 9 = nI np) (hp2 : p < np) : jPi yX11_show cX11_show 5 .int 4 [.ref 66, .int (nI p), .int 0, .int (-1)] np mem (fun v c => v = 2 ∧ jeq [76] (jup mem 66 0 0) c) := by
  refine jPi.of (own := RX11) rfl rfl (Nat.le_of_ble_eq_true rfl) (fun G X hR hr hE => ?_)
  refine j_aload_n X dX11_show_0 rfl ?_
  refine j_iconst X dX11_show_1 0 (by decide) ?_
  refine j_putI X 11 0 (by decide) (by decide) rfl rfl rfl rfl u950 (o66 np) (k66 np) dX11_show_2 ?_
  refine j_aload_n X dX11_show_5 rfl ?_
  refine j_iload_n X dX11_show_6 rfl ?_
  refine s_callVi X hR (m_isPaper np _ _ hn hp) rfl 11 (by decide) (o66 np) (k66 np) rfl u1151 u1148 u1150 qp39 u12 hyX11_isPaper (by decide) (by decide) (Nat.le_of_ble_eq_true rfl) dX11_show_7 (fun v_7 m_7 h_7 => ?_)
  obtain ⟨e1, e2⟩ := h_7; have e1 := e1.symm; have e2 := e2.symm; subst e1; subst e2
  refine j_ifb_eq X 30 dX11_show_10 (by decide) (fun c_10 => ?_) (fun c_10 => ?_)
  · exfalso
    clear hE hr hR X
    have e1 : (-1 : Int32).toInt = -1 := by decide
    (try simp only [lg_cmp_lt, lg_cmp_gt, lg_cmp_le, lg_cmp_ge] at *); (try simp (disch := omega) only [Int64.le_iff_toInt_le, Int64.lt_iff_toInt_lt, Int32.le_iff_toInt_le, Int32.lt_iff_toInt_lt, fa_eq, fa_lit, fa_litL, nI_toInt, pk_lT, Int32.toInt_toInt64, jadd64, jin, jnoneT] at *); omega
  · refine j_iload_n X dX11_show_13 rfl ?_
    refine j_i2l X dX11_show_14 ?_
    refine j_lconst X dX11_show_15 0 (by decide) ?_
    refine j_ldc2 X dX11_show_16 u1152 ?_
    refine s_callSi X hR (m_inI np _ _ _ _ 0 15 rfl rfl) rfl u1087 u1085 u1086 u12 hyX11_in (by decide) (by decide) (Nat.le_of_ble_eq_true rfl) dX11_show_19 (fun v_19 m_19 h_19 => ?_)
    obtain ⟨e1, e2⟩ := h_19; have e1 := e1.symm; have e2 := e2.symm; subst e1; subst e2
    refine j_ifb_eq X 30 dX11_show_22 (by decide) (fun c_22 => ?_) (fun c_22 => ?_)
    · exfalso
      clear hE hr hR X
      have e1 : (-1 : Int32).toInt = -1 := by decide
      (try simp only [lg_cmp_lt, lg_cmp_gt, lg_cmp_le, lg_cmp_ge] at *); (try simp (disch := omega) only [Int64.le_iff_toInt_le, Int64.lt_iff_toInt_lt, Int32.le_iff_toInt_le, Int32.lt_iff_toInt_lt, fa_eq, fa_lit, fa_litL, nI_toInt, pk_lT, Int32.toInt_toInt64, jadd64, jin, jnoneT] at *); omega
    · refine j_iload_n X dX11_show_25 rfl ?_
      refine j_iconst X dX11_show_26 (-1) (by decide) ?_
      refine j_icmp_ge X 33 dX11_show_27 (by decide) (fun c_27 => ?_) (fun c_27 => absurd c_27 (by decide))
      refine j_aload_n X dX11_show_33 rfl ?_
      refine j_iload_n X dX11_show_34 rfl ?_
      refine j_iload_n X dX11_show_35 rfl ?_
      refine s_callVi X hR (m_showAll0 np _ _ (by omega)) rfl 11 (by decide) (o66 np) (k66 np) rfl u1198 u1195 u1197 qp46 u12 hyX11_showAll (by decide) (by decide) (Nat.le_of_ble_eq_true rfl) dX11_show_36 (fun v_36 m_36 h_36 => ?_)
      obtain ⟨e1, e2⟩ := h_36; have e1 := e1.symm; have e2 := e2.symm; subst e1; subst e2
      refine j_istore X dX11_show_39 (by decide) ?_
      refine j_iload_n X dX11_show_41 rfl ?_
      refine j_iconst X dX11_show_42 (-1) (by decide) ?_
      refine j_icmp_ne X 51 dX11_show_43 (by decide) (fun c_43 => absurd c_43 (by decide)) (fun c_43 => ?_)
      refine j_iload X dX11_show_46 rfl ?_
      refine j_goto X 68 dX11_show_48 (by decide) ?_
      refine s_iret X hE hr dX11_show_68 rfl ?_
      exact ⟨rfl, by repeat (first | exact jeq.rf | refine jeq.up ?_ (by decide))⟩
set_option maxRecDepth 4000 in
set_option maxHeartbeats 1000000 in
theorem m_show0_none (np : Nat) (mem : jMem) (p : Nat) (i : Int32) (hn : np ≤ 12) (hp : mem 66 9 = nI np) (hp2 : p < np) (hi : 2 ≤ i.toInt) : jPi yX11_show cX11_show 5 .int 4 [.ref 66, .int (nI p), .int 0, .int i] np mem (fun v c => v = -1000000 ∧ jeq [76] (jup mem 66 0 0) c) := by
  refine jPi.of (own := RX11) rfl rfl (Nat.le_of_ble_eq_true rfl) (fun G X hR hr hE => ?_)
  refine j_aload_n X dX11_show_0 rfl ?_
  refine j_iconst X dX11_show_1 0 (by decide) ?_
  refine j_putI X 11 0 (by decide) (by decide) rfl rfl rfl rfl u950 (o66 np) (k66 np) dX11_show_2 ?_
  refine j_aload_n X dX11_show_5 rfl ?_
  refine j_iload_n X dX11_show_6 rfl ?_
  refine s_callVi X hR (m_isPaper np _ _ hn hp) rfl 11 (by decide) (o66 np) (k66 np) rfl u1151 u1148 u1150 qp39 u12 hyX11_isPaper (by decide) (by decide) (Nat.le_of_ble_eq_true rfl) dX11_show_7 (fun v_7 m_7 h_7 => ?_)
  obtain ⟨e1, e2⟩ := h_7; have e1 := e1.symm; have e2 := e2.symm; subst e1; subst e2
  refine j_ifb_eq X 30 dX11_show_10 (by decide) (fun c_10 => ?_) (fun c_10 => ?_)
  · exfalso
    clear hE hr hR X
    have e1 : (-1 : Int32).toInt = -1 := by decide
    (try simp only [lg_cmp_lt, lg_cmp_gt, lg_cmp_le, lg_cmp_ge] at *); (try simp (disch := omega) only [Int64.le_iff_toInt_le, Int64.lt_iff_toInt_lt, Int32.le_iff_toInt_le, Int32.lt_iff_toInt_lt, fa_eq, fa_lit, fa_litL, nI_toInt, pk_lT, Int32.toInt_toInt64, jadd64, jin, jnoneT] at *); omega
  · refine j_iload_n X dX11_show_13 rfl ?_
    refine j_i2l X dX11_show_14 ?_
    refine j_lconst X dX11_show_15 0 (by decide) ?_
    refine j_ldc2 X dX11_show_16 u1152 ?_
    refine s_callSi X hR (m_inI np _ _ _ _ 0 15 rfl rfl) rfl u1087 u1085 u1086 u12 hyX11_in (by decide) (by decide) (Nat.le_of_ble_eq_true rfl) dX11_show_19 (fun v_19 m_19 h_19 => ?_)
    obtain ⟨e1, e2⟩ := h_19; have e1 := e1.symm; have e2 := e2.symm; subst e1; subst e2
    refine j_ifb_eq X 30 dX11_show_22 (by decide) (fun c_22 => ?_) (fun c_22 => ?_)
    · exfalso
      clear hE hr hR X
      have e1 : (-1 : Int32).toInt = -1 := by decide
      (try simp only [lg_cmp_lt, lg_cmp_gt, lg_cmp_le, lg_cmp_ge] at *); (try simp (disch := omega) only [Int64.le_iff_toInt_le, Int64.lt_iff_toInt_lt, Int32.le_iff_toInt_le, Int32.lt_iff_toInt_lt, fa_eq, fa_lit, fa_litL, nI_toInt, pk_lT, Int32.toInt_toInt64, jadd64, jin, jnoneT] at *); omega
    · refine j_iload_n X dX11_show_25 rfl ?_
      refine j_iconst X dX11_show_26 (-1) (by decide) ?_
      refine j_icmp_ge X 33 dX11_show_27 (by decide) (fun c_27 => ?_) (fun c_27 => ?_)
      · refine j_aload_n X dX11_show_33 rfl ?_
        refine j_iload_n X dX11_show_34 rfl ?_
        refine j_iload_n X dX11_show_35 rfl ?_
        refine s_callVi X hR (m_showAll0 np _ _ (by omega)) rfl 11 (by decide) (o66 np) (k66 np) rfl u1198 u1195 u1197 qp46 u12 hyX11_showAll (by decide) (by decide) (Nat.le_of_ble_eq_true rfl) dX11_show_36 (fun v_36 m_36 h_36 => ?_)
        obtain ⟨e1, e2⟩ := h_36; have e1 := e1.symm; have e2 := e2.symm; subst e1; subst e2
        refine j_istore X dX11_show_39 (by decide) ?_
        refine j_iload_n X dX11_show_41 rfl ?_
        refine j_iconst X dX11_show_42 (-1) (by decide) ?_
        refine j_icmp_ne X 51 dX11_show_43 (by decide) (fun c_43 => ?_) (fun c_43 => ?_)
        · refine j_iload_n X dX11_show_51 rfl ?_
          refine j_iload X dX11_show_52 rfl ?_
          refine j_icmp_ge X 66 dX11_show_54 (by decide) (fun c_54 => ?_) (fun c_54 => ?_)
          · refine j_ldc X dX11_show_66 u949 ?_
            refine s_iret X hE hr dX11_show_68 rfl ?_
            exact ⟨rfl, by repeat (first | exact jeq.rf | refine jeq.up ?_ (by decide))⟩
          · exfalso
            clear hE hr hR X
            have e1 : (-1 : Int32).toInt = -1 := by decide
            (try simp only [lg_cmp_lt, lg_cmp_gt, lg_cmp_le, lg_cmp_ge] at *); (try simp (disch := omega) only [Int64.le_iff_toInt_le, Int64.lt_iff_toInt_lt, Int32.le_iff_toInt_le, Int32.lt_iff_toInt_lt, fa_eq, fa_lit, fa_litL, nI_toInt, pk_lT, Int32.toInt_toInt64, jadd64, jin, jnoneT] at *); omega
        · exfalso
          clear hE hr hR X
          have e1 : (-1 : Int32).toInt = -1 := by decide
          (try simp only [lg_cmp_lt, lg_cmp_gt, lg_cmp_le, lg_cmp_ge] at *); (try simp (disch := omega) only [Int64.le_iff_toInt_le, Int64.lt_iff_toInt_lt, Int32.le_iff_toInt_le, Int32.lt_iff_toInt_lt, fa_eq, fa_lit, fa_litL, nI_toInt, pk_lT, Int32.toInt_toInt64, jadd64, jin, jnoneT] at *); omega
      · exfalso
        clear hE hr hR X
        have e1 : (-1 : Int32).toInt = -1 := by decide
        (try simp only [lg_cmp_lt, lg_cmp_gt, lg_cmp_le, lg_cmp_ge] at *); (try simp (disch := omega) only [Int64.le_iff_toInt_le, Int64.lt_iff_toInt_lt, Int32.le_iff_toInt_le, Int32.lt_iff_toInt_lt, fa_eq, fa_lit, fa_litL, nI_toInt, pk_lT, Int32.toInt_toInt64, jadd64, jin, jnoneT] at *); omega
set_option maxRecDepth 4000 in
set_option maxHeartbeats 1000000 in
theorem m_show0_0 (np : Nat) (mem : jMem) (p : Nat) (hn : np ≤ 12) (hp : mem 66 9 = nI np) (hp2 : p < np) : jPi yX11_show cX11_show 5 .int 4 [.ref 66, .int (nI p), .int 0, .int 0] np mem (fun v c => v = (jJoin (jLeaf (nI p) 0 (mem 74 (9 * p + 5))) (jLeaf (nI p) 1 (mem 74 (9 * p + 6)))) ∧ jeq [76] (jup mem 66 0 0) c) := by
  refine jPi.of (own := RX11) rfl rfl (Nat.le_of_ble_eq_true rfl) (fun G X hR hr hE => ?_)
  refine j_aload_n X dX11_show_0 rfl ?_
  refine j_iconst X dX11_show_1 0 (by decide) ?_
  refine j_putI X 11 0 (by decide) (by decide) rfl rfl rfl rfl u950 (o66 np) (k66 np) dX11_show_2 ?_
  refine j_aload_n X dX11_show_5 rfl ?_
  refine j_iload_n X dX11_show_6 rfl ?_
  refine s_callVi X hR (m_isPaper np _ _ hn hp) rfl 11 (by decide) (o66 np) (k66 np) rfl u1151 u1148 u1150 qp39 u12 hyX11_isPaper (by decide) (by decide) (Nat.le_of_ble_eq_true rfl) dX11_show_7 (fun v_7 m_7 h_7 => ?_)
  obtain ⟨e1, e2⟩ := h_7; have e1 := e1.symm; have e2 := e2.symm; subst e1; subst e2
  refine j_ifb_eq X 30 dX11_show_10 (by decide) (fun c_10 => ?_) (fun c_10 => ?_)
  · exfalso
    clear hE hr hR X
    have e1 : (-1 : Int32).toInt = -1 := by decide
    (try simp only [lg_cmp_lt, lg_cmp_gt, lg_cmp_le, lg_cmp_ge] at *); (try simp (disch := omega) only [Int64.le_iff_toInt_le, Int64.lt_iff_toInt_lt, Int32.le_iff_toInt_le, Int32.lt_iff_toInt_lt, fa_eq, fa_lit, fa_litL, nI_toInt, pk_lT, Int32.toInt_toInt64, jadd64, jin, jnoneT] at *); omega
  · refine j_iload_n X dX11_show_13 rfl ?_
    refine j_i2l X dX11_show_14 ?_
    refine j_lconst X dX11_show_15 0 (by decide) ?_
    refine j_ldc2 X dX11_show_16 u1152 ?_
    refine s_callSi X hR (m_inI np _ _ _ _ 0 15 rfl rfl) rfl u1087 u1085 u1086 u12 hyX11_in (by decide) (by decide) (Nat.le_of_ble_eq_true rfl) dX11_show_19 (fun v_19 m_19 h_19 => ?_)
    obtain ⟨e1, e2⟩ := h_19; have e1 := e1.symm; have e2 := e2.symm; subst e1; subst e2
    refine j_ifb_eq X 30 dX11_show_22 (by decide) (fun c_22 => ?_) (fun c_22 => ?_)
    · exfalso
      clear hE hr hR X
      have e1 : (-1 : Int32).toInt = -1 := by decide
      (try simp only [lg_cmp_lt, lg_cmp_gt, lg_cmp_le, lg_cmp_ge] at *); (try simp (disch := omega) only [Int64.le_iff_toInt_le, Int64.lt_iff_toInt_lt, Int32.le_iff_toInt_le, Int32.lt_iff_toInt_lt, fa_eq, fa_lit, fa_litL, nI_toInt, pk_lT, Int32.toInt_toInt64, jadd64, jin, jnoneT] at *); omega
    · refine j_iload_n X dX11_show_25 rfl ?_
      refine j_iconst X dX11_show_26 (-1) (by decide) ?_
      refine j_icmp_ge X 33 dX11_show_27 (by decide) (fun c_27 => ?_) (fun c_27 => absurd c_27 (by decide))
      refine j_aload_n X dX11_show_33 rfl ?_
      refine j_iload_n X dX11_show_34 rfl ?_
      refine j_iload_n X dX11_show_35 rfl ?_
      refine s_callVi X hR (m_showAll0 np _ _ (by omega)) rfl 11 (by decide) (o66 np) (k66 np) rfl u1198 u1195 u1197 qp46 u12 hyX11_showAll (by decide) (by decide) (Nat.le_of_ble_eq_true rfl) dX11_show_36 (fun v_36 m_36 h_36 => ?_)
      obtain ⟨e1, e2⟩ := h_36; have e1 := e1.symm; have e2 := e2.symm; subst e1; subst e2
      refine j_istore X dX11_show_39 (by decide) ?_
      refine j_iload_n X dX11_show_41 rfl ?_
      refine j_iconst X dX11_show_42 (-1) (by decide) ?_
      refine j_icmp_ne X 51 dX11_show_43 (by decide) (fun c_43 => ?_) (fun c_43 => absurd c_43 (by decide))
      refine j_iload_n X dX11_show_51 rfl ?_
      refine j_iload X dX11_show_52 rfl ?_
      refine j_icmp_ge X 66 dX11_show_54 (by decide) (fun c_54 => absurd c_54 (by decide)) (fun c_54 => ?_)
      refine j_aload_n X dX11_show_57 rfl ?_
      refine j_getR X 11 12 (by decide) (by decide) rfl u962 (o66 np) (k66 np) _ (p66_12 np) dX11_show_58 ?_
      refine j_iload_n X dX11_show_61 rfl ?_
      refine j_nrm _ (by first | (simp only [fa_lit, pk_mul, nI_add]; done) | (simp only [fa_lit, pk_mul, nI_add]; rfl) | rfl) ?_
      refine j_ialdN X (o76 np) (k76 np) (n := 0) (by rw [l76]; decide) (by rw [l76]; decide) _ rfl dX11_show_62 ?_
      refine j_goto X 68 dX11_show_63 (by decide) ?_
      refine s_iret X hE hr dX11_show_68 rfl ?_
      exact ⟨rfl, by repeat (first | exact jeq.rf | refine jeq.up ?_ (by decide))⟩
set_option maxRecDepth 4000 in
set_option maxHeartbeats 1000000 in
theorem m_show0_1 (np : Nat) (mem : jMem) (p : Nat) (hn : np ≤ 12) (hp : mem 66 9 = nI np) (hp2 : p < np) : jPi yX11_show cX11_show 5 .int 4 [.ref 66, .int (nI p), .int 0, .int 1] np mem (fun v c => v = (jJoin (jLeaf (nI p) 2 (mem 74 (9 * p + 7))) (jLeaf (nI p) 3 (mem 74 (9 * p + 8)))) ∧ jeq [76] (jup mem 66 0 0) c) := by
  refine jPi.of (own := RX11) rfl rfl (Nat.le_of_ble_eq_true rfl) (fun G X hR hr hE => ?_)
  refine j_aload_n X dX11_show_0 rfl ?_
  refine j_iconst X dX11_show_1 0 (by decide) ?_
  refine j_putI X 11 0 (by decide) (by decide) rfl rfl rfl rfl u950 (o66 np) (k66 np) dX11_show_2 ?_
  refine j_aload_n X dX11_show_5 rfl ?_
  refine j_iload_n X dX11_show_6 rfl ?_
  refine s_callVi X hR (m_isPaper np _ _ hn hp) rfl 11 (by decide) (o66 np) (k66 np) rfl u1151 u1148 u1150 qp39 u12 hyX11_isPaper (by decide) (by decide) (Nat.le_of_ble_eq_true rfl) dX11_show_7 (fun v_7 m_7 h_7 => ?_)
  obtain ⟨e1, e2⟩ := h_7; have e1 := e1.symm; have e2 := e2.symm; subst e1; subst e2
  refine j_ifb_eq X 30 dX11_show_10 (by decide) (fun c_10 => ?_) (fun c_10 => ?_)
  · exfalso
    clear hE hr hR X
    have e1 : (-1 : Int32).toInt = -1 := by decide
    (try simp only [lg_cmp_lt, lg_cmp_gt, lg_cmp_le, lg_cmp_ge] at *); (try simp (disch := omega) only [Int64.le_iff_toInt_le, Int64.lt_iff_toInt_lt, Int32.le_iff_toInt_le, Int32.lt_iff_toInt_lt, fa_eq, fa_lit, fa_litL, nI_toInt, pk_lT, Int32.toInt_toInt64, jadd64, jin, jnoneT] at *); omega
  · refine j_iload_n X dX11_show_13 rfl ?_
    refine j_i2l X dX11_show_14 ?_
    refine j_lconst X dX11_show_15 0 (by decide) ?_
    refine j_ldc2 X dX11_show_16 u1152 ?_
    refine s_callSi X hR (m_inI np _ _ _ _ 0 15 rfl rfl) rfl u1087 u1085 u1086 u12 hyX11_in (by decide) (by decide) (Nat.le_of_ble_eq_true rfl) dX11_show_19 (fun v_19 m_19 h_19 => ?_)
    obtain ⟨e1, e2⟩ := h_19; have e1 := e1.symm; have e2 := e2.symm; subst e1; subst e2
    refine j_ifb_eq X 30 dX11_show_22 (by decide) (fun c_22 => ?_) (fun c_22 => ?_)
    · exfalso
      clear hE hr hR X
      have e1 : (-1 : Int32).toInt = -1 := by decide
      (try simp only [lg_cmp_lt, lg_cmp_gt, lg_cmp_le, lg_cmp_ge] at *); (try simp (disch := omega) only [Int64.le_iff_toInt_le, Int64.lt_iff_toInt_lt, Int32.le_iff_toInt_le, Int32.lt_iff_toInt_lt, fa_eq, fa_lit, fa_litL, nI_toInt, pk_lT, Int32.toInt_toInt64, jadd64, jin, jnoneT] at *); omega
    · refine j_iload_n X dX11_show_25 rfl ?_
      refine j_iconst X dX11_show_26 (-1) (by decide) ?_
      refine j_icmp_ge X 33 dX11_show_27 (by decide) (fun c_27 => ?_) (fun c_27 => absurd c_27 (by decide))
      refine j_aload_n X dX11_show_33 rfl ?_
      refine j_iload_n X dX11_show_34 rfl ?_
      refine j_iload_n X dX11_show_35 rfl ?_
      refine s_callVi X hR (m_showAll0 np _ _ (by omega)) rfl 11 (by decide) (o66 np) (k66 np) rfl u1198 u1195 u1197 qp46 u12 hyX11_showAll (by decide) (by decide) (Nat.le_of_ble_eq_true rfl) dX11_show_36 (fun v_36 m_36 h_36 => ?_)
      obtain ⟨e1, e2⟩ := h_36; have e1 := e1.symm; have e2 := e2.symm; subst e1; subst e2
      refine j_istore X dX11_show_39 (by decide) ?_
      refine j_iload_n X dX11_show_41 rfl ?_
      refine j_iconst X dX11_show_42 (-1) (by decide) ?_
      refine j_icmp_ne X 51 dX11_show_43 (by decide) (fun c_43 => ?_) (fun c_43 => absurd c_43 (by decide))
      refine j_iload_n X dX11_show_51 rfl ?_
      refine j_iload X dX11_show_52 rfl ?_
      refine j_icmp_ge X 66 dX11_show_54 (by decide) (fun c_54 => absurd c_54 (by decide)) (fun c_54 => ?_)
      refine j_aload_n X dX11_show_57 rfl ?_
      refine j_getR X 11 12 (by decide) (by decide) rfl u962 (o66 np) (k66 np) _ (p66_12 np) dX11_show_58 ?_
      refine j_iload_n X dX11_show_61 rfl ?_
      refine j_nrm _ (by first | (simp only [fa_lit, pk_mul, nI_add]; done) | (simp only [fa_lit, pk_mul, nI_add]; rfl) | rfl) ?_
      refine j_ialdN X (o76 np) (k76 np) (n := 1) (by rw [l76]; decide) (by rw [l76]; decide) _ rfl dX11_show_62 ?_
      refine j_goto X 68 dX11_show_63 (by decide) ?_
      refine s_iret X hE hr dX11_show_68 rfl ?_
      exact ⟨rfl, by repeat (first | exact jeq.rf | refine jeq.up ?_ (by decide))⟩
set_option maxRecDepth 4000 in
set_option maxHeartbeats 1000000 in
theorem m_show1_n (np : Nat) (mem : jMem) (p : Nat) (hn : np ≤ 12) (hp : mem 66 9 = nI np) (hp2 : p < np) : jPi yX11_show cX11_show 5 .int 4 [.ref 66, .int (nI p), .int 1, .int (-1)] np mem (fun v c => v = 3 ∧ jeq [76] (jup mem 66 0 0) c) := by
  refine jPi.of (own := RX11) rfl rfl (Nat.le_of_ble_eq_true rfl) (fun G X hR hr hE => ?_)
  refine j_aload_n X dX11_show_0 rfl ?_
  refine j_iconst X dX11_show_1 0 (by decide) ?_
  refine j_putI X 11 0 (by decide) (by decide) rfl rfl rfl rfl u950 (o66 np) (k66 np) dX11_show_2 ?_
  refine j_aload_n X dX11_show_5 rfl ?_
  refine j_iload_n X dX11_show_6 rfl ?_
  refine s_callVi X hR (m_isPaper np _ _ hn hp) rfl 11 (by decide) (o66 np) (k66 np) rfl u1151 u1148 u1150 qp39 u12 hyX11_isPaper (by decide) (by decide) (Nat.le_of_ble_eq_true rfl) dX11_show_7 (fun v_7 m_7 h_7 => ?_)
  obtain ⟨e1, e2⟩ := h_7; have e1 := e1.symm; have e2 := e2.symm; subst e1; subst e2
  refine j_ifb_eq X 30 dX11_show_10 (by decide) (fun c_10 => ?_) (fun c_10 => ?_)
  · exfalso
    clear hE hr hR X
    have e1 : (-1 : Int32).toInt = -1 := by decide
    (try simp only [lg_cmp_lt, lg_cmp_gt, lg_cmp_le, lg_cmp_ge] at *); (try simp (disch := omega) only [Int64.le_iff_toInt_le, Int64.lt_iff_toInt_lt, Int32.le_iff_toInt_le, Int32.lt_iff_toInt_lt, fa_eq, fa_lit, fa_litL, nI_toInt, pk_lT, Int32.toInt_toInt64, jadd64, jin, jnoneT] at *); omega
  · refine j_iload_n X dX11_show_13 rfl ?_
    refine j_i2l X dX11_show_14 ?_
    refine j_lconst X dX11_show_15 0 (by decide) ?_
    refine j_ldc2 X dX11_show_16 u1152 ?_
    refine s_callSi X hR (m_inI np _ _ _ _ 0 15 rfl rfl) rfl u1087 u1085 u1086 u12 hyX11_in (by decide) (by decide) (Nat.le_of_ble_eq_true rfl) dX11_show_19 (fun v_19 m_19 h_19 => ?_)
    obtain ⟨e1, e2⟩ := h_19; have e1 := e1.symm; have e2 := e2.symm; subst e1; subst e2
    refine j_ifb_eq X 30 dX11_show_22 (by decide) (fun c_22 => ?_) (fun c_22 => ?_)
    · exfalso
      clear hE hr hR X
      have e1 : (-1 : Int32).toInt = -1 := by decide
      (try simp only [lg_cmp_lt, lg_cmp_gt, lg_cmp_le, lg_cmp_ge] at *); (try simp (disch := omega) only [Int64.le_iff_toInt_le, Int64.lt_iff_toInt_lt, Int32.le_iff_toInt_le, Int32.lt_iff_toInt_lt, fa_eq, fa_lit, fa_litL, nI_toInt, pk_lT, Int32.toInt_toInt64, jadd64, jin, jnoneT] at *); omega
    · refine j_iload_n X dX11_show_25 rfl ?_
      refine j_iconst X dX11_show_26 (-1) (by decide) ?_
      refine j_icmp_ge X 33 dX11_show_27 (by decide) (fun c_27 => ?_) (fun c_27 => absurd c_27 (by decide))
      refine j_aload_n X dX11_show_33 rfl ?_
      refine j_iload_n X dX11_show_34 rfl ?_
      refine j_iload_n X dX11_show_35 rfl ?_
      refine s_callVi X hR (m_showAll1 np _ _ (by omega)) rfl 11 (by decide) (o66 np) (k66 np) rfl u1198 u1195 u1197 qp46 u12 hyX11_showAll (by decide) (by decide) (Nat.le_of_ble_eq_true rfl) dX11_show_36 (fun v_36 m_36 h_36 => ?_)
      obtain ⟨e1, e2⟩ := h_36; have e1 := e1.symm; have e2 := e2.symm; subst e1; subst e2
      refine j_istore X dX11_show_39 (by decide) ?_
      refine j_iload_n X dX11_show_41 rfl ?_
      refine j_iconst X dX11_show_42 (-1) (by decide) ?_
      refine j_icmp_ne X 51 dX11_show_43 (by decide) (fun c_43 => absurd c_43 (by decide)) (fun c_43 => ?_)
      refine j_iload X dX11_show_46 rfl ?_
      refine j_goto X 68 dX11_show_48 (by decide) ?_
      refine s_iret X hE hr dX11_show_68 rfl ?_
      exact ⟨rfl, by repeat (first | exact jeq.rf | refine jeq.up ?_ (by decide))⟩
set_option maxRecDepth 4000 in
set_option maxHeartbeats 1000000 in
theorem m_show1_none (np : Nat) (mem : jMem) (p : Nat) (i : Int32) (hn : np ≤ 12) (hp : mem 66 9 = nI np) (hp2 : p < np) (hi : 3 ≤ i.toInt) : jPi yX11_show cX11_show 5 .int 4 [.ref 66, .int (nI p), .int 1, .int i] np mem (fun v c => v = -1000000 ∧ jeq [76] (jup mem 66 0 0) c) := by
  refine jPi.of (own := RX11) rfl rfl (Nat.le_of_ble_eq_true rfl) (fun G X hR hr hE => ?_)
  refine j_aload_n X dX11_show_0 rfl ?_
  refine j_iconst X dX11_show_1 0 (by decide) ?_
  refine j_putI X 11 0 (by decide) (by decide) rfl rfl rfl rfl u950 (o66 np) (k66 np) dX11_show_2 ?_
  refine j_aload_n X dX11_show_5 rfl ?_
  refine j_iload_n X dX11_show_6 rfl ?_
  refine s_callVi X hR (m_isPaper np _ _ hn hp) rfl 11 (by decide) (o66 np) (k66 np) rfl u1151 u1148 u1150 qp39 u12 hyX11_isPaper (by decide) (by decide) (Nat.le_of_ble_eq_true rfl) dX11_show_7 (fun v_7 m_7 h_7 => ?_)
  obtain ⟨e1, e2⟩ := h_7; have e1 := e1.symm; have e2 := e2.symm; subst e1; subst e2
  refine j_ifb_eq X 30 dX11_show_10 (by decide) (fun c_10 => ?_) (fun c_10 => ?_)
  · exfalso
    clear hE hr hR X
    have e1 : (-1 : Int32).toInt = -1 := by decide
    (try simp only [lg_cmp_lt, lg_cmp_gt, lg_cmp_le, lg_cmp_ge] at *); (try simp (disch := omega) only [Int64.le_iff_toInt_le, Int64.lt_iff_toInt_lt, Int32.le_iff_toInt_le, Int32.lt_iff_toInt_lt, fa_eq, fa_lit, fa_litL, nI_toInt, pk_lT, Int32.toInt_toInt64, jadd64, jin, jnoneT] at *); omega
  · refine j_iload_n X dX11_show_13 rfl ?_
    refine j_i2l X dX11_show_14 ?_
    refine j_lconst X dX11_show_15 0 (by decide) ?_
    refine j_ldc2 X dX11_show_16 u1152 ?_
    refine s_callSi X hR (m_inI np _ _ _ _ 0 15 rfl rfl) rfl u1087 u1085 u1086 u12 hyX11_in (by decide) (by decide) (Nat.le_of_ble_eq_true rfl) dX11_show_19 (fun v_19 m_19 h_19 => ?_)
    obtain ⟨e1, e2⟩ := h_19; have e1 := e1.symm; have e2 := e2.symm; subst e1; subst e2
    refine j_ifb_eq X 30 dX11_show_22 (by decide) (fun c_22 => ?_) (fun c_22 => ?_)
    · exfalso
      clear hE hr hR X
      have e1 : (-1 : Int32).toInt = -1 := by decide
      (try simp only [lg_cmp_lt, lg_cmp_gt, lg_cmp_le, lg_cmp_ge] at *); (try simp (disch := omega) only [Int64.le_iff_toInt_le, Int64.lt_iff_toInt_lt, Int32.le_iff_toInt_le, Int32.lt_iff_toInt_lt, fa_eq, fa_lit, fa_litL, nI_toInt, pk_lT, Int32.toInt_toInt64, jadd64, jin, jnoneT] at *); omega
    · refine j_iload_n X dX11_show_25 rfl ?_
      refine j_iconst X dX11_show_26 (-1) (by decide) ?_
      refine j_icmp_ge X 33 dX11_show_27 (by decide) (fun c_27 => ?_) (fun c_27 => ?_)
      · refine j_aload_n X dX11_show_33 rfl ?_
        refine j_iload_n X dX11_show_34 rfl ?_
        refine j_iload_n X dX11_show_35 rfl ?_
        refine s_callVi X hR (m_showAll1 np _ _ (by omega)) rfl 11 (by decide) (o66 np) (k66 np) rfl u1198 u1195 u1197 qp46 u12 hyX11_showAll (by decide) (by decide) (Nat.le_of_ble_eq_true rfl) dX11_show_36 (fun v_36 m_36 h_36 => ?_)
        obtain ⟨e1, e2⟩ := h_36; have e1 := e1.symm; have e2 := e2.symm; subst e1; subst e2
        refine j_istore X dX11_show_39 (by decide) ?_
        refine j_iload_n X dX11_show_41 rfl ?_
        refine j_iconst X dX11_show_42 (-1) (by decide) ?_
        refine j_icmp_ne X 51 dX11_show_43 (by decide) (fun c_43 => ?_) (fun c_43 => ?_)
        · refine j_iload_n X dX11_show_51 rfl ?_
          refine j_iload X dX11_show_52 rfl ?_
          refine j_icmp_ge X 66 dX11_show_54 (by decide) (fun c_54 => ?_) (fun c_54 => ?_)
          · refine j_ldc X dX11_show_66 u949 ?_
            refine s_iret X hE hr dX11_show_68 rfl ?_
            exact ⟨rfl, by repeat (first | exact jeq.rf | refine jeq.up ?_ (by decide))⟩
          · exfalso
            clear hE hr hR X
            have e1 : (-1 : Int32).toInt = -1 := by decide
            (try simp only [lg_cmp_lt, lg_cmp_gt, lg_cmp_le, lg_cmp_ge] at *); (try simp (disch := omega) only [Int64.le_iff_toInt_le, Int64.lt_iff_toInt_lt, Int32.le_iff_toInt_le, Int32.lt_iff_toInt_lt, fa_eq, fa_lit, fa_litL, nI_toInt, pk_lT, Int32.toInt_toInt64, jadd64, jin, jnoneT] at *); omega
        · exfalso
          clear hE hr hR X
          have e1 : (-1 : Int32).toInt = -1 := by decide
          (try simp only [lg_cmp_lt, lg_cmp_gt, lg_cmp_le, lg_cmp_ge] at *); (try simp (disch := omega) only [Int64.le_iff_toInt_le, Int64.lt_iff_toInt_lt, Int32.le_iff_toInt_le, Int32.lt_iff_toInt_lt, fa_eq, fa_lit, fa_litL, nI_toInt, pk_lT, Int32.toInt_toInt64, jadd64, jin, jnoneT] at *); omega
      · exfalso
        clear hE hr hR X
        have e1 : (-1 : Int32).toInt = -1 := by decide
        (try simp only [lg_cmp_lt, lg_cmp_gt, lg_cmp_le, lg_cmp_ge] at *); (try simp (disch := omega) only [Int64.le_iff_toInt_le, Int64.lt_iff_toInt_lt, Int32.le_iff_toInt_le, Int32.lt_iff_toInt_lt, fa_eq, fa_lit, fa_litL, nI_toInt, pk_lT, Int32.toInt_toInt64, jadd64, jin, jnoneT] at *); omega
set_option maxRecDepth 4000 in
set_option maxHeartbeats 1000000 in
theorem m_show1_0 (np : Nat) (mem : jMem) (p : Nat) (hn : np ≤ 12) (hp : mem 66 9 = nI np) (hp2 : p < np) : jPi yX11_show cX11_show 5 .int 4 [.ref 66, .int (nI p), .int 1, .int 0] np mem (fun v c => v = (mem 74 (9 * p + 5)) ∧ jeq [76] (jup mem 66 0 0) c) := by
  refine jPi.of (own := RX11) rfl rfl (Nat.le_of_ble_eq_true rfl) (fun G X hR hr hE => ?_)
  refine j_aload_n X dX11_show_0 rfl ?_
  refine j_iconst X dX11_show_1 0 (by decide) ?_
  refine j_putI X 11 0 (by decide) (by decide) rfl rfl rfl rfl u950 (o66 np) (k66 np) dX11_show_2 ?_
  refine j_aload_n X dX11_show_5 rfl ?_
  refine j_iload_n X dX11_show_6 rfl ?_
  refine s_callVi X hR (m_isPaper np _ _ hn hp) rfl 11 (by decide) (o66 np) (k66 np) rfl u1151 u1148 u1150 qp39 u12 hyX11_isPaper (by decide) (by decide) (Nat.le_of_ble_eq_true rfl) dX11_show_7 (fun v_7 m_7 h_7 => ?_)
  obtain ⟨e1, e2⟩ := h_7; have e1 := e1.symm; have e2 := e2.symm; subst e1; subst e2
  refine j_ifb_eq X 30 dX11_show_10 (by decide) (fun c_10 => ?_) (fun c_10 => ?_)
  · exfalso
    clear hE hr hR X
    have e1 : (-1 : Int32).toInt = -1 := by decide
    (try simp only [lg_cmp_lt, lg_cmp_gt, lg_cmp_le, lg_cmp_ge] at *); (try simp (disch := omega) only [Int64.le_iff_toInt_le, Int64.lt_iff_toInt_lt, Int32.le_iff_toInt_le, Int32.lt_iff_toInt_lt, fa_eq, fa_lit, fa_litL, nI_toInt, pk_lT, Int32.toInt_toInt64, jadd64, jin, jnoneT] at *); omega
  · refine j_iload_n X dX11_show_13 rfl ?_
    refine j_i2l X dX11_show_14 ?_
    refine j_lconst X dX11_show_15 0 (by decide) ?_
    refine j_ldc2 X dX11_show_16 u1152 ?_
    refine s_callSi X hR (m_inI np _ _ _ _ 0 15 rfl rfl) rfl u1087 u1085 u1086 u12 hyX11_in (by decide) (by decide) (Nat.le_of_ble_eq_true rfl) dX11_show_19 (fun v_19 m_19 h_19 => ?_)
    obtain ⟨e1, e2⟩ := h_19; have e1 := e1.symm; have e2 := e2.symm; subst e1; subst e2
    refine j_ifb_eq X 30 dX11_show_22 (by decide) (fun c_22 => ?_) (fun c_22 => ?_)
    · exfalso
      clear hE hr hR X
      have e1 : (-1 : Int32).toInt = -1 := by decide
      (try simp only [lg_cmp_lt, lg_cmp_gt, lg_cmp_le, lg_cmp_ge] at *); (try simp (disch := omega) only [Int64.le_iff_toInt_le, Int64.lt_iff_toInt_lt, Int32.le_iff_toInt_le, Int32.lt_iff_toInt_lt, fa_eq, fa_lit, fa_litL, nI_toInt, pk_lT, Int32.toInt_toInt64, jadd64, jin, jnoneT] at *); omega
    · refine j_iload_n X dX11_show_25 rfl ?_
      refine j_iconst X dX11_show_26 (-1) (by decide) ?_
      refine j_icmp_ge X 33 dX11_show_27 (by decide) (fun c_27 => ?_) (fun c_27 => absurd c_27 (by decide))
      refine j_aload_n X dX11_show_33 rfl ?_
      refine j_iload_n X dX11_show_34 rfl ?_
      refine j_iload_n X dX11_show_35 rfl ?_
      refine s_callVi X hR (m_showAll1 np _ _ (by omega)) rfl 11 (by decide) (o66 np) (k66 np) rfl u1198 u1195 u1197 qp46 u12 hyX11_showAll (by decide) (by decide) (Nat.le_of_ble_eq_true rfl) dX11_show_36 (fun v_36 m_36 h_36 => ?_)
      obtain ⟨e1, e2⟩ := h_36; have e1 := e1.symm; have e2 := e2.symm; subst e1; subst e2
      refine j_istore X dX11_show_39 (by decide) ?_
      refine j_iload_n X dX11_show_41 rfl ?_
      refine j_iconst X dX11_show_42 (-1) (by decide) ?_
      refine j_icmp_ne X 51 dX11_show_43 (by decide) (fun c_43 => ?_) (fun c_43 => absurd c_43 (by decide))
      refine j_iload_n X dX11_show_51 rfl ?_
      refine j_iload X dX11_show_52 rfl ?_
      refine j_icmp_ge X 66 dX11_show_54 (by decide) (fun c_54 => absurd c_54 (by decide)) (fun c_54 => ?_)
      refine j_aload_n X dX11_show_57 rfl ?_
      refine j_getR X 11 12 (by decide) (by decide) rfl u962 (o66 np) (k66 np) _ (p66_12 np) dX11_show_58 ?_
      refine j_iload_n X dX11_show_61 rfl ?_
      refine j_nrm _ (by first | (simp only [fa_lit, pk_mul, nI_add]; done) | (simp only [fa_lit, pk_mul, nI_add]; rfl) | rfl) ?_
      refine j_ialdN X (o76 np) (k76 np) (n := 0) (by rw [l76]; decide) (by rw [l76]; decide) _ rfl dX11_show_62 ?_
      refine j_goto X 68 dX11_show_63 (by decide) ?_
      refine s_iret X hE hr dX11_show_68 rfl ?_
      exact ⟨rfl, by repeat (first | exact jeq.rf | refine jeq.up ?_ (by decide))⟩
set_option maxRecDepth 4000 in
set_option maxHeartbeats 1000000 in
theorem m_show1_1 (np : Nat) (mem : jMem) (p : Nat) (hn : np ≤ 12) (hp : mem 66 9 = nI np) (hp2 : p < np) : jPi yX11_show cX11_show 5 .int 4 [.ref 66, .int (nI p), .int 1, .int 1] np mem (fun v c => v = (jLeaf (nI p) 1 (mem 74 (9 * p + 6))) ∧ jeq [76] (jup mem 66 0 0) c) := by
  refine jPi.of (own := RX11) rfl rfl (Nat.le_of_ble_eq_true rfl) (fun G X hR hr hE => ?_)
  refine j_aload_n X dX11_show_0 rfl ?_
  refine j_iconst X dX11_show_1 0 (by decide) ?_
  refine j_putI X 11 0 (by decide) (by decide) rfl rfl rfl rfl u950 (o66 np) (k66 np) dX11_show_2 ?_
  refine j_aload_n X dX11_show_5 rfl ?_
  refine j_iload_n X dX11_show_6 rfl ?_
  refine s_callVi X hR (m_isPaper np _ _ hn hp) rfl 11 (by decide) (o66 np) (k66 np) rfl u1151 u1148 u1150 qp39 u12 hyX11_isPaper (by decide) (by decide) (Nat.le_of_ble_eq_true rfl) dX11_show_7 (fun v_7 m_7 h_7 => ?_)
  obtain ⟨e1, e2⟩ := h_7; have e1 := e1.symm; have e2 := e2.symm; subst e1; subst e2
  refine j_ifb_eq X 30 dX11_show_10 (by decide) (fun c_10 => ?_) (fun c_10 => ?_)
  · exfalso
    clear hE hr hR X
    have e1 : (-1 : Int32).toInt = -1 := by decide
    (try simp only [lg_cmp_lt, lg_cmp_gt, lg_cmp_le, lg_cmp_ge] at *); (try simp (disch := omega) only [Int64.le_iff_toInt_le, Int64.lt_iff_toInt_lt, Int32.le_iff_toInt_le, Int32.lt_iff_toInt_lt, fa_eq, fa_lit, fa_litL, nI_toInt, pk_lT, Int32.toInt_toInt64, jadd64, jin, jnoneT] at *); omega
  · refine j_iload_n X dX11_show_13 rfl ?_
    refine j_i2l X dX11_show_14 ?_
    refine j_lconst X dX11_show_15 0 (by decide) ?_
    refine j_ldc2 X dX11_show_16 u1152 ?_
    refine s_callSi X hR (m_inI np _ _ _ _ 0 15 rfl rfl) rfl u1087 u1085 u1086 u12 hyX11_in (by decide) (by decide) (Nat.le_of_ble_eq_true rfl) dX11_show_19 (fun v_19 m_19 h_19 => ?_)
    obtain ⟨e1, e2⟩ := h_19; have e1 := e1.symm; have e2 := e2.symm; subst e1; subst e2
    refine j_ifb_eq X 30 dX11_show_22 (by decide) (fun c_22 => ?_) (fun c_22 => ?_)
    · exfalso
      clear hE hr hR X
      have e1 : (-1 : Int32).toInt = -1 := by decide
      (try simp only [lg_cmp_lt, lg_cmp_gt, lg_cmp_le, lg_cmp_ge] at *); (try simp (disch := omega) only [Int64.le_iff_toInt_le, Int64.lt_iff_toInt_lt, Int32.le_iff_toInt_le, Int32.lt_iff_toInt_lt, fa_eq, fa_lit, fa_litL, nI_toInt, pk_lT, Int32.toInt_toInt64, jadd64, jin, jnoneT] at *); omega
    · refine j_iload_n X dX11_show_25 rfl ?_
      refine j_iconst X dX11_show_26 (-1) (by decide) ?_
      refine j_icmp_ge X 33 dX11_show_27 (by decide) (fun c_27 => ?_) (fun c_27 => absurd c_27 (by decide))
      refine j_aload_n X dX11_show_33 rfl ?_
      refine j_iload_n X dX11_show_34 rfl ?_
      refine j_iload_n X dX11_show_35 rfl ?_
      refine s_callVi X hR (m_showAll1 np _ _ (by omega)) rfl 11 (by decide) (o66 np) (k66 np) rfl u1198 u1195 u1197 qp46 u12 hyX11_showAll (by decide) (by decide) (Nat.le_of_ble_eq_true rfl) dX11_show_36 (fun v_36 m_36 h_36 => ?_)
      obtain ⟨e1, e2⟩ := h_36; have e1 := e1.symm; have e2 := e2.symm; subst e1; subst e2
      refine j_istore X dX11_show_39 (by decide) ?_
      refine j_iload_n X dX11_show_41 rfl ?_
      refine j_iconst X dX11_show_42 (-1) (by decide) ?_
      refine j_icmp_ne X 51 dX11_show_43 (by decide) (fun c_43 => ?_) (fun c_43 => absurd c_43 (by decide))
      refine j_iload_n X dX11_show_51 rfl ?_
      refine j_iload X dX11_show_52 rfl ?_
      refine j_icmp_ge X 66 dX11_show_54 (by decide) (fun c_54 => absurd c_54 (by decide)) (fun c_54 => ?_)
      refine j_aload_n X dX11_show_57 rfl ?_
      refine j_getR X 11 12 (by decide) (by decide) rfl u962 (o66 np) (k66 np) _ (p66_12 np) dX11_show_58 ?_
      refine j_iload_n X dX11_show_61 rfl ?_
      refine j_nrm _ (by first | (simp only [fa_lit, pk_mul, nI_add]; done) | (simp only [fa_lit, pk_mul, nI_add]; rfl) | rfl) ?_
      refine j_ialdN X (o76 np) (k76 np) (n := 1) (by rw [l76]; decide) (by rw [l76]; decide) _ rfl dX11_show_62 ?_
      refine j_goto X 68 dX11_show_63 (by decide) ?_
      refine s_iret X hE hr dX11_show_68 rfl ?_
      exact ⟨rfl, by repeat (first | exact jeq.rf | refine jeq.up ?_ (by decide))⟩
set_option maxRecDepth 4000 in
set_option maxHeartbeats 1000000 in
theorem m_show1_2 (np : Nat) (mem : jMem) (p : Nat) (hn : np ≤ 12) (hp : mem 66 9 = nI np) (hp2 : p < np) : jPi yX11_show cX11_show 5 .int 4 [.ref 66, .int (nI p), .int 1, .int 2] np mem (fun v c => v = (jJoin (jLeaf (nI p) 2 (mem 74 (9 * p + 7))) (jLeaf (nI p) 3 (mem 74 (9 * p + 8)))) ∧ jeq [76] (jup mem 66 0 0) c) := by
  refine jPi.of (own := RX11) rfl rfl (Nat.le_of_ble_eq_true rfl) (fun G X hR hr hE => ?_)
  refine j_aload_n X dX11_show_0 rfl ?_
  refine j_iconst X dX11_show_1 0 (by decide) ?_
  refine j_putI X 11 0 (by decide) (by decide) rfl rfl rfl rfl u950 (o66 np) (k66 np) dX11_show_2 ?_
  refine j_aload_n X dX11_show_5 rfl ?_
  refine j_iload_n X dX11_show_6 rfl ?_
  refine s_callVi X hR (m_isPaper np _ _ hn hp) rfl 11 (by decide) (o66 np) (k66 np) rfl u1151 u1148 u1150 qp39 u12 hyX11_isPaper (by decide) (by decide) (Nat.le_of_ble_eq_true rfl) dX11_show_7 (fun v_7 m_7 h_7 => ?_)
  obtain ⟨e1, e2⟩ := h_7; have e1 := e1.symm; have e2 := e2.symm; subst e1; subst e2
  refine j_ifb_eq X 30 dX11_show_10 (by decide) (fun c_10 => ?_) (fun c_10 => ?_)
  · exfalso
    clear hE hr hR X
    have e1 : (-1 : Int32).toInt = -1 := by decide
    (try simp only [lg_cmp_lt, lg_cmp_gt, lg_cmp_le, lg_cmp_ge] at *); (try simp (disch := omega) only [Int64.le_iff_toInt_le, Int64.lt_iff_toInt_lt, Int32.le_iff_toInt_le, Int32.lt_iff_toInt_lt, fa_eq, fa_lit, fa_litL, nI_toInt, pk_lT, Int32.toInt_toInt64, jadd64, jin, jnoneT] at *); omega
  · refine j_iload_n X dX11_show_13 rfl ?_
    refine j_i2l X dX11_show_14 ?_
    refine j_lconst X dX11_show_15 0 (by decide) ?_
    refine j_ldc2 X dX11_show_16 u1152 ?_
    refine s_callSi X hR (m_inI np _ _ _ _ 0 15 rfl rfl) rfl u1087 u1085 u1086 u12 hyX11_in (by decide) (by decide) (Nat.le_of_ble_eq_true rfl) dX11_show_19 (fun v_19 m_19 h_19 => ?_)
    obtain ⟨e1, e2⟩ := h_19; have e1 := e1.symm; have e2 := e2.symm; subst e1; subst e2
    refine j_ifb_eq X 30 dX11_show_22 (by decide) (fun c_22 => ?_) (fun c_22 => ?_)
    · exfalso
      clear hE hr hR X
      have e1 : (-1 : Int32).toInt = -1 := by decide
      (try simp only [lg_cmp_lt, lg_cmp_gt, lg_cmp_le, lg_cmp_ge] at *); (try simp (disch := omega) only [Int64.le_iff_toInt_le, Int64.lt_iff_toInt_lt, Int32.le_iff_toInt_le, Int32.lt_iff_toInt_lt, fa_eq, fa_lit, fa_litL, nI_toInt, pk_lT, Int32.toInt_toInt64, jadd64, jin, jnoneT] at *); omega
    · refine j_iload_n X dX11_show_25 rfl ?_
      refine j_iconst X dX11_show_26 (-1) (by decide) ?_
      refine j_icmp_ge X 33 dX11_show_27 (by decide) (fun c_27 => ?_) (fun c_27 => absurd c_27 (by decide))
      refine j_aload_n X dX11_show_33 rfl ?_
      refine j_iload_n X dX11_show_34 rfl ?_
      refine j_iload_n X dX11_show_35 rfl ?_
      refine s_callVi X hR (m_showAll1 np _ _ (by omega)) rfl 11 (by decide) (o66 np) (k66 np) rfl u1198 u1195 u1197 qp46 u12 hyX11_showAll (by decide) (by decide) (Nat.le_of_ble_eq_true rfl) dX11_show_36 (fun v_36 m_36 h_36 => ?_)
      obtain ⟨e1, e2⟩ := h_36; have e1 := e1.symm; have e2 := e2.symm; subst e1; subst e2
      refine j_istore X dX11_show_39 (by decide) ?_
      refine j_iload_n X dX11_show_41 rfl ?_
      refine j_iconst X dX11_show_42 (-1) (by decide) ?_
      refine j_icmp_ne X 51 dX11_show_43 (by decide) (fun c_43 => ?_) (fun c_43 => absurd c_43 (by decide))
      refine j_iload_n X dX11_show_51 rfl ?_
      refine j_iload X dX11_show_52 rfl ?_
      refine j_icmp_ge X 66 dX11_show_54 (by decide) (fun c_54 => absurd c_54 (by decide)) (fun c_54 => ?_)
      refine j_aload_n X dX11_show_57 rfl ?_
      refine j_getR X 11 12 (by decide) (by decide) rfl u962 (o66 np) (k66 np) _ (p66_12 np) dX11_show_58 ?_
      refine j_iload_n X dX11_show_61 rfl ?_
      refine j_nrm _ (by first | (simp only [fa_lit, pk_mul, nI_add]; done) | (simp only [fa_lit, pk_mul, nI_add]; rfl) | rfl) ?_
      refine j_ialdN X (o76 np) (k76 np) (n := 2) (by rw [l76]; decide) (by rw [l76]; decide) _ rfl dX11_show_62 ?_
      refine j_goto X 68 dX11_show_63 (by decide) ?_
      refine s_iret X hE hr dX11_show_68 rfl ?_
      exact ⟨rfl, by repeat (first | exact jeq.rf | refine jeq.up ?_ (by decide))⟩
set_option maxRecDepth 4000 in
set_option maxHeartbeats 1000000 in
theorem m_show2_n (np : Nat) (mem : jMem) (p : Nat) (hn : np ≤ 12) (hp : mem 66 9 = nI np) (hp2 : p < np) : jPi yX11_show cX11_show 5 .int 4 [.ref 66, .int (nI p), .int 2, .int (-1)] np mem (fun v c => v = 3 ∧ jeq [76] (jup mem 66 0 0) c) := by
  refine jPi.of (own := RX11) rfl rfl (Nat.le_of_ble_eq_true rfl) (fun G X hR hr hE => ?_)
  refine j_aload_n X dX11_show_0 rfl ?_
  refine j_iconst X dX11_show_1 0 (by decide) ?_
  refine j_putI X 11 0 (by decide) (by decide) rfl rfl rfl rfl u950 (o66 np) (k66 np) dX11_show_2 ?_
  refine j_aload_n X dX11_show_5 rfl ?_
  refine j_iload_n X dX11_show_6 rfl ?_
  refine s_callVi X hR (m_isPaper np _ _ hn hp) rfl 11 (by decide) (o66 np) (k66 np) rfl u1151 u1148 u1150 qp39 u12 hyX11_isPaper (by decide) (by decide) (Nat.le_of_ble_eq_true rfl) dX11_show_7 (fun v_7 m_7 h_7 => ?_)
  obtain ⟨e1, e2⟩ := h_7; have e1 := e1.symm; have e2 := e2.symm; subst e1; subst e2
  refine j_ifb_eq X 30 dX11_show_10 (by decide) (fun c_10 => ?_) (fun c_10 => ?_)
  · exfalso
    clear hE hr hR X
    have e1 : (-1 : Int32).toInt = -1 := by decide
    (try simp only [lg_cmp_lt, lg_cmp_gt, lg_cmp_le, lg_cmp_ge] at *); (try simp (disch := omega) only [Int64.le_iff_toInt_le, Int64.lt_iff_toInt_lt, Int32.le_iff_toInt_le, Int32.lt_iff_toInt_lt, fa_eq, fa_lit, fa_litL, nI_toInt, pk_lT, Int32.toInt_toInt64, jadd64, jin, jnoneT] at *); omega
  · refine j_iload_n X dX11_show_13 rfl ?_
    refine j_i2l X dX11_show_14 ?_
    refine j_lconst X dX11_show_15 0 (by decide) ?_
    refine j_ldc2 X dX11_show_16 u1152 ?_
    refine s_callSi X hR (m_inI np _ _ _ _ 0 15 rfl rfl) rfl u1087 u1085 u1086 u12 hyX11_in (by decide) (by decide) (Nat.le_of_ble_eq_true rfl) dX11_show_19 (fun v_19 m_19 h_19 => ?_)
    obtain ⟨e1, e2⟩ := h_19; have e1 := e1.symm; have e2 := e2.symm; subst e1; subst e2
    refine j_ifb_eq X 30 dX11_show_22 (by decide) (fun c_22 => ?_) (fun c_22 => ?_)
    · exfalso
      clear hE hr hR X
      have e1 : (-1 : Int32).toInt = -1 := by decide
      (try simp only [lg_cmp_lt, lg_cmp_gt, lg_cmp_le, lg_cmp_ge] at *); (try simp (disch := omega) only [Int64.le_iff_toInt_le, Int64.lt_iff_toInt_lt, Int32.le_iff_toInt_le, Int32.lt_iff_toInt_lt, fa_eq, fa_lit, fa_litL, nI_toInt, pk_lT, Int32.toInt_toInt64, jadd64, jin, jnoneT] at *); omega
    · refine j_iload_n X dX11_show_25 rfl ?_
      refine j_iconst X dX11_show_26 (-1) (by decide) ?_
      refine j_icmp_ge X 33 dX11_show_27 (by decide) (fun c_27 => ?_) (fun c_27 => absurd c_27 (by decide))
      refine j_aload_n X dX11_show_33 rfl ?_
      refine j_iload_n X dX11_show_34 rfl ?_
      refine j_iload_n X dX11_show_35 rfl ?_
      refine s_callVi X hR (m_showAll2 np _ _ (by omega)) rfl 11 (by decide) (o66 np) (k66 np) rfl u1198 u1195 u1197 qp46 u12 hyX11_showAll (by decide) (by decide) (Nat.le_of_ble_eq_true rfl) dX11_show_36 (fun v_36 m_36 h_36 => ?_)
      obtain ⟨e1, e2⟩ := h_36; have e1 := e1.symm; have e2 := e2.symm; subst e1; subst e2
      refine j_istore X dX11_show_39 (by decide) ?_
      refine j_iload_n X dX11_show_41 rfl ?_
      refine j_iconst X dX11_show_42 (-1) (by decide) ?_
      refine j_icmp_ne X 51 dX11_show_43 (by decide) (fun c_43 => absurd c_43 (by decide)) (fun c_43 => ?_)
      refine j_iload X dX11_show_46 rfl ?_
      refine j_goto X 68 dX11_show_48 (by decide) ?_
      refine s_iret X hE hr dX11_show_68 rfl ?_
      exact ⟨rfl, by repeat (first | exact jeq.rf | refine jeq.up ?_ (by decide))⟩
set_option maxRecDepth 4000 in
set_option maxHeartbeats 1000000 in
theorem m_show2_none (np : Nat) (mem : jMem) (p : Nat) (i : Int32) (hn : np ≤ 12) (hp : mem 66 9 = nI np) (hp2 : p < np) (hi : 3 ≤ i.toInt) : jPi yX11_show cX11_show 5 .int 4 [.ref 66, .int (nI p), .int 2, .int i] np mem (fun v c => v = -1000000 ∧ jeq [76] (jup mem 66 0 0) c) := by
  refine jPi.of (own := RX11) rfl rfl (Nat.le_of_ble_eq_true rfl) (fun G X hR hr hE => ?_)
  refine j_aload_n X dX11_show_0 rfl ?_
  refine j_iconst X dX11_show_1 0 (by decide) ?_
  refine j_putI X 11 0 (by decide) (by decide) rfl rfl rfl rfl u950 (o66 np) (k66 np) dX11_show_2 ?_
  refine j_aload_n X dX11_show_5 rfl ?_
  refine j_iload_n X dX11_show_6 rfl ?_
  refine s_callVi X hR (m_isPaper np _ _ hn hp) rfl 11 (by decide) (o66 np) (k66 np) rfl u1151 u1148 u1150 qp39 u12 hyX11_isPaper (by decide) (by decide) (Nat.le_of_ble_eq_true rfl) dX11_show_7 (fun v_7 m_7 h_7 => ?_)
  obtain ⟨e1, e2⟩ := h_7; have e1 := e1.symm; have e2 := e2.symm; subst e1; subst e2
  refine j_ifb_eq X 30 dX11_show_10 (by decide) (fun c_10 => ?_) (fun c_10 => ?_)
  · exfalso
    clear hE hr hR X
    have e1 : (-1 : Int32).toInt = -1 := by decide
    (try simp only [lg_cmp_lt, lg_cmp_gt, lg_cmp_le, lg_cmp_ge] at *); (try simp (disch := omega) only [Int64.le_iff_toInt_le, Int64.lt_iff_toInt_lt, Int32.le_iff_toInt_le, Int32.lt_iff_toInt_lt, fa_eq, fa_lit, fa_litL, nI_toInt, pk_lT, Int32.toInt_toInt64, jadd64, jin, jnoneT] at *); omega
  · refine j_iload_n X dX11_show_13 rfl ?_
    refine j_i2l X dX11_show_14 ?_
    refine j_lconst X dX11_show_15 0 (by decide) ?_
    refine j_ldc2 X dX11_show_16 u1152 ?_
    refine s_callSi X hR (m_inI np _ _ _ _ 0 15 rfl rfl) rfl u1087 u1085 u1086 u12 hyX11_in (by decide) (by decide) (Nat.le_of_ble_eq_true rfl) dX11_show_19 (fun v_19 m_19 h_19 => ?_)
    obtain ⟨e1, e2⟩ := h_19; have e1 := e1.symm; have e2 := e2.symm; subst e1; subst e2
    refine j_ifb_eq X 30 dX11_show_22 (by decide) (fun c_22 => ?_) (fun c_22 => ?_)
    · exfalso
      clear hE hr hR X
      have e1 : (-1 : Int32).toInt = -1 := by decide
      (try simp only [lg_cmp_lt, lg_cmp_gt, lg_cmp_le, lg_cmp_ge] at *); (try simp (disch := omega) only [Int64.le_iff_toInt_le, Int64.lt_iff_toInt_lt, Int32.le_iff_toInt_le, Int32.lt_iff_toInt_lt, fa_eq, fa_lit, fa_litL, nI_toInt, pk_lT, Int32.toInt_toInt64, jadd64, jin, jnoneT] at *); omega
    · refine j_iload_n X dX11_show_25 rfl ?_
      refine j_iconst X dX11_show_26 (-1) (by decide) ?_
      refine j_icmp_ge X 33 dX11_show_27 (by decide) (fun c_27 => ?_) (fun c_27 => ?_)
      · refine j_aload_n X dX11_show_33 rfl ?_
        refine j_iload_n X dX11_show_34 rfl ?_
        refine j_iload_n X dX11_show_35 rfl ?_
        refine s_callVi X hR (m_showAll2 np _ _ (by omega)) rfl 11 (by decide) (o66 np) (k66 np) rfl u1198 u1195 u1197 qp46 u12 hyX11_showAll (by decide) (by decide) (Nat.le_of_ble_eq_true rfl) dX11_show_36 (fun v_36 m_36 h_36 => ?_)
        obtain ⟨e1, e2⟩ := h_36; have e1 := e1.symm; have e2 := e2.symm; subst e1; subst e2
        refine j_istore X dX11_show_39 (by decide) ?_
        refine j_iload_n X dX11_show_41 rfl ?_
        refine j_iconst X dX11_show_42 (-1) (by decide) ?_
        refine j_icmp_ne X 51 dX11_show_43 (by decide) (fun c_43 => ?_) (fun c_43 => ?_)
        · refine j_iload_n X dX11_show_51 rfl ?_
          refine j_iload X dX11_show_52 rfl ?_
          refine j_icmp_ge X 66 dX11_show_54 (by decide) (fun c_54 => ?_) (fun c_54 => ?_)
          · refine j_ldc X dX11_show_66 u949 ?_
            refine s_iret X hE hr dX11_show_68 rfl ?_
            exact ⟨rfl, by repeat (first | exact jeq.rf | refine jeq.up ?_ (by decide))⟩
          · exfalso
            clear hE hr hR X
            have e1 : (-1 : Int32).toInt = -1 := by decide
            (try simp only [lg_cmp_lt, lg_cmp_gt, lg_cmp_le, lg_cmp_ge] at *); (try simp (disch := omega) only [Int64.le_iff_toInt_le, Int64.lt_iff_toInt_lt, Int32.le_iff_toInt_le, Int32.lt_iff_toInt_lt, fa_eq, fa_lit, fa_litL, nI_toInt, pk_lT, Int32.toInt_toInt64, jadd64, jin, jnoneT] at *); omega
        · exfalso
          clear hE hr hR X
          have e1 : (-1 : Int32).toInt = -1 := by decide
          (try simp only [lg_cmp_lt, lg_cmp_gt, lg_cmp_le, lg_cmp_ge] at *); (try simp (disch := omega) only [Int64.le_iff_toInt_le, Int64.lt_iff_toInt_lt, Int32.le_iff_toInt_le, Int32.lt_iff_toInt_lt, fa_eq, fa_lit, fa_litL, nI_toInt, pk_lT, Int32.toInt_toInt64, jadd64, jin, jnoneT] at *); omega
      · exfalso
        clear hE hr hR X
        have e1 : (-1 : Int32).toInt = -1 := by decide
        (try simp only [lg_cmp_lt, lg_cmp_gt, lg_cmp_le, lg_cmp_ge] at *); (try simp (disch := omega) only [Int64.le_iff_toInt_le, Int64.lt_iff_toInt_lt, Int32.le_iff_toInt_le, Int32.lt_iff_toInt_lt, fa_eq, fa_lit, fa_litL, nI_toInt, pk_lT, Int32.toInt_toInt64, jadd64, jin, jnoneT] at *); omega
set_option maxRecDepth 4000 in
set_option maxHeartbeats 1000000 in
theorem m_show2_0 (np : Nat) (mem : jMem) (p : Nat) (hn : np ≤ 12) (hp : mem 66 9 = nI np) (hp2 : p < np) : jPi yX11_show cX11_show 5 .int 4 [.ref 66, .int (nI p), .int 2, .int 0] np mem (fun v c => v = (jLeaf (nI p) 0 (mem 74 (9 * p + 5))) ∧ jeq [76] (jup mem 66 0 0) c) := by
  refine jPi.of (own := RX11) rfl rfl (Nat.le_of_ble_eq_true rfl) (fun G X hR hr hE => ?_)
  refine j_aload_n X dX11_show_0 rfl ?_
  refine j_iconst X dX11_show_1 0 (by decide) ?_
  refine j_putI X 11 0 (by decide) (by decide) rfl rfl rfl rfl u950 (o66 np) (k66 np) dX11_show_2 ?_
  refine j_aload_n X dX11_show_5 rfl ?_
  refine j_iload_n X dX11_show_6 rfl ?_
  refine s_callVi X hR (m_isPaper np _ _ hn hp) rfl 11 (by decide) (o66 np) (k66 np) rfl u1151 u1148 u1150 qp39 u12 hyX11_isPaper (by decide) (by decide) (Nat.le_of_ble_eq_true rfl) dX11_show_7 (fun v_7 m_7 h_7 => ?_)
  obtain ⟨e1, e2⟩ := h_7; have e1 := e1.symm; have e2 := e2.symm; subst e1; subst e2
  refine j_ifb_eq X 30 dX11_show_10 (by decide) (fun c_10 => ?_) (fun c_10 => ?_)
  · exfalso
    clear hE hr hR X
    have e1 : (-1 : Int32).toInt = -1 := by decide
    (try simp only [lg_cmp_lt, lg_cmp_gt, lg_cmp_le, lg_cmp_ge] at *); (try simp (disch := omega) only [Int64.le_iff_toInt_le, Int64.lt_iff_toInt_lt, Int32.le_iff_toInt_le, Int32.lt_iff_toInt_lt, fa_eq, fa_lit, fa_litL, nI_toInt, pk_lT, Int32.toInt_toInt64, jadd64, jin, jnoneT] at *); omega
  · refine j_iload_n X dX11_show_13 rfl ?_
    refine j_i2l X dX11_show_14 ?_
    refine j_lconst X dX11_show_15 0 (by decide) ?_
    refine j_ldc2 X dX11_show_16 u1152 ?_
    refine s_callSi X hR (m_inI np _ _ _ _ 0 15 rfl rfl) rfl u1087 u1085 u1086 u12 hyX11_in (by decide) (by decide) (Nat.le_of_ble_eq_true rfl) dX11_show_19 (fun v_19 m_19 h_19 => ?_)
    obtain ⟨e1, e2⟩ := h_19; have e1 := e1.symm; have e2 := e2.symm; subst e1; subst e2
    refine j_ifb_eq X 30 dX11_show_22 (by decide) (fun c_22 => ?_) (fun c_22 => ?_)
    · exfalso
      clear hE hr hR X
      have e1 : (-1 : Int32).toInt = -1 := by decide
      (try simp only [lg_cmp_lt, lg_cmp_gt, lg_cmp_le, lg_cmp_ge] at *); (try simp (disch := omega) only [Int64.le_iff_toInt_le, Int64.lt_iff_toInt_lt, Int32.le_iff_toInt_le, Int32.lt_iff_toInt_lt, fa_eq, fa_lit, fa_litL, nI_toInt, pk_lT, Int32.toInt_toInt64, jadd64, jin, jnoneT] at *); omega
    · refine j_iload_n X dX11_show_25 rfl ?_
      refine j_iconst X dX11_show_26 (-1) (by decide) ?_
      refine j_icmp_ge X 33 dX11_show_27 (by decide) (fun c_27 => ?_) (fun c_27 => absurd c_27 (by decide))
      refine j_aload_n X dX11_show_33 rfl ?_
      refine j_iload_n X dX11_show_34 rfl ?_
      refine j_iload_n X dX11_show_35 rfl ?_
      refine s_callVi X hR (m_showAll2 np _ _ (by omega)) rfl 11 (by decide) (o66 np) (k66 np) rfl u1198 u1195 u1197 qp46 u12 hyX11_showAll (by decide) (by decide) (Nat.le_of_ble_eq_true rfl) dX11_show_36 (fun v_36 m_36 h_36 => ?_)
      obtain ⟨e1, e2⟩ := h_36; have e1 := e1.symm; have e2 := e2.symm; subst e1; subst e2
      refine j_istore X dX11_show_39 (by decide) ?_
      refine j_iload_n X dX11_show_41 rfl ?_
      refine j_iconst X dX11_show_42 (-1) (by decide) ?_
      refine j_icmp_ne X 51 dX11_show_43 (by decide) (fun c_43 => ?_) (fun c_43 => absurd c_43 (by decide))
      refine j_iload_n X dX11_show_51 rfl ?_
      refine j_iload X dX11_show_52 rfl ?_
      refine j_icmp_ge X 66 dX11_show_54 (by decide) (fun c_54 => absurd c_54 (by decide)) (fun c_54 => ?_)
      refine j_aload_n X dX11_show_57 rfl ?_
      refine j_getR X 11 12 (by decide) (by decide) rfl u962 (o66 np) (k66 np) _ (p66_12 np) dX11_show_58 ?_
      refine j_iload_n X dX11_show_61 rfl ?_
      refine j_nrm _ (by first | (simp only [fa_lit, pk_mul, nI_add]; done) | (simp only [fa_lit, pk_mul, nI_add]; rfl) | rfl) ?_
      refine j_ialdN X (o76 np) (k76 np) (n := 0) (by rw [l76]; decide) (by rw [l76]; decide) _ rfl dX11_show_62 ?_
      refine j_goto X 68 dX11_show_63 (by decide) ?_
      refine s_iret X hE hr dX11_show_68 rfl ?_
      exact ⟨rfl, by repeat (first | exact jeq.rf | refine jeq.up ?_ (by decide))⟩
set_option maxRecDepth 4000 in
set_option maxHeartbeats 1000000 in
theorem m_show2_1 (np : Nat) (mem : jMem) (p : Nat) (hn : np ≤ 12) (hp : mem 66 9 = nI np) (hp2 : p < np) : jPi yX11_show cX11_show 5 .int 4 [.ref 66, .int (nI p), .int 2, .int 1] np mem (fun v c => v = (mem 74 (9 * p + 6)) ∧ jeq [76] (jup mem 66 0 0) c) := by
  refine jPi.of (own := RX11) rfl rfl (Nat.le_of_ble_eq_true rfl) (fun G X hR hr hE => ?_)
  refine j_aload_n X dX11_show_0 rfl ?_
  refine j_iconst X dX11_show_1 0 (by decide) ?_
  refine j_putI X 11 0 (by decide) (by decide) rfl rfl rfl rfl u950 (o66 np) (k66 np) dX11_show_2 ?_
  refine j_aload_n X dX11_show_5 rfl ?_
  refine j_iload_n X dX11_show_6 rfl ?_
  refine s_callVi X hR (m_isPaper np _ _ hn hp) rfl 11 (by decide) (o66 np) (k66 np) rfl u1151 u1148 u1150 qp39 u12 hyX11_isPaper (by decide) (by decide) (Nat.le_of_ble_eq_true rfl) dX11_show_7 (fun v_7 m_7 h_7 => ?_)
  obtain ⟨e1, e2⟩ := h_7; have e1 := e1.symm; have e2 := e2.symm; subst e1; subst e2
  refine j_ifb_eq X 30 dX11_show_10 (by decide) (fun c_10 => ?_) (fun c_10 => ?_)
  · exfalso
    clear hE hr hR X
    have e1 : (-1 : Int32).toInt = -1 := by decide
    (try simp only [lg_cmp_lt, lg_cmp_gt, lg_cmp_le, lg_cmp_ge] at *); (try simp (disch := omega) only [Int64.le_iff_toInt_le, Int64.lt_iff_toInt_lt, Int32.le_iff_toInt_le, Int32.lt_iff_toInt_lt, fa_eq, fa_lit, fa_litL, nI_toInt, pk_lT, Int32.toInt_toInt64, jadd64, jin, jnoneT] at *); omega
  · refine j_iload_n X dX11_show_13 rfl ?_
    refine j_i2l X dX11_show_14 ?_
    refine j_lconst X dX11_show_15 0 (by decide) ?_
    refine j_ldc2 X dX11_show_16 u1152 ?_
    refine s_callSi X hR (m_inI np _ _ _ _ 0 15 rfl rfl) rfl u1087 u1085 u1086 u12 hyX11_in (by decide) (by decide) (Nat.le_of_ble_eq_true rfl) dX11_show_19 (fun v_19 m_19 h_19 => ?_)
    obtain ⟨e1, e2⟩ := h_19; have e1 := e1.symm; have e2 := e2.symm; subst e1; subst e2
    refine j_ifb_eq X 30 dX11_show_22 (by decide) (fun c_22 => ?_) (fun c_22 => ?_)
    · exfalso
      clear hE hr hR X
      have e1 : (-1 : Int32).toInt = -1 := by decide
      (try simp only [lg_cmp_lt, lg_cmp_gt, lg_cmp_le, lg_cmp_ge] at *); (try simp (disch := omega) only [Int64.le_iff_toInt_le, Int64.lt_iff_toInt_lt, Int32.le_iff_toInt_le, Int32.lt_iff_toInt_lt, fa_eq, fa_lit, fa_litL, nI_toInt, pk_lT, Int32.toInt_toInt64, jadd64, jin, jnoneT] at *); omega
    · refine j_iload_n X dX11_show_25 rfl ?_
      refine j_iconst X dX11_show_26 (-1) (by decide) ?_
      refine j_icmp_ge X 33 dX11_show_27 (by decide) (fun c_27 => ?_) (fun c_27 => absurd c_27 (by decide))
      refine j_aload_n X dX11_show_33 rfl ?_
      refine j_iload_n X dX11_show_34 rfl ?_
      refine j_iload_n X dX11_show_35 rfl ?_
      refine s_callVi X hR (m_showAll2 np _ _ (by omega)) rfl 11 (by decide) (o66 np) (k66 np) rfl u1198 u1195 u1197 qp46 u12 hyX11_showAll (by decide) (by decide) (Nat.le_of_ble_eq_true rfl) dX11_show_36 (fun v_36 m_36 h_36 => ?_)
      obtain ⟨e1, e2⟩ := h_36; have e1 := e1.symm; have e2 := e2.symm; subst e1; subst e2
      refine j_istore X dX11_show_39 (by decide) ?_
      refine j_iload_n X dX11_show_41 rfl ?_
      refine j_iconst X dX11_show_42 (-1) (by decide) ?_
      refine j_icmp_ne X 51 dX11_show_43 (by decide) (fun c_43 => ?_) (fun c_43 => absurd c_43 (by decide))
      refine j_iload_n X dX11_show_51 rfl ?_
      refine j_iload X dX11_show_52 rfl ?_
      refine j_icmp_ge X 66 dX11_show_54 (by decide) (fun c_54 => absurd c_54 (by decide)) (fun c_54 => ?_)
      refine j_aload_n X dX11_show_57 rfl ?_
      refine j_getR X 11 12 (by decide) (by decide) rfl u962 (o66 np) (k66 np) _ (p66_12 np) dX11_show_58 ?_
      refine j_iload_n X dX11_show_61 rfl ?_
      refine j_nrm _ (by first | (simp only [fa_lit, pk_mul, nI_add]; done) | (simp only [fa_lit, pk_mul, nI_add]; rfl) | rfl) ?_
      refine j_ialdN X (o76 np) (k76 np) (n := 1) (by rw [l76]; decide) (by rw [l76]; decide) _ rfl dX11_show_62 ?_
      refine j_goto X 68 dX11_show_63 (by decide) ?_
      refine s_iret X hE hr dX11_show_68 rfl ?_
      exact ⟨rfl, by repeat (first | exact jeq.rf | refine jeq.up ?_ (by decide))⟩
set_option maxRecDepth 4000 in
set_option maxHeartbeats 1000000 in
theorem m_show2_2 (np : Nat) (mem : jMem) (p : Nat) (hn : np ≤ 12) (hp : mem 66 9 = nI np) (hp2 : p < np) : jPi yX11_show cX11_show 5 .int 4 [.ref 66, .int (nI p), .int 2, .int 2] np mem (fun v c => v = (jJoin (jLeaf (nI p) 2 (mem 74 (9 * p + 7))) (jLeaf (nI p) 3 (mem 74 (9 * p + 8)))) ∧ jeq [76] (jup mem 66 0 0) c) := by
  refine jPi.of (own := RX11) rfl rfl (Nat.le_of_ble_eq_true rfl) (fun G X hR hr hE => ?_)
  refine j_aload_n X dX11_show_0 rfl ?_
  refine j_iconst X dX11_show_1 0 (by decide) ?_
  refine j_putI X 11 0 (by decide) (by decide) rfl rfl rfl rfl u950 (o66 np) (k66 np) dX11_show_2 ?_
  refine j_aload_n X dX11_show_5 rfl ?_
  refine j_iload_n X dX11_show_6 rfl ?_
  refine s_callVi X hR (m_isPaper np _ _ hn hp) rfl 11 (by decide) (o66 np) (k66 np) rfl u1151 u1148 u1150 qp39 u12 hyX11_isPaper (by decide) (by decide) (Nat.le_of_ble_eq_true rfl) dX11_show_7 (fun v_7 m_7 h_7 => ?_)
  obtain ⟨e1, e2⟩ := h_7; have e1 := e1.symm; have e2 := e2.symm; subst e1; subst e2
  refine j_ifb_eq X 30 dX11_show_10 (by decide) (fun c_10 => ?_) (fun c_10 => ?_)
  · exfalso
    clear hE hr hR X
    have e1 : (-1 : Int32).toInt = -1 := by decide
    (try simp only [lg_cmp_lt, lg_cmp_gt, lg_cmp_le, lg_cmp_ge] at *); (try simp (disch := omega) only [Int64.le_iff_toInt_le, Int64.lt_iff_toInt_lt, Int32.le_iff_toInt_le, Int32.lt_iff_toInt_lt, fa_eq, fa_lit, fa_litL, nI_toInt, pk_lT, Int32.toInt_toInt64, jadd64, jin, jnoneT] at *); omega
  · refine j_iload_n X dX11_show_13 rfl ?_
    refine j_i2l X dX11_show_14 ?_
    refine j_lconst X dX11_show_15 0 (by decide) ?_
    refine j_ldc2 X dX11_show_16 u1152 ?_
    refine s_callSi X hR (m_inI np _ _ _ _ 0 15 rfl rfl) rfl u1087 u1085 u1086 u12 hyX11_in (by decide) (by decide) (Nat.le_of_ble_eq_true rfl) dX11_show_19 (fun v_19 m_19 h_19 => ?_)
    obtain ⟨e1, e2⟩ := h_19; have e1 := e1.symm; have e2 := e2.symm; subst e1; subst e2
    refine j_ifb_eq X 30 dX11_show_22 (by decide) (fun c_22 => ?_) (fun c_22 => ?_)
    · exfalso
      clear hE hr hR X
      have e1 : (-1 : Int32).toInt = -1 := by decide
      (try simp only [lg_cmp_lt, lg_cmp_gt, lg_cmp_le, lg_cmp_ge] at *); (try simp (disch := omega) only [Int64.le_iff_toInt_le, Int64.lt_iff_toInt_lt, Int32.le_iff_toInt_le, Int32.lt_iff_toInt_lt, fa_eq, fa_lit, fa_litL, nI_toInt, pk_lT, Int32.toInt_toInt64, jadd64, jin, jnoneT] at *); omega
    · refine j_iload_n X dX11_show_25 rfl ?_
      refine j_iconst X dX11_show_26 (-1) (by decide) ?_
      refine j_icmp_ge X 33 dX11_show_27 (by decide) (fun c_27 => ?_) (fun c_27 => absurd c_27 (by decide))
      refine j_aload_n X dX11_show_33 rfl ?_
      refine j_iload_n X dX11_show_34 rfl ?_
      refine j_iload_n X dX11_show_35 rfl ?_
      refine s_callVi X hR (m_showAll2 np _ _ (by omega)) rfl 11 (by decide) (o66 np) (k66 np) rfl u1198 u1195 u1197 qp46 u12 hyX11_showAll (by decide) (by decide) (Nat.le_of_ble_eq_true rfl) dX11_show_36 (fun v_36 m_36 h_36 => ?_)
      obtain ⟨e1, e2⟩ := h_36; have e1 := e1.symm; have e2 := e2.symm; subst e1; subst e2
      refine j_istore X dX11_show_39 (by decide) ?_
      refine j_iload_n X dX11_show_41 rfl ?_
      refine j_iconst X dX11_show_42 (-1) (by decide) ?_
      refine j_icmp_ne X 51 dX11_show_43 (by decide) (fun c_43 => ?_) (fun c_43 => absurd c_43 (by decide))
      refine j_iload_n X dX11_show_51 rfl ?_
      refine j_iload X dX11_show_52 rfl ?_
      refine j_icmp_ge X 66 dX11_show_54 (by decide) (fun c_54 => absurd c_54 (by decide)) (fun c_54 => ?_)
      refine j_aload_n X dX11_show_57 rfl ?_
      refine j_getR X 11 12 (by decide) (by decide) rfl u962 (o66 np) (k66 np) _ (p66_12 np) dX11_show_58 ?_
      refine j_iload_n X dX11_show_61 rfl ?_
      refine j_nrm _ (by first | (simp only [fa_lit, pk_mul, nI_add]; done) | (simp only [fa_lit, pk_mul, nI_add]; rfl) | rfl) ?_
      refine j_ialdN X (o76 np) (k76 np) (n := 2) (by rw [l76]; decide) (by rw [l76]; decide) _ rfl dX11_show_62 ?_
      refine j_goto X 68 dX11_show_63 (by decide) ?_
      refine s_iret X hE hr dX11_show_68 rfl ?_
      exact ⟨rfl, by repeat (first | exact jeq.rf | refine jeq.up ?_ (by decide))⟩
set_option maxRecDepth 4000 in
set_option maxHeartbeats 1000000 in
theorem m_show3_n (np : Nat) (mem : jMem) (p : Nat) (hn : np ≤ 12) (hp : mem 66 9 = nI np) (hp2 : p < np) : jPi yX11_show cX11_show 5 .int 4 [.ref 66, .int (nI p), .int 3, .int (-1)] np mem (fun v c => v = 3 ∧ jeq [76] (jup mem 66 0 0) c) := by
  refine jPi.of (own := RX11) rfl rfl (Nat.le_of_ble_eq_true rfl) (fun G X hR hr hE => ?_)
  refine j_aload_n X dX11_show_0 rfl ?_
  refine j_iconst X dX11_show_1 0 (by decide) ?_
  refine j_putI X 11 0 (by decide) (by decide) rfl rfl rfl rfl u950 (o66 np) (k66 np) dX11_show_2 ?_
  refine j_aload_n X dX11_show_5 rfl ?_
  refine j_iload_n X dX11_show_6 rfl ?_
  refine s_callVi X hR (m_isPaper np _ _ hn hp) rfl 11 (by decide) (o66 np) (k66 np) rfl u1151 u1148 u1150 qp39 u12 hyX11_isPaper (by decide) (by decide) (Nat.le_of_ble_eq_true rfl) dX11_show_7 (fun v_7 m_7 h_7 => ?_)
  obtain ⟨e1, e2⟩ := h_7; have e1 := e1.symm; have e2 := e2.symm; subst e1; subst e2
  refine j_ifb_eq X 30 dX11_show_10 (by decide) (fun c_10 => ?_) (fun c_10 => ?_)
  · exfalso
    clear hE hr hR X
    have e1 : (-1 : Int32).toInt = -1 := by decide
    (try simp only [lg_cmp_lt, lg_cmp_gt, lg_cmp_le, lg_cmp_ge] at *); (try simp (disch := omega) only [Int64.le_iff_toInt_le, Int64.lt_iff_toInt_lt, Int32.le_iff_toInt_le, Int32.lt_iff_toInt_lt, fa_eq, fa_lit, fa_litL, nI_toInt, pk_lT, Int32.toInt_toInt64, jadd64, jin, jnoneT] at *); omega
  · refine j_iload_n X dX11_show_13 rfl ?_
    refine j_i2l X dX11_show_14 ?_
    refine j_lconst X dX11_show_15 0 (by decide) ?_
    refine j_ldc2 X dX11_show_16 u1152 ?_
    refine s_callSi X hR (m_inI np _ _ _ _ 0 15 rfl rfl) rfl u1087 u1085 u1086 u12 hyX11_in (by decide) (by decide) (Nat.le_of_ble_eq_true rfl) dX11_show_19 (fun v_19 m_19 h_19 => ?_)
    obtain ⟨e1, e2⟩ := h_19; have e1 := e1.symm; have e2 := e2.symm; subst e1; subst e2
    refine j_ifb_eq X 30 dX11_show_22 (by decide) (fun c_22 => ?_) (fun c_22 => ?_)
    · exfalso
      clear hE hr hR X
      have e1 : (-1 : Int32).toInt = -1 := by decide
      (try simp only [lg_cmp_lt, lg_cmp_gt, lg_cmp_le, lg_cmp_ge] at *); (try simp (disch := omega) only [Int64.le_iff_toInt_le, Int64.lt_iff_toInt_lt, Int32.le_iff_toInt_le, Int32.lt_iff_toInt_lt, fa_eq, fa_lit, fa_litL, nI_toInt, pk_lT, Int32.toInt_toInt64, jadd64, jin, jnoneT] at *); omega
    · refine j_iload_n X dX11_show_25 rfl ?_
      refine j_iconst X dX11_show_26 (-1) (by decide) ?_
      refine j_icmp_ge X 33 dX11_show_27 (by decide) (fun c_27 => ?_) (fun c_27 => absurd c_27 (by decide))
      refine j_aload_n X dX11_show_33 rfl ?_
      refine j_iload_n X dX11_show_34 rfl ?_
      refine j_iload_n X dX11_show_35 rfl ?_
      refine s_callVi X hR (m_showAll3 np _ _ (by omega)) rfl 11 (by decide) (o66 np) (k66 np) rfl u1198 u1195 u1197 qp46 u12 hyX11_showAll (by decide) (by decide) (Nat.le_of_ble_eq_true rfl) dX11_show_36 (fun v_36 m_36 h_36 => ?_)
      obtain ⟨e1, e2⟩ := h_36; have e1 := e1.symm; have e2 := e2.symm; subst e1; subst e2
      refine j_istore X dX11_show_39 (by decide) ?_
      refine j_iload_n X dX11_show_41 rfl ?_
      refine j_iconst X dX11_show_42 (-1) (by decide) ?_
      refine j_icmp_ne X 51 dX11_show_43 (by decide) (fun c_43 => absurd c_43 (by decide)) (fun c_43 => ?_)
      refine j_iload X dX11_show_46 rfl ?_
      refine j_goto X 68 dX11_show_48 (by decide) ?_
      refine s_iret X hE hr dX11_show_68 rfl ?_
      exact ⟨rfl, by repeat (first | exact jeq.rf | refine jeq.up ?_ (by decide))⟩
set_option maxRecDepth 4000 in
set_option maxHeartbeats 1000000 in
theorem m_show3_none (np : Nat) (mem : jMem) (p : Nat) (i : Int32) (hn : np ≤ 12) (hp : mem 66 9 = nI np) (hp2 : p < np) (hi : 3 ≤ i.toInt) : jPi yX11_show cX11_show 5 .int 4 [.ref 66, .int (nI p), .int 3, .int i] np mem (fun v c => v = -1000000 ∧ jeq [76] (jup mem 66 0 0) c) := by
  refine jPi.of (own := RX11) rfl rfl (Nat.le_of_ble_eq_true rfl) (fun G X hR hr hE => ?_)
  refine j_aload_n X dX11_show_0 rfl ?_
  refine j_iconst X dX11_show_1 0 (by decide) ?_
  refine j_putI X 11 0 (by decide) (by decide) rfl rfl rfl rfl u950 (o66 np) (k66 np) dX11_show_2 ?_
  refine j_aload_n X dX11_show_5 rfl ?_
  refine j_iload_n X dX11_show_6 rfl ?_
  refine s_callVi X hR (m_isPaper np _ _ hn hp) rfl 11 (by decide) (o66 np) (k66 np) rfl u1151 u1148 u1150 qp39 u12 hyX11_isPaper (by decide) (by decide) (Nat.le_of_ble_eq_true rfl) dX11_show_7 (fun v_7 m_7 h_7 => ?_)
  obtain ⟨e1, e2⟩ := h_7; have e1 := e1.symm; have e2 := e2.symm; subst e1; subst e2
  refine j_ifb_eq X 30 dX11_show_10 (by decide) (fun c_10 => ?_) (fun c_10 => ?_)
  · exfalso
    clear hE hr hR X
    have e1 : (-1 : Int32).toInt = -1 := by decide
    (try simp only [lg_cmp_lt, lg_cmp_gt, lg_cmp_le, lg_cmp_ge] at *); (try simp (disch := omega) only [Int64.le_iff_toInt_le, Int64.lt_iff_toInt_lt, Int32.le_iff_toInt_le, Int32.lt_iff_toInt_lt, fa_eq, fa_lit, fa_litL, nI_toInt, pk_lT, Int32.toInt_toInt64, jadd64, jin, jnoneT] at *); omega
  · refine j_iload_n X dX11_show_13 rfl ?_
    refine j_i2l X dX11_show_14 ?_
    refine j_lconst X dX11_show_15 0 (by decide) ?_
    refine j_ldc2 X dX11_show_16 u1152 ?_
    refine s_callSi X hR (m_inI np _ _ _ _ 0 15 rfl rfl) rfl u1087 u1085 u1086 u12 hyX11_in (by decide) (by decide) (Nat.le_of_ble_eq_true rfl) dX11_show_19 (fun v_19 m_19 h_19 => ?_)
    obtain ⟨e1, e2⟩ := h_19; have e1 := e1.symm; have e2 := e2.symm; subst e1; subst e2
    refine j_ifb_eq X 30 dX11_show_22 (by decide) (fun c_22 => ?_) (fun c_22 => ?_)
    · exfalso
      clear hE hr hR X
      have e1 : (-1 : Int32).toInt = -1 := by decide
      (try simp only [lg_cmp_lt, lg_cmp_gt, lg_cmp_le, lg_cmp_ge] at *); (try simp (disch := omega) only [Int64.le_iff_toInt_le, Int64.lt_iff_toInt_lt, Int32.le_iff_toInt_le, Int32.lt_iff_toInt_lt, fa_eq, fa_lit, fa_litL, nI_toInt, pk_lT, Int32.toInt_toInt64, jadd64, jin, jnoneT] at *); omega
    · refine j_iload_n X dX11_show_25 rfl ?_
      refine j_iconst X dX11_show_26 (-1) (by decide) ?_
      refine j_icmp_ge X 33 dX11_show_27 (by decide) (fun c_27 => ?_) (fun c_27 => ?_)
      · refine j_aload_n X dX11_show_33 rfl ?_
        refine j_iload_n X dX11_show_34 rfl ?_
        refine j_iload_n X dX11_show_35 rfl ?_
        refine s_callVi X hR (m_showAll3 np _ _ (by omega)) rfl 11 (by decide) (o66 np) (k66 np) rfl u1198 u1195 u1197 qp46 u12 hyX11_showAll (by decide) (by decide) (Nat.le_of_ble_eq_true rfl) dX11_show_36 (fun v_36 m_36 h_36 => ?_)
        obtain ⟨e1, e2⟩ := h_36; have e1 := e1.symm; have e2 := e2.symm; subst e1; subst e2
        refine j_istore X dX11_show_39 (by decide) ?_
        refine j_iload_n X dX11_show_41 rfl ?_
        refine j_iconst X dX11_show_42 (-1) (by decide) ?_
        refine j_icmp_ne X 51 dX11_show_43 (by decide) (fun c_43 => ?_) (fun c_43 => ?_)
        · refine j_iload_n X dX11_show_51 rfl ?_
          refine j_iload X dX11_show_52 rfl ?_
          refine j_icmp_ge X 66 dX11_show_54 (by decide) (fun c_54 => ?_) (fun c_54 => ?_)
          · refine j_ldc X dX11_show_66 u949 ?_
            refine s_iret X hE hr dX11_show_68 rfl ?_
            exact ⟨rfl, by repeat (first | exact jeq.rf | refine jeq.up ?_ (by decide))⟩
          · exfalso
            clear hE hr hR X
            have e1 : (-1 : Int32).toInt = -1 := by decide
            (try simp only [lg_cmp_lt, lg_cmp_gt, lg_cmp_le, lg_cmp_ge] at *); (try simp (disch := omega) only [Int64.le_iff_toInt_le, Int64.lt_iff_toInt_lt, Int32.le_iff_toInt_le, Int32.lt_iff_toInt_lt, fa_eq, fa_lit, fa_litL, nI_toInt, pk_lT, Int32.toInt_toInt64, jadd64, jin, jnoneT] at *); omega
        · exfalso
          clear hE hr hR X
          have e1 : (-1 : Int32).toInt = -1 := by decide
          (try simp only [lg_cmp_lt, lg_cmp_gt, lg_cmp_le, lg_cmp_ge] at *); (try simp (disch := omega) only [Int64.le_iff_toInt_le, Int64.lt_iff_toInt_lt, Int32.le_iff_toInt_le, Int32.lt_iff_toInt_lt, fa_eq, fa_lit, fa_litL, nI_toInt, pk_lT, Int32.toInt_toInt64, jadd64, jin, jnoneT] at *); omega
      · exfalso
        clear hE hr hR X
        have e1 : (-1 : Int32).toInt = -1 := by decide
        (try simp only [lg_cmp_lt, lg_cmp_gt, lg_cmp_le, lg_cmp_ge] at *); (try simp (disch := omega) only [Int64.le_iff_toInt_le, Int64.lt_iff_toInt_lt, Int32.le_iff_toInt_le, Int32.lt_iff_toInt_lt, fa_eq, fa_lit, fa_litL, nI_toInt, pk_lT, Int32.toInt_toInt64, jadd64, jin, jnoneT] at *); omega
set_option maxRecDepth 4000 in
set_option maxHeartbeats 1000000 in
theorem m_show3_0 (np : Nat) (mem : jMem) (p : Nat) (hn : np ≤ 12) (hp : mem 66 9 = nI np) (hp2 : p < np) : jPi yX11_show cX11_show 5 .int 4 [.ref 66, .int (nI p), .int 3, .int 0] np mem (fun v c => v = (mem 74 (9 * p + 5)) ∧ jeq [76] (jup mem 66 0 0) c) := by
  refine jPi.of (own := RX11) rfl rfl (Nat.le_of_ble_eq_true rfl) (fun G X hR hr hE => ?_)
  refine j_aload_n X dX11_show_0 rfl ?_
  refine j_iconst X dX11_show_1 0 (by decide) ?_
  refine j_putI X 11 0 (by decide) (by decide) rfl rfl rfl rfl u950 (o66 np) (k66 np) dX11_show_2 ?_
  refine j_aload_n X dX11_show_5 rfl ?_
  refine j_iload_n X dX11_show_6 rfl ?_
  refine s_callVi X hR (m_isPaper np _ _ hn hp) rfl 11 (by decide) (o66 np) (k66 np) rfl u1151 u1148 u1150 qp39 u12 hyX11_isPaper (by decide) (by decide) (Nat.le_of_ble_eq_true rfl) dX11_show_7 (fun v_7 m_7 h_7 => ?_)
  obtain ⟨e1, e2⟩ := h_7; have e1 := e1.symm; have e2 := e2.symm; subst e1; subst e2
  refine j_ifb_eq X 30 dX11_show_10 (by decide) (fun c_10 => ?_) (fun c_10 => ?_)
  · exfalso
    clear hE hr hR X
    have e1 : (-1 : Int32).toInt = -1 := by decide
    (try simp only [lg_cmp_lt, lg_cmp_gt, lg_cmp_le, lg_cmp_ge] at *); (try simp (disch := omega) only [Int64.le_iff_toInt_le, Int64.lt_iff_toInt_lt, Int32.le_iff_toInt_le, Int32.lt_iff_toInt_lt, fa_eq, fa_lit, fa_litL, nI_toInt, pk_lT, Int32.toInt_toInt64, jadd64, jin, jnoneT] at *); omega
  · refine j_iload_n X dX11_show_13 rfl ?_
    refine j_i2l X dX11_show_14 ?_
    refine j_lconst X dX11_show_15 0 (by decide) ?_
    refine j_ldc2 X dX11_show_16 u1152 ?_
    refine s_callSi X hR (m_inI np _ _ _ _ 0 15 rfl rfl) rfl u1087 u1085 u1086 u12 hyX11_in (by decide) (by decide) (Nat.le_of_ble_eq_true rfl) dX11_show_19 (fun v_19 m_19 h_19 => ?_)
    obtain ⟨e1, e2⟩ := h_19; have e1 := e1.symm; have e2 := e2.symm; subst e1; subst e2
    refine j_ifb_eq X 30 dX11_show_22 (by decide) (fun c_22 => ?_) (fun c_22 => ?_)
    · exfalso
      clear hE hr hR X
      have e1 : (-1 : Int32).toInt = -1 := by decide
      (try simp only [lg_cmp_lt, lg_cmp_gt, lg_cmp_le, lg_cmp_ge] at *); (try simp (disch := omega) only [Int64.le_iff_toInt_le, Int64.lt_iff_toInt_lt, Int32.le_iff_toInt_le, Int32.lt_iff_toInt_lt, fa_eq, fa_lit, fa_litL, nI_toInt, pk_lT, Int32.toInt_toInt64, jadd64, jin, jnoneT] at *); omega
    · refine j_iload_n X dX11_show_25 rfl ?_
      refine j_iconst X dX11_show_26 (-1) (by decide) ?_
      refine j_icmp_ge X 33 dX11_show_27 (by decide) (fun c_27 => ?_) (fun c_27 => absurd c_27 (by decide))
      refine j_aload_n X dX11_show_33 rfl ?_
      refine j_iload_n X dX11_show_34 rfl ?_
      refine j_iload_n X dX11_show_35 rfl ?_
      refine s_callVi X hR (m_showAll3 np _ _ (by omega)) rfl 11 (by decide) (o66 np) (k66 np) rfl u1198 u1195 u1197 qp46 u12 hyX11_showAll (by decide) (by decide) (Nat.le_of_ble_eq_true rfl) dX11_show_36 (fun v_36 m_36 h_36 => ?_)
      obtain ⟨e1, e2⟩ := h_36; have e1 := e1.symm; have e2 := e2.symm; subst e1; subst e2
      refine j_istore X dX11_show_39 (by decide) ?_
      refine j_iload_n X dX11_show_41 rfl ?_
      refine j_iconst X dX11_show_42 (-1) (by decide) ?_
      refine j_icmp_ne X 51 dX11_show_43 (by decide) (fun c_43 => ?_) (fun c_43 => absurd c_43 (by decide))
      refine j_iload_n X dX11_show_51 rfl ?_
      refine j_iload X dX11_show_52 rfl ?_
      refine j_icmp_ge X 66 dX11_show_54 (by decide) (fun c_54 => absurd c_54 (by decide)) (fun c_54 => ?_)
      refine j_aload_n X dX11_show_57 rfl ?_
      refine j_getR X 11 12 (by decide) (by decide) rfl u962 (o66 np) (k66 np) _ (p66_12 np) dX11_show_58 ?_
      refine j_iload_n X dX11_show_61 rfl ?_
      refine j_nrm _ (by first | (simp only [fa_lit, pk_mul, nI_add]; done) | (simp only [fa_lit, pk_mul, nI_add]; rfl) | rfl) ?_
      refine j_ialdN X (o76 np) (k76 np) (n := 0) (by rw [l76]; decide) (by rw [l76]; decide) _ rfl dX11_show_62 ?_
      refine j_goto X 68 dX11_show_63 (by decide) ?_
      refine s_iret X hE hr dX11_show_68 rfl ?_
      exact ⟨rfl, by repeat (first | exact jeq.rf | refine jeq.up ?_ (by decide))⟩
set_option maxRecDepth 4000 in
set_option maxHeartbeats 1000000 in
theorem m_show3_1 (np : Nat) (mem : jMem) (p : Nat) (hn : np ≤ 12) (hp : mem 66 9 = nI np) (hp2 : p < np) : jPi yX11_show cX11_show 5 .int 4 [.ref 66, .int (nI p), .int 3, .int 1] np mem (fun v c => v = (mem 74 (9 * p + 6)) ∧ jeq [76] (jup mem 66 0 0) c) := by
  refine jPi.of (own := RX11) rfl rfl (Nat.le_of_ble_eq_true rfl) (fun G X hR hr hE => ?_)
  refine j_aload_n X dX11_show_0 rfl ?_
  refine j_iconst X dX11_show_1 0 (by decide) ?_
  refine j_putI X 11 0 (by decide) (by decide) rfl rfl rfl rfl u950 (o66 np) (k66 np) dX11_show_2 ?_
  refine j_aload_n X dX11_show_5 rfl ?_
  refine j_iload_n X dX11_show_6 rfl ?_
  refine s_callVi X hR (m_isPaper np _ _ hn hp) rfl 11 (by decide) (o66 np) (k66 np) rfl u1151 u1148 u1150 qp39 u12 hyX11_isPaper (by decide) (by decide) (Nat.le_of_ble_eq_true rfl) dX11_show_7 (fun v_7 m_7 h_7 => ?_)
  obtain ⟨e1, e2⟩ := h_7; have e1 := e1.symm; have e2 := e2.symm; subst e1; subst e2
  refine j_ifb_eq X 30 dX11_show_10 (by decide) (fun c_10 => ?_) (fun c_10 => ?_)
  · exfalso
    clear hE hr hR X
    have e1 : (-1 : Int32).toInt = -1 := by decide
    (try simp only [lg_cmp_lt, lg_cmp_gt, lg_cmp_le, lg_cmp_ge] at *); (try simp (disch := omega) only [Int64.le_iff_toInt_le, Int64.lt_iff_toInt_lt, Int32.le_iff_toInt_le, Int32.lt_iff_toInt_lt, fa_eq, fa_lit, fa_litL, nI_toInt, pk_lT, Int32.toInt_toInt64, jadd64, jin, jnoneT] at *); omega
  · refine j_iload_n X dX11_show_13 rfl ?_
    refine j_i2l X dX11_show_14 ?_
    refine j_lconst X dX11_show_15 0 (by decide) ?_
    refine j_ldc2 X dX11_show_16 u1152 ?_
    refine s_callSi X hR (m_inI np _ _ _ _ 0 15 rfl rfl) rfl u1087 u1085 u1086 u12 hyX11_in (by decide) (by decide) (Nat.le_of_ble_eq_true rfl) dX11_show_19 (fun v_19 m_19 h_19 => ?_)
    obtain ⟨e1, e2⟩ := h_19; have e1 := e1.symm; have e2 := e2.symm; subst e1; subst e2
    refine j_ifb_eq X 30 dX11_show_22 (by decide) (fun c_22 => ?_) (fun c_22 => ?_)
    · exfalso
      clear hE hr hR X
      have e1 : (-1 : Int32).toInt = -1 := by decide
      (try simp only [lg_cmp_lt, lg_cmp_gt, lg_cmp_le, lg_cmp_ge] at *); (try simp (disch := omega) only [Int64.le_iff_toInt_le, Int64.lt_iff_toInt_lt, Int32.le_iff_toInt_le, Int32.lt_iff_toInt_lt, fa_eq, fa_lit, fa_litL, nI_toInt, pk_lT, Int32.toInt_toInt64, jadd64, jin, jnoneT] at *); omega
    · refine j_iload_n X dX11_show_25 rfl ?_
      refine j_iconst X dX11_show_26 (-1) (by decide) ?_
      refine j_icmp_ge X 33 dX11_show_27 (by decide) (fun c_27 => ?_) (fun c_27 => absurd c_27 (by decide))
      refine j_aload_n X dX11_show_33 rfl ?_
      refine j_iload_n X dX11_show_34 rfl ?_
      refine j_iload_n X dX11_show_35 rfl ?_
      refine s_callVi X hR (m_showAll3 np _ _ (by omega)) rfl 11 (by decide) (o66 np) (k66 np) rfl u1198 u1195 u1197 qp46 u12 hyX11_showAll (by decide) (by decide) (Nat.le_of_ble_eq_true rfl) dX11_show_36 (fun v_36 m_36 h_36 => ?_)
      obtain ⟨e1, e2⟩ := h_36; have e1 := e1.symm; have e2 := e2.symm; subst e1; subst e2
      refine j_istore X dX11_show_39 (by decide) ?_
      refine j_iload_n X dX11_show_41 rfl ?_
      refine j_iconst X dX11_show_42 (-1) (by decide) ?_
      refine j_icmp_ne X 51 dX11_show_43 (by decide) (fun c_43 => ?_) (fun c_43 => absurd c_43 (by decide))
      refine j_iload_n X dX11_show_51 rfl ?_
      refine j_iload X dX11_show_52 rfl ?_
      refine j_icmp_ge X 66 dX11_show_54 (by decide) (fun c_54 => absurd c_54 (by decide)) (fun c_54 => ?_)
      refine j_aload_n X dX11_show_57 rfl ?_
      refine j_getR X 11 12 (by decide) (by decide) rfl u962 (o66 np) (k66 np) _ (p66_12 np) dX11_show_58 ?_
      refine j_iload_n X dX11_show_61 rfl ?_
      refine j_nrm _ (by first | (simp only [fa_lit, pk_mul, nI_add]; done) | (simp only [fa_lit, pk_mul, nI_add]; rfl) | rfl) ?_
      refine j_ialdN X (o76 np) (k76 np) (n := 1) (by rw [l76]; decide) (by rw [l76]; decide) _ rfl dX11_show_62 ?_
      refine j_goto X 68 dX11_show_63 (by decide) ?_
      refine s_iret X hE hr dX11_show_68 rfl ?_
      exact ⟨rfl, by repeat (first | exact jeq.rf | refine jeq.up ?_ (by decide))⟩
set_option maxRecDepth 4000 in
set_option maxHeartbeats 1000000 in
theorem m_show3_2 (np : Nat) (mem : jMem) (p : Nat) (hn : np ≤ 12) (hp : mem 66 9 = nI np) (hp2 : p < np) : jPi yX11_show cX11_show 5 .int 4 [.ref 66, .int (nI p), .int 3, .int 2] np mem (fun v c => v = (jJoin (jLeaf (nI p) 2 (mem 74 (9 * p + 7))) (jLeaf (nI p) 3 (mem 74 (9 * p + 8)))) ∧ jeq [76] (jup mem 66 0 0) c) := by
  refine jPi.of (own := RX11) rfl rfl (Nat.le_of_ble_eq_true rfl) (fun G X hR hr hE => ?_)
  refine j_aload_n X dX11_show_0 rfl ?_
  refine j_iconst X dX11_show_1 0 (by decide) ?_
  refine j_putI X 11 0 (by decide) (by decide) rfl rfl rfl rfl u950 (o66 np) (k66 np) dX11_show_2 ?_
  refine j_aload_n X dX11_show_5 rfl ?_
  refine j_iload_n X dX11_show_6 rfl ?_
  refine s_callVi X hR (m_isPaper np _ _ hn hp) rfl 11 (by decide) (o66 np) (k66 np) rfl u1151 u1148 u1150 qp39 u12 hyX11_isPaper (by decide) (by decide) (Nat.le_of_ble_eq_true rfl) dX11_show_7 (fun v_7 m_7 h_7 => ?_)
  obtain ⟨e1, e2⟩ := h_7; have e1 := e1.symm; have e2 := e2.symm; subst e1; subst e2
  refine j_ifb_eq X 30 dX11_show_10 (by decide) (fun c_10 => ?_) (fun c_10 => ?_)
  · exfalso
    clear hE hr hR X
    have e1 : (-1 : Int32).toInt = -1 := by decide
    (try simp only [lg_cmp_lt, lg_cmp_gt, lg_cmp_le, lg_cmp_ge] at *); (try simp (disch := omega) only [Int64.le_iff_toInt_le, Int64.lt_iff_toInt_lt, Int32.le_iff_toInt_le, Int32.lt_iff_toInt_lt, fa_eq, fa_lit, fa_litL, nI_toInt, pk_lT, Int32.toInt_toInt64, jadd64, jin, jnoneT] at *); omega
  · refine j_iload_n X dX11_show_13 rfl ?_
    refine j_i2l X dX11_show_14 ?_
    refine j_lconst X dX11_show_15 0 (by decide) ?_
    refine j_ldc2 X dX11_show_16 u1152 ?_
    refine s_callSi X hR (m_inI np _ _ _ _ 0 15 rfl rfl) rfl u1087 u1085 u1086 u12 hyX11_in (by decide) (by decide) (Nat.le_of_ble_eq_true rfl) dX11_show_19 (fun v_19 m_19 h_19 => ?_)
    obtain ⟨e1, e2⟩ := h_19; have e1 := e1.symm; have e2 := e2.symm; subst e1; subst e2
    refine j_ifb_eq X 30 dX11_show_22 (by decide) (fun c_22 => ?_) (fun c_22 => ?_)
    · exfalso
      clear hE hr hR X
      have e1 : (-1 : Int32).toInt = -1 := by decide
      (try simp only [lg_cmp_lt, lg_cmp_gt, lg_cmp_le, lg_cmp_ge] at *); (try simp (disch := omega) only [Int64.le_iff_toInt_le, Int64.lt_iff_toInt_lt, Int32.le_iff_toInt_le, Int32.lt_iff_toInt_lt, fa_eq, fa_lit, fa_litL, nI_toInt, pk_lT, Int32.toInt_toInt64, jadd64, jin, jnoneT] at *); omega
    · refine j_iload_n X dX11_show_25 rfl ?_
      refine j_iconst X dX11_show_26 (-1) (by decide) ?_
      refine j_icmp_ge X 33 dX11_show_27 (by decide) (fun c_27 => ?_) (fun c_27 => absurd c_27 (by decide))
      refine j_aload_n X dX11_show_33 rfl ?_
      refine j_iload_n X dX11_show_34 rfl ?_
      refine j_iload_n X dX11_show_35 rfl ?_
      refine s_callVi X hR (m_showAll3 np _ _ (by omega)) rfl 11 (by decide) (o66 np) (k66 np) rfl u1198 u1195 u1197 qp46 u12 hyX11_showAll (by decide) (by decide) (Nat.le_of_ble_eq_true rfl) dX11_show_36 (fun v_36 m_36 h_36 => ?_)
      obtain ⟨e1, e2⟩ := h_36; have e1 := e1.symm; have e2 := e2.symm; subst e1; subst e2
      refine j_istore X dX11_show_39 (by decide) ?_
      refine j_iload_n X dX11_show_41 rfl ?_
      refine j_iconst X dX11_show_42 (-1) (by decide) ?_
      refine j_icmp_ne X 51 dX11_show_43 (by decide) (fun c_43 => ?_) (fun c_43 => absurd c_43 (by decide))
      refine j_iload_n X dX11_show_51 rfl ?_
      refine j_iload X dX11_show_52 rfl ?_
      refine j_icmp_ge X 66 dX11_show_54 (by decide) (fun c_54 => absurd c_54 (by decide)) (fun c_54 => ?_)
      refine j_aload_n X dX11_show_57 rfl ?_
      refine j_getR X 11 12 (by decide) (by decide) rfl u962 (o66 np) (k66 np) _ (p66_12 np) dX11_show_58 ?_
      refine j_iload_n X dX11_show_61 rfl ?_
      refine j_nrm _ (by first | (simp only [fa_lit, pk_mul, nI_add]; done) | (simp only [fa_lit, pk_mul, nI_add]; rfl) | rfl) ?_
      refine j_ialdN X (o76 np) (k76 np) (n := 2) (by rw [l76]; decide) (by rw [l76]; decide) _ rfl dX11_show_62 ?_
      refine j_goto X 68 dX11_show_63 (by decide) ?_
      refine s_iret X hE hr dX11_show_68 rfl ?_
      exact ⟨rfl, by repeat (first | exact jeq.rf | refine jeq.up ?_ (by decide))⟩
set_option maxRecDepth 4000 in
set_option maxHeartbeats 1000000 in
theorem m_show4_n (np : Nat) (mem : jMem) (p : Nat) (hn : np ≤ 12) (hp : mem 66 9 = nI np) (hp2 : p < np) : jPi yX11_show cX11_show 5 .int 4 [.ref 66, .int (nI p), .int 4, .int (-1)] np mem (fun v c => v = 3 ∧ jeq [76] (jup mem 66 0 0) c) := by
  refine jPi.of (own := RX11) rfl rfl (Nat.le_of_ble_eq_true rfl) (fun G X hR hr hE => ?_)
  refine j_aload_n X dX11_show_0 rfl ?_
  refine j_iconst X dX11_show_1 0 (by decide) ?_
  refine j_putI X 11 0 (by decide) (by decide) rfl rfl rfl rfl u950 (o66 np) (k66 np) dX11_show_2 ?_
  refine j_aload_n X dX11_show_5 rfl ?_
  refine j_iload_n X dX11_show_6 rfl ?_
  refine s_callVi X hR (m_isPaper np _ _ hn hp) rfl 11 (by decide) (o66 np) (k66 np) rfl u1151 u1148 u1150 qp39 u12 hyX11_isPaper (by decide) (by decide) (Nat.le_of_ble_eq_true rfl) dX11_show_7 (fun v_7 m_7 h_7 => ?_)
  obtain ⟨e1, e2⟩ := h_7; have e1 := e1.symm; have e2 := e2.symm; subst e1; subst e2
  refine j_ifb_eq X 30 dX11_show_10 (by decide) (fun c_10 => ?_) (fun c_10 => ?_)
  · exfalso
    clear hE hr hR X
    have e1 : (-1 : Int32).toInt = -1 := by decide
    (try simp only [lg_cmp_lt, lg_cmp_gt, lg_cmp_le, lg_cmp_ge] at *); (try simp (disch := omega) only [Int64.le_iff_toInt_le, Int64.lt_iff_toInt_lt, Int32.le_iff_toInt_le, Int32.lt_iff_toInt_lt, fa_eq, fa_lit, fa_litL, nI_toInt, pk_lT, Int32.toInt_toInt64, jadd64, jin, jnoneT] at *); omega
  · refine j_iload_n X dX11_show_13 rfl ?_
    refine j_i2l X dX11_show_14 ?_
    refine j_lconst X dX11_show_15 0 (by decide) ?_
    refine j_ldc2 X dX11_show_16 u1152 ?_
    refine s_callSi X hR (m_inI np _ _ _ _ 0 15 rfl rfl) rfl u1087 u1085 u1086 u12 hyX11_in (by decide) (by decide) (Nat.le_of_ble_eq_true rfl) dX11_show_19 (fun v_19 m_19 h_19 => ?_)
    obtain ⟨e1, e2⟩ := h_19; have e1 := e1.symm; have e2 := e2.symm; subst e1; subst e2
    refine j_ifb_eq X 30 dX11_show_22 (by decide) (fun c_22 => ?_) (fun c_22 => ?_)
    · exfalso
      clear hE hr hR X
      have e1 : (-1 : Int32).toInt = -1 := by decide
      (try simp only [lg_cmp_lt, lg_cmp_gt, lg_cmp_le, lg_cmp_ge] at *); (try simp (disch := omega) only [Int64.le_iff_toInt_le, Int64.lt_iff_toInt_lt, Int32.le_iff_toInt_le, Int32.lt_iff_toInt_lt, fa_eq, fa_lit, fa_litL, nI_toInt, pk_lT, Int32.toInt_toInt64, jadd64, jin, jnoneT] at *); omega
    · refine j_iload_n X dX11_show_25 rfl ?_
      refine j_iconst X dX11_show_26 (-1) (by decide) ?_
      refine j_icmp_ge X 33 dX11_show_27 (by decide) (fun c_27 => ?_) (fun c_27 => absurd c_27 (by decide))
      refine j_aload_n X dX11_show_33 rfl ?_
      refine j_iload_n X dX11_show_34 rfl ?_
      refine j_iload_n X dX11_show_35 rfl ?_
      refine s_callVi X hR (m_showAll4 np _ _ (by omega)) rfl 11 (by decide) (o66 np) (k66 np) rfl u1198 u1195 u1197 qp46 u12 hyX11_showAll (by decide) (by decide) (Nat.le_of_ble_eq_true rfl) dX11_show_36 (fun v_36 m_36 h_36 => ?_)
      obtain ⟨e1, e2⟩ := h_36; have e1 := e1.symm; have e2 := e2.symm; subst e1; subst e2
      refine j_istore X dX11_show_39 (by decide) ?_
      refine j_iload_n X dX11_show_41 rfl ?_
      refine j_iconst X dX11_show_42 (-1) (by decide) ?_
      refine j_icmp_ne X 51 dX11_show_43 (by decide) (fun c_43 => absurd c_43 (by decide)) (fun c_43 => ?_)
      refine j_iload X dX11_show_46 rfl ?_
      refine j_goto X 68 dX11_show_48 (by decide) ?_
      refine s_iret X hE hr dX11_show_68 rfl ?_
      exact ⟨rfl, by repeat (first | exact jeq.rf | refine jeq.up ?_ (by decide))⟩
set_option maxRecDepth 4000 in
set_option maxHeartbeats 1000000 in
theorem m_show4_none (np : Nat) (mem : jMem) (p : Nat) (i : Int32) (hn : np ≤ 12) (hp : mem 66 9 = nI np) (hp2 : p < np) (hi : 3 ≤ i.toInt) : jPi yX11_show cX11_show 5 .int 4 [.ref 66, .int (nI p), .int 4, .int i] np mem (fun v c => v = -1000000 ∧ jeq [76] (jup mem 66 0 0) c) := by
  refine jPi.of (own := RX11) rfl rfl (Nat.le_of_ble_eq_true rfl) (fun G X hR hr hE => ?_)
  refine j_aload_n X dX11_show_0 rfl ?_
  refine j_iconst X dX11_show_1 0 (by decide) ?_
  refine j_putI X 11 0 (by decide) (by decide) rfl rfl rfl rfl u950 (o66 np) (k66 np) dX11_show_2 ?_
  refine j_aload_n X dX11_show_5 rfl ?_
  refine j_iload_n X dX11_show_6 rfl ?_
  refine s_callVi X hR (m_isPaper np _ _ hn hp) rfl 11 (by decide) (o66 np) (k66 np) rfl u1151 u1148 u1150 qp39 u12 hyX11_isPaper (by decide) (by decide) (Nat.le_of_ble_eq_true rfl) dX11_show_7 (fun v_7 m_7 h_7 => ?_)
  obtain ⟨e1, e2⟩ := h_7; have e1 := e1.symm; have e2 := e2.symm; subst e1; subst e2
  refine j_ifb_eq X 30 dX11_show_10 (by decide) (fun c_10 => ?_) (fun c_10 => ?_)
  · exfalso
    clear hE hr hR X
    have e1 : (-1 : Int32).toInt = -1 := by decide
    (try simp only [lg_cmp_lt, lg_cmp_gt, lg_cmp_le, lg_cmp_ge] at *); (try simp (disch := omega) only [Int64.le_iff_toInt_le, Int64.lt_iff_toInt_lt, Int32.le_iff_toInt_le, Int32.lt_iff_toInt_lt, fa_eq, fa_lit, fa_litL, nI_toInt, pk_lT, Int32.toInt_toInt64, jadd64, jin, jnoneT] at *); omega
  · refine j_iload_n X dX11_show_13 rfl ?_
    refine j_i2l X dX11_show_14 ?_
    refine j_lconst X dX11_show_15 0 (by decide) ?_
    refine j_ldc2 X dX11_show_16 u1152 ?_
    refine s_callSi X hR (m_inI np _ _ _ _ 0 15 rfl rfl) rfl u1087 u1085 u1086 u12 hyX11_in (by decide) (by decide) (Nat.le_of_ble_eq_true rfl) dX11_show_19 (fun v_19 m_19 h_19 => ?_)
    obtain ⟨e1, e2⟩ := h_19; have e1 := e1.symm; have e2 := e2.symm; subst e1; subst e2
    refine j_ifb_eq X 30 dX11_show_22 (by decide) (fun c_22 => ?_) (fun c_22 => ?_)
    · exfalso
      clear hE hr hR X
      have e1 : (-1 : Int32).toInt = -1 := by decide
      (try simp only [lg_cmp_lt, lg_cmp_gt, lg_cmp_le, lg_cmp_ge] at *); (try simp (disch := omega) only [Int64.le_iff_toInt_le, Int64.lt_iff_toInt_lt, Int32.le_iff_toInt_le, Int32.lt_iff_toInt_lt, fa_eq, fa_lit, fa_litL, nI_toInt, pk_lT, Int32.toInt_toInt64, jadd64, jin, jnoneT] at *); omega
    · refine j_iload_n X dX11_show_25 rfl ?_
      refine j_iconst X dX11_show_26 (-1) (by decide) ?_
      refine j_icmp_ge X 33 dX11_show_27 (by decide) (fun c_27 => ?_) (fun c_27 => ?_)
      · refine j_aload_n X dX11_show_33 rfl ?_
        refine j_iload_n X dX11_show_34 rfl ?_
        refine j_iload_n X dX11_show_35 rfl ?_
        refine s_callVi X hR (m_showAll4 np _ _ (by omega)) rfl 11 (by decide) (o66 np) (k66 np) rfl u1198 u1195 u1197 qp46 u12 hyX11_showAll (by decide) (by decide) (Nat.le_of_ble_eq_true rfl) dX11_show_36 (fun v_36 m_36 h_36 => ?_)
        obtain ⟨e1, e2⟩ := h_36; have e1 := e1.symm; have e2 := e2.symm; subst e1; subst e2
        refine j_istore X dX11_show_39 (by decide) ?_
        refine j_iload_n X dX11_show_41 rfl ?_
        refine j_iconst X dX11_show_42 (-1) (by decide) ?_
        refine j_icmp_ne X 51 dX11_show_43 (by decide) (fun c_43 => ?_) (fun c_43 => ?_)
        · refine j_iload_n X dX11_show_51 rfl ?_
          refine j_iload X dX11_show_52 rfl ?_
          refine j_icmp_ge X 66 dX11_show_54 (by decide) (fun c_54 => ?_) (fun c_54 => ?_)
          · refine j_ldc X dX11_show_66 u949 ?_
            refine s_iret X hE hr dX11_show_68 rfl ?_
            exact ⟨rfl, by repeat (first | exact jeq.rf | refine jeq.up ?_ (by decide))⟩
          · exfalso
            clear hE hr hR X
            have e1 : (-1 : Int32).toInt = -1 := by decide
            (try simp only [lg_cmp_lt, lg_cmp_gt, lg_cmp_le, lg_cmp_ge] at *); (try simp (disch := omega) only [Int64.le_iff_toInt_le, Int64.lt_iff_toInt_lt, Int32.le_iff_toInt_le, Int32.lt_iff_toInt_lt, fa_eq, fa_lit, fa_litL, nI_toInt, pk_lT, Int32.toInt_toInt64, jadd64, jin, jnoneT] at *); omega
        · exfalso
          clear hE hr hR X
          have e1 : (-1 : Int32).toInt = -1 := by decide
          (try simp only [lg_cmp_lt, lg_cmp_gt, lg_cmp_le, lg_cmp_ge] at *); (try simp (disch := omega) only [Int64.le_iff_toInt_le, Int64.lt_iff_toInt_lt, Int32.le_iff_toInt_le, Int32.lt_iff_toInt_lt, fa_eq, fa_lit, fa_litL, nI_toInt, pk_lT, Int32.toInt_toInt64, jadd64, jin, jnoneT] at *); omega
      · exfalso
        clear hE hr hR X
        have e1 : (-1 : Int32).toInt = -1 := by decide
        (try simp only [lg_cmp_lt, lg_cmp_gt, lg_cmp_le, lg_cmp_ge] at *); (try simp (disch := omega) only [Int64.le_iff_toInt_le, Int64.lt_iff_toInt_lt, Int32.le_iff_toInt_le, Int32.lt_iff_toInt_lt, fa_eq, fa_lit, fa_litL, nI_toInt, pk_lT, Int32.toInt_toInt64, jadd64, jin, jnoneT] at *); omega
set_option maxRecDepth 4000 in
set_option maxHeartbeats 1000000 in
theorem m_show4_0 (np : Nat) (mem : jMem) (p : Nat) (hn : np ≤ 12) (hp : mem 66 9 = nI np) (hp2 : p < np) : jPi yX11_show cX11_show 5 .int 4 [.ref 66, .int (nI p), .int 4, .int 0] np mem (fun v c => v = (jJoin (jLeaf (nI p) 0 (mem 74 (9 * p + 5))) (jLeaf (nI p) 1 (mem 74 (9 * p + 6)))) ∧ jeq [76] (jup mem 66 0 0) c) := by
  refine jPi.of (own := RX11) rfl rfl (Nat.le_of_ble_eq_true rfl) (fun G X hR hr hE => ?_)
  refine j_aload_n X dX11_show_0 rfl ?_
  refine j_iconst X dX11_show_1 0 (by decide) ?_
  refine j_putI X 11 0 (by decide) (by decide) rfl rfl rfl rfl u950 (o66 np) (k66 np) dX11_show_2 ?_
  refine j_aload_n X dX11_show_5 rfl ?_
  refine j_iload_n X dX11_show_6 rfl ?_
  refine s_callVi X hR (m_isPaper np _ _ hn hp) rfl 11 (by decide) (o66 np) (k66 np) rfl u1151 u1148 u1150 qp39 u12 hyX11_isPaper (by decide) (by decide) (Nat.le_of_ble_eq_true rfl) dX11_show_7 (fun v_7 m_7 h_7 => ?_)
  obtain ⟨e1, e2⟩ := h_7; have e1 := e1.symm; have e2 := e2.symm; subst e1; subst e2
  refine j_ifb_eq X 30 dX11_show_10 (by decide) (fun c_10 => ?_) (fun c_10 => ?_)
  · exfalso
    clear hE hr hR X
    have e1 : (-1 : Int32).toInt = -1 := by decide
    (try simp only [lg_cmp_lt, lg_cmp_gt, lg_cmp_le, lg_cmp_ge] at *); (try simp (disch := omega) only [Int64.le_iff_toInt_le, Int64.lt_iff_toInt_lt, Int32.le_iff_toInt_le, Int32.lt_iff_toInt_lt, fa_eq, fa_lit, fa_litL, nI_toInt, pk_lT, Int32.toInt_toInt64, jadd64, jin, jnoneT] at *); omega
  · refine j_iload_n X dX11_show_13 rfl ?_
    refine j_i2l X dX11_show_14 ?_
    refine j_lconst X dX11_show_15 0 (by decide) ?_
    refine j_ldc2 X dX11_show_16 u1152 ?_
    refine s_callSi X hR (m_inI np _ _ _ _ 0 15 rfl rfl) rfl u1087 u1085 u1086 u12 hyX11_in (by decide) (by decide) (Nat.le_of_ble_eq_true rfl) dX11_show_19 (fun v_19 m_19 h_19 => ?_)
    obtain ⟨e1, e2⟩ := h_19; have e1 := e1.symm; have e2 := e2.symm; subst e1; subst e2
    refine j_ifb_eq X 30 dX11_show_22 (by decide) (fun c_22 => ?_) (fun c_22 => ?_)
    · exfalso
      clear hE hr hR X
      have e1 : (-1 : Int32).toInt = -1 := by decide
      (try simp only [lg_cmp_lt, lg_cmp_gt, lg_cmp_le, lg_cmp_ge] at *); (try simp (disch := omega) only [Int64.le_iff_toInt_le, Int64.lt_iff_toInt_lt, Int32.le_iff_toInt_le, Int32.lt_iff_toInt_lt, fa_eq, fa_lit, fa_litL, nI_toInt, pk_lT, Int32.toInt_toInt64, jadd64, jin, jnoneT] at *); omega
    · refine j_iload_n X dX11_show_25 rfl ?_
      refine j_iconst X dX11_show_26 (-1) (by decide) ?_
      refine j_icmp_ge X 33 dX11_show_27 (by decide) (fun c_27 => ?_) (fun c_27 => absurd c_27 (by decide))
      refine j_aload_n X dX11_show_33 rfl ?_
      refine j_iload_n X dX11_show_34 rfl ?_
      refine j_iload_n X dX11_show_35 rfl ?_
      refine s_callVi X hR (m_showAll4 np _ _ (by omega)) rfl 11 (by decide) (o66 np) (k66 np) rfl u1198 u1195 u1197 qp46 u12 hyX11_showAll (by decide) (by decide) (Nat.le_of_ble_eq_true rfl) dX11_show_36 (fun v_36 m_36 h_36 => ?_)
      obtain ⟨e1, e2⟩ := h_36; have e1 := e1.symm; have e2 := e2.symm; subst e1; subst e2
      refine j_istore X dX11_show_39 (by decide) ?_
      refine j_iload_n X dX11_show_41 rfl ?_
      refine j_iconst X dX11_show_42 (-1) (by decide) ?_
      refine j_icmp_ne X 51 dX11_show_43 (by decide) (fun c_43 => ?_) (fun c_43 => absurd c_43 (by decide))
      refine j_iload_n X dX11_show_51 rfl ?_
      refine j_iload X dX11_show_52 rfl ?_
      refine j_icmp_ge X 66 dX11_show_54 (by decide) (fun c_54 => absurd c_54 (by decide)) (fun c_54 => ?_)
      refine j_aload_n X dX11_show_57 rfl ?_
      refine j_getR X 11 12 (by decide) (by decide) rfl u962 (o66 np) (k66 np) _ (p66_12 np) dX11_show_58 ?_
      refine j_iload_n X dX11_show_61 rfl ?_
      refine j_nrm _ (by first | (simp only [fa_lit, pk_mul, nI_add]; done) | (simp only [fa_lit, pk_mul, nI_add]; rfl) | rfl) ?_
      refine j_ialdN X (o76 np) (k76 np) (n := 0) (by rw [l76]; decide) (by rw [l76]; decide) _ rfl dX11_show_62 ?_
      refine j_goto X 68 dX11_show_63 (by decide) ?_
      refine s_iret X hE hr dX11_show_68 rfl ?_
      exact ⟨rfl, by repeat (first | exact jeq.rf | refine jeq.up ?_ (by decide))⟩
set_option maxRecDepth 4000 in
set_option maxHeartbeats 1000000 in
theorem m_show4_1 (np : Nat) (mem : jMem) (p : Nat) (hn : np ≤ 12) (hp : mem 66 9 = nI np) (hp2 : p < np) : jPi yX11_show cX11_show 5 .int 4 [.ref 66, .int (nI p), .int 4, .int 1] np mem (fun v c => v = (mem 74 (9 * p + 7)) ∧ jeq [76] (jup mem 66 0 0) c) := by
  refine jPi.of (own := RX11) rfl rfl (Nat.le_of_ble_eq_true rfl) (fun G X hR hr hE => ?_)
  refine j_aload_n X dX11_show_0 rfl ?_
  refine j_iconst X dX11_show_1 0 (by decide) ?_
  refine j_putI X 11 0 (by decide) (by decide) rfl rfl rfl rfl u950 (o66 np) (k66 np) dX11_show_2 ?_
  refine j_aload_n X dX11_show_5 rfl ?_
  refine j_iload_n X dX11_show_6 rfl ?_
  refine s_callVi X hR (m_isPaper np _ _ hn hp) rfl 11 (by decide) (o66 np) (k66 np) rfl u1151 u1148 u1150 qp39 u12 hyX11_isPaper (by decide) (by decide) (Nat.le_of_ble_eq_true rfl) dX11_show_7 (fun v_7 m_7 h_7 => ?_)
  obtain ⟨e1, e2⟩ := h_7; have e1 := e1.symm; have e2 := e2.symm; subst e1; subst e2
  refine j_ifb_eq X 30 dX11_show_10 (by decide) (fun c_10 => ?_) (fun c_10 => ?_)
  · exfalso
    clear hE hr hR X
    have e1 : (-1 : Int32).toInt = -1 := by decide
    (try simp only [lg_cmp_lt, lg_cmp_gt, lg_cmp_le, lg_cmp_ge] at *); (try simp (disch := omega) only [Int64.le_iff_toInt_le, Int64.lt_iff_toInt_lt, Int32.le_iff_toInt_le, Int32.lt_iff_toInt_lt, fa_eq, fa_lit, fa_litL, nI_toInt, pk_lT, Int32.toInt_toInt64, jadd64, jin, jnoneT] at *); omega
  · refine j_iload_n X dX11_show_13 rfl ?_
    refine j_i2l X dX11_show_14 ?_
    refine j_lconst X dX11_show_15 0 (by decide) ?_
    refine j_ldc2 X dX11_show_16 u1152 ?_
    refine s_callSi X hR (m_inI np _ _ _ _ 0 15 rfl rfl) rfl u1087 u1085 u1086 u12 hyX11_in (by decide) (by decide) (Nat.le_of_ble_eq_true rfl) dX11_show_19 (fun v_19 m_19 h_19 => ?_)
    obtain ⟨e1, e2⟩ := h_19; have e1 := e1.symm; have e2 := e2.symm; subst e1; subst e2
    refine j_ifb_eq X 30 dX11_show_22 (by decide) (fun c_22 => ?_) (fun c_22 => ?_)
    · exfalso
      clear hE hr hR X
      have e1 : (-1 : Int32).toInt = -1 := by decide
      (try simp only [lg_cmp_lt, lg_cmp_gt, lg_cmp_le, lg_cmp_ge] at *); (try simp (disch := omega) only [Int64.le_iff_toInt_le, Int64.lt_iff_toInt_lt, Int32.le_iff_toInt_le, Int32.lt_iff_toInt_lt, fa_eq, fa_lit, fa_litL, nI_toInt, pk_lT, Int32.toInt_toInt64, jadd64, jin, jnoneT] at *); omega
    · refine j_iload_n X dX11_show_25 rfl ?_
      refine j_iconst X dX11_show_26 (-1) (by decide) ?_
      refine j_icmp_ge X 33 dX11_show_27 (by decide) (fun c_27 => ?_) (fun c_27 => absurd c_27 (by decide))
      refine j_aload_n X dX11_show_33 rfl ?_
      refine j_iload_n X dX11_show_34 rfl ?_
      refine j_iload_n X dX11_show_35 rfl ?_
      refine s_callVi X hR (m_showAll4 np _ _ (by omega)) rfl 11 (by decide) (o66 np) (k66 np) rfl u1198 u1195 u1197 qp46 u12 hyX11_showAll (by decide) (by decide) (Nat.le_of_ble_eq_true rfl) dX11_show_36 (fun v_36 m_36 h_36 => ?_)
      obtain ⟨e1, e2⟩ := h_36; have e1 := e1.symm; have e2 := e2.symm; subst e1; subst e2
      refine j_istore X dX11_show_39 (by decide) ?_
      refine j_iload_n X dX11_show_41 rfl ?_
      refine j_iconst X dX11_show_42 (-1) (by decide) ?_
      refine j_icmp_ne X 51 dX11_show_43 (by decide) (fun c_43 => ?_) (fun c_43 => absurd c_43 (by decide))
      refine j_iload_n X dX11_show_51 rfl ?_
      refine j_iload X dX11_show_52 rfl ?_
      refine j_icmp_ge X 66 dX11_show_54 (by decide) (fun c_54 => absurd c_54 (by decide)) (fun c_54 => ?_)
      refine j_aload_n X dX11_show_57 rfl ?_
      refine j_getR X 11 12 (by decide) (by decide) rfl u962 (o66 np) (k66 np) _ (p66_12 np) dX11_show_58 ?_
      refine j_iload_n X dX11_show_61 rfl ?_
      refine j_nrm _ (by first | (simp only [fa_lit, pk_mul, nI_add]; done) | (simp only [fa_lit, pk_mul, nI_add]; rfl) | rfl) ?_
      refine j_ialdN X (o76 np) (k76 np) (n := 1) (by rw [l76]; decide) (by rw [l76]; decide) _ rfl dX11_show_62 ?_
      refine j_goto X 68 dX11_show_63 (by decide) ?_
      refine s_iret X hE hr dX11_show_68 rfl ?_
      exact ⟨rfl, by repeat (first | exact jeq.rf | refine jeq.up ?_ (by decide))⟩
set_option maxRecDepth 4000 in
set_option maxHeartbeats 1000000 in
theorem m_show4_2 (np : Nat) (mem : jMem) (p : Nat) (hn : np ≤ 12) (hp : mem 66 9 = nI np) (hp2 : p < np) : jPi yX11_show cX11_show 5 .int 4 [.ref 66, .int (nI p), .int 4, .int 2] np mem (fun v c => v = (jLeaf (nI p) 3 (mem 74 (9 * p + 8))) ∧ jeq [76] (jup mem 66 0 0) c) := by
  refine jPi.of (own := RX11) rfl rfl (Nat.le_of_ble_eq_true rfl) (fun G X hR hr hE => ?_)
  refine j_aload_n X dX11_show_0 rfl ?_
  refine j_iconst X dX11_show_1 0 (by decide) ?_
  refine j_putI X 11 0 (by decide) (by decide) rfl rfl rfl rfl u950 (o66 np) (k66 np) dX11_show_2 ?_
  refine j_aload_n X dX11_show_5 rfl ?_
  refine j_iload_n X dX11_show_6 rfl ?_
  refine s_callVi X hR (m_isPaper np _ _ hn hp) rfl 11 (by decide) (o66 np) (k66 np) rfl u1151 u1148 u1150 qp39 u12 hyX11_isPaper (by decide) (by decide) (Nat.le_of_ble_eq_true rfl) dX11_show_7 (fun v_7 m_7 h_7 => ?_)
  obtain ⟨e1, e2⟩ := h_7; have e1 := e1.symm; have e2 := e2.symm; subst e1; subst e2
  refine j_ifb_eq X 30 dX11_show_10 (by decide) (fun c_10 => ?_) (fun c_10 => ?_)
  · exfalso
    clear hE hr hR X
    have e1 : (-1 : Int32).toInt = -1 := by decide
    (try simp only [lg_cmp_lt, lg_cmp_gt, lg_cmp_le, lg_cmp_ge] at *); (try simp (disch := omega) only [Int64.le_iff_toInt_le, Int64.lt_iff_toInt_lt, Int32.le_iff_toInt_le, Int32.lt_iff_toInt_lt, fa_eq, fa_lit, fa_litL, nI_toInt, pk_lT, Int32.toInt_toInt64, jadd64, jin, jnoneT] at *); omega
  · refine j_iload_n X dX11_show_13 rfl ?_
    refine j_i2l X dX11_show_14 ?_
    refine j_lconst X dX11_show_15 0 (by decide) ?_
    refine j_ldc2 X dX11_show_16 u1152 ?_
    refine s_callSi X hR (m_inI np _ _ _ _ 0 15 rfl rfl) rfl u1087 u1085 u1086 u12 hyX11_in (by decide) (by decide) (Nat.le_of_ble_eq_true rfl) dX11_show_19 (fun v_19 m_19 h_19 => ?_)
    obtain ⟨e1, e2⟩ := h_19; have e1 := e1.symm; have e2 := e2.symm; subst e1; subst e2
    refine j_ifb_eq X 30 dX11_show_22 (by decide) (fun c_22 => ?_) (fun c_22 => ?_)
    · exfalso
      clear hE hr hR X
      have e1 : (-1 : Int32).toInt = -1 := by decide
      (try simp only [lg_cmp_lt, lg_cmp_gt, lg_cmp_le, lg_cmp_ge] at *); (try simp (disch := omega) only [Int64.le_iff_toInt_le, Int64.lt_iff_toInt_lt, Int32.le_iff_toInt_le, Int32.lt_iff_toInt_lt, fa_eq, fa_lit, fa_litL, nI_toInt, pk_lT, Int32.toInt_toInt64, jadd64, jin, jnoneT] at *); omega
    · refine j_iload_n X dX11_show_25 rfl ?_
      refine j_iconst X dX11_show_26 (-1) (by decide) ?_
      refine j_icmp_ge X 33 dX11_show_27 (by decide) (fun c_27 => ?_) (fun c_27 => absurd c_27 (by decide))
      refine j_aload_n X dX11_show_33 rfl ?_
      refine j_iload_n X dX11_show_34 rfl ?_
      refine j_iload_n X dX11_show_35 rfl ?_
      refine s_callVi X hR (m_showAll4 np _ _ (by omega)) rfl 11 (by decide) (o66 np) (k66 np) rfl u1198 u1195 u1197 qp46 u12 hyX11_showAll (by decide) (by decide) (Nat.le_of_ble_eq_true rfl) dX11_show_36 (fun v_36 m_36 h_36 => ?_)
      obtain ⟨e1, e2⟩ := h_36; have e1 := e1.symm; have e2 := e2.symm; subst e1; subst e2
      refine j_istore X dX11_show_39 (by decide) ?_
      refine j_iload_n X dX11_show_41 rfl ?_
      refine j_iconst X dX11_show_42 (-1) (by decide) ?_
      refine j_icmp_ne X 51 dX11_show_43 (by decide) (fun c_43 => ?_) (fun c_43 => absurd c_43 (by decide))
      refine j_iload_n X dX11_show_51 rfl ?_
      refine j_iload X dX11_show_52 rfl ?_
      refine j_icmp_ge X 66 dX11_show_54 (by decide) (fun c_54 => absurd c_54 (by decide)) (fun c_54 => ?_)
      refine j_aload_n X dX11_show_57 rfl ?_
      refine j_getR X 11 12 (by decide) (by decide) rfl u962 (o66 np) (k66 np) _ (p66_12 np) dX11_show_58 ?_
      refine j_iload_n X dX11_show_61 rfl ?_
      refine j_nrm _ (by first | (simp only [fa_lit, pk_mul, nI_add]; done) | (simp only [fa_lit, pk_mul, nI_add]; rfl) | rfl) ?_
      refine j_ialdN X (o76 np) (k76 np) (n := 2) (by rw [l76]; decide) (by rw [l76]; decide) _ rfl dX11_show_62 ?_
      refine j_goto X 68 dX11_show_63 (by decide) ?_
      refine s_iret X hE hr dX11_show_68 rfl ?_
      exact ⟨rfl, by repeat (first | exact jeq.rf | refine jeq.up ?_ (by decide))⟩
set_option maxRecDepth 4000 in
set_option maxHeartbeats 1000000 in
theorem m_show5_n (np : Nat) (mem : jMem) (p : Nat) (hn : np ≤ 12) (hp : mem 66 9 = nI np) (hp2 : p < np) : jPi yX11_show cX11_show 5 .int 4 [.ref 66, .int (nI p), .int 5, .int (-1)] np mem (fun v c => v = 4 ∧ jeq [76] (jup mem 66 0 0) c) := by
  refine jPi.of (own := RX11) rfl rfl (Nat.le_of_ble_eq_true rfl) (fun G X hR hr hE => ?_)
  refine j_aload_n X dX11_show_0 rfl ?_
  refine j_iconst X dX11_show_1 0 (by decide) ?_
  refine j_putI X 11 0 (by decide) (by decide) rfl rfl rfl rfl u950 (o66 np) (k66 np) dX11_show_2 ?_
  refine j_aload_n X dX11_show_5 rfl ?_
  refine j_iload_n X dX11_show_6 rfl ?_
  refine s_callVi X hR (m_isPaper np _ _ hn hp) rfl 11 (by decide) (o66 np) (k66 np) rfl u1151 u1148 u1150 qp39 u12 hyX11_isPaper (by decide) (by decide) (Nat.le_of_ble_eq_true rfl) dX11_show_7 (fun v_7 m_7 h_7 => ?_)
  obtain ⟨e1, e2⟩ := h_7; have e1 := e1.symm; have e2 := e2.symm; subst e1; subst e2
  refine j_ifb_eq X 30 dX11_show_10 (by decide) (fun c_10 => ?_) (fun c_10 => ?_)
  · exfalso
    clear hE hr hR X
    have e1 : (-1 : Int32).toInt = -1 := by decide
    (try simp only [lg_cmp_lt, lg_cmp_gt, lg_cmp_le, lg_cmp_ge] at *); (try simp (disch := omega) only [Int64.le_iff_toInt_le, Int64.lt_iff_toInt_lt, Int32.le_iff_toInt_le, Int32.lt_iff_toInt_lt, fa_eq, fa_lit, fa_litL, nI_toInt, pk_lT, Int32.toInt_toInt64, jadd64, jin, jnoneT] at *); omega
  · refine j_iload_n X dX11_show_13 rfl ?_
    refine j_i2l X dX11_show_14 ?_
    refine j_lconst X dX11_show_15 0 (by decide) ?_
    refine j_ldc2 X dX11_show_16 u1152 ?_
    refine s_callSi X hR (m_inI np _ _ _ _ 0 15 rfl rfl) rfl u1087 u1085 u1086 u12 hyX11_in (by decide) (by decide) (Nat.le_of_ble_eq_true rfl) dX11_show_19 (fun v_19 m_19 h_19 => ?_)
    obtain ⟨e1, e2⟩ := h_19; have e1 := e1.symm; have e2 := e2.symm; subst e1; subst e2
    refine j_ifb_eq X 30 dX11_show_22 (by decide) (fun c_22 => ?_) (fun c_22 => ?_)
    · exfalso
      clear hE hr hR X
      have e1 : (-1 : Int32).toInt = -1 := by decide
      (try simp only [lg_cmp_lt, lg_cmp_gt, lg_cmp_le, lg_cmp_ge] at *); (try simp (disch := omega) only [Int64.le_iff_toInt_le, Int64.lt_iff_toInt_lt, Int32.le_iff_toInt_le, Int32.lt_iff_toInt_lt, fa_eq, fa_lit, fa_litL, nI_toInt, pk_lT, Int32.toInt_toInt64, jadd64, jin, jnoneT] at *); omega
    · refine j_iload_n X dX11_show_25 rfl ?_
      refine j_iconst X dX11_show_26 (-1) (by decide) ?_
      refine j_icmp_ge X 33 dX11_show_27 (by decide) (fun c_27 => ?_) (fun c_27 => absurd c_27 (by decide))
      refine j_aload_n X dX11_show_33 rfl ?_
      refine j_iload_n X dX11_show_34 rfl ?_
      refine j_iload_n X dX11_show_35 rfl ?_
      refine s_callVi X hR (m_showAll5 np _ _ (by omega)) rfl 11 (by decide) (o66 np) (k66 np) rfl u1198 u1195 u1197 qp46 u12 hyX11_showAll (by decide) (by decide) (Nat.le_of_ble_eq_true rfl) dX11_show_36 (fun v_36 m_36 h_36 => ?_)
      obtain ⟨e1, e2⟩ := h_36; have e1 := e1.symm; have e2 := e2.symm; subst e1; subst e2
      refine j_istore X dX11_show_39 (by decide) ?_
      refine j_iload_n X dX11_show_41 rfl ?_
      refine j_iconst X dX11_show_42 (-1) (by decide) ?_
      refine j_icmp_ne X 51 dX11_show_43 (by decide) (fun c_43 => absurd c_43 (by decide)) (fun c_43 => ?_)
      refine j_iload X dX11_show_46 rfl ?_
      refine j_goto X 68 dX11_show_48 (by decide) ?_
      refine s_iret X hE hr dX11_show_68 rfl ?_
      exact ⟨rfl, by repeat (first | exact jeq.rf | refine jeq.up ?_ (by decide))⟩
set_option maxRecDepth 4000 in
set_option maxHeartbeats 1000000 in
theorem m_show5_none (np : Nat) (mem : jMem) (p : Nat) (i : Int32) (hn : np ≤ 12) (hp : mem 66 9 = nI np) (hp2 : p < np) (hi : 4 ≤ i.toInt) : jPi yX11_show cX11_show 5 .int 4 [.ref 66, .int (nI p), .int 5, .int i] np mem (fun v c => v = -1000000 ∧ jeq [76] (jup mem 66 0 0) c) := by
  refine jPi.of (own := RX11) rfl rfl (Nat.le_of_ble_eq_true rfl) (fun G X hR hr hE => ?_)
  refine j_aload_n X dX11_show_0 rfl ?_
  refine j_iconst X dX11_show_1 0 (by decide) ?_
  refine j_putI X 11 0 (by decide) (by decide) rfl rfl rfl rfl u950 (o66 np) (k66 np) dX11_show_2 ?_
  refine j_aload_n X dX11_show_5 rfl ?_
  refine j_iload_n X dX11_show_6 rfl ?_
  refine s_callVi X hR (m_isPaper np _ _ hn hp) rfl 11 (by decide) (o66 np) (k66 np) rfl u1151 u1148 u1150 qp39 u12 hyX11_isPaper (by decide) (by decide) (Nat.le_of_ble_eq_true rfl) dX11_show_7 (fun v_7 m_7 h_7 => ?_)
  obtain ⟨e1, e2⟩ := h_7; have e1 := e1.symm; have e2 := e2.symm; subst e1; subst e2
  refine j_ifb_eq X 30 dX11_show_10 (by decide) (fun c_10 => ?_) (fun c_10 => ?_)
  · exfalso
    clear hE hr hR X
    have e1 : (-1 : Int32).toInt = -1 := by decide
    (try simp only [lg_cmp_lt, lg_cmp_gt, lg_cmp_le, lg_cmp_ge] at *); (try simp (disch := omega) only [Int64.le_iff_toInt_le, Int64.lt_iff_toInt_lt, Int32.le_iff_toInt_le, Int32.lt_iff_toInt_lt, fa_eq, fa_lit, fa_litL, nI_toInt, pk_lT, Int32.toInt_toInt64, jadd64, jin, jnoneT] at *); omega
  · refine j_iload_n X dX11_show_13 rfl ?_
    refine j_i2l X dX11_show_14 ?_
    refine j_lconst X dX11_show_15 0 (by decide) ?_
    refine j_ldc2 X dX11_show_16 u1152 ?_
    refine s_callSi X hR (m_inI np _ _ _ _ 0 15 rfl rfl) rfl u1087 u1085 u1086 u12 hyX11_in (by decide) (by decide) (Nat.le_of_ble_eq_true rfl) dX11_show_19 (fun v_19 m_19 h_19 => ?_)
    obtain ⟨e1, e2⟩ := h_19; have e1 := e1.symm; have e2 := e2.symm; subst e1; subst e2
    refine j_ifb_eq X 30 dX11_show_22 (by decide) (fun c_22 => ?_) (fun c_22 => ?_)
    · exfalso
      clear hE hr hR X
      have e1 : (-1 : Int32).toInt = -1 := by decide
      (try simp only [lg_cmp_lt, lg_cmp_gt, lg_cmp_le, lg_cmp_ge] at *); (try simp (disch := omega) only [Int64.le_iff_toInt_le, Int64.lt_iff_toInt_lt, Int32.le_iff_toInt_le, Int32.lt_iff_toInt_lt, fa_eq, fa_lit, fa_litL, nI_toInt, pk_lT, Int32.toInt_toInt64, jadd64, jin, jnoneT] at *); omega
    · refine j_iload_n X dX11_show_25 rfl ?_
      refine j_iconst X dX11_show_26 (-1) (by decide) ?_
      refine j_icmp_ge X 33 dX11_show_27 (by decide) (fun c_27 => ?_) (fun c_27 => ?_)
      · refine j_aload_n X dX11_show_33 rfl ?_
        refine j_iload_n X dX11_show_34 rfl ?_
        refine j_iload_n X dX11_show_35 rfl ?_
        refine s_callVi X hR (m_showAll5 np _ _ (by omega)) rfl 11 (by decide) (o66 np) (k66 np) rfl u1198 u1195 u1197 qp46 u12 hyX11_showAll (by decide) (by decide) (Nat.le_of_ble_eq_true rfl) dX11_show_36 (fun v_36 m_36 h_36 => ?_)
        obtain ⟨e1, e2⟩ := h_36; have e1 := e1.symm; have e2 := e2.symm; subst e1; subst e2
        refine j_istore X dX11_show_39 (by decide) ?_
        refine j_iload_n X dX11_show_41 rfl ?_
        refine j_iconst X dX11_show_42 (-1) (by decide) ?_
        refine j_icmp_ne X 51 dX11_show_43 (by decide) (fun c_43 => ?_) (fun c_43 => ?_)
        · refine j_iload_n X dX11_show_51 rfl ?_
          refine j_iload X dX11_show_52 rfl ?_
          refine j_icmp_ge X 66 dX11_show_54 (by decide) (fun c_54 => ?_) (fun c_54 => ?_)
          · refine j_ldc X dX11_show_66 u949 ?_
            refine s_iret X hE hr dX11_show_68 rfl ?_
            exact ⟨rfl, by repeat (first | exact jeq.rf | refine jeq.up ?_ (by decide))⟩
          · exfalso
            clear hE hr hR X
            have e1 : (-1 : Int32).toInt = -1 := by decide
            (try simp only [lg_cmp_lt, lg_cmp_gt, lg_cmp_le, lg_cmp_ge] at *); (try simp (disch := omega) only [Int64.le_iff_toInt_le, Int64.lt_iff_toInt_lt, Int32.le_iff_toInt_le, Int32.lt_iff_toInt_lt, fa_eq, fa_lit, fa_litL, nI_toInt, pk_lT, Int32.toInt_toInt64, jadd64, jin, jnoneT] at *); omega
        · exfalso
          clear hE hr hR X
          have e1 : (-1 : Int32).toInt = -1 := by decide
          (try simp only [lg_cmp_lt, lg_cmp_gt, lg_cmp_le, lg_cmp_ge] at *); (try simp (disch := omega) only [Int64.le_iff_toInt_le, Int64.lt_iff_toInt_lt, Int32.le_iff_toInt_le, Int32.lt_iff_toInt_lt, fa_eq, fa_lit, fa_litL, nI_toInt, pk_lT, Int32.toInt_toInt64, jadd64, jin, jnoneT] at *); omega
      · exfalso
        clear hE hr hR X
        have e1 : (-1 : Int32).toInt = -1 := by decide
        (try simp only [lg_cmp_lt, lg_cmp_gt, lg_cmp_le, lg_cmp_ge] at *); (try simp (disch := omega) only [Int64.le_iff_toInt_le, Int64.lt_iff_toInt_lt, Int32.le_iff_toInt_le, Int32.lt_iff_toInt_lt, fa_eq, fa_lit, fa_litL, nI_toInt, pk_lT, Int32.toInt_toInt64, jadd64, jin, jnoneT] at *); omega
set_option maxRecDepth 4000 in
set_option maxHeartbeats 1000000 in
theorem m_show5_0 (np : Nat) (mem : jMem) (p : Nat) (hn : np ≤ 12) (hp : mem 66 9 = nI np) (hp2 : p < np) : jPi yX11_show cX11_show 5 .int 4 [.ref 66, .int (nI p), .int 5, .int 0] np mem (fun v c => v = (mem 74 (9 * p + 5)) ∧ jeq [76] (jup mem 66 0 0) c) := by
  refine jPi.of (own := RX11) rfl rfl (Nat.le_of_ble_eq_true rfl) (fun G X hR hr hE => ?_)
  refine j_aload_n X dX11_show_0 rfl ?_
  refine j_iconst X dX11_show_1 0 (by decide) ?_
  refine j_putI X 11 0 (by decide) (by decide) rfl rfl rfl rfl u950 (o66 np) (k66 np) dX11_show_2 ?_
  refine j_aload_n X dX11_show_5 rfl ?_
  refine j_iload_n X dX11_show_6 rfl ?_
  refine s_callVi X hR (m_isPaper np _ _ hn hp) rfl 11 (by decide) (o66 np) (k66 np) rfl u1151 u1148 u1150 qp39 u12 hyX11_isPaper (by decide) (by decide) (Nat.le_of_ble_eq_true rfl) dX11_show_7 (fun v_7 m_7 h_7 => ?_)
  obtain ⟨e1, e2⟩ := h_7; have e1 := e1.symm; have e2 := e2.symm; subst e1; subst e2
  refine j_ifb_eq X 30 dX11_show_10 (by decide) (fun c_10 => ?_) (fun c_10 => ?_)
  · exfalso
    clear hE hr hR X
    have e1 : (-1 : Int32).toInt = -1 := by decide
    (try simp only [lg_cmp_lt, lg_cmp_gt, lg_cmp_le, lg_cmp_ge] at *); (try simp (disch := omega) only [Int64.le_iff_toInt_le, Int64.lt_iff_toInt_lt, Int32.le_iff_toInt_le, Int32.lt_iff_toInt_lt, fa_eq, fa_lit, fa_litL, nI_toInt, pk_lT, Int32.toInt_toInt64, jadd64, jin, jnoneT] at *); omega
  · refine j_iload_n X dX11_show_13 rfl ?_
    refine j_i2l X dX11_show_14 ?_
    refine j_lconst X dX11_show_15 0 (by decide) ?_
    refine j_ldc2 X dX11_show_16 u1152 ?_
    refine s_callSi X hR (m_inI np _ _ _ _ 0 15 rfl rfl) rfl u1087 u1085 u1086 u12 hyX11_in (by decide) (by decide) (Nat.le_of_ble_eq_true rfl) dX11_show_19 (fun v_19 m_19 h_19 => ?_)
    obtain ⟨e1, e2⟩ := h_19; have e1 := e1.symm; have e2 := e2.symm; subst e1; subst e2
    refine j_ifb_eq X 30 dX11_show_22 (by decide) (fun c_22 => ?_) (fun c_22 => ?_)
    · exfalso
      clear hE hr hR X
      have e1 : (-1 : Int32).toInt = -1 := by decide
      (try simp only [lg_cmp_lt, lg_cmp_gt, lg_cmp_le, lg_cmp_ge] at *); (try simp (disch := omega) only [Int64.le_iff_toInt_le, Int64.lt_iff_toInt_lt, Int32.le_iff_toInt_le, Int32.lt_iff_toInt_lt, fa_eq, fa_lit, fa_litL, nI_toInt, pk_lT, Int32.toInt_toInt64, jadd64, jin, jnoneT] at *); omega
    · refine j_iload_n X dX11_show_25 rfl ?_
      refine j_iconst X dX11_show_26 (-1) (by decide) ?_
      refine j_icmp_ge X 33 dX11_show_27 (by decide) (fun c_27 => ?_) (fun c_27 => absurd c_27 (by decide))
      refine j_aload_n X dX11_show_33 rfl ?_
      refine j_iload_n X dX11_show_34 rfl ?_
      refine j_iload_n X dX11_show_35 rfl ?_
      refine s_callVi X hR (m_showAll5 np _ _ (by omega)) rfl 11 (by decide) (o66 np) (k66 np) rfl u1198 u1195 u1197 qp46 u12 hyX11_showAll (by decide) (by decide) (Nat.le_of_ble_eq_true rfl) dX11_show_36 (fun v_36 m_36 h_36 => ?_)
      obtain ⟨e1, e2⟩ := h_36; have e1 := e1.symm; have e2 := e2.symm; subst e1; subst e2
      refine j_istore X dX11_show_39 (by decide) ?_
      refine j_iload_n X dX11_show_41 rfl ?_
      refine j_iconst X dX11_show_42 (-1) (by decide) ?_
      refine j_icmp_ne X 51 dX11_show_43 (by decide) (fun c_43 => ?_) (fun c_43 => absurd c_43 (by decide))
      refine j_iload_n X dX11_show_51 rfl ?_
      refine j_iload X dX11_show_52 rfl ?_
      refine j_icmp_ge X 66 dX11_show_54 (by decide) (fun c_54 => absurd c_54 (by decide)) (fun c_54 => ?_)
      refine j_aload_n X dX11_show_57 rfl ?_
      refine j_getR X 11 12 (by decide) (by decide) rfl u962 (o66 np) (k66 np) _ (p66_12 np) dX11_show_58 ?_
      refine j_iload_n X dX11_show_61 rfl ?_
      refine j_nrm _ (by first | (simp only [fa_lit, pk_mul, nI_add]; done) | (simp only [fa_lit, pk_mul, nI_add]; rfl) | rfl) ?_
      refine j_ialdN X (o76 np) (k76 np) (n := 0) (by rw [l76]; decide) (by rw [l76]; decide) _ rfl dX11_show_62 ?_
      refine j_goto X 68 dX11_show_63 (by decide) ?_
      refine s_iret X hE hr dX11_show_68 rfl ?_
      exact ⟨rfl, by repeat (first | exact jeq.rf | refine jeq.up ?_ (by decide))⟩
set_option maxRecDepth 4000 in
set_option maxHeartbeats 1000000 in
theorem m_show5_1 (np : Nat) (mem : jMem) (p : Nat) (hn : np ≤ 12) (hp : mem 66 9 = nI np) (hp2 : p < np) : jPi yX11_show cX11_show 5 .int 4 [.ref 66, .int (nI p), .int 5, .int 1] np mem (fun v c => v = (jLeaf (nI p) 1 (mem 74 (9 * p + 6))) ∧ jeq [76] (jup mem 66 0 0) c) := by
  refine jPi.of (own := RX11) rfl rfl (Nat.le_of_ble_eq_true rfl) (fun G X hR hr hE => ?_)
  refine j_aload_n X dX11_show_0 rfl ?_
  refine j_iconst X dX11_show_1 0 (by decide) ?_
  refine j_putI X 11 0 (by decide) (by decide) rfl rfl rfl rfl u950 (o66 np) (k66 np) dX11_show_2 ?_
  refine j_aload_n X dX11_show_5 rfl ?_
  refine j_iload_n X dX11_show_6 rfl ?_
  refine s_callVi X hR (m_isPaper np _ _ hn hp) rfl 11 (by decide) (o66 np) (k66 np) rfl u1151 u1148 u1150 qp39 u12 hyX11_isPaper (by decide) (by decide) (Nat.le_of_ble_eq_true rfl) dX11_show_7 (fun v_7 m_7 h_7 => ?_)
  obtain ⟨e1, e2⟩ := h_7; have e1 := e1.symm; have e2 := e2.symm; subst e1; subst e2
  refine j_ifb_eq X 30 dX11_show_10 (by decide) (fun c_10 => ?_) (fun c_10 => ?_)
  · exfalso
    clear hE hr hR X
    have e1 : (-1 : Int32).toInt = -1 := by decide
    (try simp only [lg_cmp_lt, lg_cmp_gt, lg_cmp_le, lg_cmp_ge] at *); (try simp (disch := omega) only [Int64.le_iff_toInt_le, Int64.lt_iff_toInt_lt, Int32.le_iff_toInt_le, Int32.lt_iff_toInt_lt, fa_eq, fa_lit, fa_litL, nI_toInt, pk_lT, Int32.toInt_toInt64, jadd64, jin, jnoneT] at *); omega
  · refine j_iload_n X dX11_show_13 rfl ?_
    refine j_i2l X dX11_show_14 ?_
    refine j_lconst X dX11_show_15 0 (by decide) ?_
    refine j_ldc2 X dX11_show_16 u1152 ?_
    refine s_callSi X hR (m_inI np _ _ _ _ 0 15 rfl rfl) rfl u1087 u1085 u1086 u12 hyX11_in (by decide) (by decide) (Nat.le_of_ble_eq_true rfl) dX11_show_19 (fun v_19 m_19 h_19 => ?_)
    obtain ⟨e1, e2⟩ := h_19; have e1 := e1.symm; have e2 := e2.symm; subst e1; subst e2
    refine j_ifb_eq X 30 dX11_show_22 (by decide) (fun c_22 => ?_) (fun c_22 => ?_)
    · exfalso
      clear hE hr hR X
      have e1 : (-1 : Int32).toInt = -1 := by decide
      (try simp only [lg_cmp_lt, lg_cmp_gt, lg_cmp_le, lg_cmp_ge] at *); (try simp (disch := omega) only [Int64.le_iff_toInt_le, Int64.lt_iff_toInt_lt, Int32.le_iff_toInt_le, Int32.lt_iff_toInt_lt, fa_eq, fa_lit, fa_litL, nI_toInt, pk_lT, Int32.toInt_toInt64, jadd64, jin, jnoneT] at *); omega
    · refine j_iload_n X dX11_show_25 rfl ?_
      refine j_iconst X dX11_show_26 (-1) (by decide) ?_
      refine j_icmp_ge X 33 dX11_show_27 (by decide) (fun c_27 => ?_) (fun c_27 => absurd c_27 (by decide))
      refine j_aload_n X dX11_show_33 rfl ?_
      refine j_iload_n X dX11_show_34 rfl ?_
      refine j_iload_n X dX11_show_35 rfl ?_
      refine s_callVi X hR (m_showAll5 np _ _ (by omega)) rfl 11 (by decide) (o66 np) (k66 np) rfl u1198 u1195 u1197 qp46 u12 hyX11_showAll (by decide) (by decide) (Nat.le_of_ble_eq_true rfl) dX11_show_36 (fun v_36 m_36 h_36 => ?_)
      obtain ⟨e1, e2⟩ := h_36; have e1 := e1.symm; have e2 := e2.symm; subst e1; subst e2
      refine j_istore X dX11_show_39 (by decide) ?_
      refine j_iload_n X dX11_show_41 rfl ?_
      refine j_iconst X dX11_show_42 (-1) (by decide) ?_
      refine j_icmp_ne X 51 dX11_show_43 (by decide) (fun c_43 => ?_) (fun c_43 => absurd c_43 (by decide))
      refine j_iload_n X dX11_show_51 rfl ?_
      refine j_iload X dX11_show_52 rfl ?_
      refine j_icmp_ge X 66 dX11_show_54 (by decide) (fun c_54 => absurd c_54 (by decide)) (fun c_54 => ?_)
      refine j_aload_n X dX11_show_57 rfl ?_
      refine j_getR X 11 12 (by decide) (by decide) rfl u962 (o66 np) (k66 np) _ (p66_12 np) dX11_show_58 ?_
      refine j_iload_n X dX11_show_61 rfl ?_
      refine j_nrm _ (by first | (simp only [fa_lit, pk_mul, nI_add]; done) | (simp only [fa_lit, pk_mul, nI_add]; rfl) | rfl) ?_
      refine j_ialdN X (o76 np) (k76 np) (n := 1) (by rw [l76]; decide) (by rw [l76]; decide) _ rfl dX11_show_62 ?_
      refine j_goto X 68 dX11_show_63 (by decide) ?_
      refine s_iret X hE hr dX11_show_68 rfl ?_
      exact ⟨rfl, by repeat (first | exact jeq.rf | refine jeq.up ?_ (by decide))⟩
set_option maxRecDepth 4000 in
set_option maxHeartbeats 1000000 in
theorem m_show5_2 (np : Nat) (mem : jMem) (p : Nat) (hn : np ≤ 12) (hp : mem 66 9 = nI np) (hp2 : p < np) : jPi yX11_show cX11_show 5 .int 4 [.ref 66, .int (nI p), .int 5, .int 2] np mem (fun v c => v = (mem 74 (9 * p + 7)) ∧ jeq [76] (jup mem 66 0 0) c) := by
  refine jPi.of (own := RX11) rfl rfl (Nat.le_of_ble_eq_true rfl) (fun G X hR hr hE => ?_)
  refine j_aload_n X dX11_show_0 rfl ?_
  refine j_iconst X dX11_show_1 0 (by decide) ?_
  refine j_putI X 11 0 (by decide) (by decide) rfl rfl rfl rfl u950 (o66 np) (k66 np) dX11_show_2 ?_
  refine j_aload_n X dX11_show_5 rfl ?_
  refine j_iload_n X dX11_show_6 rfl ?_
  refine s_callVi X hR (m_isPaper np _ _ hn hp) rfl 11 (by decide) (o66 np) (k66 np) rfl u1151 u1148 u1150 qp39 u12 hyX11_isPaper (by decide) (by decide) (Nat.le_of_ble_eq_true rfl) dX11_show_7 (fun v_7 m_7 h_7 => ?_)
  obtain ⟨e1, e2⟩ := h_7; have e1 := e1.symm; have e2 := e2.symm; subst e1; subst e2
  refine j_ifb_eq X 30 dX11_show_10 (by decide) (fun c_10 => ?_) (fun c_10 => ?_)
  · exfalso
    clear hE hr hR X
    have e1 : (-1 : Int32).toInt = -1 := by decide
    (try simp only [lg_cmp_lt, lg_cmp_gt, lg_cmp_le, lg_cmp_ge] at *); (try simp (disch := omega) only [Int64.le_iff_toInt_le, Int64.lt_iff_toInt_lt, Int32.le_iff_toInt_le, Int32.lt_iff_toInt_lt, fa_eq, fa_lit, fa_litL, nI_toInt, pk_lT, Int32.toInt_toInt64, jadd64, jin, jnoneT] at *); omega
  · refine j_iload_n X dX11_show_13 rfl ?_
    refine j_i2l X dX11_show_14 ?_
    refine j_lconst X dX11_show_15 0 (by decide) ?_
    refine j_ldc2 X dX11_show_16 u1152 ?_
    refine s_callSi X hR (m_inI np _ _ _ _ 0 15 rfl rfl) rfl u1087 u1085 u1086 u12 hyX11_in (by decide) (by decide) (Nat.le_of_ble_eq_true rfl) dX11_show_19 (fun v_19 m_19 h_19 => ?_)
    obtain ⟨e1, e2⟩ := h_19; have e1 := e1.symm; have e2 := e2.symm; subst e1; subst e2
    refine j_ifb_eq X 30 dX11_show_22 (by decide) (fun c_22 => ?_) (fun c_22 => ?_)
    · exfalso
      clear hE hr hR X
      have e1 : (-1 : Int32).toInt = -1 := by decide
      (try simp only [lg_cmp_lt, lg_cmp_gt, lg_cmp_le, lg_cmp_ge] at *); (try simp (disch := omega) only [Int64.le_iff_toInt_le, Int64.lt_iff_toInt_lt, Int32.le_iff_toInt_le, Int32.lt_iff_toInt_lt, fa_eq, fa_lit, fa_litL, nI_toInt, pk_lT, Int32.toInt_toInt64, jadd64, jin, jnoneT] at *); omega
    · refine j_iload_n X dX11_show_25 rfl ?_
      refine j_iconst X dX11_show_26 (-1) (by decide) ?_
      refine j_icmp_ge X 33 dX11_show_27 (by decide) (fun c_27 => ?_) (fun c_27 => absurd c_27 (by decide))
      refine j_aload_n X dX11_show_33 rfl ?_
      refine j_iload_n X dX11_show_34 rfl ?_
      refine j_iload_n X dX11_show_35 rfl ?_
      refine s_callVi X hR (m_showAll5 np _ _ (by omega)) rfl 11 (by decide) (o66 np) (k66 np) rfl u1198 u1195 u1197 qp46 u12 hyX11_showAll (by decide) (by decide) (Nat.le_of_ble_eq_true rfl) dX11_show_36 (fun v_36 m_36 h_36 => ?_)
      obtain ⟨e1, e2⟩ := h_36; have e1 := e1.symm; have e2 := e2.symm; subst e1; subst e2
      refine j_istore X dX11_show_39 (by decide) ?_
      refine j_iload_n X dX11_show_41 rfl ?_
      refine j_iconst X dX11_show_42 (-1) (by decide) ?_
      refine j_icmp_ne X 51 dX11_show_43 (by decide) (fun c_43 => ?_) (fun c_43 => absurd c_43 (by decide))
      refine j_iload_n X dX11_show_51 rfl ?_
      refine j_iload X dX11_show_52 rfl ?_
      refine j_icmp_ge X 66 dX11_show_54 (by decide) (fun c_54 => absurd c_54 (by decide)) (fun c_54 => ?_)
      refine j_aload_n X dX11_show_57 rfl ?_
      refine j_getR X 11 12 (by decide) (by decide) rfl u962 (o66 np) (k66 np) _ (p66_12 np) dX11_show_58 ?_
      refine j_iload_n X dX11_show_61 rfl ?_
      refine j_nrm _ (by first | (simp only [fa_lit, pk_mul, nI_add]; done) | (simp only [fa_lit, pk_mul, nI_add]; rfl) | rfl) ?_
      refine j_ialdN X (o76 np) (k76 np) (n := 2) (by rw [l76]; decide) (by rw [l76]; decide) _ rfl dX11_show_62 ?_
      refine j_goto X 68 dX11_show_63 (by decide) ?_
      refine s_iret X hE hr dX11_show_68 rfl ?_
      exact ⟨rfl, by repeat (first | exact jeq.rf | refine jeq.up ?_ (by decide))⟩
set_option maxRecDepth 4000 in
set_option maxHeartbeats 1000000 in
theorem m_show5_3 (np : Nat) (mem : jMem) (p : Nat) (hn : np ≤ 12) (hp : mem 66 9 = nI np) (hp2 : p < np) : jPi yX11_show cX11_show 5 .int 4 [.ref 66, .int (nI p), .int 5, .int 3] np mem (fun v c => v = (jLeaf (nI p) 3 (mem 74 (9 * p + 8))) ∧ jeq [76] (jup mem 66 0 0) c) := by
  refine jPi.of (own := RX11) rfl rfl (Nat.le_of_ble_eq_true rfl) (fun G X hR hr hE => ?_)
  refine j_aload_n X dX11_show_0 rfl ?_
  refine j_iconst X dX11_show_1 0 (by decide) ?_
  refine j_putI X 11 0 (by decide) (by decide) rfl rfl rfl rfl u950 (o66 np) (k66 np) dX11_show_2 ?_
  refine j_aload_n X dX11_show_5 rfl ?_
  refine j_iload_n X dX11_show_6 rfl ?_
  refine s_callVi X hR (m_isPaper np _ _ hn hp) rfl 11 (by decide) (o66 np) (k66 np) rfl u1151 u1148 u1150 qp39 u12 hyX11_isPaper (by decide) (by decide) (Nat.le_of_ble_eq_true rfl) dX11_show_7 (fun v_7 m_7 h_7 => ?_)
  obtain ⟨e1, e2⟩ := h_7; have e1 := e1.symm; have e2 := e2.symm; subst e1; subst e2
  refine j_ifb_eq X 30 dX11_show_10 (by decide) (fun c_10 => ?_) (fun c_10 => ?_)
  · exfalso
    clear hE hr hR X
    have e1 : (-1 : Int32).toInt = -1 := by decide
    (try simp only [lg_cmp_lt, lg_cmp_gt, lg_cmp_le, lg_cmp_ge] at *); (try simp (disch := omega) only [Int64.le_iff_toInt_le, Int64.lt_iff_toInt_lt, Int32.le_iff_toInt_le, Int32.lt_iff_toInt_lt, fa_eq, fa_lit, fa_litL, nI_toInt, pk_lT, Int32.toInt_toInt64, jadd64, jin, jnoneT] at *); omega
  · refine j_iload_n X dX11_show_13 rfl ?_
    refine j_i2l X dX11_show_14 ?_
    refine j_lconst X dX11_show_15 0 (by decide) ?_
    refine j_ldc2 X dX11_show_16 u1152 ?_
    refine s_callSi X hR (m_inI np _ _ _ _ 0 15 rfl rfl) rfl u1087 u1085 u1086 u12 hyX11_in (by decide) (by decide) (Nat.le_of_ble_eq_true rfl) dX11_show_19 (fun v_19 m_19 h_19 => ?_)
    obtain ⟨e1, e2⟩ := h_19; have e1 := e1.symm; have e2 := e2.symm; subst e1; subst e2
    refine j_ifb_eq X 30 dX11_show_22 (by decide) (fun c_22 => ?_) (fun c_22 => ?_)
    · exfalso
      clear hE hr hR X
      have e1 : (-1 : Int32).toInt = -1 := by decide
      (try simp only [lg_cmp_lt, lg_cmp_gt, lg_cmp_le, lg_cmp_ge] at *); (try simp (disch := omega) only [Int64.le_iff_toInt_le, Int64.lt_iff_toInt_lt, Int32.le_iff_toInt_le, Int32.lt_iff_toInt_lt, fa_eq, fa_lit, fa_litL, nI_toInt, pk_lT, Int32.toInt_toInt64, jadd64, jin, jnoneT] at *); omega
    · refine j_iload_n X dX11_show_25 rfl ?_
      refine j_iconst X dX11_show_26 (-1) (by decide) ?_
      refine j_icmp_ge X 33 dX11_show_27 (by decide) (fun c_27 => ?_) (fun c_27 => absurd c_27 (by decide))
      refine j_aload_n X dX11_show_33 rfl ?_
      refine j_iload_n X dX11_show_34 rfl ?_
      refine j_iload_n X dX11_show_35 rfl ?_
      refine s_callVi X hR (m_showAll5 np _ _ (by omega)) rfl 11 (by decide) (o66 np) (k66 np) rfl u1198 u1195 u1197 qp46 u12 hyX11_showAll (by decide) (by decide) (Nat.le_of_ble_eq_true rfl) dX11_show_36 (fun v_36 m_36 h_36 => ?_)
      obtain ⟨e1, e2⟩ := h_36; have e1 := e1.symm; have e2 := e2.symm; subst e1; subst e2
      refine j_istore X dX11_show_39 (by decide) ?_
      refine j_iload_n X dX11_show_41 rfl ?_
      refine j_iconst X dX11_show_42 (-1) (by decide) ?_
      refine j_icmp_ne X 51 dX11_show_43 (by decide) (fun c_43 => ?_) (fun c_43 => absurd c_43 (by decide))
      refine j_iload_n X dX11_show_51 rfl ?_
      refine j_iload X dX11_show_52 rfl ?_
      refine j_icmp_ge X 66 dX11_show_54 (by decide) (fun c_54 => absurd c_54 (by decide)) (fun c_54 => ?_)
      refine j_aload_n X dX11_show_57 rfl ?_
      refine j_getR X 11 12 (by decide) (by decide) rfl u962 (o66 np) (k66 np) _ (p66_12 np) dX11_show_58 ?_
      refine j_iload_n X dX11_show_61 rfl ?_
      refine j_nrm _ (by first | (simp only [fa_lit, pk_mul, nI_add]; done) | (simp only [fa_lit, pk_mul, nI_add]; rfl) | rfl) ?_
      refine j_ialdN X (o76 np) (k76 np) (n := 3) (by rw [l76]; decide) (by rw [l76]; decide) _ rfl dX11_show_62 ?_
      refine j_goto X 68 dX11_show_63 (by decide) ?_
      refine s_iret X hE hr dX11_show_68 rfl ?_
      exact ⟨rfl, by repeat (first | exact jeq.rf | refine jeq.up ?_ (by decide))⟩
set_option maxRecDepth 4000 in
set_option maxHeartbeats 1000000 in
theorem m_show6_n (np : Nat) (mem : jMem) (p : Nat) (hn : np ≤ 12) (hp : mem 66 9 = nI np) (hp2 : p < np) : jPi yX11_show cX11_show 5 .int 4 [.ref 66, .int (nI p), .int 6, .int (-1)] np mem (fun v c => v = 4 ∧ jeq [76] (jup mem 66 0 0) c) := by
  refine jPi.of (own := RX11) rfl rfl (Nat.le_of_ble_eq_true rfl) (fun G X hR hr hE => ?_)
  refine j_aload_n X dX11_show_0 rfl ?_
  refine j_iconst X dX11_show_1 0 (by decide) ?_
  refine j_putI X 11 0 (by decide) (by decide) rfl rfl rfl rfl u950 (o66 np) (k66 np) dX11_show_2 ?_
  refine j_aload_n X dX11_show_5 rfl ?_
  refine j_iload_n X dX11_show_6 rfl ?_
  refine s_callVi X hR (m_isPaper np _ _ hn hp) rfl 11 (by decide) (o66 np) (k66 np) rfl u1151 u1148 u1150 qp39 u12 hyX11_isPaper (by decide) (by decide) (Nat.le_of_ble_eq_true rfl) dX11_show_7 (fun v_7 m_7 h_7 => ?_)
  obtain ⟨e1, e2⟩ := h_7; have e1 := e1.symm; have e2 := e2.symm; subst e1; subst e2
  refine j_ifb_eq X 30 dX11_show_10 (by decide) (fun c_10 => ?_) (fun c_10 => ?_)
  · exfalso
    clear hE hr hR X
    have e1 : (-1 : Int32).toInt = -1 := by decide
    (try simp only [lg_cmp_lt, lg_cmp_gt, lg_cmp_le, lg_cmp_ge] at *); (try simp (disch := omega) only [Int64.le_iff_toInt_le, Int64.lt_iff_toInt_lt, Int32.le_iff_toInt_le, Int32.lt_iff_toInt_lt, fa_eq, fa_lit, fa_litL, nI_toInt, pk_lT, Int32.toInt_toInt64, jadd64, jin, jnoneT] at *); omega
  · refine j_iload_n X dX11_show_13 rfl ?_
    refine j_i2l X dX11_show_14 ?_
    refine j_lconst X dX11_show_15 0 (by decide) ?_
    refine j_ldc2 X dX11_show_16 u1152 ?_
    refine s_callSi X hR (m_inI np _ _ _ _ 0 15 rfl rfl) rfl u1087 u1085 u1086 u12 hyX11_in (by decide) (by decide) (Nat.le_of_ble_eq_true rfl) dX11_show_19 (fun v_19 m_19 h_19 => ?_)
    obtain ⟨e1, e2⟩ := h_19; have e1 := e1.symm; have e2 := e2.symm; subst e1; subst e2
    refine j_ifb_eq X 30 dX11_show_22 (by decide) (fun c_22 => ?_) (fun c_22 => ?_)
    · exfalso
      clear hE hr hR X
      have e1 : (-1 : Int32).toInt = -1 := by decide
      (try simp only [lg_cmp_lt, lg_cmp_gt, lg_cmp_le, lg_cmp_ge] at *); (try simp (disch := omega) only [Int64.le_iff_toInt_le, Int64.lt_iff_toInt_lt, Int32.le_iff_toInt_le, Int32.lt_iff_toInt_lt, fa_eq, fa_lit, fa_litL, nI_toInt, pk_lT, Int32.toInt_toInt64, jadd64, jin, jnoneT] at *); omega
    · refine j_iload_n X dX11_show_25 rfl ?_
      refine j_iconst X dX11_show_26 (-1) (by decide) ?_
      refine j_icmp_ge X 33 dX11_show_27 (by decide) (fun c_27 => ?_) (fun c_27 => absurd c_27 (by decide))
      refine j_aload_n X dX11_show_33 rfl ?_
      refine j_iload_n X dX11_show_34 rfl ?_
      refine j_iload_n X dX11_show_35 rfl ?_
      refine s_callVi X hR (m_showAll6 np _ _ (by omega)) rfl 11 (by decide) (o66 np) (k66 np) rfl u1198 u1195 u1197 qp46 u12 hyX11_showAll (by decide) (by decide) (Nat.le_of_ble_eq_true rfl) dX11_show_36 (fun v_36 m_36 h_36 => ?_)
      obtain ⟨e1, e2⟩ := h_36; have e1 := e1.symm; have e2 := e2.symm; subst e1; subst e2
      refine j_istore X dX11_show_39 (by decide) ?_
      refine j_iload_n X dX11_show_41 rfl ?_
      refine j_iconst X dX11_show_42 (-1) (by decide) ?_
      refine j_icmp_ne X 51 dX11_show_43 (by decide) (fun c_43 => absurd c_43 (by decide)) (fun c_43 => ?_)
      refine j_iload X dX11_show_46 rfl ?_
      refine j_goto X 68 dX11_show_48 (by decide) ?_
      refine s_iret X hE hr dX11_show_68 rfl ?_
      exact ⟨rfl, by repeat (first | exact jeq.rf | refine jeq.up ?_ (by decide))⟩
set_option maxRecDepth 4000 in
set_option maxHeartbeats 1000000 in
theorem m_show6_none (np : Nat) (mem : jMem) (p : Nat) (i : Int32) (hn : np ≤ 12) (hp : mem 66 9 = nI np) (hp2 : p < np) (hi : 4 ≤ i.toInt) : jPi yX11_show cX11_show 5 .int 4 [.ref 66, .int (nI p), .int 6, .int i] np mem (fun v c => v = -1000000 ∧ jeq [76] (jup mem 66 0 0) c) := by
  refine jPi.of (own := RX11) rfl rfl (Nat.le_of_ble_eq_true rfl) (fun G X hR hr hE => ?_)
  refine j_aload_n X dX11_show_0 rfl ?_
  refine j_iconst X dX11_show_1 0 (by decide) ?_
  refine j_putI X 11 0 (by decide) (by decide) rfl rfl rfl rfl u950 (o66 np) (k66 np) dX11_show_2 ?_
  refine j_aload_n X dX11_show_5 rfl ?_
  refine j_iload_n X dX11_show_6 rfl ?_
  refine s_callVi X hR (m_isPaper np _ _ hn hp) rfl 11 (by decide) (o66 np) (k66 np) rfl u1151 u1148 u1150 qp39 u12 hyX11_isPaper (by decide) (by decide) (Nat.le_of_ble_eq_true rfl) dX11_show_7 (fun v_7 m_7 h_7 => ?_)
  obtain ⟨e1, e2⟩ := h_7; have e1 := e1.symm; have e2 := e2.symm; subst e1; subst e2
  refine j_ifb_eq X 30 dX11_show_10 (by decide) (fun c_10 => ?_) (fun c_10 => ?_)
  · exfalso
    clear hE hr hR X
    have e1 : (-1 : Int32).toInt = -1 := by decide
    (try simp only [lg_cmp_lt, lg_cmp_gt, lg_cmp_le, lg_cmp_ge] at *); (try simp (disch := omega) only [Int64.le_iff_toInt_le, Int64.lt_iff_toInt_lt, Int32.le_iff_toInt_le, Int32.lt_iff_toInt_lt, fa_eq, fa_lit, fa_litL, nI_toInt, pk_lT, Int32.toInt_toInt64, jadd64, jin, jnoneT] at *); omega
  · refine j_iload_n X dX11_show_13 rfl ?_
    refine j_i2l X dX11_show_14 ?_
    refine j_lconst X dX11_show_15 0 (by decide) ?_
    refine j_ldc2 X dX11_show_16 u1152 ?_
    refine s_callSi X hR (m_inI np _ _ _ _ 0 15 rfl rfl) rfl u1087 u1085 u1086 u12 hyX11_in (by decide) (by decide) (Nat.le_of_ble_eq_true rfl) dX11_show_19 (fun v_19 m_19 h_19 => ?_)
    obtain ⟨e1, e2⟩ := h_19; have e1 := e1.symm; have e2 := e2.symm; subst e1; subst e2
    refine j_ifb_eq X 30 dX11_show_22 (by decide) (fun c_22 => ?_) (fun c_22 => ?_)
    · exfalso
      clear hE hr hR X
      have e1 : (-1 : Int32).toInt = -1 := by decide
      (try simp only [lg_cmp_lt, lg_cmp_gt, lg_cmp_le, lg_cmp_ge] at *); (try simp (disch := omega) only [Int64.le_iff_toInt_le, Int64.lt_iff_toInt_lt, Int32.le_iff_toInt_le, Int32.lt_iff_toInt_lt, fa_eq, fa_lit, fa_litL, nI_toInt, pk_lT, Int32.toInt_toInt64, jadd64, jin, jnoneT] at *); omega
    · refine j_iload_n X dX11_show_25 rfl ?_
      refine j_iconst X dX11_show_26 (-1) (by decide) ?_
      refine j_icmp_ge X 33 dX11_show_27 (by decide) (fun c_27 => ?_) (fun c_27 => ?_)
      · refine j_aload_n X dX11_show_33 rfl ?_
        refine j_iload_n X dX11_show_34 rfl ?_
        refine j_iload_n X dX11_show_35 rfl ?_
        refine s_callVi X hR (m_showAll6 np _ _ (by omega)) rfl 11 (by decide) (o66 np) (k66 np) rfl u1198 u1195 u1197 qp46 u12 hyX11_showAll (by decide) (by decide) (Nat.le_of_ble_eq_true rfl) dX11_show_36 (fun v_36 m_36 h_36 => ?_)
        obtain ⟨e1, e2⟩ := h_36; have e1 := e1.symm; have e2 := e2.symm; subst e1; subst e2
        refine j_istore X dX11_show_39 (by decide) ?_
        refine j_iload_n X dX11_show_41 rfl ?_
        refine j_iconst X dX11_show_42 (-1) (by decide) ?_
        refine j_icmp_ne X 51 dX11_show_43 (by decide) (fun c_43 => ?_) (fun c_43 => ?_)
        · refine j_iload_n X dX11_show_51 rfl ?_
          refine j_iload X dX11_show_52 rfl ?_
          refine j_icmp_ge X 66 dX11_show_54 (by decide) (fun c_54 => ?_) (fun c_54 => ?_)
          · refine j_ldc X dX11_show_66 u949 ?_
            refine s_iret X hE hr dX11_show_68 rfl ?_
            exact ⟨rfl, by repeat (first | exact jeq.rf | refine jeq.up ?_ (by decide))⟩
          · exfalso
            clear hE hr hR X
            have e1 : (-1 : Int32).toInt = -1 := by decide
            (try simp only [lg_cmp_lt, lg_cmp_gt, lg_cmp_le, lg_cmp_ge] at *); (try simp (disch := omega) only [Int64.le_iff_toInt_le, Int64.lt_iff_toInt_lt, Int32.le_iff_toInt_le, Int32.lt_iff_toInt_lt, fa_eq, fa_lit, fa_litL, nI_toInt, pk_lT, Int32.toInt_toInt64, jadd64, jin, jnoneT] at *); omega
        · exfalso
          clear hE hr hR X
          have e1 : (-1 : Int32).toInt = -1 := by decide
          (try simp only [lg_cmp_lt, lg_cmp_gt, lg_cmp_le, lg_cmp_ge] at *); (try simp (disch := omega) only [Int64.le_iff_toInt_le, Int64.lt_iff_toInt_lt, Int32.le_iff_toInt_le, Int32.lt_iff_toInt_lt, fa_eq, fa_lit, fa_litL, nI_toInt, pk_lT, Int32.toInt_toInt64, jadd64, jin, jnoneT] at *); omega
      · exfalso
        clear hE hr hR X
        have e1 : (-1 : Int32).toInt = -1 := by decide
        (try simp only [lg_cmp_lt, lg_cmp_gt, lg_cmp_le, lg_cmp_ge] at *); (try simp (disch := omega) only [Int64.le_iff_toInt_le, Int64.lt_iff_toInt_lt, Int32.le_iff_toInt_le, Int32.lt_iff_toInt_lt, fa_eq, fa_lit, fa_litL, nI_toInt, pk_lT, Int32.toInt_toInt64, jadd64, jin, jnoneT] at *); omega
set_option maxRecDepth 4000 in
set_option maxHeartbeats 1000000 in
theorem m_show6_0 (np : Nat) (mem : jMem) (p : Nat) (hn : np ≤ 12) (hp : mem 66 9 = nI np) (hp2 : p < np) : jPi yX11_show cX11_show 5 .int 4 [.ref 66, .int (nI p), .int 6, .int 0] np mem (fun v c => v = (jLeaf (nI p) 0 (mem 74 (9 * p + 5))) ∧ jeq [76] (jup mem 66 0 0) c) := by
  refine jPi.of (own := RX11) rfl rfl (Nat.le_of_ble_eq_true rfl) (fun G X hR hr hE => ?_)
  refine j_aload_n X dX11_show_0 rfl ?_
  refine j_iconst X dX11_show_1 0 (by decide) ?_
  refine j_putI X 11 0 (by decide) (by decide) rfl rfl rfl rfl u950 (o66 np) (k66 np) dX11_show_2 ?_
  refine j_aload_n X dX11_show_5 rfl ?_
  refine j_iload_n X dX11_show_6 rfl ?_
  refine s_callVi X hR (m_isPaper np _ _ hn hp) rfl 11 (by decide) (o66 np) (k66 np) rfl u1151 u1148 u1150 qp39 u12 hyX11_isPaper (by decide) (by decide) (Nat.le_of_ble_eq_true rfl) dX11_show_7 (fun v_7 m_7 h_7 => ?_)
  obtain ⟨e1, e2⟩ := h_7; have e1 := e1.symm; have e2 := e2.symm; subst e1; subst e2
  refine j_ifb_eq X 30 dX11_show_10 (by decide) (fun c_10 => ?_) (fun c_10 => ?_)
  · exfalso
    clear hE hr hR X
    have e1 : (-1 : Int32).toInt = -1 := by decide
    (try simp only [lg_cmp_lt, lg_cmp_gt, lg_cmp_le, lg_cmp_ge] at *); (try simp (disch := omega) only [Int64.le_iff_toInt_le, Int64.lt_iff_toInt_lt, Int32.le_iff_toInt_le, Int32.lt_iff_toInt_lt, fa_eq, fa_lit, fa_litL, nI_toInt, pk_lT, Int32.toInt_toInt64, jadd64, jin, jnoneT] at *); omega
  · refine j_iload_n X dX11_show_13 rfl ?_
    refine j_i2l X dX11_show_14 ?_
    refine j_lconst X dX11_show_15 0 (by decide) ?_
    refine j_ldc2 X dX11_show_16 u1152 ?_
    refine s_callSi X hR (m_inI np _ _ _ _ 0 15 rfl rfl) rfl u1087 u1085 u1086 u12 hyX11_in (by decide) (by decide) (Nat.le_of_ble_eq_true rfl) dX11_show_19 (fun v_19 m_19 h_19 => ?_)
    obtain ⟨e1, e2⟩ := h_19; have e1 := e1.symm; have e2 := e2.symm; subst e1; subst e2
    refine j_ifb_eq X 30 dX11_show_22 (by decide) (fun c_22 => ?_) (fun c_22 => ?_)
    · exfalso
      clear hE hr hR X
      have e1 : (-1 : Int32).toInt = -1 := by decide
      (try simp only [lg_cmp_lt, lg_cmp_gt, lg_cmp_le, lg_cmp_ge] at *); (try simp (disch := omega) only [Int64.le_iff_toInt_le, Int64.lt_iff_toInt_lt, Int32.le_iff_toInt_le, Int32.lt_iff_toInt_lt, fa_eq, fa_lit, fa_litL, nI_toInt, pk_lT, Int32.toInt_toInt64, jadd64, jin, jnoneT] at *); omega
    · refine j_iload_n X dX11_show_25 rfl ?_
      refine j_iconst X dX11_show_26 (-1) (by decide) ?_
      refine j_icmp_ge X 33 dX11_show_27 (by decide) (fun c_27 => ?_) (fun c_27 => absurd c_27 (by decide))
      refine j_aload_n X dX11_show_33 rfl ?_
      refine j_iload_n X dX11_show_34 rfl ?_
      refine j_iload_n X dX11_show_35 rfl ?_
      refine s_callVi X hR (m_showAll6 np _ _ (by omega)) rfl 11 (by decide) (o66 np) (k66 np) rfl u1198 u1195 u1197 qp46 u12 hyX11_showAll (by decide) (by decide) (Nat.le_of_ble_eq_true rfl) dX11_show_36 (fun v_36 m_36 h_36 => ?_)
      obtain ⟨e1, e2⟩ := h_36; have e1 := e1.symm; have e2 := e2.symm; subst e1; subst e2
      refine j_istore X dX11_show_39 (by decide) ?_
      refine j_iload_n X dX11_show_41 rfl ?_
      refine j_iconst X dX11_show_42 (-1) (by decide) ?_
      refine j_icmp_ne X 51 dX11_show_43 (by decide) (fun c_43 => ?_) (fun c_43 => absurd c_43 (by decide))
      refine j_iload_n X dX11_show_51 rfl ?_
      refine j_iload X dX11_show_52 rfl ?_
      refine j_icmp_ge X 66 dX11_show_54 (by decide) (fun c_54 => absurd c_54 (by decide)) (fun c_54 => ?_)
      refine j_aload_n X dX11_show_57 rfl ?_
      refine j_getR X 11 12 (by decide) (by decide) rfl u962 (o66 np) (k66 np) _ (p66_12 np) dX11_show_58 ?_
      refine j_iload_n X dX11_show_61 rfl ?_
      refine j_nrm _ (by first | (simp only [fa_lit, pk_mul, nI_add]; done) | (simp only [fa_lit, pk_mul, nI_add]; rfl) | rfl) ?_
      refine j_ialdN X (o76 np) (k76 np) (n := 0) (by rw [l76]; decide) (by rw [l76]; decide) _ rfl dX11_show_62 ?_
      refine j_goto X 68 dX11_show_63 (by decide) ?_
      refine s_iret X hE hr dX11_show_68 rfl ?_
      exact ⟨rfl, by repeat (first | exact jeq.rf | refine jeq.up ?_ (by decide))⟩
set_option maxRecDepth 4000 in
set_option maxHeartbeats 1000000 in
theorem m_show6_1 (np : Nat) (mem : jMem) (p : Nat) (hn : np ≤ 12) (hp : mem 66 9 = nI np) (hp2 : p < np) : jPi yX11_show cX11_show 5 .int 4 [.ref 66, .int (nI p), .int 6, .int 1] np mem (fun v c => v = (mem 74 (9 * p + 6)) ∧ jeq [76] (jup mem 66 0 0) c) := by
  refine jPi.of (own := RX11) rfl rfl (Nat.le_of_ble_eq_true rfl) (fun G X hR hr hE => ?_)
  refine j_aload_n X dX11_show_0 rfl ?_
  refine j_iconst X dX11_show_1 0 (by decide) ?_
  refine j_putI X 11 0 (by decide) (by decide) rfl rfl rfl rfl u950 (o66 np) (k66 np) dX11_show_2 ?_
  refine j_aload_n X dX11_show_5 rfl ?_
  refine j_iload_n X dX11_show_6 rfl ?_
  refine s_callVi X hR (m_isPaper np _ _ hn hp) rfl 11 (by decide) (o66 np) (k66 np) rfl u1151 u1148 u1150 qp39 u12 hyX11_isPaper (by decide) (by decide) (Nat.le_of_ble_eq_true rfl) dX11_show_7 (fun v_7 m_7 h_7 => ?_)
  obtain ⟨e1, e2⟩ := h_7; have e1 := e1.symm; have e2 := e2.symm; subst e1; subst e2
  refine j_ifb_eq X 30 dX11_show_10 (by decide) (fun c_10 => ?_) (fun c_10 => ?_)
  · exfalso
    clear hE hr hR X
    have e1 : (-1 : Int32).toInt = -1 := by decide
    (try simp only [lg_cmp_lt, lg_cmp_gt, lg_cmp_le, lg_cmp_ge] at *); (try simp (disch := omega) only [Int64.le_iff_toInt_le, Int64.lt_iff_toInt_lt, Int32.le_iff_toInt_le, Int32.lt_iff_toInt_lt, fa_eq, fa_lit, fa_litL, nI_toInt, pk_lT, Int32.toInt_toInt64, jadd64, jin, jnoneT] at *); omega
  · refine j_iload_n X dX11_show_13 rfl ?_
    refine j_i2l X dX11_show_14 ?_
    refine j_lconst X dX11_show_15 0 (by decide) ?_
    refine j_ldc2 X dX11_show_16 u1152 ?_
    refine s_callSi X hR (m_inI np _ _ _ _ 0 15 rfl rfl) rfl u1087 u1085 u1086 u12 hyX11_in (by decide) (by decide) (Nat.le_of_ble_eq_true rfl) dX11_show_19 (fun v_19 m_19 h_19 => ?_)
    obtain ⟨e1, e2⟩ := h_19; have e1 := e1.symm; have e2 := e2.symm; subst e1; subst e2
    refine j_ifb_eq X 30 dX11_show_22 (by decide) (fun c_22 => ?_) (fun c_22 => ?_)
    · exfalso
      clear hE hr hR X
      have e1 : (-1 : Int32).toInt = -1 := by decide
      (try simp only [lg_cmp_lt, lg_cmp_gt, lg_cmp_le, lg_cmp_ge] at *); (try simp (disch := omega) only [Int64.le_iff_toInt_le, Int64.lt_iff_toInt_lt, Int32.le_iff_toInt_le, Int32.lt_iff_toInt_lt, fa_eq, fa_lit, fa_litL, nI_toInt, pk_lT, Int32.toInt_toInt64, jadd64, jin, jnoneT] at *); omega
    · refine j_iload_n X dX11_show_25 rfl ?_
      refine j_iconst X dX11_show_26 (-1) (by decide) ?_
      refine j_icmp_ge X 33 dX11_show_27 (by decide) (fun c_27 => ?_) (fun c_27 => absurd c_27 (by decide))
      refine j_aload_n X dX11_show_33 rfl ?_
      refine j_iload_n X dX11_show_34 rfl ?_
      refine j_iload_n X dX11_show_35 rfl ?_
      refine s_callVi X hR (m_showAll6 np _ _ (by omega)) rfl 11 (by decide) (o66 np) (k66 np) rfl u1198 u1195 u1197 qp46 u12 hyX11_showAll (by decide) (by decide) (Nat.le_of_ble_eq_true rfl) dX11_show_36 (fun v_36 m_36 h_36 => ?_)
      obtain ⟨e1, e2⟩ := h_36; have e1 := e1.symm; have e2 := e2.symm; subst e1; subst e2
      refine j_istore X dX11_show_39 (by decide) ?_
      refine j_iload_n X dX11_show_41 rfl ?_
      refine j_iconst X dX11_show_42 (-1) (by decide) ?_
      refine j_icmp_ne X 51 dX11_show_43 (by decide) (fun c_43 => ?_) (fun c_43 => absurd c_43 (by decide))
      refine j_iload_n X dX11_show_51 rfl ?_
      refine j_iload X dX11_show_52 rfl ?_
      refine j_icmp_ge X 66 dX11_show_54 (by decide) (fun c_54 => absurd c_54 (by decide)) (fun c_54 => ?_)
      refine j_aload_n X dX11_show_57 rfl ?_
      refine j_getR X 11 12 (by decide) (by decide) rfl u962 (o66 np) (k66 np) _ (p66_12 np) dX11_show_58 ?_
      refine j_iload_n X dX11_show_61 rfl ?_
      refine j_nrm _ (by first | (simp only [fa_lit, pk_mul, nI_add]; done) | (simp only [fa_lit, pk_mul, nI_add]; rfl) | rfl) ?_
      refine j_ialdN X (o76 np) (k76 np) (n := 1) (by rw [l76]; decide) (by rw [l76]; decide) _ rfl dX11_show_62 ?_
      refine j_goto X 68 dX11_show_63 (by decide) ?_
      refine s_iret X hE hr dX11_show_68 rfl ?_
      exact ⟨rfl, by repeat (first | exact jeq.rf | refine jeq.up ?_ (by decide))⟩
set_option maxRecDepth 4000 in
set_option maxHeartbeats 1000000 in
theorem m_show6_2 (np : Nat) (mem : jMem) (p : Nat) (hn : np ≤ 12) (hp : mem 66 9 = nI np) (hp2 : p < np) : jPi yX11_show cX11_show 5 .int 4 [.ref 66, .int (nI p), .int 6, .int 2] np mem (fun v c => v = (mem 74 (9 * p + 7)) ∧ jeq [76] (jup mem 66 0 0) c) := by
  refine jPi.of (own := RX11) rfl rfl (Nat.le_of_ble_eq_true rfl) (fun G X hR hr hE => ?_)
  refine j_aload_n X dX11_show_0 rfl ?_
  refine j_iconst X dX11_show_1 0 (by decide) ?_
  refine j_putI X 11 0 (by decide) (by decide) rfl rfl rfl rfl u950 (o66 np) (k66 np) dX11_show_2 ?_
  refine j_aload_n X dX11_show_5 rfl ?_
  refine j_iload_n X dX11_show_6 rfl ?_
  refine s_callVi X hR (m_isPaper np _ _ hn hp) rfl 11 (by decide) (o66 np) (k66 np) rfl u1151 u1148 u1150 qp39 u12 hyX11_isPaper (by decide) (by decide) (Nat.le_of_ble_eq_true rfl) dX11_show_7 (fun v_7 m_7 h_7 => ?_)
  obtain ⟨e1, e2⟩ := h_7; have e1 := e1.symm; have e2 := e2.symm; subst e1; subst e2
  refine j_ifb_eq X 30 dX11_show_10 (by decide) (fun c_10 => ?_) (fun c_10 => ?_)
  · exfalso
    clear hE hr hR X
    have e1 : (-1 : Int32).toInt = -1 := by decide
    (try simp only [lg_cmp_lt, lg_cmp_gt, lg_cmp_le, lg_cmp_ge] at *); (try simp (disch := omega) only [Int64.le_iff_toInt_le, Int64.lt_iff_toInt_lt, Int32.le_iff_toInt_le, Int32.lt_iff_toInt_lt, fa_eq, fa_lit, fa_litL, nI_toInt, pk_lT, Int32.toInt_toInt64, jadd64, jin, jnoneT] at *); omega
  · refine j_iload_n X dX11_show_13 rfl ?_
    refine j_i2l X dX11_show_14 ?_
    refine j_lconst X dX11_show_15 0 (by decide) ?_
    refine j_ldc2 X dX11_show_16 u1152 ?_
    refine s_callSi X hR (m_inI np _ _ _ _ 0 15 rfl rfl) rfl u1087 u1085 u1086 u12 hyX11_in (by decide) (by decide) (Nat.le_of_ble_eq_true rfl) dX11_show_19 (fun v_19 m_19 h_19 => ?_)
    obtain ⟨e1, e2⟩ := h_19; have e1 := e1.symm; have e2 := e2.symm; subst e1; subst e2
    refine j_ifb_eq X 30 dX11_show_22 (by decide) (fun c_22 => ?_) (fun c_22 => ?_)
    · exfalso
      clear hE hr hR X
      have e1 : (-1 : Int32).toInt = -1 := by decide
      (try simp only [lg_cmp_lt, lg_cmp_gt, lg_cmp_le, lg_cmp_ge] at *); (try simp (disch := omega) only [Int64.le_iff_toInt_le, Int64.lt_iff_toInt_lt, Int32.le_iff_toInt_le, Int32.lt_iff_toInt_lt, fa_eq, fa_lit, fa_litL, nI_toInt, pk_lT, Int32.toInt_toInt64, jadd64, jin, jnoneT] at *); omega
    · refine j_iload_n X dX11_show_25 rfl ?_
      refine j_iconst X dX11_show_26 (-1) (by decide) ?_
      refine j_icmp_ge X 33 dX11_show_27 (by decide) (fun c_27 => ?_) (fun c_27 => absurd c_27 (by decide))
      refine j_aload_n X dX11_show_33 rfl ?_
      refine j_iload_n X dX11_show_34 rfl ?_
      refine j_iload_n X dX11_show_35 rfl ?_
      refine s_callVi X hR (m_showAll6 np _ _ (by omega)) rfl 11 (by decide) (o66 np) (k66 np) rfl u1198 u1195 u1197 qp46 u12 hyX11_showAll (by decide) (by decide) (Nat.le_of_ble_eq_true rfl) dX11_show_36 (fun v_36 m_36 h_36 => ?_)
      obtain ⟨e1, e2⟩ := h_36; have e1 := e1.symm; have e2 := e2.symm; subst e1; subst e2
      refine j_istore X dX11_show_39 (by decide) ?_
      refine j_iload_n X dX11_show_41 rfl ?_
      refine j_iconst X dX11_show_42 (-1) (by decide) ?_
      refine j_icmp_ne X 51 dX11_show_43 (by decide) (fun c_43 => ?_) (fun c_43 => absurd c_43 (by decide))
      refine j_iload_n X dX11_show_51 rfl ?_
      refine j_iload X dX11_show_52 rfl ?_
      refine j_icmp_ge X 66 dX11_show_54 (by decide) (fun c_54 => absurd c_54 (by decide)) (fun c_54 => ?_)
      refine j_aload_n X dX11_show_57 rfl ?_
      refine j_getR X 11 12 (by decide) (by decide) rfl u962 (o66 np) (k66 np) _ (p66_12 np) dX11_show_58 ?_
      refine j_iload_n X dX11_show_61 rfl ?_
      refine j_nrm _ (by first | (simp only [fa_lit, pk_mul, nI_add]; done) | (simp only [fa_lit, pk_mul, nI_add]; rfl) | rfl) ?_
      refine j_ialdN X (o76 np) (k76 np) (n := 2) (by rw [l76]; decide) (by rw [l76]; decide) _ rfl dX11_show_62 ?_
      refine j_goto X 68 dX11_show_63 (by decide) ?_
      refine s_iret X hE hr dX11_show_68 rfl ?_
      exact ⟨rfl, by repeat (first | exact jeq.rf | refine jeq.up ?_ (by decide))⟩
set_option maxRecDepth 4000 in
set_option maxHeartbeats 1000000 in
theorem m_show6_3 (np : Nat) (mem : jMem) (p : Nat) (hn : np ≤ 12) (hp : mem 66 9 = nI np) (hp2 : p < np) : jPi yX11_show cX11_show 5 .int 4 [.ref 66, .int (nI p), .int 6, .int 3] np mem (fun v c => v = (jLeaf (nI p) 3 (mem 74 (9 * p + 8))) ∧ jeq [76] (jup mem 66 0 0) c) := by
  refine jPi.of (own := RX11) rfl rfl (Nat.le_of_ble_eq_true rfl) (fun G X hR hr hE => ?_)
  refine j_aload_n X dX11_show_0 rfl ?_
  refine j_iconst X dX11_show_1 0 (by decide) ?_
  refine j_putI X 11 0 (by decide) (by decide) rfl rfl rfl rfl u950 (o66 np) (k66 np) dX11_show_2 ?_
  refine j_aload_n X dX11_show_5 rfl ?_
  refine j_iload_n X dX11_show_6 rfl ?_
  refine s_callVi X hR (m_isPaper np _ _ hn hp) rfl 11 (by decide) (o66 np) (k66 np) rfl u1151 u1148 u1150 qp39 u12 hyX11_isPaper (by decide) (by decide) (Nat.le_of_ble_eq_true rfl) dX11_show_7 (fun v_7 m_7 h_7 => ?_)
  obtain ⟨e1, e2⟩ := h_7; have e1 := e1.symm; have e2 := e2.symm; subst e1; subst e2
  refine j_ifb_eq X 30 dX11_show_10 (by decide) (fun c_10 => ?_) (fun c_10 => ?_)
  · exfalso
    clear hE hr hR X
    have e1 : (-1 : Int32).toInt = -1 := by decide
    (try simp only [lg_cmp_lt, lg_cmp_gt, lg_cmp_le, lg_cmp_ge] at *); (try simp (disch := omega) only [Int64.le_iff_toInt_le, Int64.lt_iff_toInt_lt, Int32.le_iff_toInt_le, Int32.lt_iff_toInt_lt, fa_eq, fa_lit, fa_litL, nI_toInt, pk_lT, Int32.toInt_toInt64, jadd64, jin, jnoneT] at *); omega
  · refine j_iload_n X dX11_show_13 rfl ?_
    refine j_i2l X dX11_show_14 ?_
    refine j_lconst X dX11_show_15 0 (by decide) ?_
    refine j_ldc2 X dX11_show_16 u1152 ?_
    refine s_callSi X hR (m_inI np _ _ _ _ 0 15 rfl rfl) rfl u1087 u1085 u1086 u12 hyX11_in (by decide) (by decide) (Nat.le_of_ble_eq_true rfl) dX11_show_19 (fun v_19 m_19 h_19 => ?_)
    obtain ⟨e1, e2⟩ := h_19; have e1 := e1.symm; have e2 := e2.symm; subst e1; subst e2
    refine j_ifb_eq X 30 dX11_show_22 (by decide) (fun c_22 => ?_) (fun c_22 => ?_)
    · exfalso
      clear hE hr hR X
      have e1 : (-1 : Int32).toInt = -1 := by decide
      (try simp only [lg_cmp_lt, lg_cmp_gt, lg_cmp_le, lg_cmp_ge] at *); (try simp (disch := omega) only [Int64.le_iff_toInt_le, Int64.lt_iff_toInt_lt, Int32.le_iff_toInt_le, Int32.lt_iff_toInt_lt, fa_eq, fa_lit, fa_litL, nI_toInt, pk_lT, Int32.toInt_toInt64, jadd64, jin, jnoneT] at *); omega
    · refine j_iload_n X dX11_show_25 rfl ?_
      refine j_iconst X dX11_show_26 (-1) (by decide) ?_
      refine j_icmp_ge X 33 dX11_show_27 (by decide) (fun c_27 => ?_) (fun c_27 => absurd c_27 (by decide))
      refine j_aload_n X dX11_show_33 rfl ?_
      refine j_iload_n X dX11_show_34 rfl ?_
      refine j_iload_n X dX11_show_35 rfl ?_
      refine s_callVi X hR (m_showAll6 np _ _ (by omega)) rfl 11 (by decide) (o66 np) (k66 np) rfl u1198 u1195 u1197 qp46 u12 hyX11_showAll (by decide) (by decide) (Nat.le_of_ble_eq_true rfl) dX11_show_36 (fun v_36 m_36 h_36 => ?_)
      obtain ⟨e1, e2⟩ := h_36; have e1 := e1.symm; have e2 := e2.symm; subst e1; subst e2
      refine j_istore X dX11_show_39 (by decide) ?_
      refine j_iload_n X dX11_show_41 rfl ?_
      refine j_iconst X dX11_show_42 (-1) (by decide) ?_
      refine j_icmp_ne X 51 dX11_show_43 (by decide) (fun c_43 => ?_) (fun c_43 => absurd c_43 (by decide))
      refine j_iload_n X dX11_show_51 rfl ?_
      refine j_iload X dX11_show_52 rfl ?_
      refine j_icmp_ge X 66 dX11_show_54 (by decide) (fun c_54 => absurd c_54 (by decide)) (fun c_54 => ?_)
      refine j_aload_n X dX11_show_57 rfl ?_
      refine j_getR X 11 12 (by decide) (by decide) rfl u962 (o66 np) (k66 np) _ (p66_12 np) dX11_show_58 ?_
      refine j_iload_n X dX11_show_61 rfl ?_
      refine j_nrm _ (by first | (simp only [fa_lit, pk_mul, nI_add]; done) | (simp only [fa_lit, pk_mul, nI_add]; rfl) | rfl) ?_
      refine j_ialdN X (o76 np) (k76 np) (n := 3) (by rw [l76]; decide) (by rw [l76]; decide) _ rfl dX11_show_62 ?_
      refine j_goto X 68 dX11_show_63 (by decide) ?_
      refine s_iret X hE hr dX11_show_68 rfl ?_
      exact ⟨rfl, by repeat (first | exact jeq.rf | refine jeq.up ?_ (by decide))⟩
set_option maxRecDepth 4000 in
set_option maxHeartbeats 1000000 in
theorem m_show7_n (np : Nat) (mem : jMem) (p : Nat) (hn : np ≤ 12) (hp : mem 66 9 = nI np) (hp2 : p < np) : jPi yX11_show cX11_show 5 .int 4 [.ref 66, .int (nI p), .int 7, .int (-1)] np mem (fun v c => v = 4 ∧ jeq [76] (jup mem 66 0 0) c) := by
  refine jPi.of (own := RX11) rfl rfl (Nat.le_of_ble_eq_true rfl) (fun G X hR hr hE => ?_)
  refine j_aload_n X dX11_show_0 rfl ?_
  refine j_iconst X dX11_show_1 0 (by decide) ?_
  refine j_putI X 11 0 (by decide) (by decide) rfl rfl rfl rfl u950 (o66 np) (k66 np) dX11_show_2 ?_
  refine j_aload_n X dX11_show_5 rfl ?_
  refine j_iload_n X dX11_show_6 rfl ?_
  refine s_callVi X hR (m_isPaper np _ _ hn hp) rfl 11 (by decide) (o66 np) (k66 np) rfl u1151 u1148 u1150 qp39 u12 hyX11_isPaper (by decide) (by decide) (Nat.le_of_ble_eq_true rfl) dX11_show_7 (fun v_7 m_7 h_7 => ?_)
  obtain ⟨e1, e2⟩ := h_7; have e1 := e1.symm; have e2 := e2.symm; subst e1; subst e2
  refine j_ifb_eq X 30 dX11_show_10 (by decide) (fun c_10 => ?_) (fun c_10 => ?_)
  · exfalso
    clear hE hr hR X
    have e1 : (-1 : Int32).toInt = -1 := by decide
    (try simp only [lg_cmp_lt, lg_cmp_gt, lg_cmp_le, lg_cmp_ge] at *); (try simp (disch := omega) only [Int64.le_iff_toInt_le, Int64.lt_iff_toInt_lt, Int32.le_iff_toInt_le, Int32.lt_iff_toInt_lt, fa_eq, fa_lit, fa_litL, nI_toInt, pk_lT, Int32.toInt_toInt64, jadd64, jin, jnoneT] at *); omega
  · refine j_iload_n X dX11_show_13 rfl ?_
    refine j_i2l X dX11_show_14 ?_
    refine j_lconst X dX11_show_15 0 (by decide) ?_
    refine j_ldc2 X dX11_show_16 u1152 ?_
    refine s_callSi X hR (m_inI np _ _ _ _ 0 15 rfl rfl) rfl u1087 u1085 u1086 u12 hyX11_in (by decide) (by decide) (Nat.le_of_ble_eq_true rfl) dX11_show_19 (fun v_19 m_19 h_19 => ?_)
    obtain ⟨e1, e2⟩ := h_19; have e1 := e1.symm; have e2 := e2.symm; subst e1; subst e2
    refine j_ifb_eq X 30 dX11_show_22 (by decide) (fun c_22 => ?_) (fun c_22 => ?_)
    · exfalso
      clear hE hr hR X
      have e1 : (-1 : Int32).toInt = -1 := by decide
      (try simp only [lg_cmp_lt, lg_cmp_gt, lg_cmp_le, lg_cmp_ge] at *); (try simp (disch := omega) only [Int64.le_iff_toInt_le, Int64.lt_iff_toInt_lt, Int32.le_iff_toInt_le, Int32.lt_iff_toInt_lt, fa_eq, fa_lit, fa_litL, nI_toInt, pk_lT, Int32.toInt_toInt64, jadd64, jin, jnoneT] at *); omega
    · refine j_iload_n X dX11_show_25 rfl ?_
      refine j_iconst X dX11_show_26 (-1) (by decide) ?_
      refine j_icmp_ge X 33 dX11_show_27 (by decide) (fun c_27 => ?_) (fun c_27 => absurd c_27 (by decide))
      refine j_aload_n X dX11_show_33 rfl ?_
      refine j_iload_n X dX11_show_34 rfl ?_
      refine j_iload_n X dX11_show_35 rfl ?_
      refine s_callVi X hR (m_showAll7 np _ _ (by omega)) rfl 11 (by decide) (o66 np) (k66 np) rfl u1198 u1195 u1197 qp46 u12 hyX11_showAll (by decide) (by decide) (Nat.le_of_ble_eq_true rfl) dX11_show_36 (fun v_36 m_36 h_36 => ?_)
      obtain ⟨e1, e2⟩ := h_36; have e1 := e1.symm; have e2 := e2.symm; subst e1; subst e2
      refine j_istore X dX11_show_39 (by decide) ?_
      refine j_iload_n X dX11_show_41 rfl ?_
      refine j_iconst X dX11_show_42 (-1) (by decide) ?_
      refine j_icmp_ne X 51 dX11_show_43 (by decide) (fun c_43 => absurd c_43 (by decide)) (fun c_43 => ?_)
      refine j_iload X dX11_show_46 rfl ?_
      refine j_goto X 68 dX11_show_48 (by decide) ?_
      refine s_iret X hE hr dX11_show_68 rfl ?_
      exact ⟨rfl, by repeat (first | exact jeq.rf | refine jeq.up ?_ (by decide))⟩
set_option maxRecDepth 4000 in
set_option maxHeartbeats 1000000 in
theorem m_show7_none (np : Nat) (mem : jMem) (p : Nat) (i : Int32) (hn : np ≤ 12) (hp : mem 66 9 = nI np) (hp2 : p < np) (hi : 4 ≤ i.toInt) : jPi yX11_show cX11_show 5 .int 4 [.ref 66, .int (nI p), .int 7, .int i] np mem (fun v c => v = -1000000 ∧ jeq [76] (jup mem 66 0 0) c) := by
  refine jPi.of (own := RX11) rfl rfl (Nat.le_of_ble_eq_true rfl) (fun G X hR hr hE => ?_)
  refine j_aload_n X dX11_show_0 rfl ?_
  refine j_iconst X dX11_show_1 0 (by decide) ?_
  refine j_putI X 11 0 (by decide) (by decide) rfl rfl rfl rfl u950 (o66 np) (k66 np) dX11_show_2 ?_
  refine j_aload_n X dX11_show_5 rfl ?_
  refine j_iload_n X dX11_show_6 rfl ?_
  refine s_callVi X hR (m_isPaper np _ _ hn hp) rfl 11 (by decide) (o66 np) (k66 np) rfl u1151 u1148 u1150 qp39 u12 hyX11_isPaper (by decide) (by decide) (Nat.le_of_ble_eq_true rfl) dX11_show_7 (fun v_7 m_7 h_7 => ?_)
  obtain ⟨e1, e2⟩ := h_7; have e1 := e1.symm; have e2 := e2.symm; subst e1; subst e2
  refine j_ifb_eq X 30 dX11_show_10 (by decide) (fun c_10 => ?_) (fun c_10 => ?_)
  · exfalso
    clear hE hr hR X
    have e1 : (-1 : Int32).toInt = -1 := by decide
    (try simp only [lg_cmp_lt, lg_cmp_gt, lg_cmp_le, lg_cmp_ge] at *); (try simp (disch := omega) only [Int64.le_iff_toInt_le, Int64.lt_iff_toInt_lt, Int32.le_iff_toInt_le, Int32.lt_iff_toInt_lt, fa_eq, fa_lit, fa_litL, nI_toInt, pk_lT, Int32.toInt_toInt64, jadd64, jin, jnoneT] at *); omega
  · refine j_iload_n X dX11_show_13 rfl ?_
    refine j_i2l X dX11_show_14 ?_
    refine j_lconst X dX11_show_15 0 (by decide) ?_
    refine j_ldc2 X dX11_show_16 u1152 ?_
    refine s_callSi X hR (m_inI np _ _ _ _ 0 15 rfl rfl) rfl u1087 u1085 u1086 u12 hyX11_in (by decide) (by decide) (Nat.le_of_ble_eq_true rfl) dX11_show_19 (fun v_19 m_19 h_19 => ?_)
    obtain ⟨e1, e2⟩ := h_19; have e1 := e1.symm; have e2 := e2.symm; subst e1; subst e2
    refine j_ifb_eq X 30 dX11_show_22 (by decide) (fun c_22 => ?_) (fun c_22 => ?_)
    · exfalso
      clear hE hr hR X
      have e1 : (-1 : Int32).toInt = -1 := by decide
      (try simp only [lg_cmp_lt, lg_cmp_gt, lg_cmp_le, lg_cmp_ge] at *); (try simp (disch := omega) only [Int64.le_iff_toInt_le, Int64.lt_iff_toInt_lt, Int32.le_iff_toInt_le, Int32.lt_iff_toInt_lt, fa_eq, fa_lit, fa_litL, nI_toInt, pk_lT, Int32.toInt_toInt64, jadd64, jin, jnoneT] at *); omega
    · refine j_iload_n X dX11_show_25 rfl ?_
      refine j_iconst X dX11_show_26 (-1) (by decide) ?_
      refine j_icmp_ge X 33 dX11_show_27 (by decide) (fun c_27 => ?_) (fun c_27 => ?_)
      · refine j_aload_n X dX11_show_33 rfl ?_
        refine j_iload_n X dX11_show_34 rfl ?_
        refine j_iload_n X dX11_show_35 rfl ?_
        refine s_callVi X hR (m_showAll7 np _ _ (by omega)) rfl 11 (by decide) (o66 np) (k66 np) rfl u1198 u1195 u1197 qp46 u12 hyX11_showAll (by decide) (by decide) (Nat.le_of_ble_eq_true rfl) dX11_show_36 (fun v_36 m_36 h_36 => ?_)
        obtain ⟨e1, e2⟩ := h_36; have e1 := e1.symm; have e2 := e2.symm; subst e1; subst e2
        refine j_istore X dX11_show_39 (by decide) ?_
        refine j_iload_n X dX11_show_41 rfl ?_
        refine j_iconst X dX11_show_42 (-1) (by decide) ?_
        refine j_icmp_ne X 51 dX11_show_43 (by decide) (fun c_43 => ?_) (fun c_43 => ?_)
        · refine j_iload_n X dX11_show_51 rfl ?_
          refine j_iload X dX11_show_52 rfl ?_
          refine j_icmp_ge X 66 dX11_show_54 (by decide) (fun c_54 => ?_) (fun c_54 => ?_)
          · refine j_ldc X dX11_show_66 u949 ?_
            refine s_iret X hE hr dX11_show_68 rfl ?_
            exact ⟨rfl, by repeat (first | exact jeq.rf | refine jeq.up ?_ (by decide))⟩
          · exfalso
            clear hE hr hR X
            have e1 : (-1 : Int32).toInt = -1 := by decide
            (try simp only [lg_cmp_lt, lg_cmp_gt, lg_cmp_le, lg_cmp_ge] at *); (try simp (disch := omega) only [Int64.le_iff_toInt_le, Int64.lt_iff_toInt_lt, Int32.le_iff_toInt_le, Int32.lt_iff_toInt_lt, fa_eq, fa_lit, fa_litL, nI_toInt, pk_lT, Int32.toInt_toInt64, jadd64, jin, jnoneT] at *); omega
        · exfalso
          clear hE hr hR X
          have e1 : (-1 : Int32).toInt = -1 := by decide
          (try simp only [lg_cmp_lt, lg_cmp_gt, lg_cmp_le, lg_cmp_ge] at *); (try simp (disch := omega) only [Int64.le_iff_toInt_le, Int64.lt_iff_toInt_lt, Int32.le_iff_toInt_le, Int32.lt_iff_toInt_lt, fa_eq, fa_lit, fa_litL, nI_toInt, pk_lT, Int32.toInt_toInt64, jadd64, jin, jnoneT] at *); omega
      · exfalso
        clear hE hr hR X
        have e1 : (-1 : Int32).toInt = -1 := by decide
        (try simp only [lg_cmp_lt, lg_cmp_gt, lg_cmp_le, lg_cmp_ge] at *); (try simp (disch := omega) only [Int64.le_iff_toInt_le, Int64.lt_iff_toInt_lt, Int32.le_iff_toInt_le, Int32.lt_iff_toInt_lt, fa_eq, fa_lit, fa_litL, nI_toInt, pk_lT, Int32.toInt_toInt64, jadd64, jin, jnoneT] at *); omega
set_option maxRecDepth 4000 in
set_option maxHeartbeats 1000000 in
theorem m_show7_0 (np : Nat) (mem : jMem) (p : Nat) (hn : np ≤ 12) (hp : mem 66 9 = nI np) (hp2 : p < np) : jPi yX11_show cX11_show 5 .int 4 [.ref 66, .int (nI p), .int 7, .int 0] np mem (fun v c => v = (mem 74 (9 * p + 5)) ∧ jeq [76] (jup mem 66 0 0) c) := by
  refine jPi.of (own := RX11) rfl rfl (Nat.le_of_ble_eq_true rfl) (fun G X hR hr hE => ?_)
  refine j_aload_n X dX11_show_0 rfl ?_
  refine j_iconst X dX11_show_1 0 (by decide) ?_
  refine j_putI X 11 0 (by decide) (by decide) rfl rfl rfl rfl u950 (o66 np) (k66 np) dX11_show_2 ?_
  refine j_aload_n X dX11_show_5 rfl ?_
  refine j_iload_n X dX11_show_6 rfl ?_
  refine s_callVi X hR (m_isPaper np _ _ hn hp) rfl 11 (by decide) (o66 np) (k66 np) rfl u1151 u1148 u1150 qp39 u12 hyX11_isPaper (by decide) (by decide) (Nat.le_of_ble_eq_true rfl) dX11_show_7 (fun v_7 m_7 h_7 => ?_)
  obtain ⟨e1, e2⟩ := h_7; have e1 := e1.symm; have e2 := e2.symm; subst e1; subst e2
  refine j_ifb_eq X 30 dX11_show_10 (by decide) (fun c_10 => ?_) (fun c_10 => ?_)
  · exfalso
    clear hE hr hR X
    have e1 : (-1 : Int32).toInt = -1 := by decide
    (try simp only [lg_cmp_lt, lg_cmp_gt, lg_cmp_le, lg_cmp_ge] at *); (try simp (disch := omega) only [Int64.le_iff_toInt_le, Int64.lt_iff_toInt_lt, Int32.le_iff_toInt_le, Int32.lt_iff_toInt_lt, fa_eq, fa_lit, fa_litL, nI_toInt, pk_lT, Int32.toInt_toInt64, jadd64, jin, jnoneT] at *); omega
  · refine j_iload_n X dX11_show_13 rfl ?_
    refine j_i2l X dX11_show_14 ?_
    refine j_lconst X dX11_show_15 0 (by decide) ?_
    refine j_ldc2 X dX11_show_16 u1152 ?_
    refine s_callSi X hR (m_inI np _ _ _ _ 0 15 rfl rfl) rfl u1087 u1085 u1086 u12 hyX11_in (by decide) (by decide) (Nat.le_of_ble_eq_true rfl) dX11_show_19 (fun v_19 m_19 h_19 => ?_)
    obtain ⟨e1, e2⟩ := h_19; have e1 := e1.symm; have e2 := e2.symm; subst e1; subst e2
    refine j_ifb_eq X 30 dX11_show_22 (by decide) (fun c_22 => ?_) (fun c_22 => ?_)
    · exfalso
      clear hE hr hR X
      have e1 : (-1 : Int32).toInt = -1 := by decide
      (try simp only [lg_cmp_lt, lg_cmp_gt, lg_cmp_le, lg_cmp_ge] at *); (try simp (disch := omega) only [Int64.le_iff_toInt_le, Int64.lt_iff_toInt_lt, Int32.le_iff_toInt_le, Int32.lt_iff_toInt_lt, fa_eq, fa_lit, fa_litL, nI_toInt, pk_lT, Int32.toInt_toInt64, jadd64, jin, jnoneT] at *); omega
    · refine j_iload_n X dX11_show_25 rfl ?_
      refine j_iconst X dX11_show_26 (-1) (by decide) ?_
      refine j_icmp_ge X 33 dX11_show_27 (by decide) (fun c_27 => ?_) (fun c_27 => absurd c_27 (by decide))
      refine j_aload_n X dX11_show_33 rfl ?_
      refine j_iload_n X dX11_show_34 rfl ?_
      refine j_iload_n X dX11_show_35 rfl ?_
      refine s_callVi X hR (m_showAll7 np _ _ (by omega)) rfl 11 (by decide) (o66 np) (k66 np) rfl u1198 u1195 u1197 qp46 u12 hyX11_showAll (by decide) (by decide) (Nat.le_of_ble_eq_true rfl) dX11_show_36 (fun v_36 m_36 h_36 => ?_)
      obtain ⟨e1, e2⟩ := h_36; have e1 := e1.symm; have e2 := e2.symm; subst e1; subst e2
      refine j_istore X dX11_show_39 (by decide) ?_
      refine j_iload_n X dX11_show_41 rfl ?_
      refine j_iconst X dX11_show_42 (-1) (by decide) ?_
      refine j_icmp_ne X 51 dX11_show_43 (by decide) (fun c_43 => ?_) (fun c_43 => absurd c_43 (by decide))
      refine j_iload_n X dX11_show_51 rfl ?_
      refine j_iload X dX11_show_52 rfl ?_
      refine j_icmp_ge X 66 dX11_show_54 (by decide) (fun c_54 => absurd c_54 (by decide)) (fun c_54 => ?_)
      refine j_aload_n X dX11_show_57 rfl ?_
      refine j_getR X 11 12 (by decide) (by decide) rfl u962 (o66 np) (k66 np) _ (p66_12 np) dX11_show_58 ?_
      refine j_iload_n X dX11_show_61 rfl ?_
      refine j_nrm _ (by first | (simp only [fa_lit, pk_mul, nI_add]; done) | (simp only [fa_lit, pk_mul, nI_add]; rfl) | rfl) ?_
      refine j_ialdN X (o76 np) (k76 np) (n := 0) (by rw [l76]; decide) (by rw [l76]; decide) _ rfl dX11_show_62 ?_
      refine j_goto X 68 dX11_show_63 (by decide) ?_
      refine s_iret X hE hr dX11_show_68 rfl ?_
      exact ⟨rfl, by repeat (first | exact jeq.rf | refine jeq.up ?_ (by decide))⟩
set_option maxRecDepth 4000 in
set_option maxHeartbeats 1000000 in
theorem m_show7_1 (np : Nat) (mem : jMem) (p : Nat) (hn : np ≤ 12) (hp : mem 66 9 = nI np) (hp2 : p < np) : jPi yX11_show cX11_show 5 .int 4 [.ref 66, .int (nI p), .int 7, .int 1] np mem (fun v c => v = (mem 74 (9 * p + 6)) ∧ jeq [76] (jup mem 66 0 0) c) := by
  refine jPi.of (own := RX11) rfl rfl (Nat.le_of_ble_eq_true rfl) (fun G X hR hr hE => ?_)
  refine j_aload_n X dX11_show_0 rfl ?_
  refine j_iconst X dX11_show_1 0 (by decide) ?_
  refine j_putI X 11 0 (by decide) (by decide) rfl rfl rfl rfl u950 (o66 np) (k66 np) dX11_show_2 ?_
  refine j_aload_n X dX11_show_5 rfl ?_
  refine j_iload_n X dX11_show_6 rfl ?_
  refine s_callVi X hR (m_isPaper np _ _ hn hp) rfl 11 (by decide) (o66 np) (k66 np) rfl u1151 u1148 u1150 qp39 u12 hyX11_isPaper (by decide) (by decide) (Nat.le_of_ble_eq_true rfl) dX11_show_7 (fun v_7 m_7 h_7 => ?_)
  obtain ⟨e1, e2⟩ := h_7; have e1 := e1.symm; have e2 := e2.symm; subst e1; subst e2
  refine j_ifb_eq X 30 dX11_show_10 (by decide) (fun c_10 => ?_) (fun c_10 => ?_)
  · exfalso
    clear hE hr hR X
    have e1 : (-1 : Int32).toInt = -1 := by decide
    (try simp only [lg_cmp_lt, lg_cmp_gt, lg_cmp_le, lg_cmp_ge] at *); (try simp (disch := omega) only [Int64.le_iff_toInt_le, Int64.lt_iff_toInt_lt, Int32.le_iff_toInt_le, Int32.lt_iff_toInt_lt, fa_eq, fa_lit, fa_litL, nI_toInt, pk_lT, Int32.toInt_toInt64, jadd64, jin, jnoneT] at *); omega
  · refine j_iload_n X dX11_show_13 rfl ?_
    refine j_i2l X dX11_show_14 ?_
    refine j_lconst X dX11_show_15 0 (by decide) ?_
    refine j_ldc2 X dX11_show_16 u1152 ?_
    refine s_callSi X hR (m_inI np _ _ _ _ 0 15 rfl rfl) rfl u1087 u1085 u1086 u12 hyX11_in (by decide) (by decide) (Nat.le_of_ble_eq_true rfl) dX11_show_19 (fun v_19 m_19 h_19 => ?_)
    obtain ⟨e1, e2⟩ := h_19; have e1 := e1.symm; have e2 := e2.symm; subst e1; subst e2
    refine j_ifb_eq X 30 dX11_show_22 (by decide) (fun c_22 => ?_) (fun c_22 => ?_)
    · exfalso
      clear hE hr hR X
      have e1 : (-1 : Int32).toInt = -1 := by decide
      (try simp only [lg_cmp_lt, lg_cmp_gt, lg_cmp_le, lg_cmp_ge] at *); (try simp (disch := omega) only [Int64.le_iff_toInt_le, Int64.lt_iff_toInt_lt, Int32.le_iff_toInt_le, Int32.lt_iff_toInt_lt, fa_eq, fa_lit, fa_litL, nI_toInt, pk_lT, Int32.toInt_toInt64, jadd64, jin, jnoneT] at *); omega
    · refine j_iload_n X dX11_show_25 rfl ?_
      refine j_iconst X dX11_show_26 (-1) (by decide) ?_
      refine j_icmp_ge X 33 dX11_show_27 (by decide) (fun c_27 => ?_) (fun c_27 => absurd c_27 (by decide))
      refine j_aload_n X dX11_show_33 rfl ?_
      refine j_iload_n X dX11_show_34 rfl ?_
      refine j_iload_n X dX11_show_35 rfl ?_
      refine s_callVi X hR (m_showAll7 np _ _ (by omega)) rfl 11 (by decide) (o66 np) (k66 np) rfl u1198 u1195 u1197 qp46 u12 hyX11_showAll (by decide) (by decide) (Nat.le_of_ble_eq_true rfl) dX11_show_36 (fun v_36 m_36 h_36 => ?_)
      obtain ⟨e1, e2⟩ := h_36; have e1 := e1.symm; have e2 := e2.symm; subst e1; subst e2
      refine j_istore X dX11_show_39 (by decide) ?_
      refine j_iload_n X dX11_show_41 rfl ?_
      refine j_iconst X dX11_show_42 (-1) (by decide) ?_
      refine j_icmp_ne X 51 dX11_show_43 (by decide) (fun c_43 => ?_) (fun c_43 => absurd c_43 (by decide))
      refine j_iload_n X dX11_show_51 rfl ?_
      refine j_iload X dX11_show_52 rfl ?_
      refine j_icmp_ge X 66 dX11_show_54 (by decide) (fun c_54 => absurd c_54 (by decide)) (fun c_54 => ?_)
      refine j_aload_n X dX11_show_57 rfl ?_
      refine j_getR X 11 12 (by decide) (by decide) rfl u962 (o66 np) (k66 np) _ (p66_12 np) dX11_show_58 ?_
      refine j_iload_n X dX11_show_61 rfl ?_
      refine j_nrm _ (by first | (simp only [fa_lit, pk_mul, nI_add]; done) | (simp only [fa_lit, pk_mul, nI_add]; rfl) | rfl) ?_
      refine j_ialdN X (o76 np) (k76 np) (n := 1) (by rw [l76]; decide) (by rw [l76]; decide) _ rfl dX11_show_62 ?_
      refine j_goto X 68 dX11_show_63 (by decide) ?_
      refine s_iret X hE hr dX11_show_68 rfl ?_
      exact ⟨rfl, by repeat (first | exact jeq.rf | refine jeq.up ?_ (by decide))⟩
set_option maxRecDepth 4000 in
set_option maxHeartbeats 1000000 in
theorem m_show7_2 (np : Nat) (mem : jMem) (p : Nat) (hn : np ≤ 12) (hp : mem 66 9 = nI np) (hp2 : p < np) : jPi yX11_show cX11_show 5 .int 4 [.ref 66, .int (nI p), .int 7, .int 2] np mem (fun v c => v = (mem 74 (9 * p + 7)) ∧ jeq [76] (jup mem 66 0 0) c) := by
  refine jPi.of (own := RX11) rfl rfl (Nat.le_of_ble_eq_true rfl) (fun G X hR hr hE => ?_)
  refine j_aload_n X dX11_show_0 rfl ?_
  refine j_iconst X dX11_show_1 0 (by decide) ?_
  refine j_putI X 11 0 (by decide) (by decide) rfl rfl rfl rfl u950 (o66 np) (k66 np) dX11_show_2 ?_
  refine j_aload_n X dX11_show_5 rfl ?_
  refine j_iload_n X dX11_show_6 rfl ?_
  refine s_callVi X hR (m_isPaper np _ _ hn hp) rfl 11 (by decide) (o66 np) (k66 np) rfl u1151 u1148 u1150 qp39 u12 hyX11_isPaper (by decide) (by decide) (Nat.le_of_ble_eq_true rfl) dX11_show_7 (fun v_7 m_7 h_7 => ?_)
  obtain ⟨e1, e2⟩ := h_7; have e1 := e1.symm; have e2 := e2.symm; subst e1; subst e2
  refine j_ifb_eq X 30 dX11_show_10 (by decide) (fun c_10 => ?_) (fun c_10 => ?_)
  · exfalso
    clear hE hr hR X
    have e1 : (-1 : Int32).toInt = -1 := by decide
    (try simp only [lg_cmp_lt, lg_cmp_gt, lg_cmp_le, lg_cmp_ge] at *); (try simp (disch := omega) only [Int64.le_iff_toInt_le, Int64.lt_iff_toInt_lt, Int32.le_iff_toInt_le, Int32.lt_iff_toInt_lt, fa_eq, fa_lit, fa_litL, nI_toInt, pk_lT, Int32.toInt_toInt64, jadd64, jin, jnoneT] at *); omega
  · refine j_iload_n X dX11_show_13 rfl ?_
    refine j_i2l X dX11_show_14 ?_
    refine j_lconst X dX11_show_15 0 (by decide) ?_
    refine j_ldc2 X dX11_show_16 u1152 ?_
    refine s_callSi X hR (m_inI np _ _ _ _ 0 15 rfl rfl) rfl u1087 u1085 u1086 u12 hyX11_in (by decide) (by decide) (Nat.le_of_ble_eq_true rfl) dX11_show_19 (fun v_19 m_19 h_19 => ?_)
    obtain ⟨e1, e2⟩ := h_19; have e1 := e1.symm; have e2 := e2.symm; subst e1; subst e2
    refine j_ifb_eq X 30 dX11_show_22 (by decide) (fun c_22 => ?_) (fun c_22 => ?_)
    · exfalso
      clear hE hr hR X
      have e1 : (-1 : Int32).toInt = -1 := by decide
      (try simp only [lg_cmp_lt, lg_cmp_gt, lg_cmp_le, lg_cmp_ge] at *); (try simp (disch := omega) only [Int64.le_iff_toInt_le, Int64.lt_iff_toInt_lt, Int32.le_iff_toInt_le, Int32.lt_iff_toInt_lt, fa_eq, fa_lit, fa_litL, nI_toInt, pk_lT, Int32.toInt_toInt64, jadd64, jin, jnoneT] at *); omega
    · refine j_iload_n X dX11_show_25 rfl ?_
      refine j_iconst X dX11_show_26 (-1) (by decide) ?_
      refine j_icmp_ge X 33 dX11_show_27 (by decide) (fun c_27 => ?_) (fun c_27 => absurd c_27 (by decide))
      refine j_aload_n X dX11_show_33 rfl ?_
      refine j_iload_n X dX11_show_34 rfl ?_
      refine j_iload_n X dX11_show_35 rfl ?_
      refine s_callVi X hR (m_showAll7 np _ _ (by omega)) rfl 11 (by decide) (o66 np) (k66 np) rfl u1198 u1195 u1197 qp46 u12 hyX11_showAll (by decide) (by decide) (Nat.le_of_ble_eq_true rfl) dX11_show_36 (fun v_36 m_36 h_36 => ?_)
      obtain ⟨e1, e2⟩ := h_36; have e1 := e1.symm; have e2 := e2.symm; subst e1; subst e2
      refine j_istore X dX11_show_39 (by decide) ?_
      refine j_iload_n X dX11_show_41 rfl ?_
      refine j_iconst X dX11_show_42 (-1) (by decide) ?_
      refine j_icmp_ne X 51 dX11_show_43 (by decide) (fun c_43 => ?_) (fun c_43 => absurd c_43 (by decide))
      refine j_iload_n X dX11_show_51 rfl ?_
      refine j_iload X dX11_show_52 rfl ?_
      refine j_icmp_ge X 66 dX11_show_54 (by decide) (fun c_54 => absurd c_54 (by decide)) (fun c_54 => ?_)
      refine j_aload_n X dX11_show_57 rfl ?_
      refine j_getR X 11 12 (by decide) (by decide) rfl u962 (o66 np) (k66 np) _ (p66_12 np) dX11_show_58 ?_
      refine j_iload_n X dX11_show_61 rfl ?_
      refine j_nrm _ (by first | (simp only [fa_lit, pk_mul, nI_add]; done) | (simp only [fa_lit, pk_mul, nI_add]; rfl) | rfl) ?_
      refine j_ialdN X (o76 np) (k76 np) (n := 2) (by rw [l76]; decide) (by rw [l76]; decide) _ rfl dX11_show_62 ?_
      refine j_goto X 68 dX11_show_63 (by decide) ?_
      refine s_iret X hE hr dX11_show_68 rfl ?_
      exact ⟨rfl, by repeat (first | exact jeq.rf | refine jeq.up ?_ (by decide))⟩
set_option maxRecDepth 4000 in
set_option maxHeartbeats 1000000 in
theorem m_show7_3 (np : Nat) (mem : jMem) (p : Nat) (hn : np ≤ 12) (hp : mem 66 9 = nI np) (hp2 : p < np) : jPi yX11_show cX11_show 5 .int 4 [.ref 66, .int (nI p), .int 7, .int 3] np mem (fun v c => v = (jLeaf (nI p) 3 (mem 74 (9 * p + 8))) ∧ jeq [76] (jup mem 66 0 0) c) := by
  refine jPi.of (own := RX11) rfl rfl (Nat.le_of_ble_eq_true rfl) (fun G X hR hr hE => ?_)
  refine j_aload_n X dX11_show_0 rfl ?_
  refine j_iconst X dX11_show_1 0 (by decide) ?_
  refine j_putI X 11 0 (by decide) (by decide) rfl rfl rfl rfl u950 (o66 np) (k66 np) dX11_show_2 ?_
  refine j_aload_n X dX11_show_5 rfl ?_
  refine j_iload_n X dX11_show_6 rfl ?_
  refine s_callVi X hR (m_isPaper np _ _ hn hp) rfl 11 (by decide) (o66 np) (k66 np) rfl u1151 u1148 u1150 qp39 u12 hyX11_isPaper (by decide) (by decide) (Nat.le_of_ble_eq_true rfl) dX11_show_7 (fun v_7 m_7 h_7 => ?_)
  obtain ⟨e1, e2⟩ := h_7; have e1 := e1.symm; have e2 := e2.symm; subst e1; subst e2
  refine j_ifb_eq X 30 dX11_show_10 (by decide) (fun c_10 => ?_) (fun c_10 => ?_)
  · exfalso
    clear hE hr hR X
    have e1 : (-1 : Int32).toInt = -1 := by decide
    (try simp only [lg_cmp_lt, lg_cmp_gt, lg_cmp_le, lg_cmp_ge] at *); (try simp (disch := omega) only [Int64.le_iff_toInt_le, Int64.lt_iff_toInt_lt, Int32.le_iff_toInt_le, Int32.lt_iff_toInt_lt, fa_eq, fa_lit, fa_litL, nI_toInt, pk_lT, Int32.toInt_toInt64, jadd64, jin, jnoneT] at *); omega
  · refine j_iload_n X dX11_show_13 rfl ?_
    refine j_i2l X dX11_show_14 ?_
    refine j_lconst X dX11_show_15 0 (by decide) ?_
    refine j_ldc2 X dX11_show_16 u1152 ?_
    refine s_callSi X hR (m_inI np _ _ _ _ 0 15 rfl rfl) rfl u1087 u1085 u1086 u12 hyX11_in (by decide) (by decide) (Nat.le_of_ble_eq_true rfl) dX11_show_19 (fun v_19 m_19 h_19 => ?_)
    obtain ⟨e1, e2⟩ := h_19; have e1 := e1.symm; have e2 := e2.symm; subst e1; subst e2
    refine j_ifb_eq X 30 dX11_show_22 (by decide) (fun c_22 => ?_) (fun c_22 => ?_)
    · exfalso
      clear hE hr hR X
      have e1 : (-1 : Int32).toInt = -1 := by decide
      (try simp only [lg_cmp_lt, lg_cmp_gt, lg_cmp_le, lg_cmp_ge] at *); (try simp (disch := omega) only [Int64.le_iff_toInt_le, Int64.lt_iff_toInt_lt, Int32.le_iff_toInt_le, Int32.lt_iff_toInt_lt, fa_eq, fa_lit, fa_litL, nI_toInt, pk_lT, Int32.toInt_toInt64, jadd64, jin, jnoneT] at *); omega
    · refine j_iload_n X dX11_show_25 rfl ?_
      refine j_iconst X dX11_show_26 (-1) (by decide) ?_
      refine j_icmp_ge X 33 dX11_show_27 (by decide) (fun c_27 => ?_) (fun c_27 => absurd c_27 (by decide))
      refine j_aload_n X dX11_show_33 rfl ?_
      refine j_iload_n X dX11_show_34 rfl ?_
      refine j_iload_n X dX11_show_35 rfl ?_
      refine s_callVi X hR (m_showAll7 np _ _ (by omega)) rfl 11 (by decide) (o66 np) (k66 np) rfl u1198 u1195 u1197 qp46 u12 hyX11_showAll (by decide) (by decide) (Nat.le_of_ble_eq_true rfl) dX11_show_36 (fun v_36 m_36 h_36 => ?_)
      obtain ⟨e1, e2⟩ := h_36; have e1 := e1.symm; have e2 := e2.symm; subst e1; subst e2
      refine j_istore X dX11_show_39 (by decide) ?_
      refine j_iload_n X dX11_show_41 rfl ?_
      refine j_iconst X dX11_show_42 (-1) (by decide) ?_
      refine j_icmp_ne X 51 dX11_show_43 (by decide) (fun c_43 => ?_) (fun c_43 => absurd c_43 (by decide))
      refine j_iload_n X dX11_show_51 rfl ?_
      refine j_iload X dX11_show_52 rfl ?_
      refine j_icmp_ge X 66 dX11_show_54 (by decide) (fun c_54 => absurd c_54 (by decide)) (fun c_54 => ?_)
      refine j_aload_n X dX11_show_57 rfl ?_
      refine j_getR X 11 12 (by decide) (by decide) rfl u962 (o66 np) (k66 np) _ (p66_12 np) dX11_show_58 ?_
      refine j_iload_n X dX11_show_61 rfl ?_
      refine j_nrm _ (by first | (simp only [fa_lit, pk_mul, nI_add]; done) | (simp only [fa_lit, pk_mul, nI_add]; rfl) | rfl) ?_
      refine j_ialdN X (o76 np) (k76 np) (n := 3) (by rw [l76]; decide) (by rw [l76]; decide) _ rfl dX11_show_62 ?_
      refine j_goto X 68 dX11_show_63 (by decide) ?_
      refine s_iret X hE hr dX11_show_68 rfl ?_
      exact ⟨rfl, by repeat (first | exact jeq.rf | refine jeq.up ?_ (by decide))⟩
set_option maxRecDepth 4000 in
set_option maxHeartbeats 1000000 in
theorem m_show8_n (np : Nat) (mem : jMem) (p : Nat) (hn : np ≤ 12) (hp : mem 66 9 = nI np) (hp2 : p < np) : jPi yX11_show cX11_show 5 .int 4 [.ref 66, .int (nI p), .int 8, .int (-1)] np mem (fun v c => v = 3 ∧ jeq [76] (jup mem 66 0 0) c) := by
  refine jPi.of (own := RX11) rfl rfl (Nat.le_of_ble_eq_true rfl) (fun G X hR hr hE => ?_)
  refine j_aload_n X dX11_show_0 rfl ?_
  refine j_iconst X dX11_show_1 0 (by decide) ?_
  refine j_putI X 11 0 (by decide) (by decide) rfl rfl rfl rfl u950 (o66 np) (k66 np) dX11_show_2 ?_
  refine j_aload_n X dX11_show_5 rfl ?_
  refine j_iload_n X dX11_show_6 rfl ?_
  refine s_callVi X hR (m_isPaper np _ _ hn hp) rfl 11 (by decide) (o66 np) (k66 np) rfl u1151 u1148 u1150 qp39 u12 hyX11_isPaper (by decide) (by decide) (Nat.le_of_ble_eq_true rfl) dX11_show_7 (fun v_7 m_7 h_7 => ?_)
  obtain ⟨e1, e2⟩ := h_7; have e1 := e1.symm; have e2 := e2.symm; subst e1; subst e2
  refine j_ifb_eq X 30 dX11_show_10 (by decide) (fun c_10 => ?_) (fun c_10 => ?_)
  · exfalso
    clear hE hr hR X
    have e1 : (-1 : Int32).toInt = -1 := by decide
    (try simp only [lg_cmp_lt, lg_cmp_gt, lg_cmp_le, lg_cmp_ge] at *); (try simp (disch := omega) only [Int64.le_iff_toInt_le, Int64.lt_iff_toInt_lt, Int32.le_iff_toInt_le, Int32.lt_iff_toInt_lt, fa_eq, fa_lit, fa_litL, nI_toInt, pk_lT, Int32.toInt_toInt64, jadd64, jin, jnoneT] at *); omega
  · refine j_iload_n X dX11_show_13 rfl ?_
    refine j_i2l X dX11_show_14 ?_
    refine j_lconst X dX11_show_15 0 (by decide) ?_
    refine j_ldc2 X dX11_show_16 u1152 ?_
    refine s_callSi X hR (m_inI np _ _ _ _ 0 15 rfl rfl) rfl u1087 u1085 u1086 u12 hyX11_in (by decide) (by decide) (Nat.le_of_ble_eq_true rfl) dX11_show_19 (fun v_19 m_19 h_19 => ?_)
    obtain ⟨e1, e2⟩ := h_19; have e1 := e1.symm; have e2 := e2.symm; subst e1; subst e2
    refine j_ifb_eq X 30 dX11_show_22 (by decide) (fun c_22 => ?_) (fun c_22 => ?_)
    · exfalso
      clear hE hr hR X
      have e1 : (-1 : Int32).toInt = -1 := by decide
      (try simp only [lg_cmp_lt, lg_cmp_gt, lg_cmp_le, lg_cmp_ge] at *); (try simp (disch := omega) only [Int64.le_iff_toInt_le, Int64.lt_iff_toInt_lt, Int32.le_iff_toInt_le, Int32.lt_iff_toInt_lt, fa_eq, fa_lit, fa_litL, nI_toInt, pk_lT, Int32.toInt_toInt64, jadd64, jin, jnoneT] at *); omega
    · refine j_iload_n X dX11_show_25 rfl ?_
      refine j_iconst X dX11_show_26 (-1) (by decide) ?_
      refine j_icmp_ge X 33 dX11_show_27 (by decide) (fun c_27 => ?_) (fun c_27 => absurd c_27 (by decide))
      refine j_aload_n X dX11_show_33 rfl ?_
      refine j_iload_n X dX11_show_34 rfl ?_
      refine j_iload_n X dX11_show_35 rfl ?_
      refine s_callVi X hR (m_showAll8 np _ _ (by omega)) rfl 11 (by decide) (o66 np) (k66 np) rfl u1198 u1195 u1197 qp46 u12 hyX11_showAll (by decide) (by decide) (Nat.le_of_ble_eq_true rfl) dX11_show_36 (fun v_36 m_36 h_36 => ?_)
      obtain ⟨e1, e2⟩ := h_36; have e1 := e1.symm; have e2 := e2.symm; subst e1; subst e2
      refine j_istore X dX11_show_39 (by decide) ?_
      refine j_iload_n X dX11_show_41 rfl ?_
      refine j_iconst X dX11_show_42 (-1) (by decide) ?_
      refine j_icmp_ne X 51 dX11_show_43 (by decide) (fun c_43 => absurd c_43 (by decide)) (fun c_43 => ?_)
      refine j_iload X dX11_show_46 rfl ?_
      refine j_goto X 68 dX11_show_48 (by decide) ?_
      refine s_iret X hE hr dX11_show_68 rfl ?_
      exact ⟨rfl, by repeat (first | exact jeq.rf | refine jeq.up ?_ (by decide))⟩
set_option maxRecDepth 4000 in
set_option maxHeartbeats 1000000 in
theorem m_show8_none (np : Nat) (mem : jMem) (p : Nat) (i : Int32) (hn : np ≤ 12) (hp : mem 66 9 = nI np) (hp2 : p < np) (hi : 3 ≤ i.toInt) : jPi yX11_show cX11_show 5 .int 4 [.ref 66, .int (nI p), .int 8, .int i] np mem (fun v c => v = -1000000 ∧ jeq [76] (jup mem 66 0 0) c) := by
  refine jPi.of (own := RX11) rfl rfl (Nat.le_of_ble_eq_true rfl) (fun G X hR hr hE => ?_)
  refine j_aload_n X dX11_show_0 rfl ?_
  refine j_iconst X dX11_show_1 0 (by decide) ?_
  refine j_putI X 11 0 (by decide) (by decide) rfl rfl rfl rfl u950 (o66 np) (k66 np) dX11_show_2 ?_
  refine j_aload_n X dX11_show_5 rfl ?_
  refine j_iload_n X dX11_show_6 rfl ?_
  refine s_callVi X hR (m_isPaper np _ _ hn hp) rfl 11 (by decide) (o66 np) (k66 np) rfl u1151 u1148 u1150 qp39 u12 hyX11_isPaper (by decide) (by decide) (Nat.le_of_ble_eq_true rfl) dX11_show_7 (fun v_7 m_7 h_7 => ?_)
  obtain ⟨e1, e2⟩ := h_7; have e1 := e1.symm; have e2 := e2.symm; subst e1; subst e2
  refine j_ifb_eq X 30 dX11_show_10 (by decide) (fun c_10 => ?_) (fun c_10 => ?_)
  · exfalso
    clear hE hr hR X
    have e1 : (-1 : Int32).toInt = -1 := by decide
    (try simp only [lg_cmp_lt, lg_cmp_gt, lg_cmp_le, lg_cmp_ge] at *); (try simp (disch := omega) only [Int64.le_iff_toInt_le, Int64.lt_iff_toInt_lt, Int32.le_iff_toInt_le, Int32.lt_iff_toInt_lt, fa_eq, fa_lit, fa_litL, nI_toInt, pk_lT, Int32.toInt_toInt64, jadd64, jin, jnoneT] at *); omega
  · refine j_iload_n X dX11_show_13 rfl ?_
    refine j_i2l X dX11_show_14 ?_
    refine j_lconst X dX11_show_15 0 (by decide) ?_
    refine j_ldc2 X dX11_show_16 u1152 ?_
    refine s_callSi X hR (m_inI np _ _ _ _ 0 15 rfl rfl) rfl u1087 u1085 u1086 u12 hyX11_in (by decide) (by decide) (Nat.le_of_ble_eq_true rfl) dX11_show_19 (fun v_19 m_19 h_19 => ?_)
    obtain ⟨e1, e2⟩ := h_19; have e1 := e1.symm; have e2 := e2.symm; subst e1; subst e2
    refine j_ifb_eq X 30 dX11_show_22 (by decide) (fun c_22 => ?_) (fun c_22 => ?_)
    · exfalso
      clear hE hr hR X
      have e1 : (-1 : Int32).toInt = -1 := by decide
      (try simp only [lg_cmp_lt, lg_cmp_gt, lg_cmp_le, lg_cmp_ge] at *); (try simp (disch := omega) only [Int64.le_iff_toInt_le, Int64.lt_iff_toInt_lt, Int32.le_iff_toInt_le, Int32.lt_iff_toInt_lt, fa_eq, fa_lit, fa_litL, nI_toInt, pk_lT, Int32.toInt_toInt64, jadd64, jin, jnoneT] at *); omega
    · refine j_iload_n X dX11_show_25 rfl ?_
      refine j_iconst X dX11_show_26 (-1) (by decide) ?_
      refine j_icmp_ge X 33 dX11_show_27 (by decide) (fun c_27 => ?_) (fun c_27 => ?_)
      · refine j_aload_n X dX11_show_33 rfl ?_
        refine j_iload_n X dX11_show_34 rfl ?_
        refine j_iload_n X dX11_show_35 rfl ?_
        refine s_callVi X hR (m_showAll8 np _ _ (by omega)) rfl 11 (by decide) (o66 np) (k66 np) rfl u1198 u1195 u1197 qp46 u12 hyX11_showAll (by decide) (by decide) (Nat.le_of_ble_eq_true rfl) dX11_show_36 (fun v_36 m_36 h_36 => ?_)
        obtain ⟨e1, e2⟩ := h_36; have e1 := e1.symm; have e2 := e2.symm; subst e1; subst e2
        refine j_istore X dX11_show_39 (by decide) ?_
        refine j_iload_n X dX11_show_41 rfl ?_
        refine j_iconst X dX11_show_42 (-1) (by decide) ?_
        refine j_icmp_ne X 51 dX11_show_43 (by decide) (fun c_43 => ?_) (fun c_43 => ?_)
        · refine j_iload_n X dX11_show_51 rfl ?_
          refine j_iload X dX11_show_52 rfl ?_
          refine j_icmp_ge X 66 dX11_show_54 (by decide) (fun c_54 => ?_) (fun c_54 => ?_)
          · refine j_ldc X dX11_show_66 u949 ?_
            refine s_iret X hE hr dX11_show_68 rfl ?_
            exact ⟨rfl, by repeat (first | exact jeq.rf | refine jeq.up ?_ (by decide))⟩
          · exfalso
            clear hE hr hR X
            have e1 : (-1 : Int32).toInt = -1 := by decide
            (try simp only [lg_cmp_lt, lg_cmp_gt, lg_cmp_le, lg_cmp_ge] at *); (try simp (disch := omega) only [Int64.le_iff_toInt_le, Int64.lt_iff_toInt_lt, Int32.le_iff_toInt_le, Int32.lt_iff_toInt_lt, fa_eq, fa_lit, fa_litL, nI_toInt, pk_lT, Int32.toInt_toInt64, jadd64, jin, jnoneT] at *); omega
        · exfalso
          clear hE hr hR X
          have e1 : (-1 : Int32).toInt = -1 := by decide
          (try simp only [lg_cmp_lt, lg_cmp_gt, lg_cmp_le, lg_cmp_ge] at *); (try simp (disch := omega) only [Int64.le_iff_toInt_le, Int64.lt_iff_toInt_lt, Int32.le_iff_toInt_le, Int32.lt_iff_toInt_lt, fa_eq, fa_lit, fa_litL, nI_toInt, pk_lT, Int32.toInt_toInt64, jadd64, jin, jnoneT] at *); omega
      · exfalso
        clear hE hr hR X
        have e1 : (-1 : Int32).toInt = -1 := by decide
        (try simp only [lg_cmp_lt, lg_cmp_gt, lg_cmp_le, lg_cmp_ge] at *); (try simp (disch := omega) only [Int64.le_iff_toInt_le, Int64.lt_iff_toInt_lt, Int32.le_iff_toInt_le, Int32.lt_iff_toInt_lt, fa_eq, fa_lit, fa_litL, nI_toInt, pk_lT, Int32.toInt_toInt64, jadd64, jin, jnoneT] at *); omega
set_option maxRecDepth 4000 in
set_option maxHeartbeats 1000000 in
theorem m_show8_0 (np : Nat) (mem : jMem) (p : Nat) (hn : np ≤ 12) (hp : mem 66 9 = nI np) (hp2 : p < np) : jPi yX11_show cX11_show 5 .int 4 [.ref 66, .int (nI p), .int 8, .int 0] np mem (fun v c => v = (jJoin (jLeaf (nI p) 0 (mem 74 (9 * p + 5))) (jLeaf (nI p) 1 (mem 74 (9 * p + 6)))) ∧ jeq [76] (jup mem 66 0 0) c) := by
  refine jPi.of (own := RX11) rfl rfl (Nat.le_of_ble_eq_true rfl) (fun G X hR hr hE => ?_)
  refine j_aload_n X dX11_show_0 rfl ?_
  refine j_iconst X dX11_show_1 0 (by decide) ?_
  refine j_putI X 11 0 (by decide) (by decide) rfl rfl rfl rfl u950 (o66 np) (k66 np) dX11_show_2 ?_
  refine j_aload_n X dX11_show_5 rfl ?_
  refine j_iload_n X dX11_show_6 rfl ?_
  refine s_callVi X hR (m_isPaper np _ _ hn hp) rfl 11 (by decide) (o66 np) (k66 np) rfl u1151 u1148 u1150 qp39 u12 hyX11_isPaper (by decide) (by decide) (Nat.le_of_ble_eq_true rfl) dX11_show_7 (fun v_7 m_7 h_7 => ?_)
  obtain ⟨e1, e2⟩ := h_7; have e1 := e1.symm; have e2 := e2.symm; subst e1; subst e2
  refine j_ifb_eq X 30 dX11_show_10 (by decide) (fun c_10 => ?_) (fun c_10 => ?_)
  · exfalso
    clear hE hr hR X
    have e1 : (-1 : Int32).toInt = -1 := by decide
    (try simp only [lg_cmp_lt, lg_cmp_gt, lg_cmp_le, lg_cmp_ge] at *); (try simp (disch := omega) only [Int64.le_iff_toInt_le, Int64.lt_iff_toInt_lt, Int32.le_iff_toInt_le, Int32.lt_iff_toInt_lt, fa_eq, fa_lit, fa_litL, nI_toInt, pk_lT, Int32.toInt_toInt64, jadd64, jin, jnoneT] at *); omega
  · refine j_iload_n X dX11_show_13 rfl ?_
    refine j_i2l X dX11_show_14 ?_
    refine j_lconst X dX11_show_15 0 (by decide) ?_
    refine j_ldc2 X dX11_show_16 u1152 ?_
    refine s_callSi X hR (m_inI np _ _ _ _ 0 15 rfl rfl) rfl u1087 u1085 u1086 u12 hyX11_in (by decide) (by decide) (Nat.le_of_ble_eq_true rfl) dX11_show_19 (fun v_19 m_19 h_19 => ?_)
    obtain ⟨e1, e2⟩ := h_19; have e1 := e1.symm; have e2 := e2.symm; subst e1; subst e2
    refine j_ifb_eq X 30 dX11_show_22 (by decide) (fun c_22 => ?_) (fun c_22 => ?_)
    · exfalso
      clear hE hr hR X
      have e1 : (-1 : Int32).toInt = -1 := by decide
      (try simp only [lg_cmp_lt, lg_cmp_gt, lg_cmp_le, lg_cmp_ge] at *); (try simp (disch := omega) only [Int64.le_iff_toInt_le, Int64.lt_iff_toInt_lt, Int32.le_iff_toInt_le, Int32.lt_iff_toInt_lt, fa_eq, fa_lit, fa_litL, nI_toInt, pk_lT, Int32.toInt_toInt64, jadd64, jin, jnoneT] at *); omega
    · refine j_iload_n X dX11_show_25 rfl ?_
      refine j_iconst X dX11_show_26 (-1) (by decide) ?_
      refine j_icmp_ge X 33 dX11_show_27 (by decide) (fun c_27 => ?_) (fun c_27 => absurd c_27 (by decide))
      refine j_aload_n X dX11_show_33 rfl ?_
      refine j_iload_n X dX11_show_34 rfl ?_
      refine j_iload_n X dX11_show_35 rfl ?_
      refine s_callVi X hR (m_showAll8 np _ _ (by omega)) rfl 11 (by decide) (o66 np) (k66 np) rfl u1198 u1195 u1197 qp46 u12 hyX11_showAll (by decide) (by decide) (Nat.le_of_ble_eq_true rfl) dX11_show_36 (fun v_36 m_36 h_36 => ?_)
      obtain ⟨e1, e2⟩ := h_36; have e1 := e1.symm; have e2 := e2.symm; subst e1; subst e2
      refine j_istore X dX11_show_39 (by decide) ?_
      refine j_iload_n X dX11_show_41 rfl ?_
      refine j_iconst X dX11_show_42 (-1) (by decide) ?_
      refine j_icmp_ne X 51 dX11_show_43 (by decide) (fun c_43 => ?_) (fun c_43 => absurd c_43 (by decide))
      refine j_iload_n X dX11_show_51 rfl ?_
      refine j_iload X dX11_show_52 rfl ?_
      refine j_icmp_ge X 66 dX11_show_54 (by decide) (fun c_54 => absurd c_54 (by decide)) (fun c_54 => ?_)
      refine j_aload_n X dX11_show_57 rfl ?_
      refine j_getR X 11 12 (by decide) (by decide) rfl u962 (o66 np) (k66 np) _ (p66_12 np) dX11_show_58 ?_
      refine j_iload_n X dX11_show_61 rfl ?_
      refine j_nrm _ (by first | (simp only [fa_lit, pk_mul, nI_add]; done) | (simp only [fa_lit, pk_mul, nI_add]; rfl) | rfl) ?_
      refine j_ialdN X (o76 np) (k76 np) (n := 0) (by rw [l76]; decide) (by rw [l76]; decide) _ rfl dX11_show_62 ?_
      refine j_goto X 68 dX11_show_63 (by decide) ?_
      refine s_iret X hE hr dX11_show_68 rfl ?_
      exact ⟨rfl, by repeat (first | exact jeq.rf | refine jeq.up ?_ (by decide))⟩
set_option maxRecDepth 4000 in
set_option maxHeartbeats 1000000 in
theorem m_show8_1 (np : Nat) (mem : jMem) (p : Nat) (hn : np ≤ 12) (hp : mem 66 9 = nI np) (hp2 : p < np) : jPi yX11_show cX11_show 5 .int 4 [.ref 66, .int (nI p), .int 8, .int 1] np mem (fun v c => v = (jLeaf (nI p) 2 (mem 74 (9 * p + 7))) ∧ jeq [76] (jup mem 66 0 0) c) := by
  refine jPi.of (own := RX11) rfl rfl (Nat.le_of_ble_eq_true rfl) (fun G X hR hr hE => ?_)
  refine j_aload_n X dX11_show_0 rfl ?_
  refine j_iconst X dX11_show_1 0 (by decide) ?_
  refine j_putI X 11 0 (by decide) (by decide) rfl rfl rfl rfl u950 (o66 np) (k66 np) dX11_show_2 ?_
  refine j_aload_n X dX11_show_5 rfl ?_
  refine j_iload_n X dX11_show_6 rfl ?_
  refine s_callVi X hR (m_isPaper np _ _ hn hp) rfl 11 (by decide) (o66 np) (k66 np) rfl u1151 u1148 u1150 qp39 u12 hyX11_isPaper (by decide) (by decide) (Nat.le_of_ble_eq_true rfl) dX11_show_7 (fun v_7 m_7 h_7 => ?_)
  obtain ⟨e1, e2⟩ := h_7; have e1 := e1.symm; have e2 := e2.symm; subst e1; subst e2
  refine j_ifb_eq X 30 dX11_show_10 (by decide) (fun c_10 => ?_) (fun c_10 => ?_)
  · exfalso
    clear hE hr hR X
    have e1 : (-1 : Int32).toInt = -1 := by decide
    (try simp only [lg_cmp_lt, lg_cmp_gt, lg_cmp_le, lg_cmp_ge] at *); (try simp (disch := omega) only [Int64.le_iff_toInt_le, Int64.lt_iff_toInt_lt, Int32.le_iff_toInt_le, Int32.lt_iff_toInt_lt, fa_eq, fa_lit, fa_litL, nI_toInt, pk_lT, Int32.toInt_toInt64, jadd64, jin, jnoneT] at *); omega
  · refine j_iload_n X dX11_show_13 rfl ?_
    refine j_i2l X dX11_show_14 ?_
    refine j_lconst X dX11_show_15 0 (by decide) ?_
    refine j_ldc2 X dX11_show_16 u1152 ?_
    refine s_callSi X hR (m_inI np _ _ _ _ 0 15 rfl rfl) rfl u1087 u1085 u1086 u12 hyX11_in (by decide) (by decide) (Nat.le_of_ble_eq_true rfl) dX11_show_19 (fun v_19 m_19 h_19 => ?_)
    obtain ⟨e1, e2⟩ := h_19; have e1 := e1.symm; have e2 := e2.symm; subst e1; subst e2
    refine j_ifb_eq X 30 dX11_show_22 (by decide) (fun c_22 => ?_) (fun c_22 => ?_)
    · exfalso
      clear hE hr hR X
      have e1 : (-1 : Int32).toInt = -1 := by decide
      (try simp only [lg_cmp_lt, lg_cmp_gt, lg_cmp_le, lg_cmp_ge] at *); (try simp (disch := omega) only [Int64.le_iff_toInt_le, Int64.lt_iff_toInt_lt, Int32.le_iff_toInt_le, Int32.lt_iff_toInt_lt, fa_eq, fa_lit, fa_litL, nI_toInt, pk_lT, Int32.toInt_toInt64, jadd64, jin, jnoneT] at *); omega
    · refine j_iload_n X dX11_show_25 rfl ?_
      refine j_iconst X dX11_show_26 (-1) (by decide) ?_
      refine j_icmp_ge X 33 dX11_show_27 (by decide) (fun c_27 => ?_) (fun c_27 => absurd c_27 (by decide))
      refine j_aload_n X dX11_show_33 rfl ?_
      refine j_iload_n X dX11_show_34 rfl ?_
      refine j_iload_n X dX11_show_35 rfl ?_
      refine s_callVi X hR (m_showAll8 np _ _ (by omega)) rfl 11 (by decide) (o66 np) (k66 np) rfl u1198 u1195 u1197 qp46 u12 hyX11_showAll (by decide) (by decide) (Nat.le_of_ble_eq_true rfl) dX11_show_36 (fun v_36 m_36 h_36 => ?_)
      obtain ⟨e1, e2⟩ := h_36; have e1 := e1.symm; have e2 := e2.symm; subst e1; subst e2
      refine j_istore X dX11_show_39 (by decide) ?_
      refine j_iload_n X dX11_show_41 rfl ?_
      refine j_iconst X dX11_show_42 (-1) (by decide) ?_
      refine j_icmp_ne X 51 dX11_show_43 (by decide) (fun c_43 => ?_) (fun c_43 => absurd c_43 (by decide))
      refine j_iload_n X dX11_show_51 rfl ?_
      refine j_iload X dX11_show_52 rfl ?_
      refine j_icmp_ge X 66 dX11_show_54 (by decide) (fun c_54 => absurd c_54 (by decide)) (fun c_54 => ?_)
      refine j_aload_n X dX11_show_57 rfl ?_
      refine j_getR X 11 12 (by decide) (by decide) rfl u962 (o66 np) (k66 np) _ (p66_12 np) dX11_show_58 ?_
      refine j_iload_n X dX11_show_61 rfl ?_
      refine j_nrm _ (by first | (simp only [fa_lit, pk_mul, nI_add]; done) | (simp only [fa_lit, pk_mul, nI_add]; rfl) | rfl) ?_
      refine j_ialdN X (o76 np) (k76 np) (n := 1) (by rw [l76]; decide) (by rw [l76]; decide) _ rfl dX11_show_62 ?_
      refine j_goto X 68 dX11_show_63 (by decide) ?_
      refine s_iret X hE hr dX11_show_68 rfl ?_
      exact ⟨rfl, by repeat (first | exact jeq.rf | refine jeq.up ?_ (by decide))⟩
set_option maxRecDepth 4000 in
set_option maxHeartbeats 1000000 in
theorem m_show8_2 (np : Nat) (mem : jMem) (p : Nat) (hn : np ≤ 12) (hp : mem 66 9 = nI np) (hp2 : p < np) : jPi yX11_show cX11_show 5 .int 4 [.ref 66, .int (nI p), .int 8, .int 2] np mem (fun v c => v = (mem 74 (9 * p + 8)) ∧ jeq [76] (jup mem 66 0 0) c) := by
  refine jPi.of (own := RX11) rfl rfl (Nat.le_of_ble_eq_true rfl) (fun G X hR hr hE => ?_)
  refine j_aload_n X dX11_show_0 rfl ?_
  refine j_iconst X dX11_show_1 0 (by decide) ?_
  refine j_putI X 11 0 (by decide) (by decide) rfl rfl rfl rfl u950 (o66 np) (k66 np) dX11_show_2 ?_
  refine j_aload_n X dX11_show_5 rfl ?_
  refine j_iload_n X dX11_show_6 rfl ?_
  refine s_callVi X hR (m_isPaper np _ _ hn hp) rfl 11 (by decide) (o66 np) (k66 np) rfl u1151 u1148 u1150 qp39 u12 hyX11_isPaper (by decide) (by decide) (Nat.le_of_ble_eq_true rfl) dX11_show_7 (fun v_7 m_7 h_7 => ?_)
  obtain ⟨e1, e2⟩ := h_7; have e1 := e1.symm; have e2 := e2.symm; subst e1; subst e2
  refine j_ifb_eq X 30 dX11_show_10 (by decide) (fun c_10 => ?_) (fun c_10 => ?_)
  · exfalso
    clear hE hr hR X
    have e1 : (-1 : Int32).toInt = -1 := by decide
    (try simp only [lg_cmp_lt, lg_cmp_gt, lg_cmp_le, lg_cmp_ge] at *); (try simp (disch := omega) only [Int64.le_iff_toInt_le, Int64.lt_iff_toInt_lt, Int32.le_iff_toInt_le, Int32.lt_iff_toInt_lt, fa_eq, fa_lit, fa_litL, nI_toInt, pk_lT, Int32.toInt_toInt64, jadd64, jin, jnoneT] at *); omega
  · refine j_iload_n X dX11_show_13 rfl ?_
    refine j_i2l X dX11_show_14 ?_
    refine j_lconst X dX11_show_15 0 (by decide) ?_
    refine j_ldc2 X dX11_show_16 u1152 ?_
    refine s_callSi X hR (m_inI np _ _ _ _ 0 15 rfl rfl) rfl u1087 u1085 u1086 u12 hyX11_in (by decide) (by decide) (Nat.le_of_ble_eq_true rfl) dX11_show_19 (fun v_19 m_19 h_19 => ?_)
    obtain ⟨e1, e2⟩ := h_19; have e1 := e1.symm; have e2 := e2.symm; subst e1; subst e2
    refine j_ifb_eq X 30 dX11_show_22 (by decide) (fun c_22 => ?_) (fun c_22 => ?_)
    · exfalso
      clear hE hr hR X
      have e1 : (-1 : Int32).toInt = -1 := by decide
      (try simp only [lg_cmp_lt, lg_cmp_gt, lg_cmp_le, lg_cmp_ge] at *); (try simp (disch := omega) only [Int64.le_iff_toInt_le, Int64.lt_iff_toInt_lt, Int32.le_iff_toInt_le, Int32.lt_iff_toInt_lt, fa_eq, fa_lit, fa_litL, nI_toInt, pk_lT, Int32.toInt_toInt64, jadd64, jin, jnoneT] at *); omega
    · refine j_iload_n X dX11_show_25 rfl ?_
      refine j_iconst X dX11_show_26 (-1) (by decide) ?_
      refine j_icmp_ge X 33 dX11_show_27 (by decide) (fun c_27 => ?_) (fun c_27 => absurd c_27 (by decide))
      refine j_aload_n X dX11_show_33 rfl ?_
      refine j_iload_n X dX11_show_34 rfl ?_
      refine j_iload_n X dX11_show_35 rfl ?_
      refine s_callVi X hR (m_showAll8 np _ _ (by omega)) rfl 11 (by decide) (o66 np) (k66 np) rfl u1198 u1195 u1197 qp46 u12 hyX11_showAll (by decide) (by decide) (Nat.le_of_ble_eq_true rfl) dX11_show_36 (fun v_36 m_36 h_36 => ?_)
      obtain ⟨e1, e2⟩ := h_36; have e1 := e1.symm; have e2 := e2.symm; subst e1; subst e2
      refine j_istore X dX11_show_39 (by decide) ?_
      refine j_iload_n X dX11_show_41 rfl ?_
      refine j_iconst X dX11_show_42 (-1) (by decide) ?_
      refine j_icmp_ne X 51 dX11_show_43 (by decide) (fun c_43 => ?_) (fun c_43 => absurd c_43 (by decide))
      refine j_iload_n X dX11_show_51 rfl ?_
      refine j_iload X dX11_show_52 rfl ?_
      refine j_icmp_ge X 66 dX11_show_54 (by decide) (fun c_54 => absurd c_54 (by decide)) (fun c_54 => ?_)
      refine j_aload_n X dX11_show_57 rfl ?_
      refine j_getR X 11 12 (by decide) (by decide) rfl u962 (o66 np) (k66 np) _ (p66_12 np) dX11_show_58 ?_
      refine j_iload_n X dX11_show_61 rfl ?_
      refine j_nrm _ (by first | (simp only [fa_lit, pk_mul, nI_add]; done) | (simp only [fa_lit, pk_mul, nI_add]; rfl) | rfl) ?_
      refine j_ialdN X (o76 np) (k76 np) (n := 2) (by rw [l76]; decide) (by rw [l76]; decide) _ rfl dX11_show_62 ?_
      refine j_goto X 68 dX11_show_63 (by decide) ?_
      refine s_iret X hE hr dX11_show_68 rfl ?_
      exact ⟨rfl, by repeat (first | exact jeq.rf | refine jeq.up ?_ (by decide))⟩
set_option maxRecDepth 4000 in
set_option maxHeartbeats 1000000 in
theorem m_show9_n (np : Nat) (mem : jMem) (p : Nat) (hn : np ≤ 12) (hp : mem 66 9 = nI np) (hp2 : p < np) : jPi yX11_show cX11_show 5 .int 4 [.ref 66, .int (nI p), .int 9, .int (-1)] np mem (fun v c => v = 4 ∧ jeq [76] (jup mem 66 0 0) c) := by
  refine jPi.of (own := RX11) rfl rfl (Nat.le_of_ble_eq_true rfl) (fun G X hR hr hE => ?_)
  refine j_aload_n X dX11_show_0 rfl ?_
  refine j_iconst X dX11_show_1 0 (by decide) ?_
  refine j_putI X 11 0 (by decide) (by decide) rfl rfl rfl rfl u950 (o66 np) (k66 np) dX11_show_2 ?_
  refine j_aload_n X dX11_show_5 rfl ?_
  refine j_iload_n X dX11_show_6 rfl ?_
  refine s_callVi X hR (m_isPaper np _ _ hn hp) rfl 11 (by decide) (o66 np) (k66 np) rfl u1151 u1148 u1150 qp39 u12 hyX11_isPaper (by decide) (by decide) (Nat.le_of_ble_eq_true rfl) dX11_show_7 (fun v_7 m_7 h_7 => ?_)
  obtain ⟨e1, e2⟩ := h_7; have e1 := e1.symm; have e2 := e2.symm; subst e1; subst e2
  refine j_ifb_eq X 30 dX11_show_10 (by decide) (fun c_10 => ?_) (fun c_10 => ?_)
  · exfalso
    clear hE hr hR X
    have e1 : (-1 : Int32).toInt = -1 := by decide
    (try simp only [lg_cmp_lt, lg_cmp_gt, lg_cmp_le, lg_cmp_ge] at *); (try simp (disch := omega) only [Int64.le_iff_toInt_le, Int64.lt_iff_toInt_lt, Int32.le_iff_toInt_le, Int32.lt_iff_toInt_lt, fa_eq, fa_lit, fa_litL, nI_toInt, pk_lT, Int32.toInt_toInt64, jadd64, jin, jnoneT] at *); omega
  · refine j_iload_n X dX11_show_13 rfl ?_
    refine j_i2l X dX11_show_14 ?_
    refine j_lconst X dX11_show_15 0 (by decide) ?_
    refine j_ldc2 X dX11_show_16 u1152 ?_
    refine s_callSi X hR (m_inI np _ _ _ _ 0 15 rfl rfl) rfl u1087 u1085 u1086 u12 hyX11_in (by decide) (by decide) (Nat.le_of_ble_eq_true rfl) dX11_show_19 (fun v_19 m_19 h_19 => ?_)
    obtain ⟨e1, e2⟩ := h_19; have e1 := e1.symm; have e2 := e2.symm; subst e1; subst e2
    refine j_ifb_eq X 30 dX11_show_22 (by decide) (fun c_22 => ?_) (fun c_22 => ?_)
    · exfalso
      clear hE hr hR X
      have e1 : (-1 : Int32).toInt = -1 := by decide
      (try simp only [lg_cmp_lt, lg_cmp_gt, lg_cmp_le, lg_cmp_ge] at *); (try simp (disch := omega) only [Int64.le_iff_toInt_le, Int64.lt_iff_toInt_lt, Int32.le_iff_toInt_le, Int32.lt_iff_toInt_lt, fa_eq, fa_lit, fa_litL, nI_toInt, pk_lT, Int32.toInt_toInt64, jadd64, jin, jnoneT] at *); omega
    · refine j_iload_n X dX11_show_25 rfl ?_
      refine j_iconst X dX11_show_26 (-1) (by decide) ?_
      refine j_icmp_ge X 33 dX11_show_27 (by decide) (fun c_27 => ?_) (fun c_27 => absurd c_27 (by decide))
      refine j_aload_n X dX11_show_33 rfl ?_
      refine j_iload_n X dX11_show_34 rfl ?_
      refine j_iload_n X dX11_show_35 rfl ?_
      refine s_callVi X hR (m_showAll9 np _ _ (by omega)) rfl 11 (by decide) (o66 np) (k66 np) rfl u1198 u1195 u1197 qp46 u12 hyX11_showAll (by decide) (by decide) (Nat.le_of_ble_eq_true rfl) dX11_show_36 (fun v_36 m_36 h_36 => ?_)
      obtain ⟨e1, e2⟩ := h_36; have e1 := e1.symm; have e2 := e2.symm; subst e1; subst e2
      refine j_istore X dX11_show_39 (by decide) ?_
      refine j_iload_n X dX11_show_41 rfl ?_
      refine j_iconst X dX11_show_42 (-1) (by decide) ?_
      refine j_icmp_ne X 51 dX11_show_43 (by decide) (fun c_43 => absurd c_43 (by decide)) (fun c_43 => ?_)
      refine j_iload X dX11_show_46 rfl ?_
      refine j_goto X 68 dX11_show_48 (by decide) ?_
      refine s_iret X hE hr dX11_show_68 rfl ?_
      exact ⟨rfl, by repeat (first | exact jeq.rf | refine jeq.up ?_ (by decide))⟩
set_option maxRecDepth 4000 in
set_option maxHeartbeats 1000000 in
theorem m_show9_none (np : Nat) (mem : jMem) (p : Nat) (i : Int32) (hn : np ≤ 12) (hp : mem 66 9 = nI np) (hp2 : p < np) (hi : 4 ≤ i.toInt) : jPi yX11_show cX11_show 5 .int 4 [.ref 66, .int (nI p), .int 9, .int i] np mem (fun v c => v = -1000000 ∧ jeq [76] (jup mem 66 0 0) c) := by
  refine jPi.of (own := RX11) rfl rfl (Nat.le_of_ble_eq_true rfl) (fun G X hR hr hE => ?_)
  refine j_aload_n X dX11_show_0 rfl ?_
  refine j_iconst X dX11_show_1 0 (by decide) ?_
  refine j_putI X 11 0 (by decide) (by decide) rfl rfl rfl rfl u950 (o66 np) (k66 np) dX11_show_2 ?_
  refine j_aload_n X dX11_show_5 rfl ?_
  refine j_iload_n X dX11_show_6 rfl ?_
  refine s_callVi X hR (m_isPaper np _ _ hn hp) rfl 11 (by decide) (o66 np) (k66 np) rfl u1151 u1148 u1150 qp39 u12 hyX11_isPaper (by decide) (by decide) (Nat.le_of_ble_eq_true rfl) dX11_show_7 (fun v_7 m_7 h_7 => ?_)
  obtain ⟨e1, e2⟩ := h_7; have e1 := e1.symm; have e2 := e2.symm; subst e1; subst e2
  refine j_ifb_eq X 30 dX11_show_10 (by decide) (fun c_10 => ?_) (fun c_10 => ?_)
  · exfalso
    clear hE hr hR X
    have e1 : (-1 : Int32).toInt = -1 := by decide
    (try simp only [lg_cmp_lt, lg_cmp_gt, lg_cmp_le, lg_cmp_ge] at *); (try simp (disch := omega) only [Int64.le_iff_toInt_le, Int64.lt_iff_toInt_lt, Int32.le_iff_toInt_le, Int32.lt_iff_toInt_lt, fa_eq, fa_lit, fa_litL, nI_toInt, pk_lT, Int32.toInt_toInt64, jadd64, jin, jnoneT] at *); omega
  · refine j_iload_n X dX11_show_13 rfl ?_
    refine j_i2l X dX11_show_14 ?_
    refine j_lconst X dX11_show_15 0 (by decide) ?_
    refine j_ldc2 X dX11_show_16 u1152 ?_
    refine s_callSi X hR (m_inI np _ _ _ _ 0 15 rfl rfl) rfl u1087 u1085 u1086 u12 hyX11_in (by decide) (by decide) (Nat.le_of_ble_eq_true rfl) dX11_show_19 (fun v_19 m_19 h_19 => ?_)
    obtain ⟨e1, e2⟩ := h_19; have e1 := e1.symm; have e2 := e2.symm; subst e1; subst e2
    refine j_ifb_eq X 30 dX11_show_22 (by decide) (fun c_22 => ?_) (fun c_22 => ?_)
    · exfalso
      clear hE hr hR X
      have e1 : (-1 : Int32).toInt = -1 := by decide
      (try simp only [lg_cmp_lt, lg_cmp_gt, lg_cmp_le, lg_cmp_ge] at *); (try simp (disch := omega) only [Int64.le_iff_toInt_le, Int64.lt_iff_toInt_lt, Int32.le_iff_toInt_le, Int32.lt_iff_toInt_lt, fa_eq, fa_lit, fa_litL, nI_toInt, pk_lT, Int32.toInt_toInt64, jadd64, jin, jnoneT] at *); omega
    · refine j_iload_n X dX11_show_25 rfl ?_
      refine j_iconst X dX11_show_26 (-1) (by decide) ?_
      refine j_icmp_ge X 33 dX11_show_27 (by decide) (fun c_27 => ?_) (fun c_27 => ?_)
      · refine j_aload_n X dX11_show_33 rfl ?_
        refine j_iload_n X dX11_show_34 rfl ?_
        refine j_iload_n X dX11_show_35 rfl ?_
        refine s_callVi X hR (m_showAll9 np _ _ (by omega)) rfl 11 (by decide) (o66 np) (k66 np) rfl u1198 u1195 u1197 qp46 u12 hyX11_showAll (by decide) (by decide) (Nat.le_of_ble_eq_true rfl) dX11_show_36 (fun v_36 m_36 h_36 => ?_)
        obtain ⟨e1, e2⟩ := h_36; have e1 := e1.symm; have e2 := e2.symm; subst e1; subst e2
        refine j_istore X dX11_show_39 (by decide) ?_
        refine j_iload_n X dX11_show_41 rfl ?_
        refine j_iconst X dX11_show_42 (-1) (by decide) ?_
        refine j_icmp_ne X 51 dX11_show_43 (by decide) (fun c_43 => ?_) (fun c_43 => ?_)
        · refine j_iload_n X dX11_show_51 rfl ?_
          refine j_iload X dX11_show_52 rfl ?_
          refine j_icmp_ge X 66 dX11_show_54 (by decide) (fun c_54 => ?_) (fun c_54 => ?_)
          · refine j_ldc X dX11_show_66 u949 ?_
            refine s_iret X hE hr dX11_show_68 rfl ?_
            exact ⟨rfl, by repeat (first | exact jeq.rf | refine jeq.up ?_ (by decide))⟩
          · exfalso
            clear hE hr hR X
            have e1 : (-1 : Int32).toInt = -1 := by decide
            (try simp only [lg_cmp_lt, lg_cmp_gt, lg_cmp_le, lg_cmp_ge] at *); (try simp (disch := omega) only [Int64.le_iff_toInt_le, Int64.lt_iff_toInt_lt, Int32.le_iff_toInt_le, Int32.lt_iff_toInt_lt, fa_eq, fa_lit, fa_litL, nI_toInt, pk_lT, Int32.toInt_toInt64, jadd64, jin, jnoneT] at *); omega
        · exfalso
          clear hE hr hR X
          have e1 : (-1 : Int32).toInt = -1 := by decide
          (try simp only [lg_cmp_lt, lg_cmp_gt, lg_cmp_le, lg_cmp_ge] at *); (try simp (disch := omega) only [Int64.le_iff_toInt_le, Int64.lt_iff_toInt_lt, Int32.le_iff_toInt_le, Int32.lt_iff_toInt_lt, fa_eq, fa_lit, fa_litL, nI_toInt, pk_lT, Int32.toInt_toInt64, jadd64, jin, jnoneT] at *); omega
      · exfalso
        clear hE hr hR X
        have e1 : (-1 : Int32).toInt = -1 := by decide
        (try simp only [lg_cmp_lt, lg_cmp_gt, lg_cmp_le, lg_cmp_ge] at *); (try simp (disch := omega) only [Int64.le_iff_toInt_le, Int64.lt_iff_toInt_lt, Int32.le_iff_toInt_le, Int32.lt_iff_toInt_lt, fa_eq, fa_lit, fa_litL, nI_toInt, pk_lT, Int32.toInt_toInt64, jadd64, jin, jnoneT] at *); omega
set_option maxRecDepth 4000 in
set_option maxHeartbeats 1000000 in
theorem m_show9_0 (np : Nat) (mem : jMem) (p : Nat) (hn : np ≤ 12) (hp : mem 66 9 = nI np) (hp2 : p < np) : jPi yX11_show cX11_show 5 .int 4 [.ref 66, .int (nI p), .int 9, .int 0] np mem (fun v c => v = (mem 74 (9 * p + 5)) ∧ jeq [76] (jup mem 66 0 0) c) := by
  refine jPi.of (own := RX11) rfl rfl (Nat.le_of_ble_eq_true rfl) (fun G X hR hr hE => ?_)
  refine j_aload_n X dX11_show_0 rfl ?_
  refine j_iconst X dX11_show_1 0 (by decide) ?_
  refine j_putI X 11 0 (by decide) (by decide) rfl rfl rfl rfl u950 (o66 np) (k66 np) dX11_show_2 ?_
  refine j_aload_n X dX11_show_5 rfl ?_
  refine j_iload_n X dX11_show_6 rfl ?_
  refine s_callVi X hR (m_isPaper np _ _ hn hp) rfl 11 (by decide) (o66 np) (k66 np) rfl u1151 u1148 u1150 qp39 u12 hyX11_isPaper (by decide) (by decide) (Nat.le_of_ble_eq_true rfl) dX11_show_7 (fun v_7 m_7 h_7 => ?_)
  obtain ⟨e1, e2⟩ := h_7; have e1 := e1.symm; have e2 := e2.symm; subst e1; subst e2
  refine j_ifb_eq X 30 dX11_show_10 (by decide) (fun c_10 => ?_) (fun c_10 => ?_)
  · exfalso
    clear hE hr hR X
    have e1 : (-1 : Int32).toInt = -1 := by decide
    (try simp only [lg_cmp_lt, lg_cmp_gt, lg_cmp_le, lg_cmp_ge] at *); (try simp (disch := omega) only [Int64.le_iff_toInt_le, Int64.lt_iff_toInt_lt, Int32.le_iff_toInt_le, Int32.lt_iff_toInt_lt, fa_eq, fa_lit, fa_litL, nI_toInt, pk_lT, Int32.toInt_toInt64, jadd64, jin, jnoneT] at *); omega
  · refine j_iload_n X dX11_show_13 rfl ?_
    refine j_i2l X dX11_show_14 ?_
    refine j_lconst X dX11_show_15 0 (by decide) ?_
    refine j_ldc2 X dX11_show_16 u1152 ?_
    refine s_callSi X hR (m_inI np _ _ _ _ 0 15 rfl rfl) rfl u1087 u1085 u1086 u12 hyX11_in (by decide) (by decide) (Nat.le_of_ble_eq_true rfl) dX11_show_19 (fun v_19 m_19 h_19 => ?_)
    obtain ⟨e1, e2⟩ := h_19; have e1 := e1.symm; have e2 := e2.symm; subst e1; subst e2
    refine j_ifb_eq X 30 dX11_show_22 (by decide) (fun c_22 => ?_) (fun c_22 => ?_)
    · exfalso
      clear hE hr hR X
      have e1 : (-1 : Int32).toInt = -1 := by decide
      (try simp only [lg_cmp_lt, lg_cmp_gt, lg_cmp_le, lg_cmp_ge] at *); (try simp (disch := omega) only [Int64.le_iff_toInt_le, Int64.lt_iff_toInt_lt, Int32.le_iff_toInt_le, Int32.lt_iff_toInt_lt, fa_eq, fa_lit, fa_litL, nI_toInt, pk_lT, Int32.toInt_toInt64, jadd64, jin, jnoneT] at *); omega
    · refine j_iload_n X dX11_show_25 rfl ?_
      refine j_iconst X dX11_show_26 (-1) (by decide) ?_
      refine j_icmp_ge X 33 dX11_show_27 (by decide) (fun c_27 => ?_) (fun c_27 => absurd c_27 (by decide))
      refine j_aload_n X dX11_show_33 rfl ?_
      refine j_iload_n X dX11_show_34 rfl ?_
      refine j_iload_n X dX11_show_35 rfl ?_
      refine s_callVi X hR (m_showAll9 np _ _ (by omega)) rfl 11 (by decide) (o66 np) (k66 np) rfl u1198 u1195 u1197 qp46 u12 hyX11_showAll (by decide) (by decide) (Nat.le_of_ble_eq_true rfl) dX11_show_36 (fun v_36 m_36 h_36 => ?_)
      obtain ⟨e1, e2⟩ := h_36; have e1 := e1.symm; have e2 := e2.symm; subst e1; subst e2
      refine j_istore X dX11_show_39 (by decide) ?_
      refine j_iload_n X dX11_show_41 rfl ?_
      refine j_iconst X dX11_show_42 (-1) (by decide) ?_
      refine j_icmp_ne X 51 dX11_show_43 (by decide) (fun c_43 => ?_) (fun c_43 => absurd c_43 (by decide))
      refine j_iload_n X dX11_show_51 rfl ?_
      refine j_iload X dX11_show_52 rfl ?_
      refine j_icmp_ge X 66 dX11_show_54 (by decide) (fun c_54 => absurd c_54 (by decide)) (fun c_54 => ?_)
      refine j_aload_n X dX11_show_57 rfl ?_
      refine j_getR X 11 12 (by decide) (by decide) rfl u962 (o66 np) (k66 np) _ (p66_12 np) dX11_show_58 ?_
      refine j_iload_n X dX11_show_61 rfl ?_
      refine j_nrm _ (by first | (simp only [fa_lit, pk_mul, nI_add]; done) | (simp only [fa_lit, pk_mul, nI_add]; rfl) | rfl) ?_
      refine j_ialdN X (o76 np) (k76 np) (n := 0) (by rw [l76]; decide) (by rw [l76]; decide) _ rfl dX11_show_62 ?_
      refine j_goto X 68 dX11_show_63 (by decide) ?_
      refine s_iret X hE hr dX11_show_68 rfl ?_
      exact ⟨rfl, by repeat (first | exact jeq.rf | refine jeq.up ?_ (by decide))⟩
set_option maxRecDepth 4000 in
set_option maxHeartbeats 1000000 in
theorem m_show9_1 (np : Nat) (mem : jMem) (p : Nat) (hn : np ≤ 12) (hp : mem 66 9 = nI np) (hp2 : p < np) : jPi yX11_show cX11_show 5 .int 4 [.ref 66, .int (nI p), .int 9, .int 1] np mem (fun v c => v = (jLeaf (nI p) 1 (mem 74 (9 * p + 6))) ∧ jeq [76] (jup mem 66 0 0) c) := by
  refine jPi.of (own := RX11) rfl rfl (Nat.le_of_ble_eq_true rfl) (fun G X hR hr hE => ?_)
  refine j_aload_n X dX11_show_0 rfl ?_
  refine j_iconst X dX11_show_1 0 (by decide) ?_
  refine j_putI X 11 0 (by decide) (by decide) rfl rfl rfl rfl u950 (o66 np) (k66 np) dX11_show_2 ?_
  refine j_aload_n X dX11_show_5 rfl ?_
  refine j_iload_n X dX11_show_6 rfl ?_
  refine s_callVi X hR (m_isPaper np _ _ hn hp) rfl 11 (by decide) (o66 np) (k66 np) rfl u1151 u1148 u1150 qp39 u12 hyX11_isPaper (by decide) (by decide) (Nat.le_of_ble_eq_true rfl) dX11_show_7 (fun v_7 m_7 h_7 => ?_)
  obtain ⟨e1, e2⟩ := h_7; have e1 := e1.symm; have e2 := e2.symm; subst e1; subst e2
  refine j_ifb_eq X 30 dX11_show_10 (by decide) (fun c_10 => ?_) (fun c_10 => ?_)
  · exfalso
    clear hE hr hR X
    have e1 : (-1 : Int32).toInt = -1 := by decide
    (try simp only [lg_cmp_lt, lg_cmp_gt, lg_cmp_le, lg_cmp_ge] at *); (try simp (disch := omega) only [Int64.le_iff_toInt_le, Int64.lt_iff_toInt_lt, Int32.le_iff_toInt_le, Int32.lt_iff_toInt_lt, fa_eq, fa_lit, fa_litL, nI_toInt, pk_lT, Int32.toInt_toInt64, jadd64, jin, jnoneT] at *); omega
  · refine j_iload_n X dX11_show_13 rfl ?_
    refine j_i2l X dX11_show_14 ?_
    refine j_lconst X dX11_show_15 0 (by decide) ?_
    refine j_ldc2 X dX11_show_16 u1152 ?_
    refine s_callSi X hR (m_inI np _ _ _ _ 0 15 rfl rfl) rfl u1087 u1085 u1086 u12 hyX11_in (by decide) (by decide) (Nat.le_of_ble_eq_true rfl) dX11_show_19 (fun v_19 m_19 h_19 => ?_)
    obtain ⟨e1, e2⟩ := h_19; have e1 := e1.symm; have e2 := e2.symm; subst e1; subst e2
    refine j_ifb_eq X 30 dX11_show_22 (by decide) (fun c_22 => ?_) (fun c_22 => ?_)
    · exfalso
      clear hE hr hR X
      have e1 : (-1 : Int32).toInt = -1 := by decide
      (try simp only [lg_cmp_lt, lg_cmp_gt, lg_cmp_le, lg_cmp_ge] at *); (try simp (disch := omega) only [Int64.le_iff_toInt_le, Int64.lt_iff_toInt_lt, Int32.le_iff_toInt_le, Int32.lt_iff_toInt_lt, fa_eq, fa_lit, fa_litL, nI_toInt, pk_lT, Int32.toInt_toInt64, jadd64, jin, jnoneT] at *); omega
    · refine j_iload_n X dX11_show_25 rfl ?_
      refine j_iconst X dX11_show_26 (-1) (by decide) ?_
      refine j_icmp_ge X 33 dX11_show_27 (by decide) (fun c_27 => ?_) (fun c_27 => absurd c_27 (by decide))
      refine j_aload_n X dX11_show_33 rfl ?_
      refine j_iload_n X dX11_show_34 rfl ?_
      refine j_iload_n X dX11_show_35 rfl ?_
      refine s_callVi X hR (m_showAll9 np _ _ (by omega)) rfl 11 (by decide) (o66 np) (k66 np) rfl u1198 u1195 u1197 qp46 u12 hyX11_showAll (by decide) (by decide) (Nat.le_of_ble_eq_true rfl) dX11_show_36 (fun v_36 m_36 h_36 => ?_)
      obtain ⟨e1, e2⟩ := h_36; have e1 := e1.symm; have e2 := e2.symm; subst e1; subst e2
      refine j_istore X dX11_show_39 (by decide) ?_
      refine j_iload_n X dX11_show_41 rfl ?_
      refine j_iconst X dX11_show_42 (-1) (by decide) ?_
      refine j_icmp_ne X 51 dX11_show_43 (by decide) (fun c_43 => ?_) (fun c_43 => absurd c_43 (by decide))
      refine j_iload_n X dX11_show_51 rfl ?_
      refine j_iload X dX11_show_52 rfl ?_
      refine j_icmp_ge X 66 dX11_show_54 (by decide) (fun c_54 => absurd c_54 (by decide)) (fun c_54 => ?_)
      refine j_aload_n X dX11_show_57 rfl ?_
      refine j_getR X 11 12 (by decide) (by decide) rfl u962 (o66 np) (k66 np) _ (p66_12 np) dX11_show_58 ?_
      refine j_iload_n X dX11_show_61 rfl ?_
      refine j_nrm _ (by first | (simp only [fa_lit, pk_mul, nI_add]; done) | (simp only [fa_lit, pk_mul, nI_add]; rfl) | rfl) ?_
      refine j_ialdN X (o76 np) (k76 np) (n := 1) (by rw [l76]; decide) (by rw [l76]; decide) _ rfl dX11_show_62 ?_
      refine j_goto X 68 dX11_show_63 (by decide) ?_
      refine s_iret X hE hr dX11_show_68 rfl ?_
      exact ⟨rfl, by repeat (first | exact jeq.rf | refine jeq.up ?_ (by decide))⟩
set_option maxRecDepth 4000 in
set_option maxHeartbeats 1000000 in
theorem m_show9_2 (np : Nat) (mem : jMem) (p : Nat) (hn : np ≤ 12) (hp : mem 66 9 = nI np) (hp2 : p < np) : jPi yX11_show cX11_show 5 .int 4 [.ref 66, .int (nI p), .int 9, .int 2] np mem (fun v c => v = (jLeaf (nI p) 2 (mem 74 (9 * p + 7))) ∧ jeq [76] (jup mem 66 0 0) c) := by
  refine jPi.of (own := RX11) rfl rfl (Nat.le_of_ble_eq_true rfl) (fun G X hR hr hE => ?_)
  refine j_aload_n X dX11_show_0 rfl ?_
  refine j_iconst X dX11_show_1 0 (by decide) ?_
  refine j_putI X 11 0 (by decide) (by decide) rfl rfl rfl rfl u950 (o66 np) (k66 np) dX11_show_2 ?_
  refine j_aload_n X dX11_show_5 rfl ?_
  refine j_iload_n X dX11_show_6 rfl ?_
  refine s_callVi X hR (m_isPaper np _ _ hn hp) rfl 11 (by decide) (o66 np) (k66 np) rfl u1151 u1148 u1150 qp39 u12 hyX11_isPaper (by decide) (by decide) (Nat.le_of_ble_eq_true rfl) dX11_show_7 (fun v_7 m_7 h_7 => ?_)
  obtain ⟨e1, e2⟩ := h_7; have e1 := e1.symm; have e2 := e2.symm; subst e1; subst e2
  refine j_ifb_eq X 30 dX11_show_10 (by decide) (fun c_10 => ?_) (fun c_10 => ?_)
  · exfalso
    clear hE hr hR X
    have e1 : (-1 : Int32).toInt = -1 := by decide
    (try simp only [lg_cmp_lt, lg_cmp_gt, lg_cmp_le, lg_cmp_ge] at *); (try simp (disch := omega) only [Int64.le_iff_toInt_le, Int64.lt_iff_toInt_lt, Int32.le_iff_toInt_le, Int32.lt_iff_toInt_lt, fa_eq, fa_lit, fa_litL, nI_toInt, pk_lT, Int32.toInt_toInt64, jadd64, jin, jnoneT] at *); omega
  · refine j_iload_n X dX11_show_13 rfl ?_
    refine j_i2l X dX11_show_14 ?_
    refine j_lconst X dX11_show_15 0 (by decide) ?_
    refine j_ldc2 X dX11_show_16 u1152 ?_
    refine s_callSi X hR (m_inI np _ _ _ _ 0 15 rfl rfl) rfl u1087 u1085 u1086 u12 hyX11_in (by decide) (by decide) (Nat.le_of_ble_eq_true rfl) dX11_show_19 (fun v_19 m_19 h_19 => ?_)
    obtain ⟨e1, e2⟩ := h_19; have e1 := e1.symm; have e2 := e2.symm; subst e1; subst e2
    refine j_ifb_eq X 30 dX11_show_22 (by decide) (fun c_22 => ?_) (fun c_22 => ?_)
    · exfalso
      clear hE hr hR X
      have e1 : (-1 : Int32).toInt = -1 := by decide
      (try simp only [lg_cmp_lt, lg_cmp_gt, lg_cmp_le, lg_cmp_ge] at *); (try simp (disch := omega) only [Int64.le_iff_toInt_le, Int64.lt_iff_toInt_lt, Int32.le_iff_toInt_le, Int32.lt_iff_toInt_lt, fa_eq, fa_lit, fa_litL, nI_toInt, pk_lT, Int32.toInt_toInt64, jadd64, jin, jnoneT] at *); omega
    · refine j_iload_n X dX11_show_25 rfl ?_
      refine j_iconst X dX11_show_26 (-1) (by decide) ?_
      refine j_icmp_ge X 33 dX11_show_27 (by decide) (fun c_27 => ?_) (fun c_27 => absurd c_27 (by decide))
      refine j_aload_n X dX11_show_33 rfl ?_
      refine j_iload_n X dX11_show_34 rfl ?_
      refine j_iload_n X dX11_show_35 rfl ?_
      refine s_callVi X hR (m_showAll9 np _ _ (by omega)) rfl 11 (by decide) (o66 np) (k66 np) rfl u1198 u1195 u1197 qp46 u12 hyX11_showAll (by decide) (by decide) (Nat.le_of_ble_eq_true rfl) dX11_show_36 (fun v_36 m_36 h_36 => ?_)
      obtain ⟨e1, e2⟩ := h_36; have e1 := e1.symm; have e2 := e2.symm; subst e1; subst e2
      refine j_istore X dX11_show_39 (by decide) ?_
      refine j_iload_n X dX11_show_41 rfl ?_
      refine j_iconst X dX11_show_42 (-1) (by decide) ?_
      refine j_icmp_ne X 51 dX11_show_43 (by decide) (fun c_43 => ?_) (fun c_43 => absurd c_43 (by decide))
      refine j_iload_n X dX11_show_51 rfl ?_
      refine j_iload X dX11_show_52 rfl ?_
      refine j_icmp_ge X 66 dX11_show_54 (by decide) (fun c_54 => absurd c_54 (by decide)) (fun c_54 => ?_)
      refine j_aload_n X dX11_show_57 rfl ?_
      refine j_getR X 11 12 (by decide) (by decide) rfl u962 (o66 np) (k66 np) _ (p66_12 np) dX11_show_58 ?_
      refine j_iload_n X dX11_show_61 rfl ?_
      refine j_nrm _ (by first | (simp only [fa_lit, pk_mul, nI_add]; done) | (simp only [fa_lit, pk_mul, nI_add]; rfl) | rfl) ?_
      refine j_ialdN X (o76 np) (k76 np) (n := 2) (by rw [l76]; decide) (by rw [l76]; decide) _ rfl dX11_show_62 ?_
      refine j_goto X 68 dX11_show_63 (by decide) ?_
      refine s_iret X hE hr dX11_show_68 rfl ?_
      exact ⟨rfl, by repeat (first | exact jeq.rf | refine jeq.up ?_ (by decide))⟩
set_option maxRecDepth 4000 in
set_option maxHeartbeats 1000000 in
theorem m_show9_3 (np : Nat) (mem : jMem) (p : Nat) (hn : np ≤ 12) (hp : mem 66 9 = nI np) (hp2 : p < np) : jPi yX11_show cX11_show 5 .int 4 [.ref 66, .int (nI p), .int 9, .int 3] np mem (fun v c => v = (mem 74 (9 * p + 8)) ∧ jeq [76] (jup mem 66 0 0) c) := by
  refine jPi.of (own := RX11) rfl rfl (Nat.le_of_ble_eq_true rfl) (fun G X hR hr hE => ?_)
  refine j_aload_n X dX11_show_0 rfl ?_
  refine j_iconst X dX11_show_1 0 (by decide) ?_
  refine j_putI X 11 0 (by decide) (by decide) rfl rfl rfl rfl u950 (o66 np) (k66 np) dX11_show_2 ?_
  refine j_aload_n X dX11_show_5 rfl ?_
  refine j_iload_n X dX11_show_6 rfl ?_
  refine s_callVi X hR (m_isPaper np _ _ hn hp) rfl 11 (by decide) (o66 np) (k66 np) rfl u1151 u1148 u1150 qp39 u12 hyX11_isPaper (by decide) (by decide) (Nat.le_of_ble_eq_true rfl) dX11_show_7 (fun v_7 m_7 h_7 => ?_)
  obtain ⟨e1, e2⟩ := h_7; have e1 := e1.symm; have e2 := e2.symm; subst e1; subst e2
  refine j_ifb_eq X 30 dX11_show_10 (by decide) (fun c_10 => ?_) (fun c_10 => ?_)
  · exfalso
    clear hE hr hR X
    have e1 : (-1 : Int32).toInt = -1 := by decide
    (try simp only [lg_cmp_lt, lg_cmp_gt, lg_cmp_le, lg_cmp_ge] at *); (try simp (disch := omega) only [Int64.le_iff_toInt_le, Int64.lt_iff_toInt_lt, Int32.le_iff_toInt_le, Int32.lt_iff_toInt_lt, fa_eq, fa_lit, fa_litL, nI_toInt, pk_lT, Int32.toInt_toInt64, jadd64, jin, jnoneT] at *); omega
  · refine j_iload_n X dX11_show_13 rfl ?_
    refine j_i2l X dX11_show_14 ?_
    refine j_lconst X dX11_show_15 0 (by decide) ?_
    refine j_ldc2 X dX11_show_16 u1152 ?_
    refine s_callSi X hR (m_inI np _ _ _ _ 0 15 rfl rfl) rfl u1087 u1085 u1086 u12 hyX11_in (by decide) (by decide) (Nat.le_of_ble_eq_true rfl) dX11_show_19 (fun v_19 m_19 h_19 => ?_)
    obtain ⟨e1, e2⟩ := h_19; have e1 := e1.symm; have e2 := e2.symm; subst e1; subst e2
    refine j_ifb_eq X 30 dX11_show_22 (by decide) (fun c_22 => ?_) (fun c_22 => ?_)
    · exfalso
      clear hE hr hR X
      have e1 : (-1 : Int32).toInt = -1 := by decide
      (try simp only [lg_cmp_lt, lg_cmp_gt, lg_cmp_le, lg_cmp_ge] at *); (try simp (disch := omega) only [Int64.le_iff_toInt_le, Int64.lt_iff_toInt_lt, Int32.le_iff_toInt_le, Int32.lt_iff_toInt_lt, fa_eq, fa_lit, fa_litL, nI_toInt, pk_lT, Int32.toInt_toInt64, jadd64, jin, jnoneT] at *); omega
    · refine j_iload_n X dX11_show_25 rfl ?_
      refine j_iconst X dX11_show_26 (-1) (by decide) ?_
      refine j_icmp_ge X 33 dX11_show_27 (by decide) (fun c_27 => ?_) (fun c_27 => absurd c_27 (by decide))
      refine j_aload_n X dX11_show_33 rfl ?_
      refine j_iload_n X dX11_show_34 rfl ?_
      refine j_iload_n X dX11_show_35 rfl ?_
      refine s_callVi X hR (m_showAll9 np _ _ (by omega)) rfl 11 (by decide) (o66 np) (k66 np) rfl u1198 u1195 u1197 qp46 u12 hyX11_showAll (by decide) (by decide) (Nat.le_of_ble_eq_true rfl) dX11_show_36 (fun v_36 m_36 h_36 => ?_)
      obtain ⟨e1, e2⟩ := h_36; have e1 := e1.symm; have e2 := e2.symm; subst e1; subst e2
      refine j_istore X dX11_show_39 (by decide) ?_
      refine j_iload_n X dX11_show_41 rfl ?_
      refine j_iconst X dX11_show_42 (-1) (by decide) ?_
      refine j_icmp_ne X 51 dX11_show_43 (by decide) (fun c_43 => ?_) (fun c_43 => absurd c_43 (by decide))
      refine j_iload_n X dX11_show_51 rfl ?_
      refine j_iload X dX11_show_52 rfl ?_
      refine j_icmp_ge X 66 dX11_show_54 (by decide) (fun c_54 => absurd c_54 (by decide)) (fun c_54 => ?_)
      refine j_aload_n X dX11_show_57 rfl ?_
      refine j_getR X 11 12 (by decide) (by decide) rfl u962 (o66 np) (k66 np) _ (p66_12 np) dX11_show_58 ?_
      refine j_iload_n X dX11_show_61 rfl ?_
      refine j_nrm _ (by first | (simp only [fa_lit, pk_mul, nI_add]; done) | (simp only [fa_lit, pk_mul, nI_add]; rfl) | rfl) ?_
      refine j_ialdN X (o76 np) (k76 np) (n := 3) (by rw [l76]; decide) (by rw [l76]; decide) _ rfl dX11_show_62 ?_
      refine j_goto X 68 dX11_show_63 (by decide) ?_
      refine s_iret X hE hr dX11_show_68 rfl ?_
      exact ⟨rfl, by repeat (first | exact jeq.rf | refine jeq.up ?_ (by decide))⟩
set_option maxRecDepth 4000 in
set_option maxHeartbeats 1000000 in
theorem m_show10_n (np : Nat) (mem : jMem) (p : Nat) (hn : np ≤ 12) (hp : mem 66 9 = nI np) (hp2 : p < np) : jPi yX11_show cX11_show 5 .int 4 [.ref 66, .int (nI p), .int 10, .int (-1)] np mem (fun v c => v = 4 ∧ jeq [76] (jup mem 66 0 0) c) := by
  refine jPi.of (own := RX11) rfl rfl (Nat.le_of_ble_eq_true rfl) (fun G X hR hr hE => ?_)
  refine j_aload_n X dX11_show_0 rfl ?_
  refine j_iconst X dX11_show_1 0 (by decide) ?_
  refine j_putI X 11 0 (by decide) (by decide) rfl rfl rfl rfl u950 (o66 np) (k66 np) dX11_show_2 ?_
  refine j_aload_n X dX11_show_5 rfl ?_
  refine j_iload_n X dX11_show_6 rfl ?_
  refine s_callVi X hR (m_isPaper np _ _ hn hp) rfl 11 (by decide) (o66 np) (k66 np) rfl u1151 u1148 u1150 qp39 u12 hyX11_isPaper (by decide) (by decide) (Nat.le_of_ble_eq_true rfl) dX11_show_7 (fun v_7 m_7 h_7 => ?_)
  obtain ⟨e1, e2⟩ := h_7; have e1 := e1.symm; have e2 := e2.symm; subst e1; subst e2
  refine j_ifb_eq X 30 dX11_show_10 (by decide) (fun c_10 => ?_) (fun c_10 => ?_)
  · exfalso
    clear hE hr hR X
    have e1 : (-1 : Int32).toInt = -1 := by decide
    (try simp only [lg_cmp_lt, lg_cmp_gt, lg_cmp_le, lg_cmp_ge] at *); (try simp (disch := omega) only [Int64.le_iff_toInt_le, Int64.lt_iff_toInt_lt, Int32.le_iff_toInt_le, Int32.lt_iff_toInt_lt, fa_eq, fa_lit, fa_litL, nI_toInt, pk_lT, Int32.toInt_toInt64, jadd64, jin, jnoneT] at *); omega
  · refine j_iload_n X dX11_show_13 rfl ?_
    refine j_i2l X dX11_show_14 ?_
    refine j_lconst X dX11_show_15 0 (by decide) ?_
    refine j_ldc2 X dX11_show_16 u1152 ?_
    refine s_callSi X hR (m_inI np _ _ _ _ 0 15 rfl rfl) rfl u1087 u1085 u1086 u12 hyX11_in (by decide) (by decide) (Nat.le_of_ble_eq_true rfl) dX11_show_19 (fun v_19 m_19 h_19 => ?_)
    obtain ⟨e1, e2⟩ := h_19; have e1 := e1.symm; have e2 := e2.symm; subst e1; subst e2
    refine j_ifb_eq X 30 dX11_show_22 (by decide) (fun c_22 => ?_) (fun c_22 => ?_)
    · exfalso
      clear hE hr hR X
      have e1 : (-1 : Int32).toInt = -1 := by decide
      (try simp only [lg_cmp_lt, lg_cmp_gt, lg_cmp_le, lg_cmp_ge] at *); (try simp (disch := omega) only [Int64.le_iff_toInt_le, Int64.lt_iff_toInt_lt, Int32.le_iff_toInt_le, Int32.lt_iff_toInt_lt, fa_eq, fa_lit, fa_litL, nI_toInt, pk_lT, Int32.toInt_toInt64, jadd64, jin, jnoneT] at *); omega
    · refine j_iload_n X dX11_show_25 rfl ?_
      refine j_iconst X dX11_show_26 (-1) (by decide) ?_
      refine j_icmp_ge X 33 dX11_show_27 (by decide) (fun c_27 => ?_) (fun c_27 => absurd c_27 (by decide))
      refine j_aload_n X dX11_show_33 rfl ?_
      refine j_iload_n X dX11_show_34 rfl ?_
      refine j_iload_n X dX11_show_35 rfl ?_
      refine s_callVi X hR (m_showAll10 np _ _ (by omega)) rfl 11 (by decide) (o66 np) (k66 np) rfl u1198 u1195 u1197 qp46 u12 hyX11_showAll (by decide) (by decide) (Nat.le_of_ble_eq_true rfl) dX11_show_36 (fun v_36 m_36 h_36 => ?_)
      obtain ⟨e1, e2⟩ := h_36; have e1 := e1.symm; have e2 := e2.symm; subst e1; subst e2
      refine j_istore X dX11_show_39 (by decide) ?_
      refine j_iload_n X dX11_show_41 rfl ?_
      refine j_iconst X dX11_show_42 (-1) (by decide) ?_
      refine j_icmp_ne X 51 dX11_show_43 (by decide) (fun c_43 => absurd c_43 (by decide)) (fun c_43 => ?_)
      refine j_iload X dX11_show_46 rfl ?_
      refine j_goto X 68 dX11_show_48 (by decide) ?_
      refine s_iret X hE hr dX11_show_68 rfl ?_
      exact ⟨rfl, by repeat (first | exact jeq.rf | refine jeq.up ?_ (by decide))⟩
set_option maxRecDepth 4000 in
set_option maxHeartbeats 1000000 in
theorem m_show10_none (np : Nat) (mem : jMem) (p : Nat) (i : Int32) (hn : np ≤ 12) (hp : mem 66 9 = nI np) (hp2 : p < np) (hi : 4 ≤ i.toInt) : jPi yX11_show cX11_show 5 .int 4 [.ref 66, .int (nI p), .int 10, .int i] np mem (fun v c => v = -1000000 ∧ jeq [76] (jup mem 66 0 0) c) := by
  refine jPi.of (own := RX11) rfl rfl (Nat.le_of_ble_eq_true rfl) (fun G X hR hr hE => ?_)
  refine j_aload_n X dX11_show_0 rfl ?_
  refine j_iconst X dX11_show_1 0 (by decide) ?_
  refine j_putI X 11 0 (by decide) (by decide) rfl rfl rfl rfl u950 (o66 np) (k66 np) dX11_show_2 ?_
  refine j_aload_n X dX11_show_5 rfl ?_
  refine j_iload_n X dX11_show_6 rfl ?_
  refine s_callVi X hR (m_isPaper np _ _ hn hp) rfl 11 (by decide) (o66 np) (k66 np) rfl u1151 u1148 u1150 qp39 u12 hyX11_isPaper (by decide) (by decide) (Nat.le_of_ble_eq_true rfl) dX11_show_7 (fun v_7 m_7 h_7 => ?_)
  obtain ⟨e1, e2⟩ := h_7; have e1 := e1.symm; have e2 := e2.symm; subst e1; subst e2
  refine j_ifb_eq X 30 dX11_show_10 (by decide) (fun c_10 => ?_) (fun c_10 => ?_)
  · exfalso
    clear hE hr hR X
    have e1 : (-1 : Int32).toInt = -1 := by decide
    (try simp only [lg_cmp_lt, lg_cmp_gt, lg_cmp_le, lg_cmp_ge] at *); (try simp (disch := omega) only [Int64.le_iff_toInt_le, Int64.lt_iff_toInt_lt, Int32.le_iff_toInt_le, Int32.lt_iff_toInt_lt, fa_eq, fa_lit, fa_litL, nI_toInt, pk_lT, Int32.toInt_toInt64, jadd64, jin, jnoneT] at *); omega
  · refine j_iload_n X dX11_show_13 rfl ?_
    refine j_i2l X dX11_show_14 ?_
    refine j_lconst X dX11_show_15 0 (by decide) ?_
    refine j_ldc2 X dX11_show_16 u1152 ?_
    refine s_callSi X hR (m_inI np _ _ _ _ 0 15 rfl rfl) rfl u1087 u1085 u1086 u12 hyX11_in (by decide) (by decide) (Nat.le_of_ble_eq_true rfl) dX11_show_19 (fun v_19 m_19 h_19 => ?_)
    obtain ⟨e1, e2⟩ := h_19; have e1 := e1.symm; have e2 := e2.symm; subst e1; subst e2
    refine j_ifb_eq X 30 dX11_show_22 (by decide) (fun c_22 => ?_) (fun c_22 => ?_)
    · exfalso
      clear hE hr hR X
      have e1 : (-1 : Int32).toInt = -1 := by decide
      (try simp only [lg_cmp_lt, lg_cmp_gt, lg_cmp_le, lg_cmp_ge] at *); (try simp (disch := omega) only [Int64.le_iff_toInt_le, Int64.lt_iff_toInt_lt, Int32.le_iff_toInt_le, Int32.lt_iff_toInt_lt, fa_eq, fa_lit, fa_litL, nI_toInt, pk_lT, Int32.toInt_toInt64, jadd64, jin, jnoneT] at *); omega
    · refine j_iload_n X dX11_show_25 rfl ?_
      refine j_iconst X dX11_show_26 (-1) (by decide) ?_
      refine j_icmp_ge X 33 dX11_show_27 (by decide) (fun c_27 => ?_) (fun c_27 => ?_)
      · refine j_aload_n X dX11_show_33 rfl ?_
        refine j_iload_n X dX11_show_34 rfl ?_
        refine j_iload_n X dX11_show_35 rfl ?_
        refine s_callVi X hR (m_showAll10 np _ _ (by omega)) rfl 11 (by decide) (o66 np) (k66 np) rfl u1198 u1195 u1197 qp46 u12 hyX11_showAll (by decide) (by decide) (Nat.le_of_ble_eq_true rfl) dX11_show_36 (fun v_36 m_36 h_36 => ?_)
        obtain ⟨e1, e2⟩ := h_36; have e1 := e1.symm; have e2 := e2.symm; subst e1; subst e2
        refine j_istore X dX11_show_39 (by decide) ?_
        refine j_iload_n X dX11_show_41 rfl ?_
        refine j_iconst X dX11_show_42 (-1) (by decide) ?_
        refine j_icmp_ne X 51 dX11_show_43 (by decide) (fun c_43 => ?_) (fun c_43 => ?_)
        · refine j_iload_n X dX11_show_51 rfl ?_
          refine j_iload X dX11_show_52 rfl ?_
          refine j_icmp_ge X 66 dX11_show_54 (by decide) (fun c_54 => ?_) (fun c_54 => ?_)
          · refine j_ldc X dX11_show_66 u949 ?_
            refine s_iret X hE hr dX11_show_68 rfl ?_
            exact ⟨rfl, by repeat (first | exact jeq.rf | refine jeq.up ?_ (by decide))⟩
          · exfalso
            clear hE hr hR X
            have e1 : (-1 : Int32).toInt = -1 := by decide
            (try simp only [lg_cmp_lt, lg_cmp_gt, lg_cmp_le, lg_cmp_ge] at *); (try simp (disch := omega) only [Int64.le_iff_toInt_le, Int64.lt_iff_toInt_lt, Int32.le_iff_toInt_le, Int32.lt_iff_toInt_lt, fa_eq, fa_lit, fa_litL, nI_toInt, pk_lT, Int32.toInt_toInt64, jadd64, jin, jnoneT] at *); omega
        · exfalso
          clear hE hr hR X
          have e1 : (-1 : Int32).toInt = -1 := by decide
          (try simp only [lg_cmp_lt, lg_cmp_gt, lg_cmp_le, lg_cmp_ge] at *); (try simp (disch := omega) only [Int64.le_iff_toInt_le, Int64.lt_iff_toInt_lt, Int32.le_iff_toInt_le, Int32.lt_iff_toInt_lt, fa_eq, fa_lit, fa_litL, nI_toInt, pk_lT, Int32.toInt_toInt64, jadd64, jin, jnoneT] at *); omega
      · exfalso
        clear hE hr hR X
        have e1 : (-1 : Int32).toInt = -1 := by decide
        (try simp only [lg_cmp_lt, lg_cmp_gt, lg_cmp_le, lg_cmp_ge] at *); (try simp (disch := omega) only [Int64.le_iff_toInt_le, Int64.lt_iff_toInt_lt, Int32.le_iff_toInt_le, Int32.lt_iff_toInt_lt, fa_eq, fa_lit, fa_litL, nI_toInt, pk_lT, Int32.toInt_toInt64, jadd64, jin, jnoneT] at *); omega
set_option maxRecDepth 4000 in
set_option maxHeartbeats 1000000 in
theorem m_show10_0 (np : Nat) (mem : jMem) (p : Nat) (hn : np ≤ 12) (hp : mem 66 9 = nI np) (hp2 : p < np) : jPi yX11_show cX11_show 5 .int 4 [.ref 66, .int (nI p), .int 10, .int 0] np mem (fun v c => v = (jLeaf (nI p) 0 (mem 74 (9 * p + 5))) ∧ jeq [76] (jup mem 66 0 0) c) := by
  refine jPi.of (own := RX11) rfl rfl (Nat.le_of_ble_eq_true rfl) (fun G X hR hr hE => ?_)
  refine j_aload_n X dX11_show_0 rfl ?_
  refine j_iconst X dX11_show_1 0 (by decide) ?_
  refine j_putI X 11 0 (by decide) (by decide) rfl rfl rfl rfl u950 (o66 np) (k66 np) dX11_show_2 ?_
  refine j_aload_n X dX11_show_5 rfl ?_
  refine j_iload_n X dX11_show_6 rfl ?_
  refine s_callVi X hR (m_isPaper np _ _ hn hp) rfl 11 (by decide) (o66 np) (k66 np) rfl u1151 u1148 u1150 qp39 u12 hyX11_isPaper (by decide) (by decide) (Nat.le_of_ble_eq_true rfl) dX11_show_7 (fun v_7 m_7 h_7 => ?_)
  obtain ⟨e1, e2⟩ := h_7; have e1 := e1.symm; have e2 := e2.symm; subst e1; subst e2
  refine j_ifb_eq X 30 dX11_show_10 (by decide) (fun c_10 => ?_) (fun c_10 => ?_)
  · exfalso
    clear hE hr hR X
    have e1 : (-1 : Int32).toInt = -1 := by decide
    (try simp only [lg_cmp_lt, lg_cmp_gt, lg_cmp_le, lg_cmp_ge] at *); (try simp (disch := omega) only [Int64.le_iff_toInt_le, Int64.lt_iff_toInt_lt, Int32.le_iff_toInt_le, Int32.lt_iff_toInt_lt, fa_eq, fa_lit, fa_litL, nI_toInt, pk_lT, Int32.toInt_toInt64, jadd64, jin, jnoneT] at *); omega
  · refine j_iload_n X dX11_show_13 rfl ?_
    refine j_i2l X dX11_show_14 ?_
    refine j_lconst X dX11_show_15 0 (by decide) ?_
    refine j_ldc2 X dX11_show_16 u1152 ?_
    refine s_callSi X hR (m_inI np _ _ _ _ 0 15 rfl rfl) rfl u1087 u1085 u1086 u12 hyX11_in (by decide) (by decide) (Nat.le_of_ble_eq_true rfl) dX11_show_19 (fun v_19 m_19 h_19 => ?_)
    obtain ⟨e1, e2⟩ := h_19; have e1 := e1.symm; have e2 := e2.symm; subst e1; subst e2
    refine j_ifb_eq X 30 dX11_show_22 (by decide) (fun c_22 => ?_) (fun c_22 => ?_)
    · exfalso
      clear hE hr hR X
      have e1 : (-1 : Int32).toInt = -1 := by decide
      (try simp only [lg_cmp_lt, lg_cmp_gt, lg_cmp_le, lg_cmp_ge] at *); (try simp (disch := omega) only [Int64.le_iff_toInt_le, Int64.lt_iff_toInt_lt, Int32.le_iff_toInt_le, Int32.lt_iff_toInt_lt, fa_eq, fa_lit, fa_litL, nI_toInt, pk_lT, Int32.toInt_toInt64, jadd64, jin, jnoneT] at *); omega
    · refine j_iload_n X dX11_show_25 rfl ?_
      refine j_iconst X dX11_show_26 (-1) (by decide) ?_
      refine j_icmp_ge X 33 dX11_show_27 (by decide) (fun c_27 => ?_) (fun c_27 => absurd c_27 (by decide))
      refine j_aload_n X dX11_show_33 rfl ?_
      refine j_iload_n X dX11_show_34 rfl ?_
      refine j_iload_n X dX11_show_35 rfl ?_
      refine s_callVi X hR (m_showAll10 np _ _ (by omega)) rfl 11 (by decide) (o66 np) (k66 np) rfl u1198 u1195 u1197 qp46 u12 hyX11_showAll (by decide) (by decide) (Nat.le_of_ble_eq_true rfl) dX11_show_36 (fun v_36 m_36 h_36 => ?_)
      obtain ⟨e1, e2⟩ := h_36; have e1 := e1.symm; have e2 := e2.symm; subst e1; subst e2
      refine j_istore X dX11_show_39 (by decide) ?_
      refine j_iload_n X dX11_show_41 rfl ?_
      refine j_iconst X dX11_show_42 (-1) (by decide) ?_
      refine j_icmp_ne X 51 dX11_show_43 (by decide) (fun c_43 => ?_) (fun c_43 => absurd c_43 (by decide))
      refine j_iload_n X dX11_show_51 rfl ?_
      refine j_iload X dX11_show_52 rfl ?_
      refine j_icmp_ge X 66 dX11_show_54 (by decide) (fun c_54 => absurd c_54 (by decide)) (fun c_54 => ?_)
      refine j_aload_n X dX11_show_57 rfl ?_
      refine j_getR X 11 12 (by decide) (by decide) rfl u962 (o66 np) (k66 np) _ (p66_12 np) dX11_show_58 ?_
      refine j_iload_n X dX11_show_61 rfl ?_
      refine j_nrm _ (by first | (simp only [fa_lit, pk_mul, nI_add]; done) | (simp only [fa_lit, pk_mul, nI_add]; rfl) | rfl) ?_
      refine j_ialdN X (o76 np) (k76 np) (n := 0) (by rw [l76]; decide) (by rw [l76]; decide) _ rfl dX11_show_62 ?_
      refine j_goto X 68 dX11_show_63 (by decide) ?_
      refine s_iret X hE hr dX11_show_68 rfl ?_
      exact ⟨rfl, by repeat (first | exact jeq.rf | refine jeq.up ?_ (by decide))⟩
set_option maxRecDepth 4000 in
set_option maxHeartbeats 1000000 in
theorem m_show10_1 (np : Nat) (mem : jMem) (p : Nat) (hn : np ≤ 12) (hp : mem 66 9 = nI np) (hp2 : p < np) : jPi yX11_show cX11_show 5 .int 4 [.ref 66, .int (nI p), .int 10, .int 1] np mem (fun v c => v = (mem 74 (9 * p + 6)) ∧ jeq [76] (jup mem 66 0 0) c) := by
  refine jPi.of (own := RX11) rfl rfl (Nat.le_of_ble_eq_true rfl) (fun G X hR hr hE => ?_)
  refine j_aload_n X dX11_show_0 rfl ?_
  refine j_iconst X dX11_show_1 0 (by decide) ?_
  refine j_putI X 11 0 (by decide) (by decide) rfl rfl rfl rfl u950 (o66 np) (k66 np) dX11_show_2 ?_
  refine j_aload_n X dX11_show_5 rfl ?_
  refine j_iload_n X dX11_show_6 rfl ?_
  refine s_callVi X hR (m_isPaper np _ _ hn hp) rfl 11 (by decide) (o66 np) (k66 np) rfl u1151 u1148 u1150 qp39 u12 hyX11_isPaper (by decide) (by decide) (Nat.le_of_ble_eq_true rfl) dX11_show_7 (fun v_7 m_7 h_7 => ?_)
  obtain ⟨e1, e2⟩ := h_7; have e1 := e1.symm; have e2 := e2.symm; subst e1; subst e2
  refine j_ifb_eq X 30 dX11_show_10 (by decide) (fun c_10 => ?_) (fun c_10 => ?_)
  · exfalso
    clear hE hr hR X
    have e1 : (-1 : Int32).toInt = -1 := by decide
    (try simp only [lg_cmp_lt, lg_cmp_gt, lg_cmp_le, lg_cmp_ge] at *); (try simp (disch := omega) only [Int64.le_iff_toInt_le, Int64.lt_iff_toInt_lt, Int32.le_iff_toInt_le, Int32.lt_iff_toInt_lt, fa_eq, fa_lit, fa_litL, nI_toInt, pk_lT, Int32.toInt_toInt64, jadd64, jin, jnoneT] at *); omega
  · refine j_iload_n X dX11_show_13 rfl ?_
    refine j_i2l X dX11_show_14 ?_
    refine j_lconst X dX11_show_15 0 (by decide) ?_
    refine j_ldc2 X dX11_show_16 u1152 ?_
    refine s_callSi X hR (m_inI np _ _ _ _ 0 15 rfl rfl) rfl u1087 u1085 u1086 u12 hyX11_in (by decide) (by decide) (Nat.le_of_ble_eq_true rfl) dX11_show_19 (fun v_19 m_19 h_19 => ?_)
    obtain ⟨e1, e2⟩ := h_19; have e1 := e1.symm; have e2 := e2.symm; subst e1; subst e2
    refine j_ifb_eq X 30 dX11_show_22 (by decide) (fun c_22 => ?_) (fun c_22 => ?_)
    · exfalso
      clear hE hr hR X
      have e1 : (-1 : Int32).toInt = -1 := by decide
      (try simp only [lg_cmp_lt, lg_cmp_gt, lg_cmp_le, lg_cmp_ge] at *); (try simp (disch := omega) only [Int64.le_iff_toInt_le, Int64.lt_iff_toInt_lt, Int32.le_iff_toInt_le, Int32.lt_iff_toInt_lt, fa_eq, fa_lit, fa_litL, nI_toInt, pk_lT, Int32.toInt_toInt64, jadd64, jin, jnoneT] at *); omega
    · refine j_iload_n X dX11_show_25 rfl ?_
      refine j_iconst X dX11_show_26 (-1) (by decide) ?_
      refine j_icmp_ge X 33 dX11_show_27 (by decide) (fun c_27 => ?_) (fun c_27 => absurd c_27 (by decide))
      refine j_aload_n X dX11_show_33 rfl ?_
      refine j_iload_n X dX11_show_34 rfl ?_
      refine j_iload_n X dX11_show_35 rfl ?_
      refine s_callVi X hR (m_showAll10 np _ _ (by omega)) rfl 11 (by decide) (o66 np) (k66 np) rfl u1198 u1195 u1197 qp46 u12 hyX11_showAll (by decide) (by decide) (Nat.le_of_ble_eq_true rfl) dX11_show_36 (fun v_36 m_36 h_36 => ?_)
      obtain ⟨e1, e2⟩ := h_36; have e1 := e1.symm; have e2 := e2.symm; subst e1; subst e2
      refine j_istore X dX11_show_39 (by decide) ?_
      refine j_iload_n X dX11_show_41 rfl ?_
      refine j_iconst X dX11_show_42 (-1) (by decide) ?_
      refine j_icmp_ne X 51 dX11_show_43 (by decide) (fun c_43 => ?_) (fun c_43 => absurd c_43 (by decide))
      refine j_iload_n X dX11_show_51 rfl ?_
      refine j_iload X dX11_show_52 rfl ?_
      refine j_icmp_ge X 66 dX11_show_54 (by decide) (fun c_54 => absurd c_54 (by decide)) (fun c_54 => ?_)
      refine j_aload_n X dX11_show_57 rfl ?_
      refine j_getR X 11 12 (by decide) (by decide) rfl u962 (o66 np) (k66 np) _ (p66_12 np) dX11_show_58 ?_
      refine j_iload_n X dX11_show_61 rfl ?_
      refine j_nrm _ (by first | (simp only [fa_lit, pk_mul, nI_add]; done) | (simp only [fa_lit, pk_mul, nI_add]; rfl) | rfl) ?_
      refine j_ialdN X (o76 np) (k76 np) (n := 1) (by rw [l76]; decide) (by rw [l76]; decide) _ rfl dX11_show_62 ?_
      refine j_goto X 68 dX11_show_63 (by decide) ?_
      refine s_iret X hE hr dX11_show_68 rfl ?_
      exact ⟨rfl, by repeat (first | exact jeq.rf | refine jeq.up ?_ (by decide))⟩
set_option maxRecDepth 4000 in
set_option maxHeartbeats 1000000 in
theorem m_show10_2 (np : Nat) (mem : jMem) (p : Nat) (hn : np ≤ 12) (hp : mem 66 9 = nI np) (hp2 : p < np) : jPi yX11_show cX11_show 5 .int 4 [.ref 66, .int (nI p), .int 10, .int 2] np mem (fun v c => v = (jLeaf (nI p) 2 (mem 74 (9 * p + 7))) ∧ jeq [76] (jup mem 66 0 0) c) := by
  refine jPi.of (own := RX11) rfl rfl (Nat.le_of_ble_eq_true rfl) (fun G X hR hr hE => ?_)
  refine j_aload_n X dX11_show_0 rfl ?_
  refine j_iconst X dX11_show_1 0 (by decide) ?_
  refine j_putI X 11 0 (by decide) (by decide) rfl rfl rfl rfl u950 (o66 np) (k66 np) dX11_show_2 ?_
  refine j_aload_n X dX11_show_5 rfl ?_
  refine j_iload_n X dX11_show_6 rfl ?_
  refine s_callVi X hR (m_isPaper np _ _ hn hp) rfl 11 (by decide) (o66 np) (k66 np) rfl u1151 u1148 u1150 qp39 u12 hyX11_isPaper (by decide) (by decide) (Nat.le_of_ble_eq_true rfl) dX11_show_7 (fun v_7 m_7 h_7 => ?_)
  obtain ⟨e1, e2⟩ := h_7; have e1 := e1.symm; have e2 := e2.symm; subst e1; subst e2
  refine j_ifb_eq X 30 dX11_show_10 (by decide) (fun c_10 => ?_) (fun c_10 => ?_)
  · exfalso
    clear hE hr hR X
    have e1 : (-1 : Int32).toInt = -1 := by decide
    (try simp only [lg_cmp_lt, lg_cmp_gt, lg_cmp_le, lg_cmp_ge] at *); (try simp (disch := omega) only [Int64.le_iff_toInt_le, Int64.lt_iff_toInt_lt, Int32.le_iff_toInt_le, Int32.lt_iff_toInt_lt, fa_eq, fa_lit, fa_litL, nI_toInt, pk_lT, Int32.toInt_toInt64, jadd64, jin, jnoneT] at *); omega
  · refine j_iload_n X dX11_show_13 rfl ?_
    refine j_i2l X dX11_show_14 ?_
    refine j_lconst X dX11_show_15 0 (by decide) ?_
    refine j_ldc2 X dX11_show_16 u1152 ?_
    refine s_callSi X hR (m_inI np _ _ _ _ 0 15 rfl rfl) rfl u1087 u1085 u1086 u12 hyX11_in (by decide) (by decide) (Nat.le_of_ble_eq_true rfl) dX11_show_19 (fun v_19 m_19 h_19 => ?_)
    obtain ⟨e1, e2⟩ := h_19; have e1 := e1.symm; have e2 := e2.symm; subst e1; subst e2
    refine j_ifb_eq X 30 dX11_show_22 (by decide) (fun c_22 => ?_) (fun c_22 => ?_)
    · exfalso
      clear hE hr hR X
      have e1 : (-1 : Int32).toInt = -1 := by decide
      (try simp only [lg_cmp_lt, lg_cmp_gt, lg_cmp_le, lg_cmp_ge] at *); (try simp (disch := omega) only [Int64.le_iff_toInt_le, Int64.lt_iff_toInt_lt, Int32.le_iff_toInt_le, Int32.lt_iff_toInt_lt, fa_eq, fa_lit, fa_litL, nI_toInt, pk_lT, Int32.toInt_toInt64, jadd64, jin, jnoneT] at *); omega
    · refine j_iload_n X dX11_show_25 rfl ?_
      refine j_iconst X dX11_show_26 (-1) (by decide) ?_
      refine j_icmp_ge X 33 dX11_show_27 (by decide) (fun c_27 => ?_) (fun c_27 => absurd c_27 (by decide))
      refine j_aload_n X dX11_show_33 rfl ?_
      refine j_iload_n X dX11_show_34 rfl ?_
      refine j_iload_n X dX11_show_35 rfl ?_
      refine s_callVi X hR (m_showAll10 np _ _ (by omega)) rfl 11 (by decide) (o66 np) (k66 np) rfl u1198 u1195 u1197 qp46 u12 hyX11_showAll (by decide) (by decide) (Nat.le_of_ble_eq_true rfl) dX11_show_36 (fun v_36 m_36 h_36 => ?_)
      obtain ⟨e1, e2⟩ := h_36; have e1 := e1.symm; have e2 := e2.symm; subst e1; subst e2
      refine j_istore X dX11_show_39 (by decide) ?_
      refine j_iload_n X dX11_show_41 rfl ?_
      refine j_iconst X dX11_show_42 (-1) (by decide) ?_
      refine j_icmp_ne X 51 dX11_show_43 (by decide) (fun c_43 => ?_) (fun c_43 => absurd c_43 (by decide))
      refine j_iload_n X dX11_show_51 rfl ?_
      refine j_iload X dX11_show_52 rfl ?_
      refine j_icmp_ge X 66 dX11_show_54 (by decide) (fun c_54 => absurd c_54 (by decide)) (fun c_54 => ?_)
      refine j_aload_n X dX11_show_57 rfl ?_
      refine j_getR X 11 12 (by decide) (by decide) rfl u962 (o66 np) (k66 np) _ (p66_12 np) dX11_show_58 ?_
      refine j_iload_n X dX11_show_61 rfl ?_
      refine j_nrm _ (by first | (simp only [fa_lit, pk_mul, nI_add]; done) | (simp only [fa_lit, pk_mul, nI_add]; rfl) | rfl) ?_
      refine j_ialdN X (o76 np) (k76 np) (n := 2) (by rw [l76]; decide) (by rw [l76]; decide) _ rfl dX11_show_62 ?_
      refine j_goto X 68 dX11_show_63 (by decide) ?_
      refine s_iret X hE hr dX11_show_68 rfl ?_
      exact ⟨rfl, by repeat (first | exact jeq.rf | refine jeq.up ?_ (by decide))⟩
set_option maxRecDepth 4000 in
set_option maxHeartbeats 1000000 in
theorem m_show10_3 (np : Nat) (mem : jMem) (p : Nat) (hn : np ≤ 12) (hp : mem 66 9 = nI np) (hp2 : p < np) : jPi yX11_show cX11_show 5 .int 4 [.ref 66, .int (nI p), .int 10, .int 3] np mem (fun v c => v = (mem 74 (9 * p + 8)) ∧ jeq [76] (jup mem 66 0 0) c) := by
  refine jPi.of (own := RX11) rfl rfl (Nat.le_of_ble_eq_true rfl) (fun G X hR hr hE => ?_)
  refine j_aload_n X dX11_show_0 rfl ?_
  refine j_iconst X dX11_show_1 0 (by decide) ?_
  refine j_putI X 11 0 (by decide) (by decide) rfl rfl rfl rfl u950 (o66 np) (k66 np) dX11_show_2 ?_
  refine j_aload_n X dX11_show_5 rfl ?_
  refine j_iload_n X dX11_show_6 rfl ?_
  refine s_callVi X hR (m_isPaper np _ _ hn hp) rfl 11 (by decide) (o66 np) (k66 np) rfl u1151 u1148 u1150 qp39 u12 hyX11_isPaper (by decide) (by decide) (Nat.le_of_ble_eq_true rfl) dX11_show_7 (fun v_7 m_7 h_7 => ?_)
  obtain ⟨e1, e2⟩ := h_7; have e1 := e1.symm; have e2 := e2.symm; subst e1; subst e2
  refine j_ifb_eq X 30 dX11_show_10 (by decide) (fun c_10 => ?_) (fun c_10 => ?_)
  · exfalso
    clear hE hr hR X
    have e1 : (-1 : Int32).toInt = -1 := by decide
    (try simp only [lg_cmp_lt, lg_cmp_gt, lg_cmp_le, lg_cmp_ge] at *); (try simp (disch := omega) only [Int64.le_iff_toInt_le, Int64.lt_iff_toInt_lt, Int32.le_iff_toInt_le, Int32.lt_iff_toInt_lt, fa_eq, fa_lit, fa_litL, nI_toInt, pk_lT, Int32.toInt_toInt64, jadd64, jin, jnoneT] at *); omega
  · refine j_iload_n X dX11_show_13 rfl ?_
    refine j_i2l X dX11_show_14 ?_
    refine j_lconst X dX11_show_15 0 (by decide) ?_
    refine j_ldc2 X dX11_show_16 u1152 ?_
    refine s_callSi X hR (m_inI np _ _ _ _ 0 15 rfl rfl) rfl u1087 u1085 u1086 u12 hyX11_in (by decide) (by decide) (Nat.le_of_ble_eq_true rfl) dX11_show_19 (fun v_19 m_19 h_19 => ?_)
    obtain ⟨e1, e2⟩ := h_19; have e1 := e1.symm; have e2 := e2.symm; subst e1; subst e2
    refine j_ifb_eq X 30 dX11_show_22 (by decide) (fun c_22 => ?_) (fun c_22 => ?_)
    · exfalso
      clear hE hr hR X
      have e1 : (-1 : Int32).toInt = -1 := by decide
      (try simp only [lg_cmp_lt, lg_cmp_gt, lg_cmp_le, lg_cmp_ge] at *); (try simp (disch := omega) only [Int64.le_iff_toInt_le, Int64.lt_iff_toInt_lt, Int32.le_iff_toInt_le, Int32.lt_iff_toInt_lt, fa_eq, fa_lit, fa_litL, nI_toInt, pk_lT, Int32.toInt_toInt64, jadd64, jin, jnoneT] at *); omega
    · refine j_iload_n X dX11_show_25 rfl ?_
      refine j_iconst X dX11_show_26 (-1) (by decide) ?_
      refine j_icmp_ge X 33 dX11_show_27 (by decide) (fun c_27 => ?_) (fun c_27 => absurd c_27 (by decide))
      refine j_aload_n X dX11_show_33 rfl ?_
      refine j_iload_n X dX11_show_34 rfl ?_
      refine j_iload_n X dX11_show_35 rfl ?_
      refine s_callVi X hR (m_showAll10 np _ _ (by omega)) rfl 11 (by decide) (o66 np) (k66 np) rfl u1198 u1195 u1197 qp46 u12 hyX11_showAll (by decide) (by decide) (Nat.le_of_ble_eq_true rfl) dX11_show_36 (fun v_36 m_36 h_36 => ?_)
      obtain ⟨e1, e2⟩ := h_36; have e1 := e1.symm; have e2 := e2.symm; subst e1; subst e2
      refine j_istore X dX11_show_39 (by decide) ?_
      refine j_iload_n X dX11_show_41 rfl ?_
      refine j_iconst X dX11_show_42 (-1) (by decide) ?_
      refine j_icmp_ne X 51 dX11_show_43 (by decide) (fun c_43 => ?_) (fun c_43 => absurd c_43 (by decide))
      refine j_iload_n X dX11_show_51 rfl ?_
      refine j_iload X dX11_show_52 rfl ?_
      refine j_icmp_ge X 66 dX11_show_54 (by decide) (fun c_54 => absurd c_54 (by decide)) (fun c_54 => ?_)
      refine j_aload_n X dX11_show_57 rfl ?_
      refine j_getR X 11 12 (by decide) (by decide) rfl u962 (o66 np) (k66 np) _ (p66_12 np) dX11_show_58 ?_
      refine j_iload_n X dX11_show_61 rfl ?_
      refine j_nrm _ (by first | (simp only [fa_lit, pk_mul, nI_add]; done) | (simp only [fa_lit, pk_mul, nI_add]; rfl) | rfl) ?_
      refine j_ialdN X (o76 np) (k76 np) (n := 3) (by rw [l76]; decide) (by rw [l76]; decide) _ rfl dX11_show_62 ?_
      refine j_goto X 68 dX11_show_63 (by decide) ?_
      refine s_iret X hE hr dX11_show_68 rfl ?_
      exact ⟨rfl, by repeat (first | exact jeq.rf | refine jeq.up ?_ (by decide))⟩
set_option maxRecDepth 4000 in
set_option maxHeartbeats 1000000 in
theorem m_show11_n (np : Nat) (mem : jMem) (p : Nat) (hn : np ≤ 12) (hp : mem 66 9 = nI np) (hp2 : p < np) : jPi yX11_show cX11_show 5 .int 4 [.ref 66, .int (nI p), .int 11, .int (-1)] np mem (fun v c => v = 4 ∧ jeq [76] (jup mem 66 0 0) c) := by
  refine jPi.of (own := RX11) rfl rfl (Nat.le_of_ble_eq_true rfl) (fun G X hR hr hE => ?_)
  refine j_aload_n X dX11_show_0 rfl ?_
  refine j_iconst X dX11_show_1 0 (by decide) ?_
  refine j_putI X 11 0 (by decide) (by decide) rfl rfl rfl rfl u950 (o66 np) (k66 np) dX11_show_2 ?_
  refine j_aload_n X dX11_show_5 rfl ?_
  refine j_iload_n X dX11_show_6 rfl ?_
  refine s_callVi X hR (m_isPaper np _ _ hn hp) rfl 11 (by decide) (o66 np) (k66 np) rfl u1151 u1148 u1150 qp39 u12 hyX11_isPaper (by decide) (by decide) (Nat.le_of_ble_eq_true rfl) dX11_show_7 (fun v_7 m_7 h_7 => ?_)
  obtain ⟨e1, e2⟩ := h_7; have e1 := e1.symm; have e2 := e2.symm; subst e1; subst e2
  refine j_ifb_eq X 30 dX11_show_10 (by decide) (fun c_10 => ?_) (fun c_10 => ?_)
  · exfalso
    clear hE hr hR X
    have e1 : (-1 : Int32).toInt = -1 := by decide
    (try simp only [lg_cmp_lt, lg_cmp_gt, lg_cmp_le, lg_cmp_ge] at *); (try simp (disch := omega) only [Int64.le_iff_toInt_le, Int64.lt_iff_toInt_lt, Int32.le_iff_toInt_le, Int32.lt_iff_toInt_lt, fa_eq, fa_lit, fa_litL, nI_toInt, pk_lT, Int32.toInt_toInt64, jadd64, jin, jnoneT] at *); omega
  · refine j_iload_n X dX11_show_13 rfl ?_
    refine j_i2l X dX11_show_14 ?_
    refine j_lconst X dX11_show_15 0 (by decide) ?_
    refine j_ldc2 X dX11_show_16 u1152 ?_
    refine s_callSi X hR (m_inI np _ _ _ _ 0 15 rfl rfl) rfl u1087 u1085 u1086 u12 hyX11_in (by decide) (by decide) (Nat.le_of_ble_eq_true rfl) dX11_show_19 (fun v_19 m_19 h_19 => ?_)
    obtain ⟨e1, e2⟩ := h_19; have e1 := e1.symm; have e2 := e2.symm; subst e1; subst e2
    refine j_ifb_eq X 30 dX11_show_22 (by decide) (fun c_22 => ?_) (fun c_22 => ?_)
    · exfalso
      clear hE hr hR X
      have e1 : (-1 : Int32).toInt = -1 := by decide
      (try simp only [lg_cmp_lt, lg_cmp_gt, lg_cmp_le, lg_cmp_ge] at *); (try simp (disch := omega) only [Int64.le_iff_toInt_le, Int64.lt_iff_toInt_lt, Int32.le_iff_toInt_le, Int32.lt_iff_toInt_lt, fa_eq, fa_lit, fa_litL, nI_toInt, pk_lT, Int32.toInt_toInt64, jadd64, jin, jnoneT] at *); omega
    · refine j_iload_n X dX11_show_25 rfl ?_
      refine j_iconst X dX11_show_26 (-1) (by decide) ?_
      refine j_icmp_ge X 33 dX11_show_27 (by decide) (fun c_27 => ?_) (fun c_27 => absurd c_27 (by decide))
      refine j_aload_n X dX11_show_33 rfl ?_
      refine j_iload_n X dX11_show_34 rfl ?_
      refine j_iload_n X dX11_show_35 rfl ?_
      refine s_callVi X hR (m_showAll11 np _ _ (by omega)) rfl 11 (by decide) (o66 np) (k66 np) rfl u1198 u1195 u1197 qp46 u12 hyX11_showAll (by decide) (by decide) (Nat.le_of_ble_eq_true rfl) dX11_show_36 (fun v_36 m_36 h_36 => ?_)
      obtain ⟨e1, e2⟩ := h_36; have e1 := e1.symm; have e2 := e2.symm; subst e1; subst e2
      refine j_istore X dX11_show_39 (by decide) ?_
      refine j_iload_n X dX11_show_41 rfl ?_
      refine j_iconst X dX11_show_42 (-1) (by decide) ?_
      refine j_icmp_ne X 51 dX11_show_43 (by decide) (fun c_43 => absurd c_43 (by decide)) (fun c_43 => ?_)
      refine j_iload X dX11_show_46 rfl ?_
      refine j_goto X 68 dX11_show_48 (by decide) ?_
      refine s_iret X hE hr dX11_show_68 rfl ?_
      exact ⟨rfl, by repeat (first | exact jeq.rf | refine jeq.up ?_ (by decide))⟩
set_option maxRecDepth 4000 in
set_option maxHeartbeats 1000000 in
theorem m_show11_none (np : Nat) (mem : jMem) (p : Nat) (i : Int32) (hn : np ≤ 12) (hp : mem 66 9 = nI np) (hp2 : p < np) (hi : 4 ≤ i.toInt) : jPi yX11_show cX11_show 5 .int 4 [.ref 66, .int (nI p), .int 11, .int i] np mem (fun v c => v = -1000000 ∧ jeq [76] (jup mem 66 0 0) c) := by
  refine jPi.of (own := RX11) rfl rfl (Nat.le_of_ble_eq_true rfl) (fun G X hR hr hE => ?_)
  refine j_aload_n X dX11_show_0 rfl ?_
  refine j_iconst X dX11_show_1 0 (by decide) ?_
  refine j_putI X 11 0 (by decide) (by decide) rfl rfl rfl rfl u950 (o66 np) (k66 np) dX11_show_2 ?_
  refine j_aload_n X dX11_show_5 rfl ?_
  refine j_iload_n X dX11_show_6 rfl ?_
  refine s_callVi X hR (m_isPaper np _ _ hn hp) rfl 11 (by decide) (o66 np) (k66 np) rfl u1151 u1148 u1150 qp39 u12 hyX11_isPaper (by decide) (by decide) (Nat.le_of_ble_eq_true rfl) dX11_show_7 (fun v_7 m_7 h_7 => ?_)
  obtain ⟨e1, e2⟩ := h_7; have e1 := e1.symm; have e2 := e2.symm; subst e1; subst e2
  refine j_ifb_eq X 30 dX11_show_10 (by decide) (fun c_10 => ?_) (fun c_10 => ?_)
  · exfalso
    clear hE hr hR X
    have e1 : (-1 : Int32).toInt = -1 := by decide
    (try simp only [lg_cmp_lt, lg_cmp_gt, lg_cmp_le, lg_cmp_ge] at *); (try simp (disch := omega) only [Int64.le_iff_toInt_le, Int64.lt_iff_toInt_lt, Int32.le_iff_toInt_le, Int32.lt_iff_toInt_lt, fa_eq, fa_lit, fa_litL, nI_toInt, pk_lT, Int32.toInt_toInt64, jadd64, jin, jnoneT] at *); omega
  · refine j_iload_n X dX11_show_13 rfl ?_
    refine j_i2l X dX11_show_14 ?_
    refine j_lconst X dX11_show_15 0 (by decide) ?_
    refine j_ldc2 X dX11_show_16 u1152 ?_
    refine s_callSi X hR (m_inI np _ _ _ _ 0 15 rfl rfl) rfl u1087 u1085 u1086 u12 hyX11_in (by decide) (by decide) (Nat.le_of_ble_eq_true rfl) dX11_show_19 (fun v_19 m_19 h_19 => ?_)
    obtain ⟨e1, e2⟩ := h_19; have e1 := e1.symm; have e2 := e2.symm; subst e1; subst e2
    refine j_ifb_eq X 30 dX11_show_22 (by decide) (fun c_22 => ?_) (fun c_22 => ?_)
    · exfalso
      clear hE hr hR X
      have e1 : (-1 : Int32).toInt = -1 := by decide
      (try simp only [lg_cmp_lt, lg_cmp_gt, lg_cmp_le, lg_cmp_ge] at *); (try simp (disch := omega) only [Int64.le_iff_toInt_le, Int64.lt_iff_toInt_lt, Int32.le_iff_toInt_le, Int32.lt_iff_toInt_lt, fa_eq, fa_lit, fa_litL, nI_toInt, pk_lT, Int32.toInt_toInt64, jadd64, jin, jnoneT] at *); omega
    · refine j_iload_n X dX11_show_25 rfl ?_
      refine j_iconst X dX11_show_26 (-1) (by decide) ?_
      refine j_icmp_ge X 33 dX11_show_27 (by decide) (fun c_27 => ?_) (fun c_27 => ?_)
      · refine j_aload_n X dX11_show_33 rfl ?_
        refine j_iload_n X dX11_show_34 rfl ?_
        refine j_iload_n X dX11_show_35 rfl ?_
        refine s_callVi X hR (m_showAll11 np _ _ (by omega)) rfl 11 (by decide) (o66 np) (k66 np) rfl u1198 u1195 u1197 qp46 u12 hyX11_showAll (by decide) (by decide) (Nat.le_of_ble_eq_true rfl) dX11_show_36 (fun v_36 m_36 h_36 => ?_)
        obtain ⟨e1, e2⟩ := h_36; have e1 := e1.symm; have e2 := e2.symm; subst e1; subst e2
        refine j_istore X dX11_show_39 (by decide) ?_
        refine j_iload_n X dX11_show_41 rfl ?_
        refine j_iconst X dX11_show_42 (-1) (by decide) ?_
        refine j_icmp_ne X 51 dX11_show_43 (by decide) (fun c_43 => ?_) (fun c_43 => ?_)
        · refine j_iload_n X dX11_show_51 rfl ?_
          refine j_iload X dX11_show_52 rfl ?_
          refine j_icmp_ge X 66 dX11_show_54 (by decide) (fun c_54 => ?_) (fun c_54 => ?_)
          · refine j_ldc X dX11_show_66 u949 ?_
            refine s_iret X hE hr dX11_show_68 rfl ?_
            exact ⟨rfl, by repeat (first | exact jeq.rf | refine jeq.up ?_ (by decide))⟩
          · exfalso
            clear hE hr hR X
            have e1 : (-1 : Int32).toInt = -1 := by decide
            (try simp only [lg_cmp_lt, lg_cmp_gt, lg_cmp_le, lg_cmp_ge] at *); (try simp (disch := omega) only [Int64.le_iff_toInt_le, Int64.lt_iff_toInt_lt, Int32.le_iff_toInt_le, Int32.lt_iff_toInt_lt, fa_eq, fa_lit, fa_litL, nI_toInt, pk_lT, Int32.toInt_toInt64, jadd64, jin, jnoneT] at *); omega
        · exfalso
          clear hE hr hR X
          have e1 : (-1 : Int32).toInt = -1 := by decide
          (try simp only [lg_cmp_lt, lg_cmp_gt, lg_cmp_le, lg_cmp_ge] at *); (try simp (disch := omega) only [Int64.le_iff_toInt_le, Int64.lt_iff_toInt_lt, Int32.le_iff_toInt_le, Int32.lt_iff_toInt_lt, fa_eq, fa_lit, fa_litL, nI_toInt, pk_lT, Int32.toInt_toInt64, jadd64, jin, jnoneT] at *); omega
      · exfalso
        clear hE hr hR X
        have e1 : (-1 : Int32).toInt = -1 := by decide
        (try simp only [lg_cmp_lt, lg_cmp_gt, lg_cmp_le, lg_cmp_ge] at *); (try simp (disch := omega) only [Int64.le_iff_toInt_le, Int64.lt_iff_toInt_lt, Int32.le_iff_toInt_le, Int32.lt_iff_toInt_lt, fa_eq, fa_lit, fa_litL, nI_toInt, pk_lT, Int32.toInt_toInt64, jadd64, jin, jnoneT] at *); omega
set_option maxRecDepth 4000 in
set_option maxHeartbeats 1000000 in
theorem m_show11_0 (np : Nat) (mem : jMem) (p : Nat) (hn : np ≤ 12) (hp : mem 66 9 = nI np) (hp2 : p < np) : jPi yX11_show cX11_show 5 .int 4 [.ref 66, .int (nI p), .int 11, .int 0] np mem (fun v c => v = (mem 74 (9 * p + 5)) ∧ jeq [76] (jup mem 66 0 0) c) := by
  refine jPi.of (own := RX11) rfl rfl (Nat.le_of_ble_eq_true rfl) (fun G X hR hr hE => ?_)
  refine j_aload_n X dX11_show_0 rfl ?_
  refine j_iconst X dX11_show_1 0 (by decide) ?_
  refine j_putI X 11 0 (by decide) (by decide) rfl rfl rfl rfl u950 (o66 np) (k66 np) dX11_show_2 ?_
  refine j_aload_n X dX11_show_5 rfl ?_
  refine j_iload_n X dX11_show_6 rfl ?_
  refine s_callVi X hR (m_isPaper np _ _ hn hp) rfl 11 (by decide) (o66 np) (k66 np) rfl u1151 u1148 u1150 qp39 u12 hyX11_isPaper (by decide) (by decide) (Nat.le_of_ble_eq_true rfl) dX11_show_7 (fun v_7 m_7 h_7 => ?_)
  obtain ⟨e1, e2⟩ := h_7; have e1 := e1.symm; have e2 := e2.symm; subst e1; subst e2
  refine j_ifb_eq X 30 dX11_show_10 (by decide) (fun c_10 => ?_) (fun c_10 => ?_)
  · exfalso
    clear hE hr hR X
    have e1 : (-1 : Int32).toInt = -1 := by decide
    (try simp only [lg_cmp_lt, lg_cmp_gt, lg_cmp_le, lg_cmp_ge] at *); (try simp (disch := omega) only [Int64.le_iff_toInt_le, Int64.lt_iff_toInt_lt, Int32.le_iff_toInt_le, Int32.lt_iff_toInt_lt, fa_eq, fa_lit, fa_litL, nI_toInt, pk_lT, Int32.toInt_toInt64, jadd64, jin, jnoneT] at *); omega
  · refine j_iload_n X dX11_show_13 rfl ?_
    refine j_i2l X dX11_show_14 ?_
    refine j_lconst X dX11_show_15 0 (by decide) ?_
    refine j_ldc2 X dX11_show_16 u1152 ?_
    refine s_callSi X hR (m_inI np _ _ _ _ 0 15 rfl rfl) rfl u1087 u1085 u1086 u12 hyX11_in (by decide) (by decide) (Nat.le_of_ble_eq_true rfl) dX11_show_19 (fun v_19 m_19 h_19 => ?_)
    obtain ⟨e1, e2⟩ := h_19; have e1 := e1.symm; have e2 := e2.symm; subst e1; subst e2
    refine j_ifb_eq X 30 dX11_show_22 (by decide) (fun c_22 => ?_) (fun c_22 => ?_)
    · exfalso
      clear hE hr hR X
      have e1 : (-1 : Int32).toInt = -1 := by decide
      (try simp only [lg_cmp_lt, lg_cmp_gt, lg_cmp_le, lg_cmp_ge] at *); (try simp (disch := omega) only [Int64.le_iff_toInt_le, Int64.lt_iff_toInt_lt, Int32.le_iff_toInt_le, Int32.lt_iff_toInt_lt, fa_eq, fa_lit, fa_litL, nI_toInt, pk_lT, Int32.toInt_toInt64, jadd64, jin, jnoneT] at *); omega
    · refine j_iload_n X dX11_show_25 rfl ?_
      refine j_iconst X dX11_show_26 (-1) (by decide) ?_
      refine j_icmp_ge X 33 dX11_show_27 (by decide) (fun c_27 => ?_) (fun c_27 => absurd c_27 (by decide))
      refine j_aload_n X dX11_show_33 rfl ?_
      refine j_iload_n X dX11_show_34 rfl ?_
      refine j_iload_n X dX11_show_35 rfl ?_
      refine s_callVi X hR (m_showAll11 np _ _ (by omega)) rfl 11 (by decide) (o66 np) (k66 np) rfl u1198 u1195 u1197 qp46 u12 hyX11_showAll (by decide) (by decide) (Nat.le_of_ble_eq_true rfl) dX11_show_36 (fun v_36 m_36 h_36 => ?_)
      obtain ⟨e1, e2⟩ := h_36; have e1 := e1.symm; have e2 := e2.symm; subst e1; subst e2
      refine j_istore X dX11_show_39 (by decide) ?_
      refine j_iload_n X dX11_show_41 rfl ?_
      refine j_iconst X dX11_show_42 (-1) (by decide) ?_
      refine j_icmp_ne X 51 dX11_show_43 (by decide) (fun c_43 => ?_) (fun c_43 => absurd c_43 (by decide))
      refine j_iload_n X dX11_show_51 rfl ?_
      refine j_iload X dX11_show_52 rfl ?_
      refine j_icmp_ge X 66 dX11_show_54 (by decide) (fun c_54 => absurd c_54 (by decide)) (fun c_54 => ?_)
      refine j_aload_n X dX11_show_57 rfl ?_
      refine j_getR X 11 12 (by decide) (by decide) rfl u962 (o66 np) (k66 np) _ (p66_12 np) dX11_show_58 ?_
      refine j_iload_n X dX11_show_61 rfl ?_
      refine j_nrm _ (by first | (simp only [fa_lit, pk_mul, nI_add]; done) | (simp only [fa_lit, pk_mul, nI_add]; rfl) | rfl) ?_
      refine j_ialdN X (o76 np) (k76 np) (n := 0) (by rw [l76]; decide) (by rw [l76]; decide) _ rfl dX11_show_62 ?_
      refine j_goto X 68 dX11_show_63 (by decide) ?_
      refine s_iret X hE hr dX11_show_68 rfl ?_
      exact ⟨rfl, by repeat (first | exact jeq.rf | refine jeq.up ?_ (by decide))⟩
set_option maxRecDepth 4000 in
set_option maxHeartbeats 1000000 in
theorem m_show11_1 (np : Nat) (mem : jMem) (p : Nat) (hn : np ≤ 12) (hp : mem 66 9 = nI np) (hp2 : p < np) : jPi yX11_show cX11_show 5 .int 4 [.ref 66, .int (nI p), .int 11, .int 1] np mem (fun v c => v = (mem 74 (9 * p + 6)) ∧ jeq [76] (jup mem 66 0 0) c) := by
  refine jPi.of (own := RX11) rfl rfl (Nat.le_of_ble_eq_true rfl) (fun G X hR hr hE => ?_)
  refine j_aload_n X dX11_show_0 rfl ?_
  refine j_iconst X dX11_show_1 0 (by decide) ?_
  refine j_putI X 11 0 (by decide) (by decide) rfl rfl rfl rfl u950 (o66 np) (k66 np) dX11_show_2 ?_
  refine j_aload_n X dX11_show_5 rfl ?_
  refine j_iload_n X dX11_show_6 rfl ?_
  refine s_callVi X hR (m_isPaper np _ _ hn hp) rfl 11 (by decide) (o66 np) (k66 np) rfl u1151 u1148 u1150 qp39 u12 hyX11_isPaper (by decide) (by decide) (Nat.le_of_ble_eq_true rfl) dX11_show_7 (fun v_7 m_7 h_7 => ?_)
  obtain ⟨e1, e2⟩ := h_7; have e1 := e1.symm; have e2 := e2.symm; subst e1; subst e2
  refine j_ifb_eq X 30 dX11_show_10 (by decide) (fun c_10 => ?_) (fun c_10 => ?_)
  · exfalso
    clear hE hr hR X
    have e1 : (-1 : Int32).toInt = -1 := by decide
    (try simp only [lg_cmp_lt, lg_cmp_gt, lg_cmp_le, lg_cmp_ge] at *); (try simp (disch := omega) only [Int64.le_iff_toInt_le, Int64.lt_iff_toInt_lt, Int32.le_iff_toInt_le, Int32.lt_iff_toInt_lt, fa_eq, fa_lit, fa_litL, nI_toInt, pk_lT, Int32.toInt_toInt64, jadd64, jin, jnoneT] at *); omega
  · refine j_iload_n X dX11_show_13 rfl ?_
    refine j_i2l X dX11_show_14 ?_
    refine j_lconst X dX11_show_15 0 (by decide) ?_
    refine j_ldc2 X dX11_show_16 u1152 ?_
    refine s_callSi X hR (m_inI np _ _ _ _ 0 15 rfl rfl) rfl u1087 u1085 u1086 u12 hyX11_in (by decide) (by decide) (Nat.le_of_ble_eq_true rfl) dX11_show_19 (fun v_19 m_19 h_19 => ?_)
    obtain ⟨e1, e2⟩ := h_19; have e1 := e1.symm; have e2 := e2.symm; subst e1; subst e2
    refine j_ifb_eq X 30 dX11_show_22 (by decide) (fun c_22 => ?_) (fun c_22 => ?_)
    · exfalso
      clear hE hr hR X
      have e1 : (-1 : Int32).toInt = -1 := by decide
      (try simp only [lg_cmp_lt, lg_cmp_gt, lg_cmp_le, lg_cmp_ge] at *); (try simp (disch := omega) only [Int64.le_iff_toInt_le, Int64.lt_iff_toInt_lt, Int32.le_iff_toInt_le, Int32.lt_iff_toInt_lt, fa_eq, fa_lit, fa_litL, nI_toInt, pk_lT, Int32.toInt_toInt64, jadd64, jin, jnoneT] at *); omega
    · refine j_iload_n X dX11_show_25 rfl ?_
      refine j_iconst X dX11_show_26 (-1) (by decide) ?_
      refine j_icmp_ge X 33 dX11_show_27 (by decide) (fun c_27 => ?_) (fun c_27 => absurd c_27 (by decide))
      refine j_aload_n X dX11_show_33 rfl ?_
      refine j_iload_n X dX11_show_34 rfl ?_
      refine j_iload_n X dX11_show_35 rfl ?_
      refine s_callVi X hR (m_showAll11 np _ _ (by omega)) rfl 11 (by decide) (o66 np) (k66 np) rfl u1198 u1195 u1197 qp46 u12 hyX11_showAll (by decide) (by decide) (Nat.le_of_ble_eq_true rfl) dX11_show_36 (fun v_36 m_36 h_36 => ?_)
      obtain ⟨e1, e2⟩ := h_36; have e1 := e1.symm; have e2 := e2.symm; subst e1; subst e2
      refine j_istore X dX11_show_39 (by decide) ?_
      refine j_iload_n X dX11_show_41 rfl ?_
      refine j_iconst X dX11_show_42 (-1) (by decide) ?_
      refine j_icmp_ne X 51 dX11_show_43 (by decide) (fun c_43 => ?_) (fun c_43 => absurd c_43 (by decide))
      refine j_iload_n X dX11_show_51 rfl ?_
      refine j_iload X dX11_show_52 rfl ?_
      refine j_icmp_ge X 66 dX11_show_54 (by decide) (fun c_54 => absurd c_54 (by decide)) (fun c_54 => ?_)
      refine j_aload_n X dX11_show_57 rfl ?_
      refine j_getR X 11 12 (by decide) (by decide) rfl u962 (o66 np) (k66 np) _ (p66_12 np) dX11_show_58 ?_
      refine j_iload_n X dX11_show_61 rfl ?_
      refine j_nrm _ (by first | (simp only [fa_lit, pk_mul, nI_add]; done) | (simp only [fa_lit, pk_mul, nI_add]; rfl) | rfl) ?_
      refine j_ialdN X (o76 np) (k76 np) (n := 1) (by rw [l76]; decide) (by rw [l76]; decide) _ rfl dX11_show_62 ?_
      refine j_goto X 68 dX11_show_63 (by decide) ?_
      refine s_iret X hE hr dX11_show_68 rfl ?_
      exact ⟨rfl, by repeat (first | exact jeq.rf | refine jeq.up ?_ (by decide))⟩
set_option maxRecDepth 4000 in
set_option maxHeartbeats 1000000 in
theorem m_show11_2 (np : Nat) (mem : jMem) (p : Nat) (hn : np ≤ 12) (hp : mem 66 9 = nI np) (hp2 : p < np) : jPi yX11_show cX11_show 5 .int 4 [.ref 66, .int (nI p), .int 11, .int 2] np mem (fun v c => v = (jLeaf (nI p) 2 (mem 74 (9 * p + 7))) ∧ jeq [76] (jup mem 66 0 0) c) := by
  refine jPi.of (own := RX11) rfl rfl (Nat.le_of_ble_eq_true rfl) (fun G X hR hr hE => ?_)
  refine j_aload_n X dX11_show_0 rfl ?_
  refine j_iconst X dX11_show_1 0 (by decide) ?_
  refine j_putI X 11 0 (by decide) (by decide) rfl rfl rfl rfl u950 (o66 np) (k66 np) dX11_show_2 ?_
  refine j_aload_n X dX11_show_5 rfl ?_
  refine j_iload_n X dX11_show_6 rfl ?_
  refine s_callVi X hR (m_isPaper np _ _ hn hp) rfl 11 (by decide) (o66 np) (k66 np) rfl u1151 u1148 u1150 qp39 u12 hyX11_isPaper (by decide) (by decide) (Nat.le_of_ble_eq_true rfl) dX11_show_7 (fun v_7 m_7 h_7 => ?_)
  obtain ⟨e1, e2⟩ := h_7; have e1 := e1.symm; have e2 := e2.symm; subst e1; subst e2
  refine j_ifb_eq X 30 dX11_show_10 (by decide) (fun c_10 => ?_) (fun c_10 => ?_)
  · exfalso
    clear hE hr hR X
    have e1 : (-1 : Int32).toInt = -1 := by decide
    (try simp only [lg_cmp_lt, lg_cmp_gt, lg_cmp_le, lg_cmp_ge] at *); (try simp (disch := omega) only [Int64.le_iff_toInt_le, Int64.lt_iff_toInt_lt, Int32.le_iff_toInt_le, Int32.lt_iff_toInt_lt, fa_eq, fa_lit, fa_litL, nI_toInt, pk_lT, Int32.toInt_toInt64, jadd64, jin, jnoneT] at *); omega
  · refine j_iload_n X dX11_show_13 rfl ?_
    refine j_i2l X dX11_show_14 ?_
    refine j_lconst X dX11_show_15 0 (by decide) ?_
    refine j_ldc2 X dX11_show_16 u1152 ?_
    refine s_callSi X hR (m_inI np _ _ _ _ 0 15 rfl rfl) rfl u1087 u1085 u1086 u12 hyX11_in (by decide) (by decide) (Nat.le_of_ble_eq_true rfl) dX11_show_19 (fun v_19 m_19 h_19 => ?_)
    obtain ⟨e1, e2⟩ := h_19; have e1 := e1.symm; have e2 := e2.symm; subst e1; subst e2
    refine j_ifb_eq X 30 dX11_show_22 (by decide) (fun c_22 => ?_) (fun c_22 => ?_)
    · exfalso
      clear hE hr hR X
      have e1 : (-1 : Int32).toInt = -1 := by decide
      (try simp only [lg_cmp_lt, lg_cmp_gt, lg_cmp_le, lg_cmp_ge] at *); (try simp (disch := omega) only [Int64.le_iff_toInt_le, Int64.lt_iff_toInt_lt, Int32.le_iff_toInt_le, Int32.lt_iff_toInt_lt, fa_eq, fa_lit, fa_litL, nI_toInt, pk_lT, Int32.toInt_toInt64, jadd64, jin, jnoneT] at *); omega
    · refine j_iload_n X dX11_show_25 rfl ?_
      refine j_iconst X dX11_show_26 (-1) (by decide) ?_
      refine j_icmp_ge X 33 dX11_show_27 (by decide) (fun c_27 => ?_) (fun c_27 => absurd c_27 (by decide))
      refine j_aload_n X dX11_show_33 rfl ?_
      refine j_iload_n X dX11_show_34 rfl ?_
      refine j_iload_n X dX11_show_35 rfl ?_
      refine s_callVi X hR (m_showAll11 np _ _ (by omega)) rfl 11 (by decide) (o66 np) (k66 np) rfl u1198 u1195 u1197 qp46 u12 hyX11_showAll (by decide) (by decide) (Nat.le_of_ble_eq_true rfl) dX11_show_36 (fun v_36 m_36 h_36 => ?_)
      obtain ⟨e1, e2⟩ := h_36; have e1 := e1.symm; have e2 := e2.symm; subst e1; subst e2
      refine j_istore X dX11_show_39 (by decide) ?_
      refine j_iload_n X dX11_show_41 rfl ?_
      refine j_iconst X dX11_show_42 (-1) (by decide) ?_
      refine j_icmp_ne X 51 dX11_show_43 (by decide) (fun c_43 => ?_) (fun c_43 => absurd c_43 (by decide))
      refine j_iload_n X dX11_show_51 rfl ?_
      refine j_iload X dX11_show_52 rfl ?_
      refine j_icmp_ge X 66 dX11_show_54 (by decide) (fun c_54 => absurd c_54 (by decide)) (fun c_54 => ?_)
      refine j_aload_n X dX11_show_57 rfl ?_
      refine j_getR X 11 12 (by decide) (by decide) rfl u962 (o66 np) (k66 np) _ (p66_12 np) dX11_show_58 ?_
      refine j_iload_n X dX11_show_61 rfl ?_
      refine j_nrm _ (by first | (simp only [fa_lit, pk_mul, nI_add]; done) | (simp only [fa_lit, pk_mul, nI_add]; rfl) | rfl) ?_
      refine j_ialdN X (o76 np) (k76 np) (n := 2) (by rw [l76]; decide) (by rw [l76]; decide) _ rfl dX11_show_62 ?_
      refine j_goto X 68 dX11_show_63 (by decide) ?_
      refine s_iret X hE hr dX11_show_68 rfl ?_
      exact ⟨rfl, by repeat (first | exact jeq.rf | refine jeq.up ?_ (by decide))⟩
set_option maxRecDepth 4000 in
set_option maxHeartbeats 1000000 in
theorem m_show11_3 (np : Nat) (mem : jMem) (p : Nat) (hn : np ≤ 12) (hp : mem 66 9 = nI np) (hp2 : p < np) : jPi yX11_show cX11_show 5 .int 4 [.ref 66, .int (nI p), .int 11, .int 3] np mem (fun v c => v = (mem 74 (9 * p + 8)) ∧ jeq [76] (jup mem 66 0 0) c) := by
  refine jPi.of (own := RX11) rfl rfl (Nat.le_of_ble_eq_true rfl) (fun G X hR hr hE => ?_)
  refine j_aload_n X dX11_show_0 rfl ?_
  refine j_iconst X dX11_show_1 0 (by decide) ?_
  refine j_putI X 11 0 (by decide) (by decide) rfl rfl rfl rfl u950 (o66 np) (k66 np) dX11_show_2 ?_
  refine j_aload_n X dX11_show_5 rfl ?_
  refine j_iload_n X dX11_show_6 rfl ?_
  refine s_callVi X hR (m_isPaper np _ _ hn hp) rfl 11 (by decide) (o66 np) (k66 np) rfl u1151 u1148 u1150 qp39 u12 hyX11_isPaper (by decide) (by decide) (Nat.le_of_ble_eq_true rfl) dX11_show_7 (fun v_7 m_7 h_7 => ?_)
  obtain ⟨e1, e2⟩ := h_7; have e1 := e1.symm; have e2 := e2.symm; subst e1; subst e2
  refine j_ifb_eq X 30 dX11_show_10 (by decide) (fun c_10 => ?_) (fun c_10 => ?_)
  · exfalso
    clear hE hr hR X
    have e1 : (-1 : Int32).toInt = -1 := by decide
    (try simp only [lg_cmp_lt, lg_cmp_gt, lg_cmp_le, lg_cmp_ge] at *); (try simp (disch := omega) only [Int64.le_iff_toInt_le, Int64.lt_iff_toInt_lt, Int32.le_iff_toInt_le, Int32.lt_iff_toInt_lt, fa_eq, fa_lit, fa_litL, nI_toInt, pk_lT, Int32.toInt_toInt64, jadd64, jin, jnoneT] at *); omega
  · refine j_iload_n X dX11_show_13 rfl ?_
    refine j_i2l X dX11_show_14 ?_
    refine j_lconst X dX11_show_15 0 (by decide) ?_
    refine j_ldc2 X dX11_show_16 u1152 ?_
    refine s_callSi X hR (m_inI np _ _ _ _ 0 15 rfl rfl) rfl u1087 u1085 u1086 u12 hyX11_in (by decide) (by decide) (Nat.le_of_ble_eq_true rfl) dX11_show_19 (fun v_19 m_19 h_19 => ?_)
    obtain ⟨e1, e2⟩ := h_19; have e1 := e1.symm; have e2 := e2.symm; subst e1; subst e2
    refine j_ifb_eq X 30 dX11_show_22 (by decide) (fun c_22 => ?_) (fun c_22 => ?_)
    · exfalso
      clear hE hr hR X
      have e1 : (-1 : Int32).toInt = -1 := by decide
      (try simp only [lg_cmp_lt, lg_cmp_gt, lg_cmp_le, lg_cmp_ge] at *); (try simp (disch := omega) only [Int64.le_iff_toInt_le, Int64.lt_iff_toInt_lt, Int32.le_iff_toInt_le, Int32.lt_iff_toInt_lt, fa_eq, fa_lit, fa_litL, nI_toInt, pk_lT, Int32.toInt_toInt64, jadd64, jin, jnoneT] at *); omega
    · refine j_iload_n X dX11_show_25 rfl ?_
      refine j_iconst X dX11_show_26 (-1) (by decide) ?_
      refine j_icmp_ge X 33 dX11_show_27 (by decide) (fun c_27 => ?_) (fun c_27 => absurd c_27 (by decide))
      refine j_aload_n X dX11_show_33 rfl ?_
      refine j_iload_n X dX11_show_34 rfl ?_
      refine j_iload_n X dX11_show_35 rfl ?_
      refine s_callVi X hR (m_showAll11 np _ _ (by omega)) rfl 11 (by decide) (o66 np) (k66 np) rfl u1198 u1195 u1197 qp46 u12 hyX11_showAll (by decide) (by decide) (Nat.le_of_ble_eq_true rfl) dX11_show_36 (fun v_36 m_36 h_36 => ?_)
      obtain ⟨e1, e2⟩ := h_36; have e1 := e1.symm; have e2 := e2.symm; subst e1; subst e2
      refine j_istore X dX11_show_39 (by decide) ?_
      refine j_iload_n X dX11_show_41 rfl ?_
      refine j_iconst X dX11_show_42 (-1) (by decide) ?_
      refine j_icmp_ne X 51 dX11_show_43 (by decide) (fun c_43 => ?_) (fun c_43 => absurd c_43 (by decide))
      refine j_iload_n X dX11_show_51 rfl ?_
      refine j_iload X dX11_show_52 rfl ?_
      refine j_icmp_ge X 66 dX11_show_54 (by decide) (fun c_54 => absurd c_54 (by decide)) (fun c_54 => ?_)
      refine j_aload_n X dX11_show_57 rfl ?_
      refine j_getR X 11 12 (by decide) (by decide) rfl u962 (o66 np) (k66 np) _ (p66_12 np) dX11_show_58 ?_
      refine j_iload_n X dX11_show_61 rfl ?_
      refine j_nrm _ (by first | (simp only [fa_lit, pk_mul, nI_add]; done) | (simp only [fa_lit, pk_mul, nI_add]; rfl) | rfl) ?_
      refine j_ialdN X (o76 np) (k76 np) (n := 3) (by rw [l76]; decide) (by rw [l76]; decide) _ rfl dX11_show_62 ?_
      refine j_goto X 68 dX11_show_63 (by decide) ?_
      refine s_iret X hE hr dX11_show_68 rfl ?_
      exact ⟨rfl, by repeat (first | exact jeq.rf | refine jeq.up ?_ (by decide))⟩
set_option maxRecDepth 4000 in
set_option maxHeartbeats 1000000 in
theorem m_show12_n (np : Nat) (mem : jMem) (p : Nat) (hn : np ≤ 12) (hp : mem 66 9 = nI np) (hp2 : p < np) : jPi yX11_show cX11_show 5 .int 4 [.ref 66, .int (nI p), .int 12, .int (-1)] np mem (fun v c => v = 3 ∧ jeq [76] (jup mem 66 0 0) c) := by
  refine jPi.of (own := RX11) rfl rfl (Nat.le_of_ble_eq_true rfl) (fun G X hR hr hE => ?_)
  refine j_aload_n X dX11_show_0 rfl ?_
  refine j_iconst X dX11_show_1 0 (by decide) ?_
  refine j_putI X 11 0 (by decide) (by decide) rfl rfl rfl rfl u950 (o66 np) (k66 np) dX11_show_2 ?_
  refine j_aload_n X dX11_show_5 rfl ?_
  refine j_iload_n X dX11_show_6 rfl ?_
  refine s_callVi X hR (m_isPaper np _ _ hn hp) rfl 11 (by decide) (o66 np) (k66 np) rfl u1151 u1148 u1150 qp39 u12 hyX11_isPaper (by decide) (by decide) (Nat.le_of_ble_eq_true rfl) dX11_show_7 (fun v_7 m_7 h_7 => ?_)
  obtain ⟨e1, e2⟩ := h_7; have e1 := e1.symm; have e2 := e2.symm; subst e1; subst e2
  refine j_ifb_eq X 30 dX11_show_10 (by decide) (fun c_10 => ?_) (fun c_10 => ?_)
  · exfalso
    clear hE hr hR X
    have e1 : (-1 : Int32).toInt = -1 := by decide
    (try simp only [lg_cmp_lt, lg_cmp_gt, lg_cmp_le, lg_cmp_ge] at *); (try simp (disch := omega) only [Int64.le_iff_toInt_le, Int64.lt_iff_toInt_lt, Int32.le_iff_toInt_le, Int32.lt_iff_toInt_lt, fa_eq, fa_lit, fa_litL, nI_toInt, pk_lT, Int32.toInt_toInt64, jadd64, jin, jnoneT] at *); omega
  · refine j_iload_n X dX11_show_13 rfl ?_
    refine j_i2l X dX11_show_14 ?_
    refine j_lconst X dX11_show_15 0 (by decide) ?_
    refine j_ldc2 X dX11_show_16 u1152 ?_
    refine s_callSi X hR (m_inI np _ _ _ _ 0 15 rfl rfl) rfl u1087 u1085 u1086 u12 hyX11_in (by decide) (by decide) (Nat.le_of_ble_eq_true rfl) dX11_show_19 (fun v_19 m_19 h_19 => ?_)
    obtain ⟨e1, e2⟩ := h_19; have e1 := e1.symm; have e2 := e2.symm; subst e1; subst e2
    refine j_ifb_eq X 30 dX11_show_22 (by decide) (fun c_22 => ?_) (fun c_22 => ?_)
    · exfalso
      clear hE hr hR X
      have e1 : (-1 : Int32).toInt = -1 := by decide
      (try simp only [lg_cmp_lt, lg_cmp_gt, lg_cmp_le, lg_cmp_ge] at *); (try simp (disch := omega) only [Int64.le_iff_toInt_le, Int64.lt_iff_toInt_lt, Int32.le_iff_toInt_le, Int32.lt_iff_toInt_lt, fa_eq, fa_lit, fa_litL, nI_toInt, pk_lT, Int32.toInt_toInt64, jadd64, jin, jnoneT] at *); omega
    · refine j_iload_n X dX11_show_25 rfl ?_
      refine j_iconst X dX11_show_26 (-1) (by decide) ?_
      refine j_icmp_ge X 33 dX11_show_27 (by decide) (fun c_27 => ?_) (fun c_27 => absurd c_27 (by decide))
      refine j_aload_n X dX11_show_33 rfl ?_
      refine j_iload_n X dX11_show_34 rfl ?_
      refine j_iload_n X dX11_show_35 rfl ?_
      refine s_callVi X hR (m_showAll12 np _ _ (by omega)) rfl 11 (by decide) (o66 np) (k66 np) rfl u1198 u1195 u1197 qp46 u12 hyX11_showAll (by decide) (by decide) (Nat.le_of_ble_eq_true rfl) dX11_show_36 (fun v_36 m_36 h_36 => ?_)
      obtain ⟨e1, e2⟩ := h_36; have e1 := e1.symm; have e2 := e2.symm; subst e1; subst e2
      refine j_istore X dX11_show_39 (by decide) ?_
      refine j_iload_n X dX11_show_41 rfl ?_
      refine j_iconst X dX11_show_42 (-1) (by decide) ?_
      refine j_icmp_ne X 51 dX11_show_43 (by decide) (fun c_43 => absurd c_43 (by decide)) (fun c_43 => ?_)
      refine j_iload X dX11_show_46 rfl ?_
      refine j_goto X 68 dX11_show_48 (by decide) ?_
      refine s_iret X hE hr dX11_show_68 rfl ?_
      exact ⟨rfl, by repeat (first | exact jeq.rf | refine jeq.up ?_ (by decide))⟩
set_option maxRecDepth 4000 in
set_option maxHeartbeats 1000000 in
theorem m_show12_none (np : Nat) (mem : jMem) (p : Nat) (i : Int32) (hn : np ≤ 12) (hp : mem 66 9 = nI np) (hp2 : p < np) (hi : 3 ≤ i.toInt) : jPi yX11_show cX11_show 5 .int 4 [.ref 66, .int (nI p), .int 12, .int i] np mem (fun v c => v = -1000000 ∧ jeq [76] (jup mem 66 0 0) c) := by
  refine jPi.of (own := RX11) rfl rfl (Nat.le_of_ble_eq_true rfl) (fun G X hR hr hE => ?_)
  refine j_aload_n X dX11_show_0 rfl ?_
  refine j_iconst X dX11_show_1 0 (by decide) ?_
  refine j_putI X 11 0 (by decide) (by decide) rfl rfl rfl rfl u950 (o66 np) (k66 np) dX11_show_2 ?_
  refine j_aload_n X dX11_show_5 rfl ?_
  refine j_iload_n X dX11_show_6 rfl ?_
  refine s_callVi X hR (m_isPaper np _ _ hn hp) rfl 11 (by decide) (o66 np) (k66 np) rfl u1151 u1148 u1150 qp39 u12 hyX11_isPaper (by decide) (by decide) (Nat.le_of_ble_eq_true rfl) dX11_show_7 (fun v_7 m_7 h_7 => ?_)
  obtain ⟨e1, e2⟩ := h_7; have e1 := e1.symm; have e2 := e2.symm; subst e1; subst e2
  refine j_ifb_eq X 30 dX11_show_10 (by decide) (fun c_10 => ?_) (fun c_10 => ?_)
  · exfalso
    clear hE hr hR X
    have e1 : (-1 : Int32).toInt = -1 := by decide
    (try simp only [lg_cmp_lt, lg_cmp_gt, lg_cmp_le, lg_cmp_ge] at *); (try simp (disch := omega) only [Int64.le_iff_toInt_le, Int64.lt_iff_toInt_lt, Int32.le_iff_toInt_le, Int32.lt_iff_toInt_lt, fa_eq, fa_lit, fa_litL, nI_toInt, pk_lT, Int32.toInt_toInt64, jadd64, jin, jnoneT] at *); omega
  · refine j_iload_n X dX11_show_13 rfl ?_
    refine j_i2l X dX11_show_14 ?_
    refine j_lconst X dX11_show_15 0 (by decide) ?_
    refine j_ldc2 X dX11_show_16 u1152 ?_
    refine s_callSi X hR (m_inI np _ _ _ _ 0 15 rfl rfl) rfl u1087 u1085 u1086 u12 hyX11_in (by decide) (by decide) (Nat.le_of_ble_eq_true rfl) dX11_show_19 (fun v_19 m_19 h_19 => ?_)
    obtain ⟨e1, e2⟩ := h_19; have e1 := e1.symm; have e2 := e2.symm; subst e1; subst e2
    refine j_ifb_eq X 30 dX11_show_22 (by decide) (fun c_22 => ?_) (fun c_22 => ?_)
    · exfalso
      clear hE hr hR X
      have e1 : (-1 : Int32).toInt = -1 := by decide
      (try simp only [lg_cmp_lt, lg_cmp_gt, lg_cmp_le, lg_cmp_ge] at *); (try simp (disch := omega) only [Int64.le_iff_toInt_le, Int64.lt_iff_toInt_lt, Int32.le_iff_toInt_le, Int32.lt_iff_toInt_lt, fa_eq, fa_lit, fa_litL, nI_toInt, pk_lT, Int32.toInt_toInt64, jadd64, jin, jnoneT] at *); omega
    · refine j_iload_n X dX11_show_25 rfl ?_
      refine j_iconst X dX11_show_26 (-1) (by decide) ?_
      refine j_icmp_ge X 33 dX11_show_27 (by decide) (fun c_27 => ?_) (fun c_27 => ?_)
      · refine j_aload_n X dX11_show_33 rfl ?_
        refine j_iload_n X dX11_show_34 rfl ?_
        refine j_iload_n X dX11_show_35 rfl ?_
        refine s_callVi X hR (m_showAll12 np _ _ (by omega)) rfl 11 (by decide) (o66 np) (k66 np) rfl u1198 u1195 u1197 qp46 u12 hyX11_showAll (by decide) (by decide) (Nat.le_of_ble_eq_true rfl) dX11_show_36 (fun v_36 m_36 h_36 => ?_)
        obtain ⟨e1, e2⟩ := h_36; have e1 := e1.symm; have e2 := e2.symm; subst e1; subst e2
        refine j_istore X dX11_show_39 (by decide) ?_
        refine j_iload_n X dX11_show_41 rfl ?_
        refine j_iconst X dX11_show_42 (-1) (by decide) ?_
        refine j_icmp_ne X 51 dX11_show_43 (by decide) (fun c_43 => ?_) (fun c_43 => ?_)
        · refine j_iload_n X dX11_show_51 rfl ?_
          refine j_iload X dX11_show_52 rfl ?_
          refine j_icmp_ge X 66 dX11_show_54 (by decide) (fun c_54 => ?_) (fun c_54 => ?_)
          · refine j_ldc X dX11_show_66 u949 ?_
            refine s_iret X hE hr dX11_show_68 rfl ?_
            exact ⟨rfl, by repeat (first | exact jeq.rf | refine jeq.up ?_ (by decide))⟩
          · exfalso
            clear hE hr hR X
            have e1 : (-1 : Int32).toInt = -1 := by decide
            (try simp only [lg_cmp_lt, lg_cmp_gt, lg_cmp_le, lg_cmp_ge] at *); (try simp (disch := omega) only [Int64.le_iff_toInt_le, Int64.lt_iff_toInt_lt, Int32.le_iff_toInt_le, Int32.lt_iff_toInt_lt, fa_eq, fa_lit, fa_litL, nI_toInt, pk_lT, Int32.toInt_toInt64, jadd64, jin, jnoneT] at *); omega
        · exfalso
          clear hE hr hR X
          have e1 : (-1 : Int32).toInt = -1 := by decide
          (try simp only [lg_cmp_lt, lg_cmp_gt, lg_cmp_le, lg_cmp_ge] at *); (try simp (disch := omega) only [Int64.le_iff_toInt_le, Int64.lt_iff_toInt_lt, Int32.le_iff_toInt_le, Int32.lt_iff_toInt_lt, fa_eq, fa_lit, fa_litL, nI_toInt, pk_lT, Int32.toInt_toInt64, jadd64, jin, jnoneT] at *); omega
      · exfalso
        clear hE hr hR X
        have e1 : (-1 : Int32).toInt = -1 := by decide
        (try simp only [lg_cmp_lt, lg_cmp_gt, lg_cmp_le, lg_cmp_ge] at *); (try simp (disch := omega) only [Int64.le_iff_toInt_le, Int64.lt_iff_toInt_lt, Int32.le_iff_toInt_le, Int32.lt_iff_toInt_lt, fa_eq, fa_lit, fa_litL, nI_toInt, pk_lT, Int32.toInt_toInt64, jadd64, jin, jnoneT] at *); omega
set_option maxRecDepth 4000 in
set_option maxHeartbeats 1000000 in
theorem m_show12_0 (np : Nat) (mem : jMem) (p : Nat) (hn : np ≤ 12) (hp : mem 66 9 = nI np) (hp2 : p < np) : jPi yX11_show cX11_show 5 .int 4 [.ref 66, .int (nI p), .int 12, .int 0] np mem (fun v c => v = (jJoin (jLeaf (nI p) 0 (mem 74 (9 * p + 5))) (jLeaf (nI p) 1 (mem 74 (9 * p + 6)))) ∧ jeq [76] (jup mem 66 0 0) c) := by
  refine jPi.of (own := RX11) rfl rfl (Nat.le_of_ble_eq_true rfl) (fun G X hR hr hE => ?_)
  refine j_aload_n X dX11_show_0 rfl ?_
  refine j_iconst X dX11_show_1 0 (by decide) ?_
  refine j_putI X 11 0 (by decide) (by decide) rfl rfl rfl rfl u950 (o66 np) (k66 np) dX11_show_2 ?_
  refine j_aload_n X dX11_show_5 rfl ?_
  refine j_iload_n X dX11_show_6 rfl ?_
  refine s_callVi X hR (m_isPaper np _ _ hn hp) rfl 11 (by decide) (o66 np) (k66 np) rfl u1151 u1148 u1150 qp39 u12 hyX11_isPaper (by decide) (by decide) (Nat.le_of_ble_eq_true rfl) dX11_show_7 (fun v_7 m_7 h_7 => ?_)
  obtain ⟨e1, e2⟩ := h_7; have e1 := e1.symm; have e2 := e2.symm; subst e1; subst e2
  refine j_ifb_eq X 30 dX11_show_10 (by decide) (fun c_10 => ?_) (fun c_10 => ?_)
  · exfalso
    clear hE hr hR X
    have e1 : (-1 : Int32).toInt = -1 := by decide
    (try simp only [lg_cmp_lt, lg_cmp_gt, lg_cmp_le, lg_cmp_ge] at *); (try simp (disch := omega) only [Int64.le_iff_toInt_le, Int64.lt_iff_toInt_lt, Int32.le_iff_toInt_le, Int32.lt_iff_toInt_lt, fa_eq, fa_lit, fa_litL, nI_toInt, pk_lT, Int32.toInt_toInt64, jadd64, jin, jnoneT] at *); omega
  · refine j_iload_n X dX11_show_13 rfl ?_
    refine j_i2l X dX11_show_14 ?_
    refine j_lconst X dX11_show_15 0 (by decide) ?_
    refine j_ldc2 X dX11_show_16 u1152 ?_
    refine s_callSi X hR (m_inI np _ _ _ _ 0 15 rfl rfl) rfl u1087 u1085 u1086 u12 hyX11_in (by decide) (by decide) (Nat.le_of_ble_eq_true rfl) dX11_show_19 (fun v_19 m_19 h_19 => ?_)
    obtain ⟨e1, e2⟩ := h_19; have e1 := e1.symm; have e2 := e2.symm; subst e1; subst e2
    refine j_ifb_eq X 30 dX11_show_22 (by decide) (fun c_22 => ?_) (fun c_22 => ?_)
    · exfalso
      clear hE hr hR X
      have e1 : (-1 : Int32).toInt = -1 := by decide
      (try simp only [lg_cmp_lt, lg_cmp_gt, lg_cmp_le, lg_cmp_ge] at *); (try simp (disch := omega) only [Int64.le_iff_toInt_le, Int64.lt_iff_toInt_lt, Int32.le_iff_toInt_le, Int32.lt_iff_toInt_lt, fa_eq, fa_lit, fa_litL, nI_toInt, pk_lT, Int32.toInt_toInt64, jadd64, jin, jnoneT] at *); omega
    · refine j_iload_n X dX11_show_25 rfl ?_
      refine j_iconst X dX11_show_26 (-1) (by decide) ?_
      refine j_icmp_ge X 33 dX11_show_27 (by decide) (fun c_27 => ?_) (fun c_27 => absurd c_27 (by decide))
      refine j_aload_n X dX11_show_33 rfl ?_
      refine j_iload_n X dX11_show_34 rfl ?_
      refine j_iload_n X dX11_show_35 rfl ?_
      refine s_callVi X hR (m_showAll12 np _ _ (by omega)) rfl 11 (by decide) (o66 np) (k66 np) rfl u1198 u1195 u1197 qp46 u12 hyX11_showAll (by decide) (by decide) (Nat.le_of_ble_eq_true rfl) dX11_show_36 (fun v_36 m_36 h_36 => ?_)
      obtain ⟨e1, e2⟩ := h_36; have e1 := e1.symm; have e2 := e2.symm; subst e1; subst e2
      refine j_istore X dX11_show_39 (by decide) ?_
      refine j_iload_n X dX11_show_41 rfl ?_
      refine j_iconst X dX11_show_42 (-1) (by decide) ?_
      refine j_icmp_ne X 51 dX11_show_43 (by decide) (fun c_43 => ?_) (fun c_43 => absurd c_43 (by decide))
      refine j_iload_n X dX11_show_51 rfl ?_
      refine j_iload X dX11_show_52 rfl ?_
      refine j_icmp_ge X 66 dX11_show_54 (by decide) (fun c_54 => absurd c_54 (by decide)) (fun c_54 => ?_)
      refine j_aload_n X dX11_show_57 rfl ?_
      refine j_getR X 11 12 (by decide) (by decide) rfl u962 (o66 np) (k66 np) _ (p66_12 np) dX11_show_58 ?_
      refine j_iload_n X dX11_show_61 rfl ?_
      refine j_nrm _ (by first | (simp only [fa_lit, pk_mul, nI_add]; done) | (simp only [fa_lit, pk_mul, nI_add]; rfl) | rfl) ?_
      refine j_ialdN X (o76 np) (k76 np) (n := 0) (by rw [l76]; decide) (by rw [l76]; decide) _ rfl dX11_show_62 ?_
      refine j_goto X 68 dX11_show_63 (by decide) ?_
      refine s_iret X hE hr dX11_show_68 rfl ?_
      exact ⟨rfl, by repeat (first | exact jeq.rf | refine jeq.up ?_ (by decide))⟩
set_option maxRecDepth 4000 in
set_option maxHeartbeats 1000000 in
theorem m_show12_1 (np : Nat) (mem : jMem) (p : Nat) (hn : np ≤ 12) (hp : mem 66 9 = nI np) (hp2 : p < np) : jPi yX11_show cX11_show 5 .int 4 [.ref 66, .int (nI p), .int 12, .int 1] np mem (fun v c => v = (mem 74 (9 * p + 7)) ∧ jeq [76] (jup mem 66 0 0) c) := by
  refine jPi.of (own := RX11) rfl rfl (Nat.le_of_ble_eq_true rfl) (fun G X hR hr hE => ?_)
  refine j_aload_n X dX11_show_0 rfl ?_
  refine j_iconst X dX11_show_1 0 (by decide) ?_
  refine j_putI X 11 0 (by decide) (by decide) rfl rfl rfl rfl u950 (o66 np) (k66 np) dX11_show_2 ?_
  refine j_aload_n X dX11_show_5 rfl ?_
  refine j_iload_n X dX11_show_6 rfl ?_
  refine s_callVi X hR (m_isPaper np _ _ hn hp) rfl 11 (by decide) (o66 np) (k66 np) rfl u1151 u1148 u1150 qp39 u12 hyX11_isPaper (by decide) (by decide) (Nat.le_of_ble_eq_true rfl) dX11_show_7 (fun v_7 m_7 h_7 => ?_)
  obtain ⟨e1, e2⟩ := h_7; have e1 := e1.symm; have e2 := e2.symm; subst e1; subst e2
  refine j_ifb_eq X 30 dX11_show_10 (by decide) (fun c_10 => ?_) (fun c_10 => ?_)
  · exfalso
    clear hE hr hR X
    have e1 : (-1 : Int32).toInt = -1 := by decide
    (try simp only [lg_cmp_lt, lg_cmp_gt, lg_cmp_le, lg_cmp_ge] at *); (try simp (disch := omega) only [Int64.le_iff_toInt_le, Int64.lt_iff_toInt_lt, Int32.le_iff_toInt_le, Int32.lt_iff_toInt_lt, fa_eq, fa_lit, fa_litL, nI_toInt, pk_lT, Int32.toInt_toInt64, jadd64, jin, jnoneT] at *); omega
  · refine j_iload_n X dX11_show_13 rfl ?_
    refine j_i2l X dX11_show_14 ?_
    refine j_lconst X dX11_show_15 0 (by decide) ?_
    refine j_ldc2 X dX11_show_16 u1152 ?_
    refine s_callSi X hR (m_inI np _ _ _ _ 0 15 rfl rfl) rfl u1087 u1085 u1086 u12 hyX11_in (by decide) (by decide) (Nat.le_of_ble_eq_true rfl) dX11_show_19 (fun v_19 m_19 h_19 => ?_)
    obtain ⟨e1, e2⟩ := h_19; have e1 := e1.symm; have e2 := e2.symm; subst e1; subst e2
    refine j_ifb_eq X 30 dX11_show_22 (by decide) (fun c_22 => ?_) (fun c_22 => ?_)
    · exfalso
      clear hE hr hR X
      have e1 : (-1 : Int32).toInt = -1 := by decide
      (try simp only [lg_cmp_lt, lg_cmp_gt, lg_cmp_le, lg_cmp_ge] at *); (try simp (disch := omega) only [Int64.le_iff_toInt_le, Int64.lt_iff_toInt_lt, Int32.le_iff_toInt_le, Int32.lt_iff_toInt_lt, fa_eq, fa_lit, fa_litL, nI_toInt, pk_lT, Int32.toInt_toInt64, jadd64, jin, jnoneT] at *); omega
    · refine j_iload_n X dX11_show_25 rfl ?_
      refine j_iconst X dX11_show_26 (-1) (by decide) ?_
      refine j_icmp_ge X 33 dX11_show_27 (by decide) (fun c_27 => ?_) (fun c_27 => absurd c_27 (by decide))
      refine j_aload_n X dX11_show_33 rfl ?_
      refine j_iload_n X dX11_show_34 rfl ?_
      refine j_iload_n X dX11_show_35 rfl ?_
      refine s_callVi X hR (m_showAll12 np _ _ (by omega)) rfl 11 (by decide) (o66 np) (k66 np) rfl u1198 u1195 u1197 qp46 u12 hyX11_showAll (by decide) (by decide) (Nat.le_of_ble_eq_true rfl) dX11_show_36 (fun v_36 m_36 h_36 => ?_)
      obtain ⟨e1, e2⟩ := h_36; have e1 := e1.symm; have e2 := e2.symm; subst e1; subst e2
      refine j_istore X dX11_show_39 (by decide) ?_
      refine j_iload_n X dX11_show_41 rfl ?_
      refine j_iconst X dX11_show_42 (-1) (by decide) ?_
      refine j_icmp_ne X 51 dX11_show_43 (by decide) (fun c_43 => ?_) (fun c_43 => absurd c_43 (by decide))
      refine j_iload_n X dX11_show_51 rfl ?_
      refine j_iload X dX11_show_52 rfl ?_
      refine j_icmp_ge X 66 dX11_show_54 (by decide) (fun c_54 => absurd c_54 (by decide)) (fun c_54 => ?_)
      refine j_aload_n X dX11_show_57 rfl ?_
      refine j_getR X 11 12 (by decide) (by decide) rfl u962 (o66 np) (k66 np) _ (p66_12 np) dX11_show_58 ?_
      refine j_iload_n X dX11_show_61 rfl ?_
      refine j_nrm _ (by first | (simp only [fa_lit, pk_mul, nI_add]; done) | (simp only [fa_lit, pk_mul, nI_add]; rfl) | rfl) ?_
      refine j_ialdN X (o76 np) (k76 np) (n := 1) (by rw [l76]; decide) (by rw [l76]; decide) _ rfl dX11_show_62 ?_
      refine j_goto X 68 dX11_show_63 (by decide) ?_
      refine s_iret X hE hr dX11_show_68 rfl ?_
      exact ⟨rfl, by repeat (first | exact jeq.rf | refine jeq.up ?_ (by decide))⟩
set_option maxRecDepth 4000 in
set_option maxHeartbeats 1000000 in
theorem m_show12_2 (np : Nat) (mem : jMem) (p : Nat) (hn : np ≤ 12) (hp : mem 66 9 = nI np) (hp2 : p < np) : jPi yX11_show cX11_show 5 .int 4 [.ref 66, .int (nI p), .int 12, .int 2] np mem (fun v c => v = (mem 74 (9 * p + 8)) ∧ jeq [76] (jup mem 66 0 0) c) := by
  refine jPi.of (own := RX11) rfl rfl (Nat.le_of_ble_eq_true rfl) (fun G X hR hr hE => ?_)
  refine j_aload_n X dX11_show_0 rfl ?_
  refine j_iconst X dX11_show_1 0 (by decide) ?_
  refine j_putI X 11 0 (by decide) (by decide) rfl rfl rfl rfl u950 (o66 np) (k66 np) dX11_show_2 ?_
  refine j_aload_n X dX11_show_5 rfl ?_
  refine j_iload_n X dX11_show_6 rfl ?_
  refine s_callVi X hR (m_isPaper np _ _ hn hp) rfl 11 (by decide) (o66 np) (k66 np) rfl u1151 u1148 u1150 qp39 u12 hyX11_isPaper (by decide) (by decide) (Nat.le_of_ble_eq_true rfl) dX11_show_7 (fun v_7 m_7 h_7 => ?_)
  obtain ⟨e1, e2⟩ := h_7; have e1 := e1.symm; have e2 := e2.symm; subst e1; subst e2
  refine j_ifb_eq X 30 dX11_show_10 (by decide) (fun c_10 => ?_) (fun c_10 => ?_)
  · exfalso
    clear hE hr hR X
    have e1 : (-1 : Int32).toInt = -1 := by decide
    (try simp only [lg_cmp_lt, lg_cmp_gt, lg_cmp_le, lg_cmp_ge] at *); (try simp (disch := omega) only [Int64.le_iff_toInt_le, Int64.lt_iff_toInt_lt, Int32.le_iff_toInt_le, Int32.lt_iff_toInt_lt, fa_eq, fa_lit, fa_litL, nI_toInt, pk_lT, Int32.toInt_toInt64, jadd64, jin, jnoneT] at *); omega
  · refine j_iload_n X dX11_show_13 rfl ?_
    refine j_i2l X dX11_show_14 ?_
    refine j_lconst X dX11_show_15 0 (by decide) ?_
    refine j_ldc2 X dX11_show_16 u1152 ?_
    refine s_callSi X hR (m_inI np _ _ _ _ 0 15 rfl rfl) rfl u1087 u1085 u1086 u12 hyX11_in (by decide) (by decide) (Nat.le_of_ble_eq_true rfl) dX11_show_19 (fun v_19 m_19 h_19 => ?_)
    obtain ⟨e1, e2⟩ := h_19; have e1 := e1.symm; have e2 := e2.symm; subst e1; subst e2
    refine j_ifb_eq X 30 dX11_show_22 (by decide) (fun c_22 => ?_) (fun c_22 => ?_)
    · exfalso
      clear hE hr hR X
      have e1 : (-1 : Int32).toInt = -1 := by decide
      (try simp only [lg_cmp_lt, lg_cmp_gt, lg_cmp_le, lg_cmp_ge] at *); (try simp (disch := omega) only [Int64.le_iff_toInt_le, Int64.lt_iff_toInt_lt, Int32.le_iff_toInt_le, Int32.lt_iff_toInt_lt, fa_eq, fa_lit, fa_litL, nI_toInt, pk_lT, Int32.toInt_toInt64, jadd64, jin, jnoneT] at *); omega
    · refine j_iload_n X dX11_show_25 rfl ?_
      refine j_iconst X dX11_show_26 (-1) (by decide) ?_
      refine j_icmp_ge X 33 dX11_show_27 (by decide) (fun c_27 => ?_) (fun c_27 => absurd c_27 (by decide))
      refine j_aload_n X dX11_show_33 rfl ?_
      refine j_iload_n X dX11_show_34 rfl ?_
      refine j_iload_n X dX11_show_35 rfl ?_
      refine s_callVi X hR (m_showAll12 np _ _ (by omega)) rfl 11 (by decide) (o66 np) (k66 np) rfl u1198 u1195 u1197 qp46 u12 hyX11_showAll (by decide) (by decide) (Nat.le_of_ble_eq_true rfl) dX11_show_36 (fun v_36 m_36 h_36 => ?_)
      obtain ⟨e1, e2⟩ := h_36; have e1 := e1.symm; have e2 := e2.symm; subst e1; subst e2
      refine j_istore X dX11_show_39 (by decide) ?_
      refine j_iload_n X dX11_show_41 rfl ?_
      refine j_iconst X dX11_show_42 (-1) (by decide) ?_
      refine j_icmp_ne X 51 dX11_show_43 (by decide) (fun c_43 => ?_) (fun c_43 => absurd c_43 (by decide))
      refine j_iload_n X dX11_show_51 rfl ?_
      refine j_iload X dX11_show_52 rfl ?_
      refine j_icmp_ge X 66 dX11_show_54 (by decide) (fun c_54 => absurd c_54 (by decide)) (fun c_54 => ?_)
      refine j_aload_n X dX11_show_57 rfl ?_
      refine j_getR X 11 12 (by decide) (by decide) rfl u962 (o66 np) (k66 np) _ (p66_12 np) dX11_show_58 ?_
      refine j_iload_n X dX11_show_61 rfl ?_
      refine j_nrm _ (by first | (simp only [fa_lit, pk_mul, nI_add]; done) | (simp only [fa_lit, pk_mul, nI_add]; rfl) | rfl) ?_
      refine j_ialdN X (o76 np) (k76 np) (n := 2) (by rw [l76]; decide) (by rw [l76]; decide) _ rfl dX11_show_62 ?_
      refine j_goto X 68 dX11_show_63 (by decide) ?_
      refine s_iret X hE hr dX11_show_68 rfl ?_
      exact ⟨rfl, by repeat (first | exact jeq.rf | refine jeq.up ?_ (by decide))⟩
set_option maxRecDepth 4000 in
set_option maxHeartbeats 1000000 in
theorem m_show13_n (np : Nat) (mem : jMem) (p : Nat) (hn : np ≤ 12) (hp : mem 66 9 = nI np) (hp2 : p < np) : jPi yX11_show cX11_show 5 .int 4 [.ref 66, .int (nI p), .int 13, .int (-1)] np mem (fun v c => v = 4 ∧ jeq [76] (jup mem 66 0 0) c) := by
  refine jPi.of (own := RX11) rfl rfl (Nat.le_of_ble_eq_true rfl) (fun G X hR hr hE => ?_)
  refine j_aload_n X dX11_show_0 rfl ?_
  refine j_iconst X dX11_show_1 0 (by decide) ?_
  refine j_putI X 11 0 (by decide) (by decide) rfl rfl rfl rfl u950 (o66 np) (k66 np) dX11_show_2 ?_
  refine j_aload_n X dX11_show_5 rfl ?_
  refine j_iload_n X dX11_show_6 rfl ?_
  refine s_callVi X hR (m_isPaper np _ _ hn hp) rfl 11 (by decide) (o66 np) (k66 np) rfl u1151 u1148 u1150 qp39 u12 hyX11_isPaper (by decide) (by decide) (Nat.le_of_ble_eq_true rfl) dX11_show_7 (fun v_7 m_7 h_7 => ?_)
  obtain ⟨e1, e2⟩ := h_7; have e1 := e1.symm; have e2 := e2.symm; subst e1; subst e2
  refine j_ifb_eq X 30 dX11_show_10 (by decide) (fun c_10 => ?_) (fun c_10 => ?_)
  · exfalso
    clear hE hr hR X
    have e1 : (-1 : Int32).toInt = -1 := by decide
    (try simp only [lg_cmp_lt, lg_cmp_gt, lg_cmp_le, lg_cmp_ge] at *); (try simp (disch := omega) only [Int64.le_iff_toInt_le, Int64.lt_iff_toInt_lt, Int32.le_iff_toInt_le, Int32.lt_iff_toInt_lt, fa_eq, fa_lit, fa_litL, nI_toInt, pk_lT, Int32.toInt_toInt64, jadd64, jin, jnoneT] at *); omega
  · refine j_iload_n X dX11_show_13 rfl ?_
    refine j_i2l X dX11_show_14 ?_
    refine j_lconst X dX11_show_15 0 (by decide) ?_
    refine j_ldc2 X dX11_show_16 u1152 ?_
    refine s_callSi X hR (m_inI np _ _ _ _ 0 15 rfl rfl) rfl u1087 u1085 u1086 u12 hyX11_in (by decide) (by decide) (Nat.le_of_ble_eq_true rfl) dX11_show_19 (fun v_19 m_19 h_19 => ?_)
    obtain ⟨e1, e2⟩ := h_19; have e1 := e1.symm; have e2 := e2.symm; subst e1; subst e2
    refine j_ifb_eq X 30 dX11_show_22 (by decide) (fun c_22 => ?_) (fun c_22 => ?_)
    · exfalso
      clear hE hr hR X
      have e1 : (-1 : Int32).toInt = -1 := by decide
      (try simp only [lg_cmp_lt, lg_cmp_gt, lg_cmp_le, lg_cmp_ge] at *); (try simp (disch := omega) only [Int64.le_iff_toInt_le, Int64.lt_iff_toInt_lt, Int32.le_iff_toInt_le, Int32.lt_iff_toInt_lt, fa_eq, fa_lit, fa_litL, nI_toInt, pk_lT, Int32.toInt_toInt64, jadd64, jin, jnoneT] at *); omega
    · refine j_iload_n X dX11_show_25 rfl ?_
      refine j_iconst X dX11_show_26 (-1) (by decide) ?_
      refine j_icmp_ge X 33 dX11_show_27 (by decide) (fun c_27 => ?_) (fun c_27 => absurd c_27 (by decide))
      refine j_aload_n X dX11_show_33 rfl ?_
      refine j_iload_n X dX11_show_34 rfl ?_
      refine j_iload_n X dX11_show_35 rfl ?_
      refine s_callVi X hR (m_showAll13 np _ _ (by omega)) rfl 11 (by decide) (o66 np) (k66 np) rfl u1198 u1195 u1197 qp46 u12 hyX11_showAll (by decide) (by decide) (Nat.le_of_ble_eq_true rfl) dX11_show_36 (fun v_36 m_36 h_36 => ?_)
      obtain ⟨e1, e2⟩ := h_36; have e1 := e1.symm; have e2 := e2.symm; subst e1; subst e2
      refine j_istore X dX11_show_39 (by decide) ?_
      refine j_iload_n X dX11_show_41 rfl ?_
      refine j_iconst X dX11_show_42 (-1) (by decide) ?_
      refine j_icmp_ne X 51 dX11_show_43 (by decide) (fun c_43 => absurd c_43 (by decide)) (fun c_43 => ?_)
      refine j_iload X dX11_show_46 rfl ?_
      refine j_goto X 68 dX11_show_48 (by decide) ?_
      refine s_iret X hE hr dX11_show_68 rfl ?_
      exact ⟨rfl, by repeat (first | exact jeq.rf | refine jeq.up ?_ (by decide))⟩
set_option maxRecDepth 4000 in
set_option maxHeartbeats 1000000 in
theorem m_show13_none (np : Nat) (mem : jMem) (p : Nat) (i : Int32) (hn : np ≤ 12) (hp : mem 66 9 = nI np) (hp2 : p < np) (hi : 4 ≤ i.toInt) : jPi yX11_show cX11_show 5 .int 4 [.ref 66, .int (nI p), .int 13, .int i] np mem (fun v c => v = -1000000 ∧ jeq [76] (jup mem 66 0 0) c) := by
  refine jPi.of (own := RX11) rfl rfl (Nat.le_of_ble_eq_true rfl) (fun G X hR hr hE => ?_)
  refine j_aload_n X dX11_show_0 rfl ?_
  refine j_iconst X dX11_show_1 0 (by decide) ?_
  refine j_putI X 11 0 (by decide) (by decide) rfl rfl rfl rfl u950 (o66 np) (k66 np) dX11_show_2 ?_
  refine j_aload_n X dX11_show_5 rfl ?_
  refine j_iload_n X dX11_show_6 rfl ?_
  refine s_callVi X hR (m_isPaper np _ _ hn hp) rfl 11 (by decide) (o66 np) (k66 np) rfl u1151 u1148 u1150 qp39 u12 hyX11_isPaper (by decide) (by decide) (Nat.le_of_ble_eq_true rfl) dX11_show_7 (fun v_7 m_7 h_7 => ?_)
  obtain ⟨e1, e2⟩ := h_7; have e1 := e1.symm; have e2 := e2.symm; subst e1; subst e2
  refine j_ifb_eq X 30 dX11_show_10 (by decide) (fun c_10 => ?_) (fun c_10 => ?_)
  · exfalso
    clear hE hr hR X
    have e1 : (-1 : Int32).toInt = -1 := by decide
    (try simp only [lg_cmp_lt, lg_cmp_gt, lg_cmp_le, lg_cmp_ge] at *); (try simp (disch := omega) only [Int64.le_iff_toInt_le, Int64.lt_iff_toInt_lt, Int32.le_iff_toInt_le, Int32.lt_iff_toInt_lt, fa_eq, fa_lit, fa_litL, nI_toInt, pk_lT, Int32.toInt_toInt64, jadd64, jin, jnoneT] at *); omega
  · refine j_iload_n X dX11_show_13 rfl ?_
    refine j_i2l X dX11_show_14 ?_
    refine j_lconst X dX11_show_15 0 (by decide) ?_
    refine j_ldc2 X dX11_show_16 u1152 ?_
    refine s_callSi X hR (m_inI np _ _ _ _ 0 15 rfl rfl) rfl u1087 u1085 u1086 u12 hyX11_in (by decide) (by decide) (Nat.le_of_ble_eq_true rfl) dX11_show_19 (fun v_19 m_19 h_19 => ?_)
    obtain ⟨e1, e2⟩ := h_19; have e1 := e1.symm; have e2 := e2.symm; subst e1; subst e2
    refine j_ifb_eq X 30 dX11_show_22 (by decide) (fun c_22 => ?_) (fun c_22 => ?_)
    · exfalso
      clear hE hr hR X
      have e1 : (-1 : Int32).toInt = -1 := by decide
      (try simp only [lg_cmp_lt, lg_cmp_gt, lg_cmp_le, lg_cmp_ge] at *); (try simp (disch := omega) only [Int64.le_iff_toInt_le, Int64.lt_iff_toInt_lt, Int32.le_iff_toInt_le, Int32.lt_iff_toInt_lt, fa_eq, fa_lit, fa_litL, nI_toInt, pk_lT, Int32.toInt_toInt64, jadd64, jin, jnoneT] at *); omega
    · refine j_iload_n X dX11_show_25 rfl ?_
      refine j_iconst X dX11_show_26 (-1) (by decide) ?_
      refine j_icmp_ge X 33 dX11_show_27 (by decide) (fun c_27 => ?_) (fun c_27 => ?_)
      · refine j_aload_n X dX11_show_33 rfl ?_
        refine j_iload_n X dX11_show_34 rfl ?_
        refine j_iload_n X dX11_show_35 rfl ?_
        refine s_callVi X hR (m_showAll13 np _ _ (by omega)) rfl 11 (by decide) (o66 np) (k66 np) rfl u1198 u1195 u1197 qp46 u12 hyX11_showAll (by decide) (by decide) (Nat.le_of_ble_eq_true rfl) dX11_show_36 (fun v_36 m_36 h_36 => ?_)
        obtain ⟨e1, e2⟩ := h_36; have e1 := e1.symm; have e2 := e2.symm; subst e1; subst e2
        refine j_istore X dX11_show_39 (by decide) ?_
        refine j_iload_n X dX11_show_41 rfl ?_
        refine j_iconst X dX11_show_42 (-1) (by decide) ?_
        refine j_icmp_ne X 51 dX11_show_43 (by decide) (fun c_43 => ?_) (fun c_43 => ?_)
        · refine j_iload_n X dX11_show_51 rfl ?_
          refine j_iload X dX11_show_52 rfl ?_
          refine j_icmp_ge X 66 dX11_show_54 (by decide) (fun c_54 => ?_) (fun c_54 => ?_)
          · refine j_ldc X dX11_show_66 u949 ?_
            refine s_iret X hE hr dX11_show_68 rfl ?_
            exact ⟨rfl, by repeat (first | exact jeq.rf | refine jeq.up ?_ (by decide))⟩
          · exfalso
            clear hE hr hR X
            have e1 : (-1 : Int32).toInt = -1 := by decide
            (try simp only [lg_cmp_lt, lg_cmp_gt, lg_cmp_le, lg_cmp_ge] at *); (try simp (disch := omega) only [Int64.le_iff_toInt_le, Int64.lt_iff_toInt_lt, Int32.le_iff_toInt_le, Int32.lt_iff_toInt_lt, fa_eq, fa_lit, fa_litL, nI_toInt, pk_lT, Int32.toInt_toInt64, jadd64, jin, jnoneT] at *); omega
        · exfalso
          clear hE hr hR X
          have e1 : (-1 : Int32).toInt = -1 := by decide
          (try simp only [lg_cmp_lt, lg_cmp_gt, lg_cmp_le, lg_cmp_ge] at *); (try simp (disch := omega) only [Int64.le_iff_toInt_le, Int64.lt_iff_toInt_lt, Int32.le_iff_toInt_le, Int32.lt_iff_toInt_lt, fa_eq, fa_lit, fa_litL, nI_toInt, pk_lT, Int32.toInt_toInt64, jadd64, jin, jnoneT] at *); omega
      · exfalso
        clear hE hr hR X
        have e1 : (-1 : Int32).toInt = -1 := by decide
        (try simp only [lg_cmp_lt, lg_cmp_gt, lg_cmp_le, lg_cmp_ge] at *); (try simp (disch := omega) only [Int64.le_iff_toInt_le, Int64.lt_iff_toInt_lt, Int32.le_iff_toInt_le, Int32.lt_iff_toInt_lt, fa_eq, fa_lit, fa_litL, nI_toInt, pk_lT, Int32.toInt_toInt64, jadd64, jin, jnoneT] at *); omega
set_option maxRecDepth 4000 in
set_option maxHeartbeats 1000000 in
theorem m_show13_0 (np : Nat) (mem : jMem) (p : Nat) (hn : np ≤ 12) (hp : mem 66 9 = nI np) (hp2 : p < np) : jPi yX11_show cX11_show 5 .int 4 [.ref 66, .int (nI p), .int 13, .int 0] np mem (fun v c => v = (mem 74 (9 * p + 5)) ∧ jeq [76] (jup mem 66 0 0) c) := by
  refine jPi.of (own := RX11) rfl rfl (Nat.le_of_ble_eq_true rfl) (fun G X hR hr hE => ?_)
  refine j_aload_n X dX11_show_0 rfl ?_
  refine j_iconst X dX11_show_1 0 (by decide) ?_
  refine j_putI X 11 0 (by decide) (by decide) rfl rfl rfl rfl u950 (o66 np) (k66 np) dX11_show_2 ?_
  refine j_aload_n X dX11_show_5 rfl ?_
  refine j_iload_n X dX11_show_6 rfl ?_
  refine s_callVi X hR (m_isPaper np _ _ hn hp) rfl 11 (by decide) (o66 np) (k66 np) rfl u1151 u1148 u1150 qp39 u12 hyX11_isPaper (by decide) (by decide) (Nat.le_of_ble_eq_true rfl) dX11_show_7 (fun v_7 m_7 h_7 => ?_)
  obtain ⟨e1, e2⟩ := h_7; have e1 := e1.symm; have e2 := e2.symm; subst e1; subst e2
  refine j_ifb_eq X 30 dX11_show_10 (by decide) (fun c_10 => ?_) (fun c_10 => ?_)
  · exfalso
    clear hE hr hR X
    have e1 : (-1 : Int32).toInt = -1 := by decide
    (try simp only [lg_cmp_lt, lg_cmp_gt, lg_cmp_le, lg_cmp_ge] at *); (try simp (disch := omega) only [Int64.le_iff_toInt_le, Int64.lt_iff_toInt_lt, Int32.le_iff_toInt_le, Int32.lt_iff_toInt_lt, fa_eq, fa_lit, fa_litL, nI_toInt, pk_lT, Int32.toInt_toInt64, jadd64, jin, jnoneT] at *); omega
  · refine j_iload_n X dX11_show_13 rfl ?_
    refine j_i2l X dX11_show_14 ?_
    refine j_lconst X dX11_show_15 0 (by decide) ?_
    refine j_ldc2 X dX11_show_16 u1152 ?_
    refine s_callSi X hR (m_inI np _ _ _ _ 0 15 rfl rfl) rfl u1087 u1085 u1086 u12 hyX11_in (by decide) (by decide) (Nat.le_of_ble_eq_true rfl) dX11_show_19 (fun v_19 m_19 h_19 => ?_)
    obtain ⟨e1, e2⟩ := h_19; have e1 := e1.symm; have e2 := e2.symm; subst e1; subst e2
    refine j_ifb_eq X 30 dX11_show_22 (by decide) (fun c_22 => ?_) (fun c_22 => ?_)
    · exfalso
      clear hE hr hR X
      have e1 : (-1 : Int32).toInt = -1 := by decide
      (try simp only [lg_cmp_lt, lg_cmp_gt, lg_cmp_le, lg_cmp_ge] at *); (try simp (disch := omega) only [Int64.le_iff_toInt_le, Int64.lt_iff_toInt_lt, Int32.le_iff_toInt_le, Int32.lt_iff_toInt_lt, fa_eq, fa_lit, fa_litL, nI_toInt, pk_lT, Int32.toInt_toInt64, jadd64, jin, jnoneT] at *); omega
    · refine j_iload_n X dX11_show_25 rfl ?_
      refine j_iconst X dX11_show_26 (-1) (by decide) ?_
      refine j_icmp_ge X 33 dX11_show_27 (by decide) (fun c_27 => ?_) (fun c_27 => absurd c_27 (by decide))
      refine j_aload_n X dX11_show_33 rfl ?_
      refine j_iload_n X dX11_show_34 rfl ?_
      refine j_iload_n X dX11_show_35 rfl ?_
      refine s_callVi X hR (m_showAll13 np _ _ (by omega)) rfl 11 (by decide) (o66 np) (k66 np) rfl u1198 u1195 u1197 qp46 u12 hyX11_showAll (by decide) (by decide) (Nat.le_of_ble_eq_true rfl) dX11_show_36 (fun v_36 m_36 h_36 => ?_)
      obtain ⟨e1, e2⟩ := h_36; have e1 := e1.symm; have e2 := e2.symm; subst e1; subst e2
      refine j_istore X dX11_show_39 (by decide) ?_
      refine j_iload_n X dX11_show_41 rfl ?_
      refine j_iconst X dX11_show_42 (-1) (by decide) ?_
      refine j_icmp_ne X 51 dX11_show_43 (by decide) (fun c_43 => ?_) (fun c_43 => absurd c_43 (by decide))
      refine j_iload_n X dX11_show_51 rfl ?_
      refine j_iload X dX11_show_52 rfl ?_
      refine j_icmp_ge X 66 dX11_show_54 (by decide) (fun c_54 => absurd c_54 (by decide)) (fun c_54 => ?_)
      refine j_aload_n X dX11_show_57 rfl ?_
      refine j_getR X 11 12 (by decide) (by decide) rfl u962 (o66 np) (k66 np) _ (p66_12 np) dX11_show_58 ?_
      refine j_iload_n X dX11_show_61 rfl ?_
      refine j_nrm _ (by first | (simp only [fa_lit, pk_mul, nI_add]; done) | (simp only [fa_lit, pk_mul, nI_add]; rfl) | rfl) ?_
      refine j_ialdN X (o76 np) (k76 np) (n := 0) (by rw [l76]; decide) (by rw [l76]; decide) _ rfl dX11_show_62 ?_
      refine j_goto X 68 dX11_show_63 (by decide) ?_
      refine s_iret X hE hr dX11_show_68 rfl ?_
      exact ⟨rfl, by repeat (first | exact jeq.rf | refine jeq.up ?_ (by decide))⟩
set_option maxRecDepth 4000 in
set_option maxHeartbeats 1000000 in
theorem m_show13_1 (np : Nat) (mem : jMem) (p : Nat) (hn : np ≤ 12) (hp : mem 66 9 = nI np) (hp2 : p < np) : jPi yX11_show cX11_show 5 .int 4 [.ref 66, .int (nI p), .int 13, .int 1] np mem (fun v c => v = (jLeaf (nI p) 1 (mem 74 (9 * p + 6))) ∧ jeq [76] (jup mem 66 0 0) c) := by
  refine jPi.of (own := RX11) rfl rfl (Nat.le_of_ble_eq_true rfl) (fun G X hR hr hE => ?_)
  refine j_aload_n X dX11_show_0 rfl ?_
  refine j_iconst X dX11_show_1 0 (by decide) ?_
  refine j_putI X 11 0 (by decide) (by decide) rfl rfl rfl rfl u950 (o66 np) (k66 np) dX11_show_2 ?_
  refine j_aload_n X dX11_show_5 rfl ?_
  refine j_iload_n X dX11_show_6 rfl ?_
  refine s_callVi X hR (m_isPaper np _ _ hn hp) rfl 11 (by decide) (o66 np) (k66 np) rfl u1151 u1148 u1150 qp39 u12 hyX11_isPaper (by decide) (by decide) (Nat.le_of_ble_eq_true rfl) dX11_show_7 (fun v_7 m_7 h_7 => ?_)
  obtain ⟨e1, e2⟩ := h_7; have e1 := e1.symm; have e2 := e2.symm; subst e1; subst e2
  refine j_ifb_eq X 30 dX11_show_10 (by decide) (fun c_10 => ?_) (fun c_10 => ?_)
  · exfalso
    clear hE hr hR X
    have e1 : (-1 : Int32).toInt = -1 := by decide
    (try simp only [lg_cmp_lt, lg_cmp_gt, lg_cmp_le, lg_cmp_ge] at *); (try simp (disch := omega) only [Int64.le_iff_toInt_le, Int64.lt_iff_toInt_lt, Int32.le_iff_toInt_le, Int32.lt_iff_toInt_lt, fa_eq, fa_lit, fa_litL, nI_toInt, pk_lT, Int32.toInt_toInt64, jadd64, jin, jnoneT] at *); omega
  · refine j_iload_n X dX11_show_13 rfl ?_
    refine j_i2l X dX11_show_14 ?_
    refine j_lconst X dX11_show_15 0 (by decide) ?_
    refine j_ldc2 X dX11_show_16 u1152 ?_
    refine s_callSi X hR (m_inI np _ _ _ _ 0 15 rfl rfl) rfl u1087 u1085 u1086 u12 hyX11_in (by decide) (by decide) (Nat.le_of_ble_eq_true rfl) dX11_show_19 (fun v_19 m_19 h_19 => ?_)
    obtain ⟨e1, e2⟩ := h_19; have e1 := e1.symm; have e2 := e2.symm; subst e1; subst e2
    refine j_ifb_eq X 30 dX11_show_22 (by decide) (fun c_22 => ?_) (fun c_22 => ?_)
    · exfalso
      clear hE hr hR X
      have e1 : (-1 : Int32).toInt = -1 := by decide
      (try simp only [lg_cmp_lt, lg_cmp_gt, lg_cmp_le, lg_cmp_ge] at *); (try simp (disch := omega) only [Int64.le_iff_toInt_le, Int64.lt_iff_toInt_lt, Int32.le_iff_toInt_le, Int32.lt_iff_toInt_lt, fa_eq, fa_lit, fa_litL, nI_toInt, pk_lT, Int32.toInt_toInt64, jadd64, jin, jnoneT] at *); omega
    · refine j_iload_n X dX11_show_25 rfl ?_
      refine j_iconst X dX11_show_26 (-1) (by decide) ?_
      refine j_icmp_ge X 33 dX11_show_27 (by decide) (fun c_27 => ?_) (fun c_27 => absurd c_27 (by decide))
      refine j_aload_n X dX11_show_33 rfl ?_
      refine j_iload_n X dX11_show_34 rfl ?_
      refine j_iload_n X dX11_show_35 rfl ?_
      refine s_callVi X hR (m_showAll13 np _ _ (by omega)) rfl 11 (by decide) (o66 np) (k66 np) rfl u1198 u1195 u1197 qp46 u12 hyX11_showAll (by decide) (by decide) (Nat.le_of_ble_eq_true rfl) dX11_show_36 (fun v_36 m_36 h_36 => ?_)
      obtain ⟨e1, e2⟩ := h_36; have e1 := e1.symm; have e2 := e2.symm; subst e1; subst e2
      refine j_istore X dX11_show_39 (by decide) ?_
      refine j_iload_n X dX11_show_41 rfl ?_
      refine j_iconst X dX11_show_42 (-1) (by decide) ?_
      refine j_icmp_ne X 51 dX11_show_43 (by decide) (fun c_43 => ?_) (fun c_43 => absurd c_43 (by decide))
      refine j_iload_n X dX11_show_51 rfl ?_
      refine j_iload X dX11_show_52 rfl ?_
      refine j_icmp_ge X 66 dX11_show_54 (by decide) (fun c_54 => absurd c_54 (by decide)) (fun c_54 => ?_)
      refine j_aload_n X dX11_show_57 rfl ?_
      refine j_getR X 11 12 (by decide) (by decide) rfl u962 (o66 np) (k66 np) _ (p66_12 np) dX11_show_58 ?_
      refine j_iload_n X dX11_show_61 rfl ?_
      refine j_nrm _ (by first | (simp only [fa_lit, pk_mul, nI_add]; done) | (simp only [fa_lit, pk_mul, nI_add]; rfl) | rfl) ?_
      refine j_ialdN X (o76 np) (k76 np) (n := 1) (by rw [l76]; decide) (by rw [l76]; decide) _ rfl dX11_show_62 ?_
      refine j_goto X 68 dX11_show_63 (by decide) ?_
      refine s_iret X hE hr dX11_show_68 rfl ?_
      exact ⟨rfl, by repeat (first | exact jeq.rf | refine jeq.up ?_ (by decide))⟩
set_option maxRecDepth 4000 in
set_option maxHeartbeats 1000000 in
theorem m_show13_2 (np : Nat) (mem : jMem) (p : Nat) (hn : np ≤ 12) (hp : mem 66 9 = nI np) (hp2 : p < np) : jPi yX11_show cX11_show 5 .int 4 [.ref 66, .int (nI p), .int 13, .int 2] np mem (fun v c => v = (mem 74 (9 * p + 7)) ∧ jeq [76] (jup mem 66 0 0) c) := by
  refine jPi.of (own := RX11) rfl rfl (Nat.le_of_ble_eq_true rfl) (fun G X hR hr hE => ?_)
  refine j_aload_n X dX11_show_0 rfl ?_
  refine j_iconst X dX11_show_1 0 (by decide) ?_
  refine j_putI X 11 0 (by decide) (by decide) rfl rfl rfl rfl u950 (o66 np) (k66 np) dX11_show_2 ?_
  refine j_aload_n X dX11_show_5 rfl ?_
  refine j_iload_n X dX11_show_6 rfl ?_
  refine s_callVi X hR (m_isPaper np _ _ hn hp) rfl 11 (by decide) (o66 np) (k66 np) rfl u1151 u1148 u1150 qp39 u12 hyX11_isPaper (by decide) (by decide) (Nat.le_of_ble_eq_true rfl) dX11_show_7 (fun v_7 m_7 h_7 => ?_)
  obtain ⟨e1, e2⟩ := h_7; have e1 := e1.symm; have e2 := e2.symm; subst e1; subst e2
  refine j_ifb_eq X 30 dX11_show_10 (by decide) (fun c_10 => ?_) (fun c_10 => ?_)
  · exfalso
    clear hE hr hR X
    have e1 : (-1 : Int32).toInt = -1 := by decide
    (try simp only [lg_cmp_lt, lg_cmp_gt, lg_cmp_le, lg_cmp_ge] at *); (try simp (disch := omega) only [Int64.le_iff_toInt_le, Int64.lt_iff_toInt_lt, Int32.le_iff_toInt_le, Int32.lt_iff_toInt_lt, fa_eq, fa_lit, fa_litL, nI_toInt, pk_lT, Int32.toInt_toInt64, jadd64, jin, jnoneT] at *); omega
  · refine j_iload_n X dX11_show_13 rfl ?_
    refine j_i2l X dX11_show_14 ?_
    refine j_lconst X dX11_show_15 0 (by decide) ?_
    refine j_ldc2 X dX11_show_16 u1152 ?_
    refine s_callSi X hR (m_inI np _ _ _ _ 0 15 rfl rfl) rfl u1087 u1085 u1086 u12 hyX11_in (by decide) (by decide) (Nat.le_of_ble_eq_true rfl) dX11_show_19 (fun v_19 m_19 h_19 => ?_)
    obtain ⟨e1, e2⟩ := h_19; have e1 := e1.symm; have e2 := e2.symm; subst e1; subst e2
    refine j_ifb_eq X 30 dX11_show_22 (by decide) (fun c_22 => ?_) (fun c_22 => ?_)
    · exfalso
      clear hE hr hR X
      have e1 : (-1 : Int32).toInt = -1 := by decide
      (try simp only [lg_cmp_lt, lg_cmp_gt, lg_cmp_le, lg_cmp_ge] at *); (try simp (disch := omega) only [Int64.le_iff_toInt_le, Int64.lt_iff_toInt_lt, Int32.le_iff_toInt_le, Int32.lt_iff_toInt_lt, fa_eq, fa_lit, fa_litL, nI_toInt, pk_lT, Int32.toInt_toInt64, jadd64, jin, jnoneT] at *); omega
    · refine j_iload_n X dX11_show_25 rfl ?_
      refine j_iconst X dX11_show_26 (-1) (by decide) ?_
      refine j_icmp_ge X 33 dX11_show_27 (by decide) (fun c_27 => ?_) (fun c_27 => absurd c_27 (by decide))
      refine j_aload_n X dX11_show_33 rfl ?_
      refine j_iload_n X dX11_show_34 rfl ?_
      refine j_iload_n X dX11_show_35 rfl ?_
      refine s_callVi X hR (m_showAll13 np _ _ (by omega)) rfl 11 (by decide) (o66 np) (k66 np) rfl u1198 u1195 u1197 qp46 u12 hyX11_showAll (by decide) (by decide) (Nat.le_of_ble_eq_true rfl) dX11_show_36 (fun v_36 m_36 h_36 => ?_)
      obtain ⟨e1, e2⟩ := h_36; have e1 := e1.symm; have e2 := e2.symm; subst e1; subst e2
      refine j_istore X dX11_show_39 (by decide) ?_
      refine j_iload_n X dX11_show_41 rfl ?_
      refine j_iconst X dX11_show_42 (-1) (by decide) ?_
      refine j_icmp_ne X 51 dX11_show_43 (by decide) (fun c_43 => ?_) (fun c_43 => absurd c_43 (by decide))
      refine j_iload_n X dX11_show_51 rfl ?_
      refine j_iload X dX11_show_52 rfl ?_
      refine j_icmp_ge X 66 dX11_show_54 (by decide) (fun c_54 => absurd c_54 (by decide)) (fun c_54 => ?_)
      refine j_aload_n X dX11_show_57 rfl ?_
      refine j_getR X 11 12 (by decide) (by decide) rfl u962 (o66 np) (k66 np) _ (p66_12 np) dX11_show_58 ?_
      refine j_iload_n X dX11_show_61 rfl ?_
      refine j_nrm _ (by first | (simp only [fa_lit, pk_mul, nI_add]; done) | (simp only [fa_lit, pk_mul, nI_add]; rfl) | rfl) ?_
      refine j_ialdN X (o76 np) (k76 np) (n := 2) (by rw [l76]; decide) (by rw [l76]; decide) _ rfl dX11_show_62 ?_
      refine j_goto X 68 dX11_show_63 (by decide) ?_
      refine s_iret X hE hr dX11_show_68 rfl ?_
      exact ⟨rfl, by repeat (first | exact jeq.rf | refine jeq.up ?_ (by decide))⟩
set_option maxRecDepth 4000 in
set_option maxHeartbeats 1000000 in
theorem m_show13_3 (np : Nat) (mem : jMem) (p : Nat) (hn : np ≤ 12) (hp : mem 66 9 = nI np) (hp2 : p < np) : jPi yX11_show cX11_show 5 .int 4 [.ref 66, .int (nI p), .int 13, .int 3] np mem (fun v c => v = (mem 74 (9 * p + 8)) ∧ jeq [76] (jup mem 66 0 0) c) := by
  refine jPi.of (own := RX11) rfl rfl (Nat.le_of_ble_eq_true rfl) (fun G X hR hr hE => ?_)
  refine j_aload_n X dX11_show_0 rfl ?_
  refine j_iconst X dX11_show_1 0 (by decide) ?_
  refine j_putI X 11 0 (by decide) (by decide) rfl rfl rfl rfl u950 (o66 np) (k66 np) dX11_show_2 ?_
  refine j_aload_n X dX11_show_5 rfl ?_
  refine j_iload_n X dX11_show_6 rfl ?_
  refine s_callVi X hR (m_isPaper np _ _ hn hp) rfl 11 (by decide) (o66 np) (k66 np) rfl u1151 u1148 u1150 qp39 u12 hyX11_isPaper (by decide) (by decide) (Nat.le_of_ble_eq_true rfl) dX11_show_7 (fun v_7 m_7 h_7 => ?_)
  obtain ⟨e1, e2⟩ := h_7; have e1 := e1.symm; have e2 := e2.symm; subst e1; subst e2
  refine j_ifb_eq X 30 dX11_show_10 (by decide) (fun c_10 => ?_) (fun c_10 => ?_)
  · exfalso
    clear hE hr hR X
    have e1 : (-1 : Int32).toInt = -1 := by decide
    (try simp only [lg_cmp_lt, lg_cmp_gt, lg_cmp_le, lg_cmp_ge] at *); (try simp (disch := omega) only [Int64.le_iff_toInt_le, Int64.lt_iff_toInt_lt, Int32.le_iff_toInt_le, Int32.lt_iff_toInt_lt, fa_eq, fa_lit, fa_litL, nI_toInt, pk_lT, Int32.toInt_toInt64, jadd64, jin, jnoneT] at *); omega
  · refine j_iload_n X dX11_show_13 rfl ?_
    refine j_i2l X dX11_show_14 ?_
    refine j_lconst X dX11_show_15 0 (by decide) ?_
    refine j_ldc2 X dX11_show_16 u1152 ?_
    refine s_callSi X hR (m_inI np _ _ _ _ 0 15 rfl rfl) rfl u1087 u1085 u1086 u12 hyX11_in (by decide) (by decide) (Nat.le_of_ble_eq_true rfl) dX11_show_19 (fun v_19 m_19 h_19 => ?_)
    obtain ⟨e1, e2⟩ := h_19; have e1 := e1.symm; have e2 := e2.symm; subst e1; subst e2
    refine j_ifb_eq X 30 dX11_show_22 (by decide) (fun c_22 => ?_) (fun c_22 => ?_)
    · exfalso
      clear hE hr hR X
      have e1 : (-1 : Int32).toInt = -1 := by decide
      (try simp only [lg_cmp_lt, lg_cmp_gt, lg_cmp_le, lg_cmp_ge] at *); (try simp (disch := omega) only [Int64.le_iff_toInt_le, Int64.lt_iff_toInt_lt, Int32.le_iff_toInt_le, Int32.lt_iff_toInt_lt, fa_eq, fa_lit, fa_litL, nI_toInt, pk_lT, Int32.toInt_toInt64, jadd64, jin, jnoneT] at *); omega
    · refine j_iload_n X dX11_show_25 rfl ?_
      refine j_iconst X dX11_show_26 (-1) (by decide) ?_
      refine j_icmp_ge X 33 dX11_show_27 (by decide) (fun c_27 => ?_) (fun c_27 => absurd c_27 (by decide))
      refine j_aload_n X dX11_show_33 rfl ?_
      refine j_iload_n X dX11_show_34 rfl ?_
      refine j_iload_n X dX11_show_35 rfl ?_
      refine s_callVi X hR (m_showAll13 np _ _ (by omega)) rfl 11 (by decide) (o66 np) (k66 np) rfl u1198 u1195 u1197 qp46 u12 hyX11_showAll (by decide) (by decide) (Nat.le_of_ble_eq_true rfl) dX11_show_36 (fun v_36 m_36 h_36 => ?_)
      obtain ⟨e1, e2⟩ := h_36; have e1 := e1.symm; have e2 := e2.symm; subst e1; subst e2
      refine j_istore X dX11_show_39 (by decide) ?_
      refine j_iload_n X dX11_show_41 rfl ?_
      refine j_iconst X dX11_show_42 (-1) (by decide) ?_
      refine j_icmp_ne X 51 dX11_show_43 (by decide) (fun c_43 => ?_) (fun c_43 => absurd c_43 (by decide))
      refine j_iload_n X dX11_show_51 rfl ?_
      refine j_iload X dX11_show_52 rfl ?_
      refine j_icmp_ge X 66 dX11_show_54 (by decide) (fun c_54 => absurd c_54 (by decide)) (fun c_54 => ?_)
      refine j_aload_n X dX11_show_57 rfl ?_
      refine j_getR X 11 12 (by decide) (by decide) rfl u962 (o66 np) (k66 np) _ (p66_12 np) dX11_show_58 ?_
      refine j_iload_n X dX11_show_61 rfl ?_
      refine j_nrm _ (by first | (simp only [fa_lit, pk_mul, nI_add]; done) | (simp only [fa_lit, pk_mul, nI_add]; rfl) | rfl) ?_
      refine j_ialdN X (o76 np) (k76 np) (n := 3) (by rw [l76]; decide) (by rw [l76]; decide) _ rfl dX11_show_62 ?_
      refine j_goto X 68 dX11_show_63 (by decide) ?_
      refine s_iret X hE hr dX11_show_68 rfl ?_
      exact ⟨rfl, by repeat (first | exact jeq.rf | refine jeq.up ?_ (by decide))⟩
set_option maxRecDepth 4000 in
set_option maxHeartbeats 1000000 in
theorem m_show14_n (np : Nat) (mem : jMem) (p : Nat) (hn : np ≤ 12) (hp : mem 66 9 = nI np) (hp2 : p < np) : jPi yX11_show cX11_show 5 .int 4 [.ref 66, .int (nI p), .int 14, .int (-1)] np mem (fun v c => v = 4 ∧ jeq [76] (jup mem 66 0 0) c) := by
  refine jPi.of (own := RX11) rfl rfl (Nat.le_of_ble_eq_true rfl) (fun G X hR hr hE => ?_)
  refine j_aload_n X dX11_show_0 rfl ?_
  refine j_iconst X dX11_show_1 0 (by decide) ?_
  refine j_putI X 11 0 (by decide) (by decide) rfl rfl rfl rfl u950 (o66 np) (k66 np) dX11_show_2 ?_
  refine j_aload_n X dX11_show_5 rfl ?_
  refine j_iload_n X dX11_show_6 rfl ?_
  refine s_callVi X hR (m_isPaper np _ _ hn hp) rfl 11 (by decide) (o66 np) (k66 np) rfl u1151 u1148 u1150 qp39 u12 hyX11_isPaper (by decide) (by decide) (Nat.le_of_ble_eq_true rfl) dX11_show_7 (fun v_7 m_7 h_7 => ?_)
  obtain ⟨e1, e2⟩ := h_7; have e1 := e1.symm; have e2 := e2.symm; subst e1; subst e2
  refine j_ifb_eq X 30 dX11_show_10 (by decide) (fun c_10 => ?_) (fun c_10 => ?_)
  · exfalso
    clear hE hr hR X
    have e1 : (-1 : Int32).toInt = -1 := by decide
    (try simp only [lg_cmp_lt, lg_cmp_gt, lg_cmp_le, lg_cmp_ge] at *); (try simp (disch := omega) only [Int64.le_iff_toInt_le, Int64.lt_iff_toInt_lt, Int32.le_iff_toInt_le, Int32.lt_iff_toInt_lt, fa_eq, fa_lit, fa_litL, nI_toInt, pk_lT, Int32.toInt_toInt64, jadd64, jin, jnoneT] at *); omega
  · refine j_iload_n X dX11_show_13 rfl ?_
    refine j_i2l X dX11_show_14 ?_
    refine j_lconst X dX11_show_15 0 (by decide) ?_
    refine j_ldc2 X dX11_show_16 u1152 ?_
    refine s_callSi X hR (m_inI np _ _ _ _ 0 15 rfl rfl) rfl u1087 u1085 u1086 u12 hyX11_in (by decide) (by decide) (Nat.le_of_ble_eq_true rfl) dX11_show_19 (fun v_19 m_19 h_19 => ?_)
    obtain ⟨e1, e2⟩ := h_19; have e1 := e1.symm; have e2 := e2.symm; subst e1; subst e2
    refine j_ifb_eq X 30 dX11_show_22 (by decide) (fun c_22 => ?_) (fun c_22 => ?_)
    · exfalso
      clear hE hr hR X
      have e1 : (-1 : Int32).toInt = -1 := by decide
      (try simp only [lg_cmp_lt, lg_cmp_gt, lg_cmp_le, lg_cmp_ge] at *); (try simp (disch := omega) only [Int64.le_iff_toInt_le, Int64.lt_iff_toInt_lt, Int32.le_iff_toInt_le, Int32.lt_iff_toInt_lt, fa_eq, fa_lit, fa_litL, nI_toInt, pk_lT, Int32.toInt_toInt64, jadd64, jin, jnoneT] at *); omega
    · refine j_iload_n X dX11_show_25 rfl ?_
      refine j_iconst X dX11_show_26 (-1) (by decide) ?_
      refine j_icmp_ge X 33 dX11_show_27 (by decide) (fun c_27 => ?_) (fun c_27 => absurd c_27 (by decide))
      refine j_aload_n X dX11_show_33 rfl ?_
      refine j_iload_n X dX11_show_34 rfl ?_
      refine j_iload_n X dX11_show_35 rfl ?_
      refine s_callVi X hR (m_showAll14 np _ _ (by omega)) rfl 11 (by decide) (o66 np) (k66 np) rfl u1198 u1195 u1197 qp46 u12 hyX11_showAll (by decide) (by decide) (Nat.le_of_ble_eq_true rfl) dX11_show_36 (fun v_36 m_36 h_36 => ?_)
      obtain ⟨e1, e2⟩ := h_36; have e1 := e1.symm; have e2 := e2.symm; subst e1; subst e2
      refine j_istore X dX11_show_39 (by decide) ?_
      refine j_iload_n X dX11_show_41 rfl ?_
      refine j_iconst X dX11_show_42 (-1) (by decide) ?_
      refine j_icmp_ne X 51 dX11_show_43 (by decide) (fun c_43 => absurd c_43 (by decide)) (fun c_43 => ?_)
      refine j_iload X dX11_show_46 rfl ?_
      refine j_goto X 68 dX11_show_48 (by decide) ?_
      refine s_iret X hE hr dX11_show_68 rfl ?_
      exact ⟨rfl, by repeat (first | exact jeq.rf | refine jeq.up ?_ (by decide))⟩
set_option maxRecDepth 4000 in
set_option maxHeartbeats 1000000 in
theorem m_show14_none (np : Nat) (mem : jMem) (p : Nat) (i : Int32) (hn : np ≤ 12) (hp : mem 66 9 = nI np) (hp2 : p < np) (hi : 4 ≤ i.toInt) : jPi yX11_show cX11_show 5 .int 4 [.ref 66, .int (nI p), .int 14, .int i] np mem (fun v c => v = -1000000 ∧ jeq [76] (jup mem 66 0 0) c) := by
  refine jPi.of (own := RX11) rfl rfl (Nat.le_of_ble_eq_true rfl) (fun G X hR hr hE => ?_)
  refine j_aload_n X dX11_show_0 rfl ?_
  refine j_iconst X dX11_show_1 0 (by decide) ?_
  refine j_putI X 11 0 (by decide) (by decide) rfl rfl rfl rfl u950 (o66 np) (k66 np) dX11_show_2 ?_
  refine j_aload_n X dX11_show_5 rfl ?_
  refine j_iload_n X dX11_show_6 rfl ?_
  refine s_callVi X hR (m_isPaper np _ _ hn hp) rfl 11 (by decide) (o66 np) (k66 np) rfl u1151 u1148 u1150 qp39 u12 hyX11_isPaper (by decide) (by decide) (Nat.le_of_ble_eq_true rfl) dX11_show_7 (fun v_7 m_7 h_7 => ?_)
  obtain ⟨e1, e2⟩ := h_7; have e1 := e1.symm; have e2 := e2.symm; subst e1; subst e2
  refine j_ifb_eq X 30 dX11_show_10 (by decide) (fun c_10 => ?_) (fun c_10 => ?_)
  · exfalso
    clear hE hr hR X
    have e1 : (-1 : Int32).toInt = -1 := by decide
    (try simp only [lg_cmp_lt, lg_cmp_gt, lg_cmp_le, lg_cmp_ge] at *); (try simp (disch := omega) only [Int64.le_iff_toInt_le, Int64.lt_iff_toInt_lt, Int32.le_iff_toInt_le, Int32.lt_iff_toInt_lt, fa_eq, fa_lit, fa_litL, nI_toInt, pk_lT, Int32.toInt_toInt64, jadd64, jin, jnoneT] at *); omega
  · refine j_iload_n X dX11_show_13 rfl ?_
    refine j_i2l X dX11_show_14 ?_
    refine j_lconst X dX11_show_15 0 (by decide) ?_
    refine j_ldc2 X dX11_show_16 u1152 ?_
    refine s_callSi X hR (m_inI np _ _ _ _ 0 15 rfl rfl) rfl u1087 u1085 u1086 u12 hyX11_in (by decide) (by decide) (Nat.le_of_ble_eq_true rfl) dX11_show_19 (fun v_19 m_19 h_19 => ?_)
    obtain ⟨e1, e2⟩ := h_19; have e1 := e1.symm; have e2 := e2.symm; subst e1; subst e2
    refine j_ifb_eq X 30 dX11_show_22 (by decide) (fun c_22 => ?_) (fun c_22 => ?_)
    · exfalso
      clear hE hr hR X
      have e1 : (-1 : Int32).toInt = -1 := by decide
      (try simp only [lg_cmp_lt, lg_cmp_gt, lg_cmp_le, lg_cmp_ge] at *); (try simp (disch := omega) only [Int64.le_iff_toInt_le, Int64.lt_iff_toInt_lt, Int32.le_iff_toInt_le, Int32.lt_iff_toInt_lt, fa_eq, fa_lit, fa_litL, nI_toInt, pk_lT, Int32.toInt_toInt64, jadd64, jin, jnoneT] at *); omega
    · refine j_iload_n X dX11_show_25 rfl ?_
      refine j_iconst X dX11_show_26 (-1) (by decide) ?_
      refine j_icmp_ge X 33 dX11_show_27 (by decide) (fun c_27 => ?_) (fun c_27 => ?_)
      · refine j_aload_n X dX11_show_33 rfl ?_
        refine j_iload_n X dX11_show_34 rfl ?_
        refine j_iload_n X dX11_show_35 rfl ?_
        refine s_callVi X hR (m_showAll14 np _ _ (by omega)) rfl 11 (by decide) (o66 np) (k66 np) rfl u1198 u1195 u1197 qp46 u12 hyX11_showAll (by decide) (by decide) (Nat.le_of_ble_eq_true rfl) dX11_show_36 (fun v_36 m_36 h_36 => ?_)
        obtain ⟨e1, e2⟩ := h_36; have e1 := e1.symm; have e2 := e2.symm; subst e1; subst e2
        refine j_istore X dX11_show_39 (by decide) ?_
        refine j_iload_n X dX11_show_41 rfl ?_
        refine j_iconst X dX11_show_42 (-1) (by decide) ?_
        refine j_icmp_ne X 51 dX11_show_43 (by decide) (fun c_43 => ?_) (fun c_43 => ?_)
        · refine j_iload_n X dX11_show_51 rfl ?_
          refine j_iload X dX11_show_52 rfl ?_
          refine j_icmp_ge X 66 dX11_show_54 (by decide) (fun c_54 => ?_) (fun c_54 => ?_)
          · refine j_ldc X dX11_show_66 u949 ?_
            refine s_iret X hE hr dX11_show_68 rfl ?_
            exact ⟨rfl, by repeat (first | exact jeq.rf | refine jeq.up ?_ (by decide))⟩
          · exfalso
            clear hE hr hR X
            have e1 : (-1 : Int32).toInt = -1 := by decide
            (try simp only [lg_cmp_lt, lg_cmp_gt, lg_cmp_le, lg_cmp_ge] at *); (try simp (disch := omega) only [Int64.le_iff_toInt_le, Int64.lt_iff_toInt_lt, Int32.le_iff_toInt_le, Int32.lt_iff_toInt_lt, fa_eq, fa_lit, fa_litL, nI_toInt, pk_lT, Int32.toInt_toInt64, jadd64, jin, jnoneT] at *); omega
        · exfalso
          clear hE hr hR X
          have e1 : (-1 : Int32).toInt = -1 := by decide
          (try simp only [lg_cmp_lt, lg_cmp_gt, lg_cmp_le, lg_cmp_ge] at *); (try simp (disch := omega) only [Int64.le_iff_toInt_le, Int64.lt_iff_toInt_lt, Int32.le_iff_toInt_le, Int32.lt_iff_toInt_lt, fa_eq, fa_lit, fa_litL, nI_toInt, pk_lT, Int32.toInt_toInt64, jadd64, jin, jnoneT] at *); omega
      · exfalso
        clear hE hr hR X
        have e1 : (-1 : Int32).toInt = -1 := by decide
        (try simp only [lg_cmp_lt, lg_cmp_gt, lg_cmp_le, lg_cmp_ge] at *); (try simp (disch := omega) only [Int64.le_iff_toInt_le, Int64.lt_iff_toInt_lt, Int32.le_iff_toInt_le, Int32.lt_iff_toInt_lt, fa_eq, fa_lit, fa_litL, nI_toInt, pk_lT, Int32.toInt_toInt64, jadd64, jin, jnoneT] at *); omega
set_option maxRecDepth 4000 in
set_option maxHeartbeats 1000000 in
theorem m_show14_0 (np : Nat) (mem : jMem) (p : Nat) (hn : np ≤ 12) (hp : mem 66 9 = nI np) (hp2 : p < np) : jPi yX11_show cX11_show 5 .int 4 [.ref 66, .int (nI p), .int 14, .int 0] np mem (fun v c => v = (jLeaf (nI p) 0 (mem 74 (9 * p + 5))) ∧ jeq [76] (jup mem 66 0 0) c) := by
  refine jPi.of (own := RX11) rfl rfl (Nat.le_of_ble_eq_true rfl) (fun G X hR hr hE => ?_)
  refine j_aload_n X dX11_show_0 rfl ?_
  refine j_iconst X dX11_show_1 0 (by decide) ?_
  refine j_putI X 11 0 (by decide) (by decide) rfl rfl rfl rfl u950 (o66 np) (k66 np) dX11_show_2 ?_
  refine j_aload_n X dX11_show_5 rfl ?_
  refine j_iload_n X dX11_show_6 rfl ?_
  refine s_callVi X hR (m_isPaper np _ _ hn hp) rfl 11 (by decide) (o66 np) (k66 np) rfl u1151 u1148 u1150 qp39 u12 hyX11_isPaper (by decide) (by decide) (Nat.le_of_ble_eq_true rfl) dX11_show_7 (fun v_7 m_7 h_7 => ?_)
  obtain ⟨e1, e2⟩ := h_7; have e1 := e1.symm; have e2 := e2.symm; subst e1; subst e2
  refine j_ifb_eq X 30 dX11_show_10 (by decide) (fun c_10 => ?_) (fun c_10 => ?_)
  · exfalso
    clear hE hr hR X
    have e1 : (-1 : Int32).toInt = -1 := by decide
    (try simp only [lg_cmp_lt, lg_cmp_gt, lg_cmp_le, lg_cmp_ge] at *); (try simp (disch := omega) only [Int64.le_iff_toInt_le, Int64.lt_iff_toInt_lt, Int32.le_iff_toInt_le, Int32.lt_iff_toInt_lt, fa_eq, fa_lit, fa_litL, nI_toInt, pk_lT, Int32.toInt_toInt64, jadd64, jin, jnoneT] at *); omega
  · refine j_iload_n X dX11_show_13 rfl ?_
    refine j_i2l X dX11_show_14 ?_
    refine j_lconst X dX11_show_15 0 (by decide) ?_
    refine j_ldc2 X dX11_show_16 u1152 ?_
    refine s_callSi X hR (m_inI np _ _ _ _ 0 15 rfl rfl) rfl u1087 u1085 u1086 u12 hyX11_in (by decide) (by decide) (Nat.le_of_ble_eq_true rfl) dX11_show_19 (fun v_19 m_19 h_19 => ?_)
    obtain ⟨e1, e2⟩ := h_19; have e1 := e1.symm; have e2 := e2.symm; subst e1; subst e2
    refine j_ifb_eq X 30 dX11_show_22 (by decide) (fun c_22 => ?_) (fun c_22 => ?_)
    · exfalso
      clear hE hr hR X
      have e1 : (-1 : Int32).toInt = -1 := by decide
      (try simp only [lg_cmp_lt, lg_cmp_gt, lg_cmp_le, lg_cmp_ge] at *); (try simp (disch := omega) only [Int64.le_iff_toInt_le, Int64.lt_iff_toInt_lt, Int32.le_iff_toInt_le, Int32.lt_iff_toInt_lt, fa_eq, fa_lit, fa_litL, nI_toInt, pk_lT, Int32.toInt_toInt64, jadd64, jin, jnoneT] at *); omega
    · refine j_iload_n X dX11_show_25 rfl ?_
      refine j_iconst X dX11_show_26 (-1) (by decide) ?_
      refine j_icmp_ge X 33 dX11_show_27 (by decide) (fun c_27 => ?_) (fun c_27 => absurd c_27 (by decide))
      refine j_aload_n X dX11_show_33 rfl ?_
      refine j_iload_n X dX11_show_34 rfl ?_
      refine j_iload_n X dX11_show_35 rfl ?_
      refine s_callVi X hR (m_showAll14 np _ _ (by omega)) rfl 11 (by decide) (o66 np) (k66 np) rfl u1198 u1195 u1197 qp46 u12 hyX11_showAll (by decide) (by decide) (Nat.le_of_ble_eq_true rfl) dX11_show_36 (fun v_36 m_36 h_36 => ?_)
      obtain ⟨e1, e2⟩ := h_36; have e1 := e1.symm; have e2 := e2.symm; subst e1; subst e2
      refine j_istore X dX11_show_39 (by decide) ?_
      refine j_iload_n X dX11_show_41 rfl ?_
      refine j_iconst X dX11_show_42 (-1) (by decide) ?_
      refine j_icmp_ne X 51 dX11_show_43 (by decide) (fun c_43 => ?_) (fun c_43 => absurd c_43 (by decide))
      refine j_iload_n X dX11_show_51 rfl ?_
      refine j_iload X dX11_show_52 rfl ?_
      refine j_icmp_ge X 66 dX11_show_54 (by decide) (fun c_54 => absurd c_54 (by decide)) (fun c_54 => ?_)
      refine j_aload_n X dX11_show_57 rfl ?_
      refine j_getR X 11 12 (by decide) (by decide) rfl u962 (o66 np) (k66 np) _ (p66_12 np) dX11_show_58 ?_
      refine j_iload_n X dX11_show_61 rfl ?_
      refine j_nrm _ (by first | (simp only [fa_lit, pk_mul, nI_add]; done) | (simp only [fa_lit, pk_mul, nI_add]; rfl) | rfl) ?_
      refine j_ialdN X (o76 np) (k76 np) (n := 0) (by rw [l76]; decide) (by rw [l76]; decide) _ rfl dX11_show_62 ?_
      refine j_goto X 68 dX11_show_63 (by decide) ?_
      refine s_iret X hE hr dX11_show_68 rfl ?_
      exact ⟨rfl, by repeat (first | exact jeq.rf | refine jeq.up ?_ (by decide))⟩
set_option maxRecDepth 4000 in
set_option maxHeartbeats 1000000 in
theorem m_show14_1 (np : Nat) (mem : jMem) (p : Nat) (hn : np ≤ 12) (hp : mem 66 9 = nI np) (hp2 : p < np) : jPi yX11_show cX11_show 5 .int 4 [.ref 66, .int (nI p), .int 14, .int 1] np mem (fun v c => v = (mem 74 (9 * p + 6)) ∧ jeq [76] (jup mem 66 0 0) c) := by
  refine jPi.of (own := RX11) rfl rfl (Nat.le_of_ble_eq_true rfl) (fun G X hR hr hE => ?_)
  refine j_aload_n X dX11_show_0 rfl ?_
  refine j_iconst X dX11_show_1 0 (by decide) ?_
  refine j_putI X 11 0 (by decide) (by decide) rfl rfl rfl rfl u950 (o66 np) (k66 np) dX11_show_2 ?_
  refine j_aload_n X dX11_show_5 rfl ?_
  refine j_iload_n X dX11_show_6 rfl ?_
  refine s_callVi X hR (m_isPaper np _ _ hn hp) rfl 11 (by decide) (o66 np) (k66 np) rfl u1151 u1148 u1150 qp39 u12 hyX11_isPaper (by decide) (by decide) (Nat.le_of_ble_eq_true rfl) dX11_show_7 (fun v_7 m_7 h_7 => ?_)
  obtain ⟨e1, e2⟩ := h_7; have e1 := e1.symm; have e2 := e2.symm; subst e1; subst e2
  refine j_ifb_eq X 30 dX11_show_10 (by decide) (fun c_10 => ?_) (fun c_10 => ?_)
  · exfalso
    clear hE hr hR X
    have e1 : (-1 : Int32).toInt = -1 := by decide
    (try simp only [lg_cmp_lt, lg_cmp_gt, lg_cmp_le, lg_cmp_ge] at *); (try simp (disch := omega) only [Int64.le_iff_toInt_le, Int64.lt_iff_toInt_lt, Int32.le_iff_toInt_le, Int32.lt_iff_toInt_lt, fa_eq, fa_lit, fa_litL, nI_toInt, pk_lT, Int32.toInt_toInt64, jadd64, jin, jnoneT] at *); omega
  · refine j_iload_n X dX11_show_13 rfl ?_
    refine j_i2l X dX11_show_14 ?_
    refine j_lconst X dX11_show_15 0 (by decide) ?_
    refine j_ldc2 X dX11_show_16 u1152 ?_
    refine s_callSi X hR (m_inI np _ _ _ _ 0 15 rfl rfl) rfl u1087 u1085 u1086 u12 hyX11_in (by decide) (by decide) (Nat.le_of_ble_eq_true rfl) dX11_show_19 (fun v_19 m_19 h_19 => ?_)
    obtain ⟨e1, e2⟩ := h_19; have e1 := e1.symm; have e2 := e2.symm; subst e1; subst e2
    refine j_ifb_eq X 30 dX11_show_22 (by decide) (fun c_22 => ?_) (fun c_22 => ?_)
    · exfalso
      clear hE hr hR X
      have e1 : (-1 : Int32).toInt = -1 := by decide
      (try simp only [lg_cmp_lt, lg_cmp_gt, lg_cmp_le, lg_cmp_ge] at *); (try simp (disch := omega) only [Int64.le_iff_toInt_le, Int64.lt_iff_toInt_lt, Int32.le_iff_toInt_le, Int32.lt_iff_toInt_lt, fa_eq, fa_lit, fa_litL, nI_toInt, pk_lT, Int32.toInt_toInt64, jadd64, jin, jnoneT] at *); omega
    · refine j_iload_n X dX11_show_25 rfl ?_
      refine j_iconst X dX11_show_26 (-1) (by decide) ?_
      refine j_icmp_ge X 33 dX11_show_27 (by decide) (fun c_27 => ?_) (fun c_27 => absurd c_27 (by decide))
      refine j_aload_n X dX11_show_33 rfl ?_
      refine j_iload_n X dX11_show_34 rfl ?_
      refine j_iload_n X dX11_show_35 rfl ?_
      refine s_callVi X hR (m_showAll14 np _ _ (by omega)) rfl 11 (by decide) (o66 np) (k66 np) rfl u1198 u1195 u1197 qp46 u12 hyX11_showAll (by decide) (by decide) (Nat.le_of_ble_eq_true rfl) dX11_show_36 (fun v_36 m_36 h_36 => ?_)
      obtain ⟨e1, e2⟩ := h_36; have e1 := e1.symm; have e2 := e2.symm; subst e1; subst e2
      refine j_istore X dX11_show_39 (by decide) ?_
      refine j_iload_n X dX11_show_41 rfl ?_
      refine j_iconst X dX11_show_42 (-1) (by decide) ?_
      refine j_icmp_ne X 51 dX11_show_43 (by decide) (fun c_43 => ?_) (fun c_43 => absurd c_43 (by decide))
      refine j_iload_n X dX11_show_51 rfl ?_
      refine j_iload X dX11_show_52 rfl ?_
      refine j_icmp_ge X 66 dX11_show_54 (by decide) (fun c_54 => absurd c_54 (by decide)) (fun c_54 => ?_)
      refine j_aload_n X dX11_show_57 rfl ?_
      refine j_getR X 11 12 (by decide) (by decide) rfl u962 (o66 np) (k66 np) _ (p66_12 np) dX11_show_58 ?_
      refine j_iload_n X dX11_show_61 rfl ?_
      refine j_nrm _ (by first | (simp only [fa_lit, pk_mul, nI_add]; done) | (simp only [fa_lit, pk_mul, nI_add]; rfl) | rfl) ?_
      refine j_ialdN X (o76 np) (k76 np) (n := 1) (by rw [l76]; decide) (by rw [l76]; decide) _ rfl dX11_show_62 ?_
      refine j_goto X 68 dX11_show_63 (by decide) ?_
      refine s_iret X hE hr dX11_show_68 rfl ?_
      exact ⟨rfl, by repeat (first | exact jeq.rf | refine jeq.up ?_ (by decide))⟩
set_option maxRecDepth 4000 in
set_option maxHeartbeats 1000000 in
theorem m_show14_2 (np : Nat) (mem : jMem) (p : Nat) (hn : np ≤ 12) (hp : mem 66 9 = nI np) (hp2 : p < np) : jPi yX11_show cX11_show 5 .int 4 [.ref 66, .int (nI p), .int 14, .int 2] np mem (fun v c => v = (mem 74 (9 * p + 7)) ∧ jeq [76] (jup mem 66 0 0) c) := by
  refine jPi.of (own := RX11) rfl rfl (Nat.le_of_ble_eq_true rfl) (fun G X hR hr hE => ?_)
  refine j_aload_n X dX11_show_0 rfl ?_
  refine j_iconst X dX11_show_1 0 (by decide) ?_
  refine j_putI X 11 0 (by decide) (by decide) rfl rfl rfl rfl u950 (o66 np) (k66 np) dX11_show_2 ?_
  refine j_aload_n X dX11_show_5 rfl ?_
  refine j_iload_n X dX11_show_6 rfl ?_
  refine s_callVi X hR (m_isPaper np _ _ hn hp) rfl 11 (by decide) (o66 np) (k66 np) rfl u1151 u1148 u1150 qp39 u12 hyX11_isPaper (by decide) (by decide) (Nat.le_of_ble_eq_true rfl) dX11_show_7 (fun v_7 m_7 h_7 => ?_)
  obtain ⟨e1, e2⟩ := h_7; have e1 := e1.symm; have e2 := e2.symm; subst e1; subst e2
  refine j_ifb_eq X 30 dX11_show_10 (by decide) (fun c_10 => ?_) (fun c_10 => ?_)
  · exfalso
    clear hE hr hR X
    have e1 : (-1 : Int32).toInt = -1 := by decide
    (try simp only [lg_cmp_lt, lg_cmp_gt, lg_cmp_le, lg_cmp_ge] at *); (try simp (disch := omega) only [Int64.le_iff_toInt_le, Int64.lt_iff_toInt_lt, Int32.le_iff_toInt_le, Int32.lt_iff_toInt_lt, fa_eq, fa_lit, fa_litL, nI_toInt, pk_lT, Int32.toInt_toInt64, jadd64, jin, jnoneT] at *); omega
  · refine j_iload_n X dX11_show_13 rfl ?_
    refine j_i2l X dX11_show_14 ?_
    refine j_lconst X dX11_show_15 0 (by decide) ?_
    refine j_ldc2 X dX11_show_16 u1152 ?_
    refine s_callSi X hR (m_inI np _ _ _ _ 0 15 rfl rfl) rfl u1087 u1085 u1086 u12 hyX11_in (by decide) (by decide) (Nat.le_of_ble_eq_true rfl) dX11_show_19 (fun v_19 m_19 h_19 => ?_)
    obtain ⟨e1, e2⟩ := h_19; have e1 := e1.symm; have e2 := e2.symm; subst e1; subst e2
    refine j_ifb_eq X 30 dX11_show_22 (by decide) (fun c_22 => ?_) (fun c_22 => ?_)
    · exfalso
      clear hE hr hR X
      have e1 : (-1 : Int32).toInt = -1 := by decide
      (try simp only [lg_cmp_lt, lg_cmp_gt, lg_cmp_le, lg_cmp_ge] at *); (try simp (disch := omega) only [Int64.le_iff_toInt_le, Int64.lt_iff_toInt_lt, Int32.le_iff_toInt_le, Int32.lt_iff_toInt_lt, fa_eq, fa_lit, fa_litL, nI_toInt, pk_lT, Int32.toInt_toInt64, jadd64, jin, jnoneT] at *); omega
    · refine j_iload_n X dX11_show_25 rfl ?_
      refine j_iconst X dX11_show_26 (-1) (by decide) ?_
      refine j_icmp_ge X 33 dX11_show_27 (by decide) (fun c_27 => ?_) (fun c_27 => absurd c_27 (by decide))
      refine j_aload_n X dX11_show_33 rfl ?_
      refine j_iload_n X dX11_show_34 rfl ?_
      refine j_iload_n X dX11_show_35 rfl ?_
      refine s_callVi X hR (m_showAll14 np _ _ (by omega)) rfl 11 (by decide) (o66 np) (k66 np) rfl u1198 u1195 u1197 qp46 u12 hyX11_showAll (by decide) (by decide) (Nat.le_of_ble_eq_true rfl) dX11_show_36 (fun v_36 m_36 h_36 => ?_)
      obtain ⟨e1, e2⟩ := h_36; have e1 := e1.symm; have e2 := e2.symm; subst e1; subst e2
      refine j_istore X dX11_show_39 (by decide) ?_
      refine j_iload_n X dX11_show_41 rfl ?_
      refine j_iconst X dX11_show_42 (-1) (by decide) ?_
      refine j_icmp_ne X 51 dX11_show_43 (by decide) (fun c_43 => ?_) (fun c_43 => absurd c_43 (by decide))
      refine j_iload_n X dX11_show_51 rfl ?_
      refine j_iload X dX11_show_52 rfl ?_
      refine j_icmp_ge X 66 dX11_show_54 (by decide) (fun c_54 => absurd c_54 (by decide)) (fun c_54 => ?_)
      refine j_aload_n X dX11_show_57 rfl ?_
      refine j_getR X 11 12 (by decide) (by decide) rfl u962 (o66 np) (k66 np) _ (p66_12 np) dX11_show_58 ?_
      refine j_iload_n X dX11_show_61 rfl ?_
      refine j_nrm _ (by first | (simp only [fa_lit, pk_mul, nI_add]; done) | (simp only [fa_lit, pk_mul, nI_add]; rfl) | rfl) ?_
      refine j_ialdN X (o76 np) (k76 np) (n := 2) (by rw [l76]; decide) (by rw [l76]; decide) _ rfl dX11_show_62 ?_
      refine j_goto X 68 dX11_show_63 (by decide) ?_
      refine s_iret X hE hr dX11_show_68 rfl ?_
      exact ⟨rfl, by repeat (first | exact jeq.rf | refine jeq.up ?_ (by decide))⟩
set_option maxRecDepth 4000 in
set_option maxHeartbeats 1000000 in
theorem m_show14_3 (np : Nat) (mem : jMem) (p : Nat) (hn : np ≤ 12) (hp : mem 66 9 = nI np) (hp2 : p < np) : jPi yX11_show cX11_show 5 .int 4 [.ref 66, .int (nI p), .int 14, .int 3] np mem (fun v c => v = (mem 74 (9 * p + 8)) ∧ jeq [76] (jup mem 66 0 0) c) := by
  refine jPi.of (own := RX11) rfl rfl (Nat.le_of_ble_eq_true rfl) (fun G X hR hr hE => ?_)
  refine j_aload_n X dX11_show_0 rfl ?_
  refine j_iconst X dX11_show_1 0 (by decide) ?_
  refine j_putI X 11 0 (by decide) (by decide) rfl rfl rfl rfl u950 (o66 np) (k66 np) dX11_show_2 ?_
  refine j_aload_n X dX11_show_5 rfl ?_
  refine j_iload_n X dX11_show_6 rfl ?_
  refine s_callVi X hR (m_isPaper np _ _ hn hp) rfl 11 (by decide) (o66 np) (k66 np) rfl u1151 u1148 u1150 qp39 u12 hyX11_isPaper (by decide) (by decide) (Nat.le_of_ble_eq_true rfl) dX11_show_7 (fun v_7 m_7 h_7 => ?_)
  obtain ⟨e1, e2⟩ := h_7; have e1 := e1.symm; have e2 := e2.symm; subst e1; subst e2
  refine j_ifb_eq X 30 dX11_show_10 (by decide) (fun c_10 => ?_) (fun c_10 => ?_)
  · exfalso
    clear hE hr hR X
    have e1 : (-1 : Int32).toInt = -1 := by decide
    (try simp only [lg_cmp_lt, lg_cmp_gt, lg_cmp_le, lg_cmp_ge] at *); (try simp (disch := omega) only [Int64.le_iff_toInt_le, Int64.lt_iff_toInt_lt, Int32.le_iff_toInt_le, Int32.lt_iff_toInt_lt, fa_eq, fa_lit, fa_litL, nI_toInt, pk_lT, Int32.toInt_toInt64, jadd64, jin, jnoneT] at *); omega
  · refine j_iload_n X dX11_show_13 rfl ?_
    refine j_i2l X dX11_show_14 ?_
    refine j_lconst X dX11_show_15 0 (by decide) ?_
    refine j_ldc2 X dX11_show_16 u1152 ?_
    refine s_callSi X hR (m_inI np _ _ _ _ 0 15 rfl rfl) rfl u1087 u1085 u1086 u12 hyX11_in (by decide) (by decide) (Nat.le_of_ble_eq_true rfl) dX11_show_19 (fun v_19 m_19 h_19 => ?_)
    obtain ⟨e1, e2⟩ := h_19; have e1 := e1.symm; have e2 := e2.symm; subst e1; subst e2
    refine j_ifb_eq X 30 dX11_show_22 (by decide) (fun c_22 => ?_) (fun c_22 => ?_)
    · exfalso
      clear hE hr hR X
      have e1 : (-1 : Int32).toInt = -1 := by decide
      (try simp only [lg_cmp_lt, lg_cmp_gt, lg_cmp_le, lg_cmp_ge] at *); (try simp (disch := omega) only [Int64.le_iff_toInt_le, Int64.lt_iff_toInt_lt, Int32.le_iff_toInt_le, Int32.lt_iff_toInt_lt, fa_eq, fa_lit, fa_litL, nI_toInt, pk_lT, Int32.toInt_toInt64, jadd64, jin, jnoneT] at *); omega
    · refine j_iload_n X dX11_show_25 rfl ?_
      refine j_iconst X dX11_show_26 (-1) (by decide) ?_
      refine j_icmp_ge X 33 dX11_show_27 (by decide) (fun c_27 => ?_) (fun c_27 => absurd c_27 (by decide))
      refine j_aload_n X dX11_show_33 rfl ?_
      refine j_iload_n X dX11_show_34 rfl ?_
      refine j_iload_n X dX11_show_35 rfl ?_
      refine s_callVi X hR (m_showAll14 np _ _ (by omega)) rfl 11 (by decide) (o66 np) (k66 np) rfl u1198 u1195 u1197 qp46 u12 hyX11_showAll (by decide) (by decide) (Nat.le_of_ble_eq_true rfl) dX11_show_36 (fun v_36 m_36 h_36 => ?_)
      obtain ⟨e1, e2⟩ := h_36; have e1 := e1.symm; have e2 := e2.symm; subst e1; subst e2
      refine j_istore X dX11_show_39 (by decide) ?_
      refine j_iload_n X dX11_show_41 rfl ?_
      refine j_iconst X dX11_show_42 (-1) (by decide) ?_
      refine j_icmp_ne X 51 dX11_show_43 (by decide) (fun c_43 => ?_) (fun c_43 => absurd c_43 (by decide))
      refine j_iload_n X dX11_show_51 rfl ?_
      refine j_iload X dX11_show_52 rfl ?_
      refine j_icmp_ge X 66 dX11_show_54 (by decide) (fun c_54 => absurd c_54 (by decide)) (fun c_54 => ?_)
      refine j_aload_n X dX11_show_57 rfl ?_
      refine j_getR X 11 12 (by decide) (by decide) rfl u962 (o66 np) (k66 np) _ (p66_12 np) dX11_show_58 ?_
      refine j_iload_n X dX11_show_61 rfl ?_
      refine j_nrm _ (by first | (simp only [fa_lit, pk_mul, nI_add]; done) | (simp only [fa_lit, pk_mul, nI_add]; rfl) | rfl) ?_
      refine j_ialdN X (o76 np) (k76 np) (n := 3) (by rw [l76]; decide) (by rw [l76]; decide) _ rfl dX11_show_62 ?_
      refine j_goto X 68 dX11_show_63 (by decide) ?_
      refine s_iret X hE hr dX11_show_68 rfl ?_
      exact ⟨rfl, by repeat (first | exact jeq.rf | refine jeq.up ?_ (by decide))⟩
set_option maxRecDepth 4000 in
set_option maxHeartbeats 1000000 in
theorem m_show15_n (np : Nat) (mem : jMem) (p : Nat) (hn : np ≤ 12) (hp : mem 66 9 = nI np) (hp2 : p < np) : jPi yX11_show cX11_show 5 .int 4 [.ref 66, .int (nI p), .int 15, .int (-1)] np mem (fun v c => v = 4 ∧ jeq [76] (jup mem 66 0 0) c) := by
  refine jPi.of (own := RX11) rfl rfl (Nat.le_of_ble_eq_true rfl) (fun G X hR hr hE => ?_)
  refine j_aload_n X dX11_show_0 rfl ?_
  refine j_iconst X dX11_show_1 0 (by decide) ?_
  refine j_putI X 11 0 (by decide) (by decide) rfl rfl rfl rfl u950 (o66 np) (k66 np) dX11_show_2 ?_
  refine j_aload_n X dX11_show_5 rfl ?_
  refine j_iload_n X dX11_show_6 rfl ?_
  refine s_callVi X hR (m_isPaper np _ _ hn hp) rfl 11 (by decide) (o66 np) (k66 np) rfl u1151 u1148 u1150 qp39 u12 hyX11_isPaper (by decide) (by decide) (Nat.le_of_ble_eq_true rfl) dX11_show_7 (fun v_7 m_7 h_7 => ?_)
  obtain ⟨e1, e2⟩ := h_7; have e1 := e1.symm; have e2 := e2.symm; subst e1; subst e2
  refine j_ifb_eq X 30 dX11_show_10 (by decide) (fun c_10 => ?_) (fun c_10 => ?_)
  · exfalso
    clear hE hr hR X
    have e1 : (-1 : Int32).toInt = -1 := by decide
    (try simp only [lg_cmp_lt, lg_cmp_gt, lg_cmp_le, lg_cmp_ge] at *); (try simp (disch := omega) only [Int64.le_iff_toInt_le, Int64.lt_iff_toInt_lt, Int32.le_iff_toInt_le, Int32.lt_iff_toInt_lt, fa_eq, fa_lit, fa_litL, nI_toInt, pk_lT, Int32.toInt_toInt64, jadd64, jin, jnoneT] at *); omega
  · refine j_iload_n X dX11_show_13 rfl ?_
    refine j_i2l X dX11_show_14 ?_
    refine j_lconst X dX11_show_15 0 (by decide) ?_
    refine j_ldc2 X dX11_show_16 u1152 ?_
    refine s_callSi X hR (m_inI np _ _ _ _ 0 15 rfl rfl) rfl u1087 u1085 u1086 u12 hyX11_in (by decide) (by decide) (Nat.le_of_ble_eq_true rfl) dX11_show_19 (fun v_19 m_19 h_19 => ?_)
    obtain ⟨e1, e2⟩ := h_19; have e1 := e1.symm; have e2 := e2.symm; subst e1; subst e2
    refine j_ifb_eq X 30 dX11_show_22 (by decide) (fun c_22 => ?_) (fun c_22 => ?_)
    · exfalso
      clear hE hr hR X
      have e1 : (-1 : Int32).toInt = -1 := by decide
      (try simp only [lg_cmp_lt, lg_cmp_gt, lg_cmp_le, lg_cmp_ge] at *); (try simp (disch := omega) only [Int64.le_iff_toInt_le, Int64.lt_iff_toInt_lt, Int32.le_iff_toInt_le, Int32.lt_iff_toInt_lt, fa_eq, fa_lit, fa_litL, nI_toInt, pk_lT, Int32.toInt_toInt64, jadd64, jin, jnoneT] at *); omega
    · refine j_iload_n X dX11_show_25 rfl ?_
      refine j_iconst X dX11_show_26 (-1) (by decide) ?_
      refine j_icmp_ge X 33 dX11_show_27 (by decide) (fun c_27 => ?_) (fun c_27 => absurd c_27 (by decide))
      refine j_aload_n X dX11_show_33 rfl ?_
      refine j_iload_n X dX11_show_34 rfl ?_
      refine j_iload_n X dX11_show_35 rfl ?_
      refine s_callVi X hR (m_showAll15 np _ _ (by omega)) rfl 11 (by decide) (o66 np) (k66 np) rfl u1198 u1195 u1197 qp46 u12 hyX11_showAll (by decide) (by decide) (Nat.le_of_ble_eq_true rfl) dX11_show_36 (fun v_36 m_36 h_36 => ?_)
      obtain ⟨e1, e2⟩ := h_36; have e1 := e1.symm; have e2 := e2.symm; subst e1; subst e2
      refine j_istore X dX11_show_39 (by decide) ?_
      refine j_iload_n X dX11_show_41 rfl ?_
      refine j_iconst X dX11_show_42 (-1) (by decide) ?_
      refine j_icmp_ne X 51 dX11_show_43 (by decide) (fun c_43 => absurd c_43 (by decide)) (fun c_43 => ?_)
      refine j_iload X dX11_show_46 rfl ?_
      refine j_goto X 68 dX11_show_48 (by decide) ?_
      refine s_iret X hE hr dX11_show_68 rfl ?_
      exact ⟨rfl, by repeat (first | exact jeq.rf | refine jeq.up ?_ (by decide))⟩
set_option maxRecDepth 4000 in
set_option maxHeartbeats 1000000 in
theorem m_show15_none (np : Nat) (mem : jMem) (p : Nat) (i : Int32) (hn : np ≤ 12) (hp : mem 66 9 = nI np) (hp2 : p < np) (hi : 4 ≤ i.toInt) : jPi yX11_show cX11_show 5 .int 4 [.ref 66, .int (nI p), .int 15, .int i] np mem (fun v c => v = -1000000 ∧ jeq [76] (jup mem 66 0 0) c) := by
  refine jPi.of (own := RX11) rfl rfl (Nat.le_of_ble_eq_true rfl) (fun G X hR hr hE => ?_)
  refine j_aload_n X dX11_show_0 rfl ?_
  refine j_iconst X dX11_show_1 0 (by decide) ?_
  refine j_putI X 11 0 (by decide) (by decide) rfl rfl rfl rfl u950 (o66 np) (k66 np) dX11_show_2 ?_
  refine j_aload_n X dX11_show_5 rfl ?_
  refine j_iload_n X dX11_show_6 rfl ?_
  refine s_callVi X hR (m_isPaper np _ _ hn hp) rfl 11 (by decide) (o66 np) (k66 np) rfl u1151 u1148 u1150 qp39 u12 hyX11_isPaper (by decide) (by decide) (Nat.le_of_ble_eq_true rfl) dX11_show_7 (fun v_7 m_7 h_7 => ?_)
  obtain ⟨e1, e2⟩ := h_7; have e1 := e1.symm; have e2 := e2.symm; subst e1; subst e2
  refine j_ifb_eq X 30 dX11_show_10 (by decide) (fun c_10 => ?_) (fun c_10 => ?_)
  · exfalso
    clear hE hr hR X
    have e1 : (-1 : Int32).toInt = -1 := by decide
    (try simp only [lg_cmp_lt, lg_cmp_gt, lg_cmp_le, lg_cmp_ge] at *); (try simp (disch := omega) only [Int64.le_iff_toInt_le, Int64.lt_iff_toInt_lt, Int32.le_iff_toInt_le, Int32.lt_iff_toInt_lt, fa_eq, fa_lit, fa_litL, nI_toInt, pk_lT, Int32.toInt_toInt64, jadd64, jin, jnoneT] at *); omega
  · refine j_iload_n X dX11_show_13 rfl ?_
    refine j_i2l X dX11_show_14 ?_
    refine j_lconst X dX11_show_15 0 (by decide) ?_
    refine j_ldc2 X dX11_show_16 u1152 ?_
    refine s_callSi X hR (m_inI np _ _ _ _ 0 15 rfl rfl) rfl u1087 u1085 u1086 u12 hyX11_in (by decide) (by decide) (Nat.le_of_ble_eq_true rfl) dX11_show_19 (fun v_19 m_19 h_19 => ?_)
    obtain ⟨e1, e2⟩ := h_19; have e1 := e1.symm; have e2 := e2.symm; subst e1; subst e2
    refine j_ifb_eq X 30 dX11_show_22 (by decide) (fun c_22 => ?_) (fun c_22 => ?_)
    · exfalso
      clear hE hr hR X
      have e1 : (-1 : Int32).toInt = -1 := by decide
      (try simp only [lg_cmp_lt, lg_cmp_gt, lg_cmp_le, lg_cmp_ge] at *); (try simp (disch := omega) only [Int64.le_iff_toInt_le, Int64.lt_iff_toInt_lt, Int32.le_iff_toInt_le, Int32.lt_iff_toInt_lt, fa_eq, fa_lit, fa_litL, nI_toInt, pk_lT, Int32.toInt_toInt64, jadd64, jin, jnoneT] at *); omega
    · refine j_iload_n X dX11_show_25 rfl ?_
      refine j_iconst X dX11_show_26 (-1) (by decide) ?_
      refine j_icmp_ge X 33 dX11_show_27 (by decide) (fun c_27 => ?_) (fun c_27 => ?_)
      · refine j_aload_n X dX11_show_33 rfl ?_
        refine j_iload_n X dX11_show_34 rfl ?_
        refine j_iload_n X dX11_show_35 rfl ?_
        refine s_callVi X hR (m_showAll15 np _ _ (by omega)) rfl 11 (by decide) (o66 np) (k66 np) rfl u1198 u1195 u1197 qp46 u12 hyX11_showAll (by decide) (by decide) (Nat.le_of_ble_eq_true rfl) dX11_show_36 (fun v_36 m_36 h_36 => ?_)
        obtain ⟨e1, e2⟩ := h_36; have e1 := e1.symm; have e2 := e2.symm; subst e1; subst e2
        refine j_istore X dX11_show_39 (by decide) ?_
        refine j_iload_n X dX11_show_41 rfl ?_
        refine j_iconst X dX11_show_42 (-1) (by decide) ?_
        refine j_icmp_ne X 51 dX11_show_43 (by decide) (fun c_43 => ?_) (fun c_43 => ?_)
        · refine j_iload_n X dX11_show_51 rfl ?_
          refine j_iload X dX11_show_52 rfl ?_
          refine j_icmp_ge X 66 dX11_show_54 (by decide) (fun c_54 => ?_) (fun c_54 => ?_)
          · refine j_ldc X dX11_show_66 u949 ?_
            refine s_iret X hE hr dX11_show_68 rfl ?_
            exact ⟨rfl, by repeat (first | exact jeq.rf | refine jeq.up ?_ (by decide))⟩
          · exfalso
            clear hE hr hR X
            have e1 : (-1 : Int32).toInt = -1 := by decide
            (try simp only [lg_cmp_lt, lg_cmp_gt, lg_cmp_le, lg_cmp_ge] at *); (try simp (disch := omega) only [Int64.le_iff_toInt_le, Int64.lt_iff_toInt_lt, Int32.le_iff_toInt_le, Int32.lt_iff_toInt_lt, fa_eq, fa_lit, fa_litL, nI_toInt, pk_lT, Int32.toInt_toInt64, jadd64, jin, jnoneT] at *); omega
        · exfalso
          clear hE hr hR X
          have e1 : (-1 : Int32).toInt = -1 := by decide
          (try simp only [lg_cmp_lt, lg_cmp_gt, lg_cmp_le, lg_cmp_ge] at *); (try simp (disch := omega) only [Int64.le_iff_toInt_le, Int64.lt_iff_toInt_lt, Int32.le_iff_toInt_le, Int32.lt_iff_toInt_lt, fa_eq, fa_lit, fa_litL, nI_toInt, pk_lT, Int32.toInt_toInt64, jadd64, jin, jnoneT] at *); omega
      · exfalso
        clear hE hr hR X
        have e1 : (-1 : Int32).toInt = -1 := by decide
        (try simp only [lg_cmp_lt, lg_cmp_gt, lg_cmp_le, lg_cmp_ge] at *); (try simp (disch := omega) only [Int64.le_iff_toInt_le, Int64.lt_iff_toInt_lt, Int32.le_iff_toInt_le, Int32.lt_iff_toInt_lt, fa_eq, fa_lit, fa_litL, nI_toInt, pk_lT, Int32.toInt_toInt64, jadd64, jin, jnoneT] at *); omega
set_option maxRecDepth 4000 in
set_option maxHeartbeats 1000000 in
theorem m_show15_0 (np : Nat) (mem : jMem) (p : Nat) (hn : np ≤ 12) (hp : mem 66 9 = nI np) (hp2 : p < np) : jPi yX11_show cX11_show 5 .int 4 [.ref 66, .int (nI p), .int 15, .int 0] np mem (fun v c => v = (mem 74 (9 * p + 5)) ∧ jeq [76] (jup mem 66 0 0) c) := by
  refine jPi.of (own := RX11) rfl rfl (Nat.le_of_ble_eq_true rfl) (fun G X hR hr hE => ?_)
  refine j_aload_n X dX11_show_0 rfl ?_
  refine j_iconst X dX11_show_1 0 (by decide) ?_
  refine j_putI X 11 0 (by decide) (by decide) rfl rfl rfl rfl u950 (o66 np) (k66 np) dX11_show_2 ?_
  refine j_aload_n X dX11_show_5 rfl ?_
  refine j_iload_n X dX11_show_6 rfl ?_
  refine s_callVi X hR (m_isPaper np _ _ hn hp) rfl 11 (by decide) (o66 np) (k66 np) rfl u1151 u1148 u1150 qp39 u12 hyX11_isPaper (by decide) (by decide) (Nat.le_of_ble_eq_true rfl) dX11_show_7 (fun v_7 m_7 h_7 => ?_)
  obtain ⟨e1, e2⟩ := h_7; have e1 := e1.symm; have e2 := e2.symm; subst e1; subst e2
  refine j_ifb_eq X 30 dX11_show_10 (by decide) (fun c_10 => ?_) (fun c_10 => ?_)
  · exfalso
    clear hE hr hR X
    have e1 : (-1 : Int32).toInt = -1 := by decide
    (try simp only [lg_cmp_lt, lg_cmp_gt, lg_cmp_le, lg_cmp_ge] at *); (try simp (disch := omega) only [Int64.le_iff_toInt_le, Int64.lt_iff_toInt_lt, Int32.le_iff_toInt_le, Int32.lt_iff_toInt_lt, fa_eq, fa_lit, fa_litL, nI_toInt, pk_lT, Int32.toInt_toInt64, jadd64, jin, jnoneT] at *); omega
  · refine j_iload_n X dX11_show_13 rfl ?_
    refine j_i2l X dX11_show_14 ?_
    refine j_lconst X dX11_show_15 0 (by decide) ?_
    refine j_ldc2 X dX11_show_16 u1152 ?_
    refine s_callSi X hR (m_inI np _ _ _ _ 0 15 rfl rfl) rfl u1087 u1085 u1086 u12 hyX11_in (by decide) (by decide) (Nat.le_of_ble_eq_true rfl) dX11_show_19 (fun v_19 m_19 h_19 => ?_)
    obtain ⟨e1, e2⟩ := h_19; have e1 := e1.symm; have e2 := e2.symm; subst e1; subst e2
    refine j_ifb_eq X 30 dX11_show_22 (by decide) (fun c_22 => ?_) (fun c_22 => ?_)
    · exfalso
      clear hE hr hR X
      have e1 : (-1 : Int32).toInt = -1 := by decide
      (try simp only [lg_cmp_lt, lg_cmp_gt, lg_cmp_le, lg_cmp_ge] at *); (try simp (disch := omega) only [Int64.le_iff_toInt_le, Int64.lt_iff_toInt_lt, Int32.le_iff_toInt_le, Int32.lt_iff_toInt_lt, fa_eq, fa_lit, fa_litL, nI_toInt, pk_lT, Int32.toInt_toInt64, jadd64, jin, jnoneT] at *); omega
    · refine j_iload_n X dX11_show_25 rfl ?_
      refine j_iconst X dX11_show_26 (-1) (by decide) ?_
      refine j_icmp_ge X 33 dX11_show_27 (by decide) (fun c_27 => ?_) (fun c_27 => absurd c_27 (by decide))
      refine j_aload_n X dX11_show_33 rfl ?_
      refine j_iload_n X dX11_show_34 rfl ?_
      refine j_iload_n X dX11_show_35 rfl ?_
      refine s_callVi X hR (m_showAll15 np _ _ (by omega)) rfl 11 (by decide) (o66 np) (k66 np) rfl u1198 u1195 u1197 qp46 u12 hyX11_showAll (by decide) (by decide) (Nat.le_of_ble_eq_true rfl) dX11_show_36 (fun v_36 m_36 h_36 => ?_)
      obtain ⟨e1, e2⟩ := h_36; have e1 := e1.symm; have e2 := e2.symm; subst e1; subst e2
      refine j_istore X dX11_show_39 (by decide) ?_
      refine j_iload_n X dX11_show_41 rfl ?_
      refine j_iconst X dX11_show_42 (-1) (by decide) ?_
      refine j_icmp_ne X 51 dX11_show_43 (by decide) (fun c_43 => ?_) (fun c_43 => absurd c_43 (by decide))
      refine j_iload_n X dX11_show_51 rfl ?_
      refine j_iload X dX11_show_52 rfl ?_
      refine j_icmp_ge X 66 dX11_show_54 (by decide) (fun c_54 => absurd c_54 (by decide)) (fun c_54 => ?_)
      refine j_aload_n X dX11_show_57 rfl ?_
      refine j_getR X 11 12 (by decide) (by decide) rfl u962 (o66 np) (k66 np) _ (p66_12 np) dX11_show_58 ?_
      refine j_iload_n X dX11_show_61 rfl ?_
      refine j_nrm _ (by first | (simp only [fa_lit, pk_mul, nI_add]; done) | (simp only [fa_lit, pk_mul, nI_add]; rfl) | rfl) ?_
      refine j_ialdN X (o76 np) (k76 np) (n := 0) (by rw [l76]; decide) (by rw [l76]; decide) _ rfl dX11_show_62 ?_
      refine j_goto X 68 dX11_show_63 (by decide) ?_
      refine s_iret X hE hr dX11_show_68 rfl ?_
      exact ⟨rfl, by repeat (first | exact jeq.rf | refine jeq.up ?_ (by decide))⟩
set_option maxRecDepth 4000 in
set_option maxHeartbeats 1000000 in
theorem m_show15_1 (np : Nat) (mem : jMem) (p : Nat) (hn : np ≤ 12) (hp : mem 66 9 = nI np) (hp2 : p < np) : jPi yX11_show cX11_show 5 .int 4 [.ref 66, .int (nI p), .int 15, .int 1] np mem (fun v c => v = (mem 74 (9 * p + 6)) ∧ jeq [76] (jup mem 66 0 0) c) := by
  refine jPi.of (own := RX11) rfl rfl (Nat.le_of_ble_eq_true rfl) (fun G X hR hr hE => ?_)
  refine j_aload_n X dX11_show_0 rfl ?_
  refine j_iconst X dX11_show_1 0 (by decide) ?_
  refine j_putI X 11 0 (by decide) (by decide) rfl rfl rfl rfl u950 (o66 np) (k66 np) dX11_show_2 ?_
  refine j_aload_n X dX11_show_5 rfl ?_
  refine j_iload_n X dX11_show_6 rfl ?_
  refine s_callVi X hR (m_isPaper np _ _ hn hp) rfl 11 (by decide) (o66 np) (k66 np) rfl u1151 u1148 u1150 qp39 u12 hyX11_isPaper (by decide) (by decide) (Nat.le_of_ble_eq_true rfl) dX11_show_7 (fun v_7 m_7 h_7 => ?_)
  obtain ⟨e1, e2⟩ := h_7; have e1 := e1.symm; have e2 := e2.symm; subst e1; subst e2
  refine j_ifb_eq X 30 dX11_show_10 (by decide) (fun c_10 => ?_) (fun c_10 => ?_)
  · exfalso
    clear hE hr hR X
    have e1 : (-1 : Int32).toInt = -1 := by decide
    (try simp only [lg_cmp_lt, lg_cmp_gt, lg_cmp_le, lg_cmp_ge] at *); (try simp (disch := omega) only [Int64.le_iff_toInt_le, Int64.lt_iff_toInt_lt, Int32.le_iff_toInt_le, Int32.lt_iff_toInt_lt, fa_eq, fa_lit, fa_litL, nI_toInt, pk_lT, Int32.toInt_toInt64, jadd64, jin, jnoneT] at *); omega
  · refine j_iload_n X dX11_show_13 rfl ?_
    refine j_i2l X dX11_show_14 ?_
    refine j_lconst X dX11_show_15 0 (by decide) ?_
    refine j_ldc2 X dX11_show_16 u1152 ?_
    refine s_callSi X hR (m_inI np _ _ _ _ 0 15 rfl rfl) rfl u1087 u1085 u1086 u12 hyX11_in (by decide) (by decide) (Nat.le_of_ble_eq_true rfl) dX11_show_19 (fun v_19 m_19 h_19 => ?_)
    obtain ⟨e1, e2⟩ := h_19; have e1 := e1.symm; have e2 := e2.symm; subst e1; subst e2
    refine j_ifb_eq X 30 dX11_show_22 (by decide) (fun c_22 => ?_) (fun c_22 => ?_)
    · exfalso
      clear hE hr hR X
      have e1 : (-1 : Int32).toInt = -1 := by decide
      (try simp only [lg_cmp_lt, lg_cmp_gt, lg_cmp_le, lg_cmp_ge] at *); (try simp (disch := omega) only [Int64.le_iff_toInt_le, Int64.lt_iff_toInt_lt, Int32.le_iff_toInt_le, Int32.lt_iff_toInt_lt, fa_eq, fa_lit, fa_litL, nI_toInt, pk_lT, Int32.toInt_toInt64, jadd64, jin, jnoneT] at *); omega
    · refine j_iload_n X dX11_show_25 rfl ?_
      refine j_iconst X dX11_show_26 (-1) (by decide) ?_
      refine j_icmp_ge X 33 dX11_show_27 (by decide) (fun c_27 => ?_) (fun c_27 => absurd c_27 (by decide))
      refine j_aload_n X dX11_show_33 rfl ?_
      refine j_iload_n X dX11_show_34 rfl ?_
      refine j_iload_n X dX11_show_35 rfl ?_
      refine s_callVi X hR (m_showAll15 np _ _ (by omega)) rfl 11 (by decide) (o66 np) (k66 np) rfl u1198 u1195 u1197 qp46 u12 hyX11_showAll (by decide) (by decide) (Nat.le_of_ble_eq_true rfl) dX11_show_36 (fun v_36 m_36 h_36 => ?_)
      obtain ⟨e1, e2⟩ := h_36; have e1 := e1.symm; have e2 := e2.symm; subst e1; subst e2
      refine j_istore X dX11_show_39 (by decide) ?_
      refine j_iload_n X dX11_show_41 rfl ?_
      refine j_iconst X dX11_show_42 (-1) (by decide) ?_
      refine j_icmp_ne X 51 dX11_show_43 (by decide) (fun c_43 => ?_) (fun c_43 => absurd c_43 (by decide))
      refine j_iload_n X dX11_show_51 rfl ?_
      refine j_iload X dX11_show_52 rfl ?_
      refine j_icmp_ge X 66 dX11_show_54 (by decide) (fun c_54 => absurd c_54 (by decide)) (fun c_54 => ?_)
      refine j_aload_n X dX11_show_57 rfl ?_
      refine j_getR X 11 12 (by decide) (by decide) rfl u962 (o66 np) (k66 np) _ (p66_12 np) dX11_show_58 ?_
      refine j_iload_n X dX11_show_61 rfl ?_
      refine j_nrm _ (by first | (simp only [fa_lit, pk_mul, nI_add]; done) | (simp only [fa_lit, pk_mul, nI_add]; rfl) | rfl) ?_
      refine j_ialdN X (o76 np) (k76 np) (n := 1) (by rw [l76]; decide) (by rw [l76]; decide) _ rfl dX11_show_62 ?_
      refine j_goto X 68 dX11_show_63 (by decide) ?_
      refine s_iret X hE hr dX11_show_68 rfl ?_
      exact ⟨rfl, by repeat (first | exact jeq.rf | refine jeq.up ?_ (by decide))⟩
set_option maxRecDepth 4000 in
set_option maxHeartbeats 1000000 in
theorem m_show15_2 (np : Nat) (mem : jMem) (p : Nat) (hn : np ≤ 12) (hp : mem 66 9 = nI np) (hp2 : p < np) : jPi yX11_show cX11_show 5 .int 4 [.ref 66, .int (nI p), .int 15, .int 2] np mem (fun v c => v = (mem 74 (9 * p + 7)) ∧ jeq [76] (jup mem 66 0 0) c) := by
  refine jPi.of (own := RX11) rfl rfl (Nat.le_of_ble_eq_true rfl) (fun G X hR hr hE => ?_)
  refine j_aload_n X dX11_show_0 rfl ?_
  refine j_iconst X dX11_show_1 0 (by decide) ?_
  refine j_putI X 11 0 (by decide) (by decide) rfl rfl rfl rfl u950 (o66 np) (k66 np) dX11_show_2 ?_
  refine j_aload_n X dX11_show_5 rfl ?_
  refine j_iload_n X dX11_show_6 rfl ?_
  refine s_callVi X hR (m_isPaper np _ _ hn hp) rfl 11 (by decide) (o66 np) (k66 np) rfl u1151 u1148 u1150 qp39 u12 hyX11_isPaper (by decide) (by decide) (Nat.le_of_ble_eq_true rfl) dX11_show_7 (fun v_7 m_7 h_7 => ?_)
  obtain ⟨e1, e2⟩ := h_7; have e1 := e1.symm; have e2 := e2.symm; subst e1; subst e2
  refine j_ifb_eq X 30 dX11_show_10 (by decide) (fun c_10 => ?_) (fun c_10 => ?_)
  · exfalso
    clear hE hr hR X
    have e1 : (-1 : Int32).toInt = -1 := by decide
    (try simp only [lg_cmp_lt, lg_cmp_gt, lg_cmp_le, lg_cmp_ge] at *); (try simp (disch := omega) only [Int64.le_iff_toInt_le, Int64.lt_iff_toInt_lt, Int32.le_iff_toInt_le, Int32.lt_iff_toInt_lt, fa_eq, fa_lit, fa_litL, nI_toInt, pk_lT, Int32.toInt_toInt64, jadd64, jin, jnoneT] at *); omega
  · refine j_iload_n X dX11_show_13 rfl ?_
    refine j_i2l X dX11_show_14 ?_
    refine j_lconst X dX11_show_15 0 (by decide) ?_
    refine j_ldc2 X dX11_show_16 u1152 ?_
    refine s_callSi X hR (m_inI np _ _ _ _ 0 15 rfl rfl) rfl u1087 u1085 u1086 u12 hyX11_in (by decide) (by decide) (Nat.le_of_ble_eq_true rfl) dX11_show_19 (fun v_19 m_19 h_19 => ?_)
    obtain ⟨e1, e2⟩ := h_19; have e1 := e1.symm; have e2 := e2.symm; subst e1; subst e2
    refine j_ifb_eq X 30 dX11_show_22 (by decide) (fun c_22 => ?_) (fun c_22 => ?_)
    · exfalso
      clear hE hr hR X
      have e1 : (-1 : Int32).toInt = -1 := by decide
      (try simp only [lg_cmp_lt, lg_cmp_gt, lg_cmp_le, lg_cmp_ge] at *); (try simp (disch := omega) only [Int64.le_iff_toInt_le, Int64.lt_iff_toInt_lt, Int32.le_iff_toInt_le, Int32.lt_iff_toInt_lt, fa_eq, fa_lit, fa_litL, nI_toInt, pk_lT, Int32.toInt_toInt64, jadd64, jin, jnoneT] at *); omega
    · refine j_iload_n X dX11_show_25 rfl ?_
      refine j_iconst X dX11_show_26 (-1) (by decide) ?_
      refine j_icmp_ge X 33 dX11_show_27 (by decide) (fun c_27 => ?_) (fun c_27 => absurd c_27 (by decide))
      refine j_aload_n X dX11_show_33 rfl ?_
      refine j_iload_n X dX11_show_34 rfl ?_
      refine j_iload_n X dX11_show_35 rfl ?_
      refine s_callVi X hR (m_showAll15 np _ _ (by omega)) rfl 11 (by decide) (o66 np) (k66 np) rfl u1198 u1195 u1197 qp46 u12 hyX11_showAll (by decide) (by decide) (Nat.le_of_ble_eq_true rfl) dX11_show_36 (fun v_36 m_36 h_36 => ?_)
      obtain ⟨e1, e2⟩ := h_36; have e1 := e1.symm; have e2 := e2.symm; subst e1; subst e2
      refine j_istore X dX11_show_39 (by decide) ?_
      refine j_iload_n X dX11_show_41 rfl ?_
      refine j_iconst X dX11_show_42 (-1) (by decide) ?_
      refine j_icmp_ne X 51 dX11_show_43 (by decide) (fun c_43 => ?_) (fun c_43 => absurd c_43 (by decide))
      refine j_iload_n X dX11_show_51 rfl ?_
      refine j_iload X dX11_show_52 rfl ?_
      refine j_icmp_ge X 66 dX11_show_54 (by decide) (fun c_54 => absurd c_54 (by decide)) (fun c_54 => ?_)
      refine j_aload_n X dX11_show_57 rfl ?_
      refine j_getR X 11 12 (by decide) (by decide) rfl u962 (o66 np) (k66 np) _ (p66_12 np) dX11_show_58 ?_
      refine j_iload_n X dX11_show_61 rfl ?_
      refine j_nrm _ (by first | (simp only [fa_lit, pk_mul, nI_add]; done) | (simp only [fa_lit, pk_mul, nI_add]; rfl) | rfl) ?_
      refine j_ialdN X (o76 np) (k76 np) (n := 2) (by rw [l76]; decide) (by rw [l76]; decide) _ rfl dX11_show_62 ?_
      refine j_goto X 68 dX11_show_63 (by decide) ?_
      refine s_iret X hE hr dX11_show_68 rfl ?_
      exact ⟨rfl, by repeat (first | exact jeq.rf | refine jeq.up ?_ (by decide))⟩
set_option maxRecDepth 4000 in
set_option maxHeartbeats 1000000 in
theorem m_show15_3 (np : Nat) (mem : jMem) (p : Nat) (hn : np ≤ 12) (hp : mem 66 9 = nI np) (hp2 : p < np) : jPi yX11_show cX11_show 5 .int 4 [.ref 66, .int (nI p), .int 15, .int 3] np mem (fun v c => v = (mem 74 (9 * p + 8)) ∧ jeq [76] (jup mem 66 0 0) c) := by
  refine jPi.of (own := RX11) rfl rfl (Nat.le_of_ble_eq_true rfl) (fun G X hR hr hE => ?_)
  refine j_aload_n X dX11_show_0 rfl ?_
  refine j_iconst X dX11_show_1 0 (by decide) ?_
  refine j_putI X 11 0 (by decide) (by decide) rfl rfl rfl rfl u950 (o66 np) (k66 np) dX11_show_2 ?_
  refine j_aload_n X dX11_show_5 rfl ?_
  refine j_iload_n X dX11_show_6 rfl ?_
  refine s_callVi X hR (m_isPaper np _ _ hn hp) rfl 11 (by decide) (o66 np) (k66 np) rfl u1151 u1148 u1150 qp39 u12 hyX11_isPaper (by decide) (by decide) (Nat.le_of_ble_eq_true rfl) dX11_show_7 (fun v_7 m_7 h_7 => ?_)
  obtain ⟨e1, e2⟩ := h_7; have e1 := e1.symm; have e2 := e2.symm; subst e1; subst e2
  refine j_ifb_eq X 30 dX11_show_10 (by decide) (fun c_10 => ?_) (fun c_10 => ?_)
  · exfalso
    clear hE hr hR X
    have e1 : (-1 : Int32).toInt = -1 := by decide
    (try simp only [lg_cmp_lt, lg_cmp_gt, lg_cmp_le, lg_cmp_ge] at *); (try simp (disch := omega) only [Int64.le_iff_toInt_le, Int64.lt_iff_toInt_lt, Int32.le_iff_toInt_le, Int32.lt_iff_toInt_lt, fa_eq, fa_lit, fa_litL, nI_toInt, pk_lT, Int32.toInt_toInt64, jadd64, jin, jnoneT] at *); omega
  · refine j_iload_n X dX11_show_13 rfl ?_
    refine j_i2l X dX11_show_14 ?_
    refine j_lconst X dX11_show_15 0 (by decide) ?_
    refine j_ldc2 X dX11_show_16 u1152 ?_
    refine s_callSi X hR (m_inI np _ _ _ _ 0 15 rfl rfl) rfl u1087 u1085 u1086 u12 hyX11_in (by decide) (by decide) (Nat.le_of_ble_eq_true rfl) dX11_show_19 (fun v_19 m_19 h_19 => ?_)
    obtain ⟨e1, e2⟩ := h_19; have e1 := e1.symm; have e2 := e2.symm; subst e1; subst e2
    refine j_ifb_eq X 30 dX11_show_22 (by decide) (fun c_22 => ?_) (fun c_22 => ?_)
    · exfalso
      clear hE hr hR X
      have e1 : (-1 : Int32).toInt = -1 := by decide
      (try simp only [lg_cmp_lt, lg_cmp_gt, lg_cmp_le, lg_cmp_ge] at *); (try simp (disch := omega) only [Int64.le_iff_toInt_le, Int64.lt_iff_toInt_lt, Int32.le_iff_toInt_le, Int32.lt_iff_toInt_lt, fa_eq, fa_lit, fa_litL, nI_toInt, pk_lT, Int32.toInt_toInt64, jadd64, jin, jnoneT] at *); omega
    · refine j_iload_n X dX11_show_25 rfl ?_
      refine j_iconst X dX11_show_26 (-1) (by decide) ?_
      refine j_icmp_ge X 33 dX11_show_27 (by decide) (fun c_27 => ?_) (fun c_27 => absurd c_27 (by decide))
      refine j_aload_n X dX11_show_33 rfl ?_
      refine j_iload_n X dX11_show_34 rfl ?_
      refine j_iload_n X dX11_show_35 rfl ?_
      refine s_callVi X hR (m_showAll15 np _ _ (by omega)) rfl 11 (by decide) (o66 np) (k66 np) rfl u1198 u1195 u1197 qp46 u12 hyX11_showAll (by decide) (by decide) (Nat.le_of_ble_eq_true rfl) dX11_show_36 (fun v_36 m_36 h_36 => ?_)
      obtain ⟨e1, e2⟩ := h_36; have e1 := e1.symm; have e2 := e2.symm; subst e1; subst e2
      refine j_istore X dX11_show_39 (by decide) ?_
      refine j_iload_n X dX11_show_41 rfl ?_
      refine j_iconst X dX11_show_42 (-1) (by decide) ?_
      refine j_icmp_ne X 51 dX11_show_43 (by decide) (fun c_43 => ?_) (fun c_43 => absurd c_43 (by decide))
      refine j_iload_n X dX11_show_51 rfl ?_
      refine j_iload X dX11_show_52 rfl ?_
      refine j_icmp_ge X 66 dX11_show_54 (by decide) (fun c_54 => absurd c_54 (by decide)) (fun c_54 => ?_)
      refine j_aload_n X dX11_show_57 rfl ?_
      refine j_getR X 11 12 (by decide) (by decide) rfl u962 (o66 np) (k66 np) _ (p66_12 np) dX11_show_58 ?_
      refine j_iload_n X dX11_show_61 rfl ?_
      refine j_nrm _ (by first | (simp only [fa_lit, pk_mul, nI_add]; done) | (simp only [fa_lit, pk_mul, nI_add]; rfl) | rfl) ?_
      refine j_ialdN X (o76 np) (k76 np) (n := 3) (by rw [l76]; decide) (by rw [l76]; decide) _ rfl dX11_show_62 ?_
      refine j_goto X 68 dX11_show_63 (by decide) ?_
      refine s_iret X hE hr dX11_show_68 rfl ?_
      exact ⟨rfl, by repeat (first | exact jeq.rf | refine jeq.up ?_ (by decide))⟩
