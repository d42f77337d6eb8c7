theorem jup_o {mem : jMem} {o k i : Nat} {x : Int32} (h : ¬ i = o) : jup mem o k x i = mem i := if_neg h
def nst (x : Nat) : Nat → Nat
  | 0 => x
  | n + 1 => (nst x n * nst x n + 3) % 65521
theorem nst_le {x : Nat} (h : x ≤ 65520) : ∀ n, nst x n ≤ 65520
  | 0 => h
  | n + 1 => by
    show _ % 65521 ≤ 65520
    omega
theorem jRemL_n {a b : Nat} (ha : a < 2 ^ 63) (h0 : 0 < b) (hb : b < 2 ^ 63) : jRemL (lN a) (lN b) = lN (a % b) := pk_lRem ha h0 hb
theorem jst_l {a : Nat} (h : a ≤ 65520) : jRemL (lN a * lN a + 3) 65521 = lN ((a * a + 3) % 65521) := by
  rw [show (3 : Int64) = lN 3 from rfl, show (65521 : Int64) = lN 65521 from rfl, lN_mul, lN_add]
  have h1 : a * a ≤ 65520 * 65520 := Nat.mul_le_mul h h
  exact jRemL_n (by omega) (by omega) (by omega)
theorem jSteps_n {x : Nat} (h : x ≤ 65520) : ∀ n, jSteps (nI x) n = nI (nst x n)
  | 0 => rfl
  | n + 1 => by
    show jStep (jSteps (nI x) n) = _
    rw [jSteps_n h n]
    unfold jStep
    have h2 := nst_le h n
    rw [nI_l (by omega), jst_l h2, lN_i]
    rfl
/-- sums stay sums -/
theorem jJoin_n {a b : Int32} (ha : jin a 0 65520) (hb : jin b 0 65520) : jin (jJoin a b) 0 65520 := by
  obtain ⟨x, hx, hx2, rfl⟩ := jin_n ha
  obtain ⟨y, hy, hy2, rfl⟩ := jin_n hb
  have h1 : x * x ≤ 65520 * 65520 := Nat.mul_le_mul (by omega) (by omega)
  unfold jJoin
  rw [nI_l hx2, nI_l hy2, show (3 : Int64) = lN 3 from rfl, show (5 : Int64) = lN 5 from rfl, show (65521 : Int64) = lN 65521 from rfl, lN_mul, lN_mul, lN_add, lN_add, jRemL_n (by omega) (by omega) (by omega), lN_i]
  have h2 : (x * x + 3 * y + 5) % 65521 < 65521 := Nat.mod_lt _ (by omega)
  unfold jin
  rw [nI_toInt (by omega)]
  omega
theorem jLeaf_n {p i w : Nat} (hp : p < 12) (hi : i < 4) (hw : w ≤ 999) : jin (jLeaf (nI p) (nI i) (nI w)) 0 65520 := by
  unfold jLeaf jRem
  rw [show (31 : Int32) = nI 31 from rfl, show (7 : Int32) = nI 7 from rfl, show (65521 : Int32) = nI 65521 from rfl, pk_mul, pk_mul, nI_add, nI_add, pk_rem (by omega) (by omega) (by omega)]
  have h2 : (31 * w + 7 * p + i) % 65521 < 65521 := Nat.mod_lt _ (by omega)
  unfold jin
  rw [nI_toInt (by omega)]
  omega
theorem jLeaf_i {p i : Nat} {w : Int32} (hp : p < 12) (hi : i < 4) (hw : jin w 0 999) : jin (jLeaf (nI p) (nI i) w) 0 65520 := by
  obtain ⟨x, hx, hx2, rfl⟩ := jin_n hw
  exact jLeaf_n hp hi (by omega)
theorem jbeg_n (p i : Nat) : 101 * nI p + 17 * nI i + 1 = nI (101 * p + 17 * i + 1) := by
  rw [show (101 : Int32) = nI 101 from rfl, show (17 : Int32) = nI 17 from rfl, pk_mul, pk_mul, nI_add, nI_1]
def jRootC (F : Nat → Int32) (p : Nat) : Int32 := jJoin (jJoin (jLeaf (nI p) 0 (F 0)) (jLeaf (nI p) 1 (F 1))) (jJoin (jLeaf (nI p) 2 (F 2)) (jLeaf (nI p) 3 (F 3)))
set_option maxRecDepth 4000 in
set_option maxHeartbeats 1000000 in
theorem c_leafWith (np : Nat) (mem : jMem) (p : Nat) (i w : Int32) (hp : p < np) (hN : mem (92 + 2 * p) 0 = nI p) : jPi yX6_leafWith cX6_leafWith 3 .int 1 [.ref (92 + 2 * p), .int i, .int w] np mem (fun v c => v = jLeaf (nI p) i w ∧ c = mem) := by
  refine jPi.of (own := RX6) rfl rfl (Nat.le_of_ble_eq_true rfl) (fun G X hR hr hE => ?_)
  refine j_bipush X dX6_leafWith_0 31 (by decide) ?_
  refine j_iload_n X dX6_leafWith_2 rfl ?_
  refine j_imul X dX6_leafWith_3 ?_
  refine j_bipush X dX6_leafWith_4 7 (by decide) ?_
  refine j_aload_n X dX6_leafWith_6 rfl ?_
  refine j_getF X 6 0 (by decide) (by decide) rfl u391 (oP np (by omega)) (kP np _) (mem (92 + 2 * p)) rfl dX6_leafWith_7 ?_
  refine j_nrm (nI p) hN ?_
  refine j_imul X dX6_leafWith_10 ?_
  refine j_iadd X dX6_leafWith_11 ?_
  refine j_iload_n X dX6_leafWith_12 rfl ?_
  refine j_iadd X dX6_leafWith_13 ?_
  refine j_ldc X dX6_leafWith_14 u461 ?_
  refine j_irem X dX6_leafWith_16 (by decide) ?_
  refine s_iret X hE hr dX6_leafWith_17 rfl ?_
  first | exact ⟨rfl, rfl⟩ | (exfalso; clear hE hr hR X; (try simp only [lg_cmp_lt, lg_cmp_gt, lg_cmp_le, lg_cmp_ge] at *); (try simp (disch := omega) only [Int64.le_iff_toInt_le, Int64.lt_iff_toInt_lt, Int32.le_iff_toInt_le, Int32.lt_iff_toInt_lt, fa_eq, fa_lit, fa_litL, nI_toInt, pk_lT, Int32.toInt_toInt64, jadd64, jin, jnoneT] at *); omega)
set_option maxRecDepth 4000 in
set_option maxHeartbeats 1000000 in
theorem c_leaf0 (np : Nat) (mem : jMem) (p : Nat) (F : Nat → Int32) (hp : p < np) (hN : mem (92 + 2 * p) 0 = nI p) (hF : mem (93 + 2 * p) = F) : jPi yX6_leaf cX6_leaf 2 .int 2 [.ref (92 + 2 * p), .int 0] np mem (fun v c => v = (jLeaf (nI p) 0 (F 0)) ∧ c = mem) := by
  refine jPi.of (own := RX6) rfl rfl (Nat.le_of_ble_eq_true rfl) (fun G X hR hr hE => ?_)
  refine j_aload_n X dX6_leaf_0 rfl ?_
  refine j_iload_n X dX6_leaf_1 rfl ?_
  refine j_aload_n X dX6_leaf_2 rfl ?_
  refine j_getR X 6 6 (by decide) (by decide) rfl u405 (oP np (by omega)) (kP np _) _ (pP_f np _) dX6_leaf_3 ?_
  refine j_iload_n X dX6_leaf_6 rfl ?_
  refine j_nrm _ (by first | (simp only [fa_lit, pk_mul, nI_add]; done) | (simp only [fa_lit, pk_mul, nI_add]; rfl) | rfl) ?_
  refine j_ialdN X (oPf np (by omega)) (kPf np _) (by rw [lPf]; omega) (by rw [lPf]; decide) F hF dX6_leaf_7 ?_
  refine s_callVi X hR (c_leafWith np _ p _ _ hp hN) rfl 6 (by decide) (oP np (by omega)) (kP np _) rfl u460 u457 u458 u459 u14 hyX6_leafWith (by decide) (by decide) (Nat.le_of_ble_eq_true rfl) dX6_leaf_8 (fun v_8 m_8 h_8 => ?_)
  obtain ⟨e1, e2⟩ := h_8; have e1 := e1.symm; have e2 := e2.symm; subst e1; subst e2
  refine s_iret X hE hr dX6_leaf_11 rfl ?_
  first | exact ⟨rfl, rfl⟩ | (exfalso; clear hE hr hR X; (try simp only [lg_cmp_lt, lg_cmp_gt, lg_cmp_le, lg_cmp_ge] at *); (try simp (disch := omega) only [Int64.le_iff_toInt_le, Int64.lt_iff_toInt_lt, Int32.le_iff_toInt_le, Int32.lt_iff_toInt_lt, fa_eq, fa_lit, fa_litL, nI_toInt, pk_lT, Int32.toInt_toInt64, jadd64, jin, jnoneT] at *); omega)
set_option maxRecDepth 4000 in
set_option maxHeartbeats 1000000 in
theorem c_leaf1 (np : Nat) (mem : jMem) (p : Nat) (F : Nat → Int32) (hp : p < np) (hN : mem (92 + 2 * p) 0 = nI p) (hF : mem (93 + 2 * p) = F) : jPi yX6_leaf cX6_leaf 2 .int 2 [.ref (92 + 2 * p), .int 1] np mem (fun v c => v = (jLeaf (nI p) 1 (F 1)) ∧ c = mem) := by
  refine jPi.of (own := RX6) rfl rfl (Nat.le_of_ble_eq_true rfl) (fun G X hR hr hE => ?_)
  refine j_aload_n X dX6_leaf_0 rfl ?_
  refine j_iload_n X dX6_leaf_1 rfl ?_
  refine j_aload_n X dX6_leaf_2 rfl ?_
  refine j_getR X 6 6 (by decide) (by decide) rfl u405 (oP np (by omega)) (kP np _) _ (pP_f np _) dX6_leaf_3 ?_
  refine j_iload_n X dX6_leaf_6 rfl ?_
  refine j_nrm _ (by first | (simp only [fa_lit, pk_mul, nI_add]; done) | (simp only [fa_lit, pk_mul, nI_add]; rfl) | rfl) ?_
  refine j_ialdN X (oPf np (by omega)) (kPf np _) (by rw [lPf]; omega) (by rw [lPf]; decide) F hF dX6_leaf_7 ?_
  refine s_callVi X hR (c_leafWith np _ p _ _ hp hN) rfl 6 (by decide) (oP np (by omega)) (kP np _) rfl u460 u457 u458 u459 u14 hyX6_leafWith (by decide) (by decide) (Nat.le_of_ble_eq_true rfl) dX6_leaf_8 (fun v_8 m_8 h_8 => ?_)
  obtain ⟨e1, e2⟩ := h_8; have e1 := e1.symm; have e2 := e2.symm; subst e1; subst e2
  refine s_iret X hE hr dX6_leaf_11 rfl ?_
  first | exact ⟨rfl, rfl⟩ | (exfalso; clear hE hr hR X; (try simp only [lg_cmp_lt, lg_cmp_gt, lg_cmp_le, lg_cmp_ge] at *); (try simp (disch := omega) only [Int64.le_iff_toInt_le, Int64.lt_iff_toInt_lt, Int32.le_iff_toInt_le, Int32.lt_iff_toInt_lt, fa_eq, fa_lit, fa_litL, nI_toInt, pk_lT, Int32.toInt_toInt64, jadd64, jin, jnoneT] at *); omega)
set_option maxRecDepth 4000 in
set_option maxHeartbeats 1000000 in
theorem c_leaf2 (np : Nat) (mem : jMem) (p : Nat) (F : Nat → Int32) (hp : p < np) (hN : mem (92 + 2 * p) 0 = nI p) (hF : mem (93 + 2 * p) = F) : jPi yX6_leaf cX6_leaf 2 .int 2 [.ref (92 + 2 * p), .int 2] np mem (fun v c => v = (jLeaf (nI p) 2 (F 2)) ∧ c = mem) := by
  refine jPi.of (own := RX6) rfl rfl (Nat.le_of_ble_eq_true rfl) (fun G X hR hr hE => ?_)
  refine j_aload_n X dX6_leaf_0 rfl ?_
  refine j_iload_n X dX6_leaf_1 rfl ?_
  refine j_aload_n X dX6_leaf_2 rfl ?_
  refine j_getR X 6 6 (by decide) (by decide) rfl u405 (oP np (by omega)) (kP np _) _ (pP_f np _) dX6_leaf_3 ?_
  refine j_iload_n X dX6_leaf_6 rfl ?_
  refine j_nrm _ (by first | (simp only [fa_lit, pk_mul, nI_add]; done) | (simp only [fa_lit, pk_mul, nI_add]; rfl) | rfl) ?_
  refine j_ialdN X (oPf np (by omega)) (kPf np _) (by rw [lPf]; omega) (by rw [lPf]; decide) F hF dX6_leaf_7 ?_
  refine s_callVi X hR (c_leafWith np _ p _ _ hp hN) rfl 6 (by decide) (oP np (by omega)) (kP np _) rfl u460 u457 u458 u459 u14 hyX6_leafWith (by decide) (by decide) (Nat.le_of_ble_eq_true rfl) dX6_leaf_8 (fun v_8 m_8 h_8 => ?_)
  obtain ⟨e1, e2⟩ := h_8; have e1 := e1.symm; have e2 := e2.symm; subst e1; subst e2
  refine s_iret X hE hr dX6_leaf_11 rfl ?_
  first | exact ⟨rfl, rfl⟩ | (exfalso; clear hE hr hR X; (try simp only [lg_cmp_lt, lg_cmp_gt, lg_cmp_le, lg_cmp_ge] at *); (try simp (disch := omega) only [Int64.le_iff_toInt_le, Int64.lt_iff_toInt_lt, Int32.le_iff_toInt_le, Int32.lt_iff_toInt_lt, fa_eq, fa_lit, fa_litL, nI_toInt, pk_lT, Int32.toInt_toInt64, jadd64, jin, jnoneT] at *); omega)
set_option maxRecDepth 4000 in
set_option maxHeartbeats 1000000 in
theorem c_leaf3 (np : Nat) (mem : jMem) (p : Nat) (F : Nat → Int32) (hp : p < np) (hN : mem (92 + 2 * p) 0 = nI p) (hF : mem (93 + 2 * p) = F) : jPi yX6_leaf cX6_leaf 2 .int 2 [.ref (92 + 2 * p), .int 3] np mem (fun v c => v = (jLeaf (nI p) 3 (F 3)) ∧ c = mem) := by
  refine jPi.of (own := RX6) rfl rfl (Nat.le_of_ble_eq_true rfl) (fun G X hR hr hE => ?_)
  refine j_aload_n X dX6_leaf_0 rfl ?_
  refine j_iload_n X dX6_leaf_1 rfl ?_
  refine j_aload_n X dX6_leaf_2 rfl ?_
  refine j_getR X 6 6 (by decide) (by decide) rfl u405 (oP np (by omega)) (kP np _) _ (pP_f np _) dX6_leaf_3 ?_
  refine j_iload_n X dX6_leaf_6 rfl ?_
  refine j_nrm _ (by first | (simp only [fa_lit, pk_mul, nI_add]; done) | (simp only [fa_lit, pk_mul, nI_add]; rfl) | rfl) ?_
  refine j_ialdN X (oPf np (by omega)) (kPf np _) (by rw [lPf]; omega) (by rw [lPf]; decide) F hF dX6_leaf_7 ?_
  refine s_callVi X hR (c_leafWith np _ p _ _ hp hN) rfl 6 (by decide) (oP np (by omega)) (kP np _) rfl u460 u457 u458 u459 u14 hyX6_leafWith (by decide) (by decide) (Nat.le_of_ble_eq_true rfl) dX6_leaf_8 (fun v_8 m_8 h_8 => ?_)
  obtain ⟨e1, e2⟩ := h_8; have e1 := e1.symm; have e2 := e2.symm; subst e1; subst e2
  refine s_iret X hE hr dX6_leaf_11 rfl ?_
  first | exact ⟨rfl, rfl⟩ | (exfalso; clear hE hr hR X; (try simp only [lg_cmp_lt, lg_cmp_gt, lg_cmp_le, lg_cmp_ge] at *); (try simp (disch := omega) only [Int64.le_iff_toInt_le, Int64.lt_iff_toInt_lt, Int32.le_iff_toInt_le, Int32.lt_iff_toInt_lt, fa_eq, fa_lit, fa_litL, nI_toInt, pk_lT, Int32.toInt_toInt64, jadd64, jin, jnoneT] at *); omega)
set_option maxRecDepth 4000 in
set_option maxHeartbeats 1000000 in
theorem c_half0 (np : Nat) (mem : jMem) (p : Nat) (F : Nat → Int32) (hp : p < np) (hN : mem (92 + 2 * p) 0 = nI p) (hF : mem (93 + 2 * p) = F) : jPi yX6_half cX6_half 2 .int 3 [.ref (92 + 2 * p), .int 0] np mem (fun v c => v = (jJoin (jLeaf (nI p) 0 (F 0)) (jLeaf (nI p) 1 (F 1))) ∧ c = mem) := by
  refine jPi.of (own := RX6) rfl rfl (Nat.le_of_ble_eq_true rfl) (fun G X hR hr hE => ?_)
  refine j_aload_n X dX6_half_0 rfl ?_
  refine j_iconst X dX6_half_1 2 (by decide) ?_
  refine j_iload_n X dX6_half_2 rfl ?_
  refine j_imul X dX6_half_3 ?_
  refine s_callVi X hR (c_leaf0 np _ p F hp hN hF) rfl 6 (by decide) (oP np (by omega)) (kP np _) rfl u456 u453 u454 u455 u14 hyX6_leaf (by decide) (by decide) (Nat.le_of_ble_eq_true rfl) dX6_half_4 (fun v_4 m_4 h_4 => ?_)
  obtain ⟨e1, e2⟩ := h_4; have e1 := e1.symm; have e2 := e2.symm; subst e1; subst e2
  refine j_aload_n X dX6_half_7 rfl ?_
  refine j_iconst X dX6_half_8 2 (by decide) ?_
  refine j_iload_n X dX6_half_9 rfl ?_
  refine j_imul X dX6_half_10 ?_
  refine j_iconst X dX6_half_11 1 (by decide) ?_
  refine j_iadd X dX6_half_12 ?_
  refine s_callVi X hR (c_leaf1 np _ p F hp hN hF) rfl 6 (by decide) (oP np (by omega)) (kP np _) rfl u456 u453 u454 u455 u14 hyX6_leaf (by decide) (by decide) (Nat.le_of_ble_eq_true rfl) dX6_half_13 (fun v_13 m_13 h_13 => ?_)
  obtain ⟨e1, e2⟩ := h_13; have e1 := e1.symm; have e2 := e2.symm; subst e1; subst e2
  refine s_callNi X hR (c_join np _ _ _) rfl u464 (by decide) u463 u1 hyX10_join (by decide) (by decide) (Nat.le_of_ble_eq_true rfl) dX6_half_16 (fun v_16 m_16 h_16 => ?_)
  obtain ⟨e1, e2⟩ := h_16; have e1 := e1.symm; have e2 := e2.symm; subst e1; subst e2
  refine s_iret X hE hr dX6_half_19 rfl ?_
  first | exact ⟨rfl, rfl⟩ | (exfalso; clear hE hr hR X; (try simp only [lg_cmp_lt, lg_cmp_gt, lg_cmp_le, lg_cmp_ge] at *); (try simp (disch := omega) only [Int64.le_iff_toInt_le, Int64.lt_iff_toInt_lt, Int32.le_iff_toInt_le, Int32.lt_iff_toInt_lt, fa_eq, fa_lit, fa_litL, nI_toInt, pk_lT, Int32.toInt_toInt64, jadd64, jin, jnoneT] at *); omega)
set_option maxRecDepth 4000 in
set_option maxHeartbeats 1000000 in
theorem c_half1 (np : Nat) (mem : jMem) (p : Nat) (F : Nat → Int32) (hp : p < np) (hN : mem (92 + 2 * p) 0 = nI p) (hF : mem (93 + 2 * p) = F) : jPi yX6_half cX6_half 2 .int 3 [.ref (92 + 2 * p), .int 1] np mem (fun v c => v = (jJoin (jLeaf (nI p) 2 (F 2)) (jLeaf (nI p) 3 (F 3))) ∧ c = mem) := by
  refine jPi.of (own := RX6) rfl rfl (Nat.le_of_ble_eq_true rfl) (fun G X hR hr hE => ?_)
  refine j_aload_n X dX6_half_0 rfl ?_
  refine j_iconst X dX6_half_1 2 (by decide) ?_
  refine j_iload_n X dX6_half_2 rfl ?_
  refine j_imul X dX6_half_3 ?_
  refine s_callVi X hR (c_leaf2 np _ p F hp hN hF) rfl 6 (by decide) (oP np (by omega)) (kP np _) rfl u456 u453 u454 u455 u14 hyX6_leaf (by decide) (by decide) (Nat.le_of_ble_eq_true rfl) dX6_half_4 (fun v_4 m_4 h_4 => ?_)
  obtain ⟨e1, e2⟩ := h_4; have e1 := e1.symm; have e2 := e2.symm; subst e1; subst e2
  refine j_aload_n X dX6_half_7 rfl ?_
  refine j_iconst X dX6_half_8 2 (by decide) ?_
  refine j_iload_n X dX6_half_9 rfl ?_
  refine j_imul X dX6_half_10 ?_
  refine j_iconst X dX6_half_11 1 (by decide) ?_
  refine j_iadd X dX6_half_12 ?_
  refine s_callVi X hR (c_leaf3 np _ p F hp hN hF) rfl 6 (by decide) (oP np (by omega)) (kP np _) rfl u456 u453 u454 u455 u14 hyX6_leaf (by decide) (by decide) (Nat.le_of_ble_eq_true rfl) dX6_half_13 (fun v_13 m_13 h_13 => ?_)
  obtain ⟨e1, e2⟩ := h_13; have e1 := e1.symm; have e2 := e2.symm; subst e1; subst e2
  refine s_callNi X hR (c_join np _ _ _) rfl u464 (by decide) u463 u1 hyX10_join (by decide) (by decide) (Nat.le_of_ble_eq_true rfl) dX6_half_16 (fun v_16 m_16 h_16 => ?_)
  obtain ⟨e1, e2⟩ := h_16; have e1 := e1.symm; have e2 := e2.symm; subst e1; subst e2
  refine s_iret X hE hr dX6_half_19 rfl ?_
  first | exact ⟨rfl, rfl⟩ | (exfalso; clear hE hr hR X; (try simp only [lg_cmp_lt, lg_cmp_gt, lg_cmp_le, lg_cmp_ge] at *); (try simp (disch := omega) only [Int64.le_iff_toInt_le, Int64.lt_iff_toInt_lt, Int32.le_iff_toInt_le, Int32.lt_iff_toInt_lt, fa_eq, fa_lit, fa_litL, nI_toInt, pk_lT, Int32.toInt_toInt64, jadd64, jin, jnoneT] at *); omega)
set_option maxRecDepth 4000 in
set_option maxHeartbeats 1000000 in
theorem c_root (np : Nat) (mem : jMem) (p : Nat) (F : Nat → Int32) (hp : p < np) (hN : mem (92 + 2 * p) 0 = nI p) (hF : mem (93 + 2 * p) = F) : jPi yX6_root cX6_root 1 .int 4 [.ref (92 + 2 * p)] np mem (fun v c => v = (jRootC F p) ∧ c = mem) := by
  refine jPi.of (own := RX6) rfl rfl (Nat.le_of_ble_eq_true rfl) (fun G X hR hr hE => ?_)
  refine j_aload_n X dX6_root_0 rfl ?_
  refine j_iconst X dX6_root_1 0 (by decide) ?_
  refine s_callVi X hR (c_half0 np _ p F hp hN hF) rfl 6 (by decide) (oP np (by omega)) (kP np _) rfl u452 u470 u450 u451 u14 hyX6_half (by decide) (by decide) (Nat.le_of_ble_eq_true rfl) dX6_root_2 (fun v_2 m_2 h_2 => ?_)
  obtain ⟨e1, e2⟩ := h_2; have e1 := e1.symm; have e2 := e2.symm; subst e1; subst e2
  refine j_aload_n X dX6_root_5 rfl ?_
  refine j_iconst X dX6_root_6 1 (by decide) ?_
  refine s_callVi X hR (c_half1 np _ p F hp hN hF) rfl 6 (by decide) (oP np (by omega)) (kP np _) rfl u452 u470 u450 u451 u14 hyX6_half (by decide) (by decide) (Nat.le_of_ble_eq_true rfl) dX6_root_7 (fun v_7 m_7 h_7 => ?_)
  obtain ⟨e1, e2⟩ := h_7; have e1 := e1.symm; have e2 := e2.symm; subst e1; subst e2
  refine s_callNi X hR (c_join np _ _ _) rfl u464 (by decide) u463 u1 hyX10_join (by decide) (by decide) (Nat.le_of_ble_eq_true rfl) dX6_root_10 (fun v_10 m_10 h_10 => ?_)
  obtain ⟨e1, e2⟩ := h_10; have e1 := e1.symm; have e2 := e2.symm; subst e1; subst e2
  refine s_iret X hE hr dX6_root_13 rfl ?_
  first | exact ⟨rfl, rfl⟩ | (exfalso; clear hE hr hR X; (try simp only [lg_cmp_lt, lg_cmp_gt, lg_cmp_le, lg_cmp_ge] at *); (try simp (disch := omega) only [Int64.le_iff_toInt_le, Int64.lt_iff_toInt_lt, Int32.le_iff_toInt_le, Int32.lt_iff_toInt_lt, fa_eq, fa_lit, fa_litL, nI_toInt, pk_lT, Int32.toInt_toInt64, jadd64, jin, jnoneT] at *); omega)
set_option maxRecDepth 4000 in
set_option maxHeartbeats 1000000 in
theorem c_rootWith0 (np : Nat) (mem : jMem) (p : Nat) (w : Int32) (F : Nat → Int32) (hp : p < np) (hN : mem (92 + 2 * p) 0 = nI p) (hF : mem (93 + 2 * p) = F) : jPi yX6_rootWith cX6_rootWith 4 .int 4 [.ref (92 + 2 * p), .int 0, .int w] np mem (fun v c => v = (jJoin (jJoin (jLeaf (nI p) 0 w) (jLeaf (nI p) 1 (F 1))) (jJoin (jLeaf (nI p) 2 (F 2)) (jLeaf (nI p) 3 (F 3)))) ∧ c = mem) := by
  refine jPi.of (own := RX6) rfl rfl (Nat.le_of_ble_eq_true rfl) (fun G X hR hr hE => ?_)
  refine j_aload_n X dX6_rootWith_0 rfl ?_
  refine j_iload_n X dX6_rootWith_1 rfl ?_
  refine j_iload_n X dX6_rootWith_2 rfl ?_
  refine s_callVi X hR (c_leafWith np _ p _ _ hp hN) rfl 6 (by decide) (oP np (by omega)) (kP np _) rfl u460 u457 u458 u459 u14 hyX6_leafWith (by decide) (by decide) (Nat.le_of_ble_eq_true rfl) dX6_rootWith_3 (fun v_3 m_3 h_3 => ?_)
  obtain ⟨e1, e2⟩ := h_3; have e1 := e1.symm; have e2 := e2.symm; subst e1; subst e2
  refine j_istore_n X dX6_rootWith_6 (by decide) ?_
  refine j_iload_n X dX6_rootWith_7 rfl ?_
  refine j_tabIn X (off := 28) 36 dX6_rootWith_8 (by decide) (by decide) (by decide) (by decide) ?_
  refine j_iload_n X dX6_rootWith_36 rfl ?_
  refine j_aload_n X dX6_rootWith_37 rfl ?_
  refine j_iconst X dX6_rootWith_38 1 (by decide) ?_
  refine s_callVi X hR (c_leaf1 np _ p F hp hN hF) rfl 6 (by decide) (oP np (by omega)) (kP np _) rfl u456 u453 u454 u455 u14 hyX6_leaf (by decide) (by decide) (Nat.le_of_ble_eq_true rfl) dX6_rootWith_39 (fun v_39 m_39 h_39 => ?_)
  obtain ⟨e1, e2⟩ := h_39; have e1 := e1.symm; have e2 := e2.symm; subst e1; subst e2
  refine s_callNi X hR (c_join np _ _ _) rfl u464 (by decide) u463 u1 hyX10_join (by decide) (by decide) (Nat.le_of_ble_eq_true rfl) dX6_rootWith_42 (fun v_42 m_42 h_42 => ?_)
  obtain ⟨e1, e2⟩ := h_42; have e1 := e1.symm; have e2 := e2.symm; subst e1; subst e2
  refine j_aload_n X dX6_rootWith_45 rfl ?_
  refine j_iconst X dX6_rootWith_46 1 (by decide) ?_
  refine s_callVi X hR (c_half1 np _ p F hp hN hF) rfl 6 (by decide) (oP np (by omega)) (kP np _) rfl u452 u470 u450 u451 u14 hyX6_half (by decide) (by decide) (Nat.le_of_ble_eq_true rfl) dX6_rootWith_47 (fun v_47 m_47 h_47 => ?_)
  obtain ⟨e1, e2⟩ := h_47; have e1 := e1.symm; have e2 := e2.symm; subst e1; subst e2
  refine s_callNi X hR (c_join np _ _ _) rfl u464 (by decide) u463 u1 hyX10_join (by decide) (by decide) (Nat.le_of_ble_eq_true rfl) dX6_rootWith_50 (fun v_50 m_50 h_50 => ?_)
  obtain ⟨e1, e2⟩ := h_50; have e1 := e1.symm; have e2 := e2.symm; subst e1; subst e2
  refine s_iret X hE hr dX6_rootWith_53 rfl ?_
  first | exact ⟨rfl, rfl⟩ | (exfalso; clear hE hr hR X; (try simp only [lg_cmp_lt, lg_cmp_gt, lg_cmp_le, lg_cmp_ge] at *); (try simp (disch := omega) only [Int64.le_iff_toInt_le, Int64.lt_iff_toInt_lt, Int32.le_iff_toInt_le, Int32.lt_iff_toInt_lt, fa_eq, fa_lit, fa_litL, nI_toInt, pk_lT, Int32.toInt_toInt64, jadd64, jin, jnoneT] at *); omega)
set_option maxRecDepth 4000 in
set_option maxHeartbeats 1000000 in
theorem c_rootWith1 (np : Nat) (mem : jMem) (p : Nat) (w : Int32) (F : Nat → Int32) (hp : p < np) (hN : mem (92 + 2 * p) 0 = nI p) (hF : mem (93 + 2 * p) = F) : jPi yX6_rootWith cX6_rootWith 4 .int 4 [.ref (92 + 2 * p), .int 1, .int w] np mem (fun v c => v = (jJoin (jJoin (jLeaf (nI p) 0 (F 0)) (jLeaf (nI p) 1 w)) (jJoin (jLeaf (nI p) 2 (F 2)) (jLeaf (nI p) 3 (F 3)))) ∧ c = mem) := by
  refine jPi.of (own := RX6) rfl rfl (Nat.le_of_ble_eq_true rfl) (fun G X hR hr hE => ?_)
  refine j_aload_n X dX6_rootWith_0 rfl ?_
  refine j_iload_n X dX6_rootWith_1 rfl ?_
  refine j_iload_n X dX6_rootWith_2 rfl ?_
  refine s_callVi X hR (c_leafWith np _ p _ _ hp hN) rfl 6 (by decide) (oP np (by omega)) (kP np _) rfl u460 u457 u458 u459 u14 hyX6_leafWith (by decide) (by decide) (Nat.le_of_ble_eq_true rfl) dX6_rootWith_3 (fun v_3 m_3 h_3 => ?_)
  obtain ⟨e1, e2⟩ := h_3; have e1 := e1.symm; have e2 := e2.symm; subst e1; subst e2
  refine j_istore_n X dX6_rootWith_6 (by decide) ?_
  refine j_iload_n X dX6_rootWith_7 rfl ?_
  refine j_tabIn X (off := 46) 54 dX6_rootWith_8 (by decide) (by decide) (by decide) (by decide) ?_
  refine j_aload_n X dX6_rootWith_54 rfl ?_
  refine j_iconst X dX6_rootWith_55 0 (by decide) ?_
  refine s_callVi X hR (c_leaf0 np _ p F hp hN hF) rfl 6 (by decide) (oP np (by omega)) (kP np _) rfl u456 u453 u454 u455 u14 hyX6_leaf (by decide) (by decide) (Nat.le_of_ble_eq_true rfl) dX6_rootWith_56 (fun v_56 m_56 h_56 => ?_)
  obtain ⟨e1, e2⟩ := h_56; have e1 := e1.symm; have e2 := e2.symm; subst e1; subst e2
  refine j_iload_n X dX6_rootWith_59 rfl ?_
  refine s_callNi X hR (c_join np _ _ _) rfl u464 (by decide) u463 u1 hyX10_join (by decide) (by decide) (Nat.le_of_ble_eq_true rfl) dX6_rootWith_60 (fun v_60 m_60 h_60 => ?_)
  obtain ⟨e1, e2⟩ := h_60; have e1 := e1.symm; have e2 := e2.symm; subst e1; subst e2
  refine j_aload_n X dX6_rootWith_63 rfl ?_
  refine j_iconst X dX6_rootWith_64 1 (by decide) ?_
  refine s_callVi X hR (c_half1 np _ p F hp hN hF) rfl 6 (by decide) (oP np (by omega)) (kP np _) rfl u452 u470 u450 u451 u14 hyX6_half (by decide) (by decide) (Nat.le_of_ble_eq_true rfl) dX6_rootWith_65 (fun v_65 m_65 h_65 => ?_)
  obtain ⟨e1, e2⟩ := h_65; have e1 := e1.symm; have e2 := e2.symm; subst e1; subst e2
  refine s_callNi X hR (c_join np _ _ _) rfl u464 (by decide) u463 u1 hyX10_join (by decide) (by decide) (Nat.le_of_ble_eq_true rfl) dX6_rootWith_68 (fun v_68 m_68 h_68 => ?_)
  obtain ⟨e1, e2⟩ := h_68; have e1 := e1.symm; have e2 := e2.symm; subst e1; subst e2
  refine s_iret X hE hr dX6_rootWith_71 rfl ?_
  first | exact ⟨rfl, rfl⟩ | (exfalso; clear hE hr hR X; (try simp only [lg_cmp_lt, lg_cmp_gt, lg_cmp_le, lg_cmp_ge] at *); (try simp (disch := omega) only [Int64.le_iff_toInt_le, Int64.lt_iff_toInt_lt, Int32.le_iff_toInt_le, Int32.lt_iff_toInt_lt, fa_eq, fa_lit, fa_litL, nI_toInt, pk_lT, Int32.toInt_toInt64, jadd64, jin, jnoneT] at *); omega)
set_option maxRecDepth 4000 in
set_option maxHeartbeats 1000000 in
theorem c_rootWith2 (np : Nat) (mem : jMem) (p : Nat) (w : Int32) (F : Nat → Int32) (hp : p < np) (hN : mem (92 + 2 * p) 0 = nI p) (hF : mem (93 + 2 * p) = F) : jPi yX6_rootWith cX6_rootWith 4 .int 4 [.ref (92 + 2 * p), .int 2, .int w] np mem (fun v c => v = (jJoin (jJoin (jLeaf (nI p) 0 (F 0)) (jLeaf (nI p) 1 (F 1))) (jJoin (jLeaf (nI p) 2 w) (jLeaf (nI p) 3 (F 3)))) ∧ c = mem) := by
  refine jPi.of (own := RX6) rfl rfl (Nat.le_of_ble_eq_true rfl) (fun G X hR hr hE => ?_)
  refine j_aload_n X dX6_rootWith_0 rfl ?_
  refine j_iload_n X dX6_rootWith_1 rfl ?_
  refine j_iload_n X dX6_rootWith_2 rfl ?_
  refine s_callVi X hR (c_leafWith np _ p _ _ hp hN) rfl 6 (by decide) (oP np (by omega)) (kP np _) rfl u460 u457 u458 u459 u14 hyX6_leafWith (by decide) (by decide) (Nat.le_of_ble_eq_true rfl) dX6_rootWith_3 (fun v_3 m_3 h_3 => ?_)
  obtain ⟨e1, e2⟩ := h_3; have e1 := e1.symm; have e2 := e2.symm; subst e1; subst e2
  refine j_istore_n X dX6_rootWith_6 (by decide) ?_
  refine j_iload_n X dX6_rootWith_7 rfl ?_
  refine j_tabIn X (off := 64) 72 dX6_rootWith_8 (by decide) (by decide) (by decide) (by decide) ?_
  refine j_aload_n X dX6_rootWith_72 rfl ?_
  refine j_iconst X dX6_rootWith_73 0 (by decide) ?_
  refine s_callVi X hR (c_half0 np _ p F hp hN hF) rfl 6 (by decide) (oP np (by omega)) (kP np _) rfl u452 u470 u450 u451 u14 hyX6_half (by decide) (by decide) (Nat.le_of_ble_eq_true rfl) dX6_rootWith_74 (fun v_74 m_74 h_74 => ?_)
  obtain ⟨e1, e2⟩ := h_74; have e1 := e1.symm; have e2 := e2.symm; subst e1; subst e2
  refine j_iload_n X dX6_rootWith_77 rfl ?_
  refine j_aload_n X dX6_rootWith_78 rfl ?_
  refine j_iconst X dX6_rootWith_79 3 (by decide) ?_
  refine s_callVi X hR (c_leaf3 np _ p F hp hN hF) rfl 6 (by decide) (oP np (by omega)) (kP np _) rfl u456 u453 u454 u455 u14 hyX6_leaf (by decide) (by decide) (Nat.le_of_ble_eq_true rfl) dX6_rootWith_80 (fun v_80 m_80 h_80 => ?_)
  obtain ⟨e1, e2⟩ := h_80; have e1 := e1.symm; have e2 := e2.symm; subst e1; subst e2
  refine s_callNi X hR (c_join np _ _ _) rfl u464 (by decide) u463 u1 hyX10_join (by decide) (by decide) (Nat.le_of_ble_eq_true rfl) dX6_rootWith_83 (fun v_83 m_83 h_83 => ?_)
  obtain ⟨e1, e2⟩ := h_83; have e1 := e1.symm; have e2 := e2.symm; subst e1; subst e2
  refine s_callNi X hR (c_join np _ _ _) rfl u464 (by decide) u463 u1 hyX10_join (by decide) (by decide) (Nat.le_of_ble_eq_true rfl) dX6_rootWith_86 (fun v_86 m_86 h_86 => ?_)
  obtain ⟨e1, e2⟩ := h_86; have e1 := e1.symm; have e2 := e2.symm; subst e1; subst e2
  refine s_iret X hE hr dX6_rootWith_89 rfl ?_
  first | exact ⟨rfl, rfl⟩ | (exfalso; clear hE hr hR X; (try simp only [lg_cmp_lt, lg_cmp_gt, lg_cmp_le, lg_cmp_ge] at *); (try simp (disch := omega) only [Int64.le_iff_toInt_le, Int64.lt_iff_toInt_lt, Int32.le_iff_toInt_le, Int32.lt_iff_toInt_lt, fa_eq, fa_lit, fa_litL, nI_toInt, pk_lT, Int32.toInt_toInt64, jadd64, jin, jnoneT] at *); omega)
set_option maxRecDepth 4000 in
set_option maxHeartbeats 1000000 in
theorem c_rootWith3 (np : Nat) (mem : jMem) (p : Nat) (w : Int32) (F : Nat → Int32) (hp : p < np) (hN : mem (92 + 2 * p) 0 = nI p) (hF : mem (93 + 2 * p) = F) : jPi yX6_rootWith cX6_rootWith 4 .int 4 [.ref (92 + 2 * p), .int 3, .int w] np mem (fun v c => v = (jJoin (jJoin (jLeaf (nI p) 0 (F 0)) (jLeaf (nI p) 1 (F 1))) (jJoin (jLeaf (nI p) 2 (F 2)) (jLeaf (nI p) 3 w))) ∧ c = mem) := by
  refine jPi.of (own := RX6) rfl rfl (Nat.le_of_ble_eq_true rfl) (fun G X hR hr hE => ?_)
  refine j_aload_n X dX6_rootWith_0 rfl ?_
  refine j_iload_n X dX6_rootWith_1 rfl ?_
  refine j_iload_n X dX6_rootWith_2 rfl ?_
  refine s_callVi X hR (c_leafWith np _ p _ _ hp hN) rfl 6 (by decide) (oP np (by omega)) (kP np _) rfl u460 u457 u458 u459 u14 hyX6_leafWith (by decide) (by decide) (Nat.le_of_ble_eq_true rfl) dX6_rootWith_3 (fun v_3 m_3 h_3 => ?_)
  obtain ⟨e1, e2⟩ := h_3; have e1 := e1.symm; have e2 := e2.symm; subst e1; subst e2
  refine j_istore_n X dX6_rootWith_6 (by decide) ?_
  refine j_iload_n X dX6_rootWith_7 rfl ?_
  refine j_tabOut X 90 dX6_rootWith_8 (by decide) (by decide) ?_
  refine j_aload_n X dX6_rootWith_90 rfl ?_
  refine j_iconst X dX6_rootWith_91 0 (by decide) ?_
  refine s_callVi X hR (c_half0 np _ p F hp hN hF) rfl 6 (by decide) (oP np (by omega)) (kP np _) rfl u452 u470 u450 u451 u14 hyX6_half (by decide) (by decide) (Nat.le_of_ble_eq_true rfl) dX6_rootWith_92 (fun v_92 m_92 h_92 => ?_)
  obtain ⟨e1, e2⟩ := h_92; have e1 := e1.symm; have e2 := e2.symm; subst e1; subst e2
  refine j_aload_n X dX6_rootWith_95 rfl ?_
  refine j_iconst X dX6_rootWith_96 2 (by decide) ?_
  refine s_callVi X hR (c_leaf2 np _ p F hp hN hF) rfl 6 (by decide) (oP np (by omega)) (kP np _) rfl u456 u453 u454 u455 u14 hyX6_leaf (by decide) (by decide) (Nat.le_of_ble_eq_true rfl) dX6_rootWith_97 (fun v_97 m_97 h_97 => ?_)
  obtain ⟨e1, e2⟩ := h_97; have e1 := e1.symm; have e2 := e2.symm; subst e1; subst e2
  refine j_iload_n X dX6_rootWith_100 rfl ?_
  refine s_callNi X hR (c_join np _ _ _) rfl u464 (by decide) u463 u1 hyX10_join (by decide) (by decide) (Nat.le_of_ble_eq_true rfl) dX6_rootWith_101 (fun v_101 m_101 h_101 => ?_)
  obtain ⟨e1, e2⟩ := h_101; have e1 := e1.symm; have e2 := e2.symm; subst e1; subst e2
  refine s_callNi X hR (c_join np _ _ _) rfl u464 (by decide) u463 u1 hyX10_join (by decide) (by decide) (Nat.le_of_ble_eq_true rfl) dX6_rootWith_104 (fun v_104 m_104 h_104 => ?_)
  obtain ⟨e1, e2⟩ := h_104; have e1 := e1.symm; have e2 := e2.symm; subst e1; subst e2
  refine s_iret X hE hr dX6_rootWith_107 rfl ?_
  first | exact ⟨rfl, rfl⟩ | (exfalso; clear hE hr hR X; (try simp only [lg_cmp_lt, lg_cmp_gt, lg_cmp_le, lg_cmp_ge] at *); (try simp (disch := omega) only [Int64.le_iff_toInt_le, Int64.lt_iff_toInt_lt, Int32.le_iff_toInt_le, Int32.lt_iff_toInt_lt, fa_eq, fa_lit, fa_litL, nI_toInt, pk_lT, Int32.toInt_toInt64, jadd64, jin, jnoneT] at *); omega)
set_option maxRecDepth 4000 in
set_option maxHeartbeats 1000000 in
theorem c_shows0_0 (np : Nat) (mem : jMem)   : jPi yX6_showsOfHalf cX6_showsOfHalf 2 .boolean 1 [.int 0, .int 0] np mem (fun v c => v = 0 ∧ c = mem) := by
  refine jPi.of (own := RX6) rfl rfl (Nat.le_of_ble_eq_true rfl) (fun G X hR hr hE => ?_)
  refine j_iload_n X dX6_showsOfHalf_0 rfl ?_
  refine j_iconst X dX6_showsOfHalf_1 2 (by decide) ?_
  refine j_iload_n X dX6_showsOfHalf_2 rfl ?_
  refine j_imul X dX6_showsOfHalf_3 ?_
  refine j_ishr X dX6_showsOfHalf_4 ?_
  refine j_iconst X dX6_showsOfHalf_5 3 (by decide) ?_
  refine j_iand X dX6_showsOfHalf_6 ?_
  refine j_if_eq X 14 dX6_showsOfHalf_7 (by decide) (fun c_7 => ?_) (fun c_7 => absurd c_7 (by decide))
  refine j_iconst X dX6_showsOfHalf_14 0 (by decide) ?_
  refine s_iret X hE hr dX6_showsOfHalf_15 (by first | exact jb_nar | rfl) ?_
  first | exact ⟨rfl, rfl⟩ | (exfalso; clear hE hr hR X; (try simp only [lg_cmp_lt, lg_cmp_gt, lg_cmp_le, lg_cmp_ge] at *); (try simp (disch := omega) only [Int64.le_iff_toInt_le, Int64.lt_iff_toInt_lt, Int32.le_iff_toInt_le, Int32.lt_iff_toInt_lt, fa_eq, fa_lit, fa_litL, nI_toInt, pk_lT, Int32.toInt_toInt64, jadd64, jin, jnoneT] at *); omega)
set_option maxRecDepth 4000 in
set_option maxHeartbeats 1000000 in
theorem c_halfSize0_0 (np : Nat) (mem : jMem)   : jPi yX6_halfSize cX6_halfSize 2 .int 2 [.int 0, .int 0] np mem (fun v c => v = 1 ∧ c = mem) := by
  refine jPi.of (own := RX6) rfl rfl (Nat.le_of_ble_eq_true rfl) (fun G X hR hr hE => ?_)
  refine j_iload_n X dX6_halfSize_0 rfl ?_
  refine j_iload_n X dX6_halfSize_1 rfl ?_
  refine s_callSi X hR (c_shows0_0 np _) rfl u491 u489 u490 u14 hyX6_showsOfHalf (by decide) (by decide) (Nat.le_of_ble_eq_true rfl) dX6_halfSize_2 (fun v_2 m_2 h_2 => ?_)
  obtain ⟨e1, e2⟩ := h_2; have e1 := e1.symm; have e2 := e2.symm; subst e1; subst e2
  refine j_if_eq X 12 dX6_halfSize_5 (by decide) (fun c_5 => ?_) (fun c_5 => absurd c_5 (by decide))
  refine j_iconst X dX6_halfSize_12 1 (by decide) ?_
  refine s_iret X hE hr dX6_halfSize_13 rfl ?_
  first | exact ⟨rfl, rfl⟩ | (exfalso; clear hE hr hR X; (try simp only [lg_cmp_lt, lg_cmp_gt, lg_cmp_le, lg_cmp_ge] at *); (try simp (disch := omega) only [Int64.le_iff_toInt_le, Int64.lt_iff_toInt_lt, Int32.le_iff_toInt_le, Int32.lt_iff_toInt_lt, fa_eq, fa_lit, fa_litL, nI_toInt, pk_lT, Int32.toInt_toInt64, jadd64, jin, jnoneT] at *); omega)
set_option maxRecDepth 4000 in
set_option maxHeartbeats 1000000 in
theorem c_shows0_1 (np : Nat) (mem : jMem)   : jPi yX6_showsOfHalf cX6_showsOfHalf 2 .boolean 1 [.int 0, .int 1] np mem (fun v c => v = 0 ∧ c = mem) := by
  refine jPi.of (own := RX6) rfl rfl (Nat.le_of_ble_eq_true rfl) (fun G X hR hr hE => ?_)
  refine j_iload_n X dX6_showsOfHalf_0 rfl ?_
  refine j_iconst X dX6_showsOfHalf_1 2 (by decide) ?_
  refine j_iload_n X dX6_showsOfHalf_2 rfl ?_
  refine j_imul X dX6_showsOfHalf_3 ?_
  refine j_ishr X dX6_showsOfHalf_4 ?_
  refine j_iconst X dX6_showsOfHalf_5 3 (by decide) ?_
  refine j_iand X dX6_showsOfHalf_6 ?_
  refine j_if_eq X 14 dX6_showsOfHalf_7 (by decide) (fun c_7 => ?_) (fun c_7 => absurd c_7 (by decide))
  refine j_iconst X dX6_showsOfHalf_14 0 (by decide) ?_
  refine s_iret X hE hr dX6_showsOfHalf_15 (by first | exact jb_nar | rfl) ?_
  first | exact ⟨rfl, rfl⟩ | (exfalso; clear hE hr hR X; (try simp only [lg_cmp_lt, lg_cmp_gt, lg_cmp_le, lg_cmp_ge] at *); (try simp (disch := omega) only [Int64.le_iff_toInt_le, Int64.lt_iff_toInt_lt, Int32.le_iff_toInt_le, Int32.lt_iff_toInt_lt, fa_eq, fa_lit, fa_litL, nI_toInt, pk_lT, Int32.toInt_toInt64, jadd64, jin, jnoneT] at *); omega)
set_option maxRecDepth 4000 in
set_option maxHeartbeats 1000000 in
theorem c_halfSize0_1 (np : Nat) (mem : jMem)   : jPi yX6_halfSize cX6_halfSize 2 .int 2 [.int 0, .int 1] np mem (fun v c => v = 1 ∧ c = mem) := by
  refine jPi.of (own := RX6) rfl rfl (Nat.le_of_ble_eq_true rfl) (fun G X hR hr hE => ?_)
  refine j_iload_n X dX6_halfSize_0 rfl ?_
  refine j_iload_n X dX6_halfSize_1 rfl ?_
  refine s_callSi X hR (c_shows0_1 np _) rfl u491 u489 u490 u14 hyX6_showsOfHalf (by decide) (by decide) (Nat.le_of_ble_eq_true rfl) dX6_halfSize_2 (fun v_2 m_2 h_2 => ?_)
  obtain ⟨e1, e2⟩ := h_2; have e1 := e1.symm; have e2 := e2.symm; subst e1; subst e2
  refine j_if_eq X 12 dX6_halfSize_5 (by decide) (fun c_5 => ?_) (fun c_5 => absurd c_5 (by decide))
  refine j_iconst X dX6_halfSize_12 1 (by decide) ?_
  refine s_iret X hE hr dX6_halfSize_13 rfl ?_
  first | exact ⟨rfl, rfl⟩ | (exfalso; clear hE hr hR X; (try simp only [lg_cmp_lt, lg_cmp_gt, lg_cmp_le, lg_cmp_ge] at *); (try simp (disch := omega) only [Int64.le_iff_toInt_le, Int64.lt_iff_toInt_lt, Int32.le_iff_toInt_le, Int32.lt_iff_toInt_lt, fa_eq, fa_lit, fa_litL, nI_toInt, pk_lT, Int32.toInt_toInt64, jadd64, jin, jnoneT] at *); omega)
set_option maxRecDepth 4000 in
set_option maxHeartbeats 1000000 in
theorem c_showingSize0 (np : Nat) (mem : jMem)   : jPi yX6_showingSize cX6_showingSize 1 .int 3 [.int 0] np mem (fun v c => v = 2 ∧ c = mem) := by
  refine jPi.of (own := RX6) rfl rfl (Nat.le_of_ble_eq_true rfl) (fun G X hR hr hE => ?_)
  refine j_iload_n X dX6_showingSize_0 rfl ?_
  refine j_iconst X dX6_showingSize_1 0 (by decide) ?_
  refine s_callSi X hR (c_halfSize0_0 np _) rfl u501 u499 u500 u14 hyX6_halfSize (by decide) (by decide) (Nat.le_of_ble_eq_true rfl) dX6_showingSize_2 (fun v_2 m_2 h_2 => ?_)
  obtain ⟨e1, e2⟩ := h_2; have e1 := e1.symm; have e2 := e2.symm; subst e1; subst e2
  refine j_iload_n X dX6_showingSize_5 rfl ?_
  refine j_iconst X dX6_showingSize_6 1 (by decide) ?_
  refine s_callSi X hR (c_halfSize0_1 np _) rfl u501 u499 u500 u14 hyX6_halfSize (by decide) (by decide) (Nat.le_of_ble_eq_true rfl) dX6_showingSize_7 (fun v_2 m_2 h_2 => ?_)
  obtain ⟨e1, e2⟩ := h_2; have e1 := e1.symm; have e2 := e2.symm; subst e1; subst e2
  refine j_iadd X dX6_showingSize_10 ?_
  refine s_iret X hE hr dX6_showingSize_11 rfl ?_
  exact ⟨by decide, rfl⟩
set_option maxRecDepth 4000 in
set_option maxHeartbeats 1000000 in
theorem c_shownOf0_0 (np : Nat) (mem : jMem) (p : Nat) (F : Nat → Int32) (hp : p < np) (hN : mem (92 + 2 * p) 0 = nI p) (hF : mem (93 + 2 * p) = F) : jPi yX6_shownOf cX6_shownOf 3 .int 3 [.ref (92 + 2 * p), .int 0, .int 0] np mem (fun v c => v = (jLeaf (nI p) 0 (F 0)) ∧ c = mem) := by
  refine jPi.of (own := RX6) rfl rfl (Nat.le_of_ble_eq_true rfl) (fun G X hR hr hE => ?_)
  refine j_iload_n X dX6_shownOf_0 rfl ?_
  refine j_iload_n X dX6_shownOf_1 rfl ?_
  refine s_callNi X hR (c_hasBit np _ _ _) rfl u498 (by decide) u497 u1 hyX10_hasBit (by decide) (by decide) (Nat.le_of_ble_eq_true rfl) dX6_shownOf_2 (fun v_2 m_2 h_2 => ?_)
  obtain ⟨e1, e2⟩ := h_2; have e1 := e1.symm; have e2 := e2.symm; subst e1; subst e2
  refine j_ifb_eq X 17 dX6_shownOf_5 (by decide) (fun c_5 => ?_) (fun c_5 => absurd c_5 (by decide))
  refine j_aload_n X dX6_shownOf_17 rfl ?_
  refine j_iload_n X dX6_shownOf_18 rfl ?_
  refine s_callVi X hR (c_leaf0 np _ p F hp hN hF) rfl 6 (by decide) (oP np (by omega)) (kP np _) rfl u456 u453 u454 u455 u14 hyX6_leaf (by decide) (by decide) (Nat.le_of_ble_eq_true rfl) dX6_shownOf_19 (fun v_19 m_19 h_19 => ?_)
  obtain ⟨e1, e2⟩ := h_19; have e1 := e1.symm; have e2 := e2.symm; subst e1; subst e2
  refine s_iret X hE hr dX6_shownOf_22 rfl ?_
  first | exact ⟨rfl, rfl⟩ | (exfalso; clear hE hr hR X; (try simp only [lg_cmp_lt, lg_cmp_gt, lg_cmp_le, lg_cmp_ge] at *); (try simp (disch := omega) only [Int64.le_iff_toInt_le, Int64.lt_iff_toInt_lt, Int32.le_iff_toInt_le, Int32.lt_iff_toInt_lt, fa_eq, fa_lit, fa_litL, nI_toInt, pk_lT, Int32.toInt_toInt64, jadd64, jin, jnoneT] at *); omega)
set_option maxRecDepth 4000 in
set_option maxHeartbeats 1000000 in
theorem c_shownOf0_1 (np : Nat) (mem : jMem) (p : Nat) (F : Nat → Int32) (hp : p < np) (hN : mem (92 + 2 * p) 0 = nI p) (hF : mem (93 + 2 * p) = F) : jPi yX6_shownOf cX6_shownOf 3 .int 3 [.ref (92 + 2 * p), .int 0, .int 1] np mem (fun v c => v = (jLeaf (nI p) 1 (F 1)) ∧ c = mem) := by
  refine jPi.of (own := RX6) rfl rfl (Nat.le_of_ble_eq_true rfl) (fun G X hR hr hE => ?_)
  refine j_iload_n X dX6_shownOf_0 rfl ?_
  refine j_iload_n X dX6_shownOf_1 rfl ?_
  refine s_callNi X hR (c_hasBit np _ _ _) rfl u498 (by decide) u497 u1 hyX10_hasBit (by decide) (by decide) (Nat.le_of_ble_eq_true rfl) dX6_shownOf_2 (fun v_2 m_2 h_2 => ?_)
  obtain ⟨e1, e2⟩ := h_2; have e1 := e1.symm; have e2 := e2.symm; subst e1; subst e2
  refine j_ifb_eq X 17 dX6_shownOf_5 (by decide) (fun c_5 => ?_) (fun c_5 => absurd c_5 (by decide))
  refine j_aload_n X dX6_shownOf_17 rfl ?_
  refine j_iload_n X dX6_shownOf_18 rfl ?_
  refine s_callVi X hR (c_leaf1 np _ p F hp hN hF) rfl 6 (by decide) (oP np (by omega)) (kP np _) rfl u456 u453 u454 u455 u14 hyX6_leaf (by decide) (by decide) (Nat.le_of_ble_eq_true rfl) dX6_shownOf_19 (fun v_19 m_19 h_19 => ?_)
  obtain ⟨e1, e2⟩ := h_19; have e1 := e1.symm; have e2 := e2.symm; subst e1; subst e2
  refine s_iret X hE hr dX6_shownOf_22 rfl ?_
  first | exact ⟨rfl, rfl⟩ | (exfalso; clear hE hr hR X; (try simp only [lg_cmp_lt, lg_cmp_gt, lg_cmp_le, lg_cmp_ge] at *); (try simp (disch := omega) only [Int64.le_iff_toInt_le, Int64.lt_iff_toInt_lt, Int32.le_iff_toInt_le, Int32.lt_iff_toInt_lt, fa_eq, fa_lit, fa_litL, nI_toInt, pk_lT, Int32.toInt_toInt64, jadd64, jin, jnoneT] at *); omega)
set_option maxRecDepth 4000 in
set_option maxHeartbeats 1000000 in
theorem c_shownOf0_2 (np : Nat) (mem : jMem) (p : Nat) (F : Nat → Int32) (hp : p < np) (hN : mem (92 + 2 * p) 0 = nI p) (hF : mem (93 + 2 * p) = F) : jPi yX6_shownOf cX6_shownOf 3 .int 3 [.ref (92 + 2 * p), .int 0, .int 2] np mem (fun v c => v = (jLeaf (nI p) 2 (F 2)) ∧ c = mem) := by
  refine jPi.of (own := RX6) rfl rfl (Nat.le_of_ble_eq_true rfl) (fun G X hR hr hE => ?_)
  refine j_iload_n X dX6_shownOf_0 rfl ?_
  refine j_iload_n X dX6_shownOf_1 rfl ?_
  refine s_callNi X hR (c_hasBit np _ _ _) rfl u498 (by decide) u497 u1 hyX10_hasBit (by decide) (by decide) (Nat.le_of_ble_eq_true rfl) dX6_shownOf_2 (fun v_2 m_2 h_2 => ?_)
  obtain ⟨e1, e2⟩ := h_2; have e1 := e1.symm; have e2 := e2.symm; subst e1; subst e2
  refine j_ifb_eq X 17 dX6_shownOf_5 (by decide) (fun c_5 => ?_) (fun c_5 => absurd c_5 (by decide))
  refine j_aload_n X dX6_shownOf_17 rfl ?_
  refine j_iload_n X dX6_shownOf_18 rfl ?_
  refine s_callVi X hR (c_leaf2 np _ p F hp hN hF) rfl 6 (by decide) (oP np (by omega)) (kP np _) rfl u456 u453 u454 u455 u14 hyX6_leaf (by decide) (by decide) (Nat.le_of_ble_eq_true rfl) dX6_shownOf_19 (fun v_19 m_19 h_19 => ?_)
  obtain ⟨e1, e2⟩ := h_19; have e1 := e1.symm; have e2 := e2.symm; subst e1; subst e2
  refine s_iret X hE hr dX6_shownOf_22 rfl ?_
  first | exact ⟨rfl, rfl⟩ | (exfalso; clear hE hr hR X; (try simp only [lg_cmp_lt, lg_cmp_gt, lg_cmp_le, lg_cmp_ge] at *); (try simp (disch := omega) only [Int64.le_iff_toInt_le, Int64.lt_iff_toInt_lt, Int32.le_iff_toInt_le, Int32.lt_iff_toInt_lt, fa_eq, fa_lit, fa_litL, nI_toInt, pk_lT, Int32.toInt_toInt64, jadd64, jin, jnoneT] at *); omega)
set_option maxRecDepth 4000 in
set_option maxHeartbeats 1000000 in
theorem c_shownOf0_3 (np : Nat) (mem : jMem) (p : Nat) (F : Nat → Int32) (hp : p < np) (hN : mem (92 + 2 * p) 0 = nI p) (hF : mem (93 + 2 * p) = F) : jPi yX6_shownOf cX6_shownOf 3 .int 3 [.ref (92 + 2 * p), .int 0, .int 3] np mem (fun v c => v = (jLeaf (nI p) 3 (F 3)) ∧ c = mem) := by
  refine jPi.of (own := RX6) rfl rfl (Nat.le_of_ble_eq_true rfl) (fun G X hR hr hE => ?_)
  refine j_iload_n X dX6_shownOf_0 rfl ?_
  refine j_iload_n X dX6_shownOf_1 rfl ?_
  refine s_callNi X hR (c_hasBit np _ _ _) rfl u498 (by decide) u497 u1 hyX10_hasBit (by decide) (by decide) (Nat.le_of_ble_eq_true rfl) dX6_shownOf_2 (fun v_2 m_2 h_2 => ?_)
  obtain ⟨e1, e2⟩ := h_2; have e1 := e1.symm; have e2 := e2.symm; subst e1; subst e2
  refine j_ifb_eq X 17 dX6_shownOf_5 (by decide) (fun c_5 => ?_) (fun c_5 => absurd c_5 (by decide))
  refine j_aload_n X dX6_shownOf_17 rfl ?_
  refine j_iload_n X dX6_shownOf_18 rfl ?_
  refine s_callVi X hR (c_leaf3 np _ p F hp hN hF) rfl 6 (by decide) (oP np (by omega)) (kP np _) rfl u456 u453 u454 u455 u14 hyX6_leaf (by decide) (by decide) (Nat.le_of_ble_eq_true rfl) dX6_shownOf_19 (fun v_19 m_19 h_19 => ?_)
  obtain ⟨e1, e2⟩ := h_19; have e1 := e1.symm; have e2 := e2.symm; subst e1; subst e2
  refine s_iret X hE hr dX6_shownOf_22 rfl ?_
  first | exact ⟨rfl, rfl⟩ | (exfalso; clear hE hr hR X; (try simp only [lg_cmp_lt, lg_cmp_gt, lg_cmp_le, lg_cmp_ge] at *); (try simp (disch := omega) only [Int64.le_iff_toInt_le, Int64.lt_iff_toInt_lt, Int32.le_iff_toInt_le, Int32.lt_iff_toInt_lt, fa_eq, fa_lit, fa_litL, nI_toInt, pk_lT, Int32.toInt_toInt64, jadd64, jin, jnoneT] at *); omega)
set_option maxRecDepth 4000 in
set_option maxHeartbeats 1000000 in
theorem c_fillShowing0 (np : Nat) (mem : jMem) (p : Nat) (F : Nat → Int32) (hp : p < np) (hN : mem (92 + 2 * p) 0 = nI p) (hF : mem (93 + 2 * p) = F) : jPi yX6_fillShowing cX6_fillShowing 5 .int 4 [.ref (92 + 2 * p), .int 0, .ref 65] np mem (fun v c => v = 2 ∧ c = jup (jup (mem) 65 0 (jJoin (jLeaf (nI p) 0 (F 0)) (jLeaf (nI p) 1 (F 1)))) 65 1 (jJoin (jLeaf (nI p) 2 (F 2)) (jLeaf (nI p) 3 (F 3)))) := by
  refine jPi.of (own := RX6) rfl rfl (Nat.le_of_ble_eq_true rfl) (fun G X hR hr hE => ?_)
  refine j_iconst X dX6_fillShowing_0 0 (by decide) ?_
  refine j_istore_n X dX6_fillShowing_1 (by decide) ?_
  refine j_iconst X dX6_fillShowing_2 0 (by decide) ?_
  refine j_istore X dX6_fillShowing_3 (by decide) ?_
  refine j_iload X dX6_fillShowing_5 rfl ?_
  refine j_iconst X dX6_fillShowing_7 2 (by decide) ?_
  refine j_icmp_ge X 75 dX6_fillShowing_8 (by decide) (fun c_8 => absurd c_8 (by decide)) (fun c_8 => ?_)
  refine j_iload_n X dX6_fillShowing_11 rfl ?_
  refine j_iload X dX6_fillShowing_12 rfl ?_
  refine s_callSi X hR (c_shows0_0 np _) rfl u491 u489 u490 u14 hyX6_showsOfHalf (by decide) (by decide) (Nat.le_of_ble_eq_true rfl) dX6_fillShowing_14 (fun v_2 m_2 h_2 => ?_)
  obtain ⟨e1, e2⟩ := h_2; have e1 := e1.symm; have e2 := e2.symm; subst e1; subst e2
  refine j_if_eq X 51 dX6_fillShowing_17 (by decide) (fun c_17 => ?_) (fun c_17 => absurd c_17 (by decide))
  refine j_aload_n X dX6_fillShowing_51 rfl ?_
  refine j_iload_n X dX6_fillShowing_52 rfl ?_
  refine j_aload_n X dX6_fillShowing_53 rfl ?_
  refine j_iload X dX6_fillShowing_54 rfl ?_
  refine s_callVi X hR (c_half0 np _ p F hp (by first | exact hN | (simp only [jup_o (show ¬ 92 + 2 * p = 65 by omega)]; exact hN)) (by first | exact hF | (simp only [jup_o (show ¬ 93 + 2 * p = 65 by omega)]; exact hF))) rfl 6 (by decide) (oP np (by omega)) (kP np _) rfl u452 u470 u450 u451 u14 hyX6_half (by decide) (by decide) (Nat.le_of_ble_eq_true rfl) dX6_fillShowing_56 (fun v_56 m_56 h_56 => ?_)
  obtain ⟨e1, e2⟩ := h_56; have e1 := e1.symm; have e2 := e2.symm; subst e1; subst e2
  refine j_nrm2 _ (by first | (simp only [fa_lit, pk_mul, nI_add]; done) | (simp only [fa_lit, pk_mul, nI_add]; rfl) | rfl) ?_
  refine j_iastN X (o65 np) (k65 np) (by rw [l65]; omega) (by rw [l65]; decide) dX6_fillShowing_59 ?_
  refine j_iload_n X dX6_fillShowing_60 rfl ?_
  refine j_iload_n X dX6_fillShowing_61 rfl ?_
  refine j_iload X dX6_fillShowing_62 rfl ?_
  refine s_callSi X hR (c_halfSize0_0 np _) rfl u501 u499 u500 u14 hyX6_halfSize (by decide) (by decide) (Nat.le_of_ble_eq_true rfl) dX6_fillShowing_64 (fun v_2 m_2 h_2 => ?_)
  obtain ⟨e1, e2⟩ := h_2; have e1 := e1.symm; have e2 := e2.symm; subst e1; subst e2
  refine j_iadd X dX6_fillShowing_67 ?_
  refine j_istore_n X dX6_fillShowing_68 (by decide) ?_
  refine j_iinc X dX6_fillShowing_69 rfl 1 rfl ?_
  refine j_goto X 5 dX6_fillShowing_72 (by decide) ?_
  refine j_iload X dX6_fillShowing_5 rfl ?_
  refine j_iconst X dX6_fillShowing_7 2 (by decide) ?_
  refine j_icmp_ge X 75 dX6_fillShowing_8 (by decide) (fun c_8 => absurd c_8 (by decide)) (fun c_8 => ?_)
  refine j_iload_n X dX6_fillShowing_11 rfl ?_
  refine j_iload X dX6_fillShowing_12 rfl ?_
  refine s_callSi X hR (c_shows0_1 np _) rfl u491 u489 u490 u14 hyX6_showsOfHalf (by decide) (by decide) (Nat.le_of_ble_eq_true rfl) dX6_fillShowing_14 (fun v_2 m_2 h_2 => ?_)
  obtain ⟨e1, e2⟩ := h_2; have e1 := e1.symm; have e2 := e2.symm; subst e1; subst e2
  refine j_if_eq X 51 dX6_fillShowing_17 (by decide) (fun c_17 => ?_) (fun c_17 => absurd c_17 (by decide))
  refine j_aload_n X dX6_fillShowing_51 rfl ?_
  refine j_iload_n X dX6_fillShowing_52 rfl ?_
  refine j_aload_n X dX6_fillShowing_53 rfl ?_
  refine j_iload X dX6_fillShowing_54 rfl ?_
  refine s_callVi X hR (c_half1 np _ p F hp (by first | exact hN | (simp only [jup_o (show ¬ 92 + 2 * p = 65 by omega)]; exact hN)) (by first | exact hF | (simp only [jup_o (show ¬ 93 + 2 * p = 65 by omega)]; exact hF))) rfl 6 (by decide) (oP np (by omega)) (kP np _) rfl u452 u470 u450 u451 u14 hyX6_half (by decide) (by decide) (Nat.le_of_ble_eq_true rfl) dX6_fillShowing_56 (fun v_56 m_56 h_56 => ?_)
  obtain ⟨e1, e2⟩ := h_56; have e1 := e1.symm; have e2 := e2.symm; subst e1; subst e2
  refine j_nrm2 _ (by first | (simp only [fa_lit, pk_mul, nI_add]; done) | (simp only [fa_lit, pk_mul, nI_add]; rfl) | rfl) ?_
  refine j_iastN X (o65 np) (k65 np) (by rw [l65]; omega) (by rw [l65]; decide) dX6_fillShowing_59 ?_
  refine j_iload_n X dX6_fillShowing_60 rfl ?_
  refine j_iload_n X dX6_fillShowing_61 rfl ?_
  refine j_iload X dX6_fillShowing_62 rfl ?_
  refine s_callSi X hR (c_halfSize0_1 np _) rfl u501 u499 u500 u14 hyX6_halfSize (by decide) (by decide) (Nat.le_of_ble_eq_true rfl) dX6_fillShowing_64 (fun v_2 m_2 h_2 => ?_)
  obtain ⟨e1, e2⟩ := h_2; have e1 := e1.symm; have e2 := e2.symm; subst e1; subst e2
  refine j_iadd X dX6_fillShowing_67 ?_
  refine j_istore_n X dX6_fillShowing_68 (by decide) ?_
  refine j_iinc X dX6_fillShowing_69 rfl 1 rfl ?_
  refine j_goto X 5 dX6_fillShowing_72 (by decide) ?_
  refine j_iload X dX6_fillShowing_5 rfl ?_
  refine j_iconst X dX6_fillShowing_7 2 (by decide) ?_
  refine j_icmp_ge X 75 dX6_fillShowing_8 (by decide) (fun c_8 => ?_) (fun c_8 => absurd c_8 (by decide))
  refine j_iload_n X dX6_fillShowing_75 rfl ?_
  refine s_iret X hE hr dX6_fillShowing_76 rfl ?_
  exact ⟨by decide, rfl⟩
set_option maxRecDepth 4000 in
set_option maxHeartbeats 1000000 in
theorem c_shows1_0 (np : Nat) (mem : jMem)   : jPi yX6_showsOfHalf cX6_showsOfHalf 2 .boolean 1 [.int 1, .int 0] np mem (fun v c => v = 1 ∧ c = mem) := by
  refine jPi.of (own := RX6) rfl rfl (Nat.le_of_ble_eq_true rfl) (fun G X hR hr hE => ?_)
  refine j_iload_n X dX6_showsOfHalf_0 rfl ?_
  refine j_iconst X dX6_showsOfHalf_1 2 (by decide) ?_
  refine j_iload_n X dX6_showsOfHalf_2 rfl ?_
  refine j_imul X dX6_showsOfHalf_3 ?_
  refine j_ishr X dX6_showsOfHalf_4 ?_
  refine j_iconst X dX6_showsOfHalf_5 3 (by decide) ?_
  refine j_iand X dX6_showsOfHalf_6 ?_
  refine j_if_eq X 14 dX6_showsOfHalf_7 (by decide) (fun c_7 => absurd c_7 (by decide)) (fun c_7 => ?_)
  refine j_iconst X dX6_showsOfHalf_10 1 (by decide) ?_
  refine j_goto X 15 dX6_showsOfHalf_11 (by decide) ?_
  refine s_iret X hE hr dX6_showsOfHalf_15 (by first | exact jb_nar | rfl) ?_
  first | exact ⟨rfl, rfl⟩ | (exfalso; clear hE hr hR X; (try simp only [lg_cmp_lt, lg_cmp_gt, lg_cmp_le, lg_cmp_ge] at *); (try simp (disch := omega) only [Int64.le_iff_toInt_le, Int64.lt_iff_toInt_lt, Int32.le_iff_toInt_le, Int32.lt_iff_toInt_lt, fa_eq, fa_lit, fa_litL, nI_toInt, pk_lT, Int32.toInt_toInt64, jadd64, jin, jnoneT] at *); omega)
set_option maxRecDepth 4000 in
set_option maxHeartbeats 1000000 in
theorem c_halfSize1_0 (np : Nat) (mem : jMem)   : jPi yX6_halfSize cX6_halfSize 2 .int 2 [.int 1, .int 0] np mem (fun v c => v = 2 ∧ c = mem) := by
  refine jPi.of (own := RX6) rfl rfl (Nat.le_of_ble_eq_true rfl) (fun G X hR hr hE => ?_)
  refine j_iload_n X dX6_halfSize_0 rfl ?_
  refine j_iload_n X dX6_halfSize_1 rfl ?_
  refine s_callSi X hR (c_shows1_0 np _) rfl u491 u489 u490 u14 hyX6_showsOfHalf (by decide) (by decide) (Nat.le_of_ble_eq_true rfl) dX6_halfSize_2 (fun v_2 m_2 h_2 => ?_)
  obtain ⟨e1, e2⟩ := h_2; have e1 := e1.symm; have e2 := e2.symm; subst e1; subst e2
  refine j_if_eq X 12 dX6_halfSize_5 (by decide) (fun c_5 => absurd c_5 (by decide)) (fun c_5 => ?_)
  refine j_iconst X dX6_halfSize_8 2 (by decide) ?_
  refine j_goto X 13 dX6_halfSize_9 (by decide) ?_
  refine s_iret X hE hr dX6_halfSize_13 rfl ?_
  first | exact ⟨rfl, rfl⟩ | (exfalso; clear hE hr hR X; (try simp only [lg_cmp_lt, lg_cmp_gt, lg_cmp_le, lg_cmp_ge] at *); (try simp (disch := omega) only [Int64.le_iff_toInt_le, Int64.lt_iff_toInt_lt, Int32.le_iff_toInt_le, Int32.lt_iff_toInt_lt, fa_eq, fa_lit, fa_litL, nI_toInt, pk_lT, Int32.toInt_toInt64, jadd64, jin, jnoneT] at *); omega)
set_option maxRecDepth 4000 in
set_option maxHeartbeats 1000000 in
theorem c_shows1_1 (np : Nat) (mem : jMem)   : jPi yX6_showsOfHalf cX6_showsOfHalf 2 .boolean 1 [.int 1, .int 1] np mem (fun v c => v = 0 ∧ c = mem) := by
  refine jPi.of (own := RX6) rfl rfl (Nat.le_of_ble_eq_true rfl) (fun G X hR hr hE => ?_)
  refine j_iload_n X dX6_showsOfHalf_0 rfl ?_
  refine j_iconst X dX6_showsOfHalf_1 2 (by decide) ?_
  refine j_iload_n X dX6_showsOfHalf_2 rfl ?_
  refine j_imul X dX6_showsOfHalf_3 ?_
  refine j_ishr X dX6_showsOfHalf_4 ?_
  refine j_iconst X dX6_showsOfHalf_5 3 (by decide) ?_
  refine j_iand X dX6_showsOfHalf_6 ?_
  refine j_if_eq X 14 dX6_showsOfHalf_7 (by decide) (fun c_7 => ?_) (fun c_7 => absurd c_7 (by decide))
  refine j_iconst X dX6_showsOfHalf_14 0 (by decide) ?_
  refine s_iret X hE hr dX6_showsOfHalf_15 (by first | exact jb_nar | rfl) ?_
  first | exact ⟨rfl, rfl⟩ | (exfalso; clear hE hr hR X; (try simp only [lg_cmp_lt, lg_cmp_gt, lg_cmp_le, lg_cmp_ge] at *); (try simp (disch := omega) only [Int64.le_iff_toInt_le, Int64.lt_iff_toInt_lt, Int32.le_iff_toInt_le, Int32.lt_iff_toInt_lt, fa_eq, fa_lit, fa_litL, nI_toInt, pk_lT, Int32.toInt_toInt64, jadd64, jin, jnoneT] at *); omega)
set_option maxRecDepth 4000 in
set_option maxHeartbeats 1000000 in
theorem c_halfSize1_1 (np : Nat) (mem : jMem)   : jPi yX6_halfSize cX6_halfSize 2 .int 2 [.int 1, .int 1] np mem (fun v c => v = 1 ∧ c = mem) := by
  refine jPi.of (own := RX6) rfl rfl (Nat.le_of_ble_eq_true rfl) (fun G X hR hr hE => ?_)
  refine j_iload_n X dX6_halfSize_0 rfl ?_
  refine j_iload_n X dX6_halfSize_1 rfl ?_
  refine s_callSi X hR (c_shows1_1 np _) rfl u491 u489 u490 u14 hyX6_showsOfHalf (by decide) (by decide) (Nat.le_of_ble_eq_true rfl) dX6_halfSize_2 (fun v_2 m_2 h_2 => ?_)
  obtain ⟨e1, e2⟩ := h_2; have e1 := e1.symm; have e2 := e2.symm; subst e1; subst e2
  refine j_if_eq X 12 dX6_halfSize_5 (by decide) (fun c_5 => ?_) (fun c_5 => absurd c_5 (by decide))
  refine j_iconst X dX6_halfSize_12 1 (by decide) ?_
  refine s_iret X hE hr dX6_halfSize_13 rfl ?_
  first | exact ⟨rfl, rfl⟩ | (exfalso; clear hE hr hR X; (try simp only [lg_cmp_lt, lg_cmp_gt, lg_cmp_le, lg_cmp_ge] at *); (try simp (disch := omega) only [Int64.le_iff_toInt_le, Int64.lt_iff_toInt_lt, Int32.le_iff_toInt_le, Int32.lt_iff_toInt_lt, fa_eq, fa_lit, fa_litL, nI_toInt, pk_lT, Int32.toInt_toInt64, jadd64, jin, jnoneT] at *); omega)
set_option maxRecDepth 4000 in
set_option maxHeartbeats 1000000 in
theorem c_showingSize1 (np : Nat) (mem : jMem)   : jPi yX6_showingSize cX6_showingSize 1 .int 3 [.int 1] np mem (fun v c => v = 3 ∧ c = mem) := by
  refine jPi.of (own := RX6) rfl rfl (Nat.le_of_ble_eq_true rfl) (fun G X hR hr hE => ?_)
  refine j_iload_n X dX6_showingSize_0 rfl ?_
  refine j_iconst X dX6_showingSize_1 0 (by decide) ?_
  refine s_callSi X hR (c_halfSize1_0 np _) rfl u501 u499 u500 u14 hyX6_halfSize (by decide) (by decide) (Nat.le_of_ble_eq_true rfl) dX6_showingSize_2 (fun v_2 m_2 h_2 => ?_)
  obtain ⟨e1, e2⟩ := h_2; have e1 := e1.symm; have e2 := e2.symm; subst e1; subst e2
  refine j_iload_n X dX6_showingSize_5 rfl ?_
  refine j_iconst X dX6_showingSize_6 1 (by decide) ?_
  refine s_callSi X hR (c_halfSize1_1 np _) rfl u501 u499 u500 u14 hyX6_halfSize (by decide) (by decide) (Nat.le_of_ble_eq_true rfl) dX6_showingSize_7 (fun v_2 m_2 h_2 => ?_)
  obtain ⟨e1, e2⟩ := h_2; have e1 := e1.symm; have e2 := e2.symm; subst e1; subst e2
  refine j_iadd X dX6_showingSize_10 ?_
  refine s_iret X hE hr dX6_showingSize_11 rfl ?_
  exact ⟨by decide, rfl⟩
set_option maxRecDepth 4000 in
set_option maxHeartbeats 1000000 in
theorem c_shownOf1_0 (np : Nat) (mem : jMem) (p : Nat) (F : Nat → Int32) (hp : p < np) (hN : mem (92 + 2 * p) 0 = nI p) (hF : mem (93 + 2 * p) = F) : jPi yX6_shownOf cX6_shownOf 3 .int 3 [.ref (92 + 2 * p), .int 1, .int 0] np mem (fun v c => v = F 0 ∧ c = mem) := by
  refine jPi.of (own := RX6) rfl rfl (Nat.le_of_ble_eq_true rfl) (fun G X hR hr hE => ?_)
  refine j_iload_n X dX6_shownOf_0 rfl ?_
  refine j_iload_n X dX6_shownOf_1 rfl ?_
  refine s_callNi X hR (c_hasBit np _ _ _) rfl u498 (by decide) u497 u1 hyX10_hasBit (by decide) (by decide) (Nat.le_of_ble_eq_true rfl) dX6_shownOf_2 (fun v_2 m_2 h_2 => ?_)
  obtain ⟨e1, e2⟩ := h_2; have e1 := e1.symm; have e2 := e2.symm; subst e1; subst e2
  refine j_ifb_eq X 17 dX6_shownOf_5 (by decide) (fun c_5 => absurd c_5 (by decide)) (fun c_5 => ?_)
  refine j_aload_n X dX6_shownOf_8 rfl ?_
  refine j_getR X 6 6 (by decide) (by decide) rfl u405 (oP np (by omega)) (kP np _) _ (pP_f np _) dX6_shownOf_9 ?_
  refine j_iload_n X dX6_shownOf_12 rfl ?_
  refine j_nrm _ (by first | (simp only [fa_lit, pk_mul, nI_add]; done) | (simp only [fa_lit, pk_mul, nI_add]; rfl) | rfl) ?_
  refine j_ialdN X (oPf np (by omega)) (kPf np _) (by rw [lPf]; omega) (by rw [lPf]; decide) F hF dX6_shownOf_13 ?_
  refine j_goto X 22 dX6_shownOf_14 (by decide) ?_
  refine s_iret X hE hr dX6_shownOf_22 rfl ?_
  first | exact ⟨rfl, rfl⟩ | (exfalso; clear hE hr hR X; (try simp only [lg_cmp_lt, lg_cmp_gt, lg_cmp_le, lg_cmp_ge] at *); (try simp (disch := omega) only [Int64.le_iff_toInt_le, Int64.lt_iff_toInt_lt, Int32.le_iff_toInt_le, Int32.lt_iff_toInt_lt, fa_eq, fa_lit, fa_litL, nI_toInt, pk_lT, Int32.toInt_toInt64, jadd64, jin, jnoneT] at *); omega)
set_option maxRecDepth 4000 in
set_option maxHeartbeats 1000000 in
theorem c_shownOf1_1 (np : Nat) (mem : jMem) (p : Nat) (F : Nat → Int32) (hp : p < np) (hN : mem (92 + 2 * p) 0 = nI p) (hF : mem (93 + 2 * p) = F) : jPi yX6_shownOf cX6_shownOf 3 .int 3 [.ref (92 + 2 * p), .int 1, .int 1] np mem (fun v c => v = (jLeaf (nI p) 1 (F 1)) ∧ c = mem) := by
  refine jPi.of (own := RX6) rfl rfl (Nat.le_of_ble_eq_true rfl) (fun G X hR hr hE => ?_)
  refine j_iload_n X dX6_shownOf_0 rfl ?_
  refine j_iload_n X dX6_shownOf_1 rfl ?_
  refine s_callNi X hR (c_hasBit np _ _ _) rfl u498 (by decide) u497 u1 hyX10_hasBit (by decide) (by decide) (Nat.le_of_ble_eq_true rfl) dX6_shownOf_2 (fun v_2 m_2 h_2 => ?_)
  obtain ⟨e1, e2⟩ := h_2; have e1 := e1.symm; have e2 := e2.symm; subst e1; subst e2
  refine j_ifb_eq X 17 dX6_shownOf_5 (by decide) (fun c_5 => ?_) (fun c_5 => absurd c_5 (by decide))
  refine j_aload_n X dX6_shownOf_17 rfl ?_
  refine j_iload_n X dX6_shownOf_18 rfl ?_
  refine s_callVi X hR (c_leaf1 np _ p F hp hN hF) rfl 6 (by decide) (oP np (by omega)) (kP np _) rfl u456 u453 u454 u455 u14 hyX6_leaf (by decide) (by decide) (Nat.le_of_ble_eq_true rfl) dX6_shownOf_19 (fun v_19 m_19 h_19 => ?_)
  obtain ⟨e1, e2⟩ := h_19; have e1 := e1.symm; have e2 := e2.symm; subst e1; subst e2
  refine s_iret X hE hr dX6_shownOf_22 rfl ?_
  first | exact ⟨rfl, rfl⟩ | (exfalso; clear hE hr hR X; (try simp only [lg_cmp_lt, lg_cmp_gt, lg_cmp_le, lg_cmp_ge] at *); (try simp (disch := omega) only [Int64.le_iff_toInt_le, Int64.lt_iff_toInt_lt, Int32.le_iff_toInt_le, Int32.lt_iff_toInt_lt, fa_eq, fa_lit, fa_litL, nI_toInt, pk_lT, Int32.toInt_toInt64, jadd64, jin, jnoneT] at *); omega)
set_option maxRecDepth 4000 in
set_option maxHeartbeats 1000000 in
theorem c_shownOf1_2 (np : Nat) (mem : jMem) (p : Nat) (F : Nat → Int32) (hp : p < np) (hN : mem (92 + 2 * p) 0 = nI p) (hF : mem (93 + 2 * p) = F) : jPi yX6_shownOf cX6_shownOf 3 .int 3 [.ref (92 + 2 * p), .int 1, .int 2] np mem (fun v c => v = (jLeaf (nI p) 2 (F 2)) ∧ c = mem) := by
  refine jPi.of (own := RX6) rfl rfl (Nat.le_of_ble_eq_true rfl) (fun G X hR hr hE => ?_)
  refine j_iload_n X dX6_shownOf_0 rfl ?_
  refine j_iload_n X dX6_shownOf_1 rfl ?_
  refine s_callNi X hR (c_hasBit np _ _ _) rfl u498 (by decide) u497 u1 hyX10_hasBit (by decide) (by decide) (Nat.le_of_ble_eq_true rfl) dX6_shownOf_2 (fun v_2 m_2 h_2 => ?_)
  obtain ⟨e1, e2⟩ := h_2; have e1 := e1.symm; have e2 := e2.symm; subst e1; subst e2
  refine j_ifb_eq X 17 dX6_shownOf_5 (by decide) (fun c_5 => ?_) (fun c_5 => absurd c_5 (by decide))
  refine j_aload_n X dX6_shownOf_17 rfl ?_
  refine j_iload_n X dX6_shownOf_18 rfl ?_
  refine s_callVi X hR (c_leaf2 np _ p F hp hN hF) rfl 6 (by decide) (oP np (by omega)) (kP np _) rfl u456 u453 u454 u455 u14 hyX6_leaf (by decide) (by decide) (Nat.le_of_ble_eq_true rfl) dX6_shownOf_19 (fun v_19 m_19 h_19 => ?_)
  obtain ⟨e1, e2⟩ := h_19; have e1 := e1.symm; have e2 := e2.symm; subst e1; subst e2
  refine s_iret X hE hr dX6_shownOf_22 rfl ?_
  first | exact ⟨rfl, rfl⟩ | (exfalso; clear hE hr hR X; (try simp only [lg_cmp_lt, lg_cmp_gt, lg_cmp_le, lg_cmp_ge] at *); (try simp (disch := omega) only [Int64.le_iff_toInt_le, Int64.lt_iff_toInt_lt, Int32.le_iff_toInt_le, Int32.lt_iff_toInt_lt, fa_eq, fa_lit, fa_litL, nI_toInt, pk_lT, Int32.toInt_toInt64, jadd64, jin, jnoneT] at *); omega)
set_option maxRecDepth 4000 in
set_option maxHeartbeats 1000000 in
theorem c_shownOf1_3 (np : Nat) (mem : jMem) (p : Nat) (F : Nat → Int32) (hp : p < np) (hN : mem (92 + 2 * p) 0 = nI p) (hF : mem (93 + 2 * p) = F) : jPi yX6_shownOf cX6_shownOf 3 .int 3 [.ref (92 + 2 * p), .int 1, .int 3] np mem (fun v c => v = (jLeaf (nI p) 3 (F 3)) ∧ c = mem) := by
  refine jPi.of (own := RX6) rfl rfl (Nat.le_of_ble_eq_true rfl) (fun G X hR hr hE => ?_)
  refine j_iload_n X dX6_shownOf_0 rfl ?_
  refine j_iload_n X dX6_shownOf_1 rfl ?_
  refine s_callNi X hR (c_hasBit np _ _ _) rfl u498 (by decide) u497 u1 hyX10_hasBit (by decide) (by decide) (Nat.le_of_ble_eq_true rfl) dX6_shownOf_2 (fun v_2 m_2 h_2 => ?_)
  obtain ⟨e1, e2⟩ := h_2; have e1 := e1.symm; have e2 := e2.symm; subst e1; subst e2
  refine j_ifb_eq X 17 dX6_shownOf_5 (by decide) (fun c_5 => ?_) (fun c_5 => absurd c_5 (by decide))
  refine j_aload_n X dX6_shownOf_17 rfl ?_
  refine j_iload_n X dX6_shownOf_18 rfl ?_
  refine s_callVi X hR (c_leaf3 np _ p F hp hN hF) rfl 6 (by decide) (oP np (by omega)) (kP np _) rfl u456 u453 u454 u455 u14 hyX6_leaf (by decide) (by decide) (Nat.le_of_ble_eq_true rfl) dX6_shownOf_19 (fun v_19 m_19 h_19 => ?_)
  obtain ⟨e1, e2⟩ := h_19; have e1 := e1.symm; have e2 := e2.symm; subst e1; subst e2
  refine s_iret X hE hr dX6_shownOf_22 rfl ?_
  first | exact ⟨rfl, rfl⟩ | (exfalso; clear hE hr hR X; (try simp only [lg_cmp_lt, lg_cmp_gt, lg_cmp_le, lg_cmp_ge] at *); (try simp (disch := omega) only [Int64.le_iff_toInt_le, Int64.lt_iff_toInt_lt, Int32.le_iff_toInt_le, Int32.lt_iff_toInt_lt, fa_eq, fa_lit, fa_litL, nI_toInt, pk_lT, Int32.toInt_toInt64, jadd64, jin, jnoneT] at *); omega)
set_option maxRecDepth 4000 in
set_option maxHeartbeats 1000000 in
theorem c_fillShowing1 (np : Nat) (mem : jMem) (p : Nat) (F : Nat → Int32) (hp : p < np) (hN : mem (92 + 2 * p) 0 = nI p) (hF : mem (93 + 2 * p) = F) : jPi yX6_fillShowing cX6_fillShowing 5 .int 4 [.ref (92 + 2 * p), .int 1, .ref 65] np mem (fun v c => v = 3 ∧ c = jup (jup (jup (mem) 65 0 (F 0)) 65 1 (jLeaf (nI p) 1 (F 1))) 65 2 (jJoin (jLeaf (nI p) 2 (F 2)) (jLeaf (nI p) 3 (F 3)))) := by
  refine jPi.of (own := RX6) rfl rfl (Nat.le_of_ble_eq_true rfl) (fun G X hR hr hE => ?_)
  refine j_iconst X dX6_fillShowing_0 0 (by decide) ?_
  refine j_istore_n X dX6_fillShowing_1 (by decide) ?_
  refine j_iconst X dX6_fillShowing_2 0 (by decide) ?_
  refine j_istore X dX6_fillShowing_3 (by decide) ?_
  refine j_iload X dX6_fillShowing_5 rfl ?_
  refine j_iconst X dX6_fillShowing_7 2 (by decide) ?_
  refine j_icmp_ge X 75 dX6_fillShowing_8 (by decide) (fun c_8 => absurd c_8 (by decide)) (fun c_8 => ?_)
  refine j_iload_n X dX6_fillShowing_11 rfl ?_
  refine j_iload X dX6_fillShowing_12 rfl ?_
  refine s_callSi X hR (c_shows1_0 np _) rfl u491 u489 u490 u14 hyX6_showsOfHalf (by decide) (by decide) (Nat.le_of_ble_eq_true rfl) dX6_fillShowing_14 (fun v_2 m_2 h_2 => ?_)
  obtain ⟨e1, e2⟩ := h_2; have e1 := e1.symm; have e2 := e2.symm; subst e1; subst e2
  refine j_if_eq X 51 dX6_fillShowing_17 (by decide) (fun c_17 => absurd c_17 (by decide)) (fun c_17 => ?_)
  refine j_aload_n X dX6_fillShowing_20 rfl ?_
  refine j_iload_n X dX6_fillShowing_21 rfl ?_
  refine j_aload_n X dX6_fillShowing_22 rfl ?_
  refine j_iload_n X dX6_fillShowing_23 rfl ?_
  refine j_iconst X dX6_fillShowing_24 2 (by decide) ?_
  refine j_iload X dX6_fillShowing_25 rfl ?_
  refine j_imul X dX6_fillShowing_27 ?_
  refine s_callVi X hR (c_shownOf1_0 np _ p F hp (by first | exact hN | (simp only [jup_o (show ¬ 92 + 2 * p = 65 by omega)]; exact hN)) (by first | exact hF | (simp only [jup_o (show ¬ 93 + 2 * p = 65 by omega)]; exact hF))) rfl 6 (by decide) (oP np (by omega)) (kP np _) rfl u495 u492 u494 qp4 u14 hyX6_shownOf (by decide) (by decide) (Nat.le_of_ble_eq_true rfl) dX6_fillShowing_28 (fun v_28 m_28 h_28 => ?_)
  obtain ⟨e1, e2⟩ := h_28; have e1 := e1.symm; have e2 := e2.symm; subst e1; subst e2
  refine j_nrm2 _ (by first | (simp only [fa_lit, pk_mul, nI_add]; done) | (simp only [fa_lit, pk_mul, nI_add]; rfl) | rfl) ?_
  refine j_iastN X (o65 np) (k65 np) (by rw [l65]; omega) (by rw [l65]; decide) dX6_fillShowing_31 ?_
  refine j_aload_n X dX6_fillShowing_32 rfl ?_
  refine j_iload_n X dX6_fillShowing_33 rfl ?_
  refine j_iconst X dX6_fillShowing_34 1 (by decide) ?_
  refine j_iadd X dX6_fillShowing_35 ?_
  refine j_aload_n X dX6_fillShowing_36 rfl ?_
  refine j_iload_n X dX6_fillShowing_37 rfl ?_
  refine j_iconst X dX6_fillShowing_38 2 (by decide) ?_
  refine j_iload X dX6_fillShowing_39 rfl ?_
  refine j_imul X dX6_fillShowing_41 ?_
  refine j_iconst X dX6_fillShowing_42 1 (by decide) ?_
  refine j_iadd X dX6_fillShowing_43 ?_
  refine s_callVi X hR (c_shownOf1_1 np _ p F hp (by first | exact hN | (simp only [jup_o (show ¬ 92 + 2 * p = 65 by omega)]; exact hN)) (by first | exact hF | (simp only [jup_o (show ¬ 93 + 2 * p = 65 by omega)]; exact hF))) rfl 6 (by decide) (oP np (by omega)) (kP np _) rfl u495 u492 u494 qp4 u14 hyX6_shownOf (by decide) (by decide) (Nat.le_of_ble_eq_true rfl) dX6_fillShowing_44 (fun v_44 m_44 h_44 => ?_)
  obtain ⟨e1, e2⟩ := h_44; have e1 := e1.symm; have e2 := e2.symm; subst e1; subst e2
  refine j_nrm2 _ (by first | (simp only [fa_lit, pk_mul, nI_add]; done) | (simp only [fa_lit, pk_mul, nI_add]; rfl) | rfl) ?_
  refine j_iastN X (o65 np) (k65 np) (by rw [l65]; omega) (by rw [l65]; decide) dX6_fillShowing_47 ?_
  refine j_goto X 60 dX6_fillShowing_48 (by decide) ?_
  refine j_iload_n X dX6_fillShowing_60 rfl ?_
  refine j_iload_n X dX6_fillShowing_61 rfl ?_
  refine j_iload X dX6_fillShowing_62 rfl ?_
  refine s_callSi X hR (c_halfSize1_0 np _) rfl u501 u499 u500 u14 hyX6_halfSize (by decide) (by decide) (Nat.le_of_ble_eq_true rfl) dX6_fillShowing_64 (fun v_2 m_2 h_2 => ?_)
  obtain ⟨e1, e2⟩ := h_2; have e1 := e1.symm; have e2 := e2.symm; subst e1; subst e2
  refine j_iadd X dX6_fillShowing_67 ?_
  refine j_istore_n X dX6_fillShowing_68 (by decide) ?_
  refine j_iinc X dX6_fillShowing_69 rfl 1 rfl ?_
  refine j_goto X 5 dX6_fillShowing_72 (by decide) ?_
  refine j_iload X dX6_fillShowing_5 rfl ?_
  refine j_iconst X dX6_fillShowing_7 2 (by decide) ?_
  refine j_icmp_ge X 75 dX6_fillShowing_8 (by decide) (fun c_8 => absurd c_8 (by decide)) (fun c_8 => ?_)
  refine j_iload_n X dX6_fillShowing_11 rfl ?_
  refine j_iload X dX6_fillShowing_12 rfl ?_
  refine s_callSi X hR (c_shows1_1 np _) rfl u491 u489 u490 u14 hyX6_showsOfHalf (by decide) (by decide) (Nat.le_of_ble_eq_true rfl) dX6_fillShowing_14 (fun v_2 m_2 h_2 => ?_)
  obtain ⟨e1, e2⟩ := h_2; have e1 := e1.symm; have e2 := e2.symm; subst e1; subst e2
  refine j_if_eq X 51 dX6_fillShowing_17 (by decide) (fun c_17 => ?_) (fun c_17 => absurd c_17 (by decide))
  refine j_aload_n X dX6_fillShowing_51 rfl ?_
  refine j_iload_n X dX6_fillShowing_52 rfl ?_
  refine j_aload_n X dX6_fillShowing_53 rfl ?_
  refine j_iload X dX6_fillShowing_54 rfl ?_
  refine s_callVi X hR (c_half1 np _ p F hp (by first | exact hN | (simp only [jup_o (show ¬ 92 + 2 * p = 65 by omega)]; exact hN)) (by first | exact hF | (simp only [jup_o (show ¬ 93 + 2 * p = 65 by omega)]; exact hF))) rfl 6 (by decide) (oP np (by omega)) (kP np _) rfl u452 u470 u450 u451 u14 hyX6_half (by decide) (by decide) (Nat.le_of_ble_eq_true rfl) dX6_fillShowing_56 (fun v_56 m_56 h_56 => ?_)
  obtain ⟨e1, e2⟩ := h_56; have e1 := e1.symm; have e2 := e2.symm; subst e1; subst e2
  refine j_nrm2 _ (by first | (simp only [fa_lit, pk_mul, nI_add]; done) | (simp only [fa_lit, pk_mul, nI_add]; rfl) | rfl) ?_
  refine j_iastN X (o65 np) (k65 np) (by rw [l65]; omega) (by rw [l65]; decide) dX6_fillShowing_59 ?_
  refine j_iload_n X dX6_fillShowing_60 rfl ?_
  refine j_iload_n X dX6_fillShowing_61 rfl ?_
  refine j_iload X dX6_fillShowing_62 rfl ?_
  refine s_callSi X hR (c_halfSize1_1 np _) rfl u501 u499 u500 u14 hyX6_halfSize (by decide) (by decide) (Nat.le_of_ble_eq_true rfl) dX6_fillShowing_64 (fun v_2 m_2 h_2 => ?_)
  obtain ⟨e1, e2⟩ := h_2; have e1 := e1.symm; have e2 := e2.symm; subst e1; subst e2
  refine j_iadd X dX6_fillShowing_67 ?_
  refine j_istore_n X dX6_fillShowing_68 (by decide) ?_
  refine j_iinc X dX6_fillShowing_69 rfl 1 rfl ?_
  refine j_goto X 5 dX6_fillShowing_72 (by decide) ?_
  refine j_iload X dX6_fillShowing_5 rfl ?_
  refine j_iconst X dX6_fillShowing_7 2 (by decide) ?_
  refine j_icmp_ge X 75 dX6_fillShowing_8 (by decide) (fun c_8 => ?_) (fun c_8 => absurd c_8 (by decide))
  refine j_iload_n X dX6_fillShowing_75 rfl ?_
  refine s_iret X hE hr dX6_fillShowing_76 rfl ?_
  exact ⟨by decide, rfl⟩
set_option maxRecDepth 4000 in
set_option maxHeartbeats 1000000 in
theorem c_shows2_0 (np : Nat) (mem : jMem)   : jPi yX6_showsOfHalf cX6_showsOfHalf 2 .boolean 1 [.int 2, .int 0] np mem (fun v c => v = 1 ∧ c = mem) := by
  refine jPi.of (own := RX6) rfl rfl (Nat.le_of_ble_eq_true rfl) (fun G X hR hr hE => ?_)
  refine j_iload_n X dX6_showsOfHalf_0 rfl ?_
  refine j_iconst X dX6_showsOfHalf_1 2 (by decide) ?_
  refine j_iload_n X dX6_showsOfHalf_2 rfl ?_
  refine j_imul X dX6_showsOfHalf_3 ?_
  refine j_ishr X dX6_showsOfHalf_4 ?_
  refine j_iconst X dX6_showsOfHalf_5 3 (by decide) ?_
  refine j_iand X dX6_showsOfHalf_6 ?_
  refine j_if_eq X 14 dX6_showsOfHalf_7 (by decide) (fun c_7 => absurd c_7 (by decide)) (fun c_7 => ?_)
  refine j_iconst X dX6_showsOfHalf_10 1 (by decide) ?_
  refine j_goto X 15 dX6_showsOfHalf_11 (by decide) ?_
  refine s_iret X hE hr dX6_showsOfHalf_15 (by first | exact jb_nar | rfl) ?_
  first | exact ⟨rfl, rfl⟩ | (exfalso; clear hE hr hR X; (try simp only [lg_cmp_lt, lg_cmp_gt, lg_cmp_le, lg_cmp_ge] at *); (try simp (disch := omega) only [Int64.le_iff_toInt_le, Int64.lt_iff_toInt_lt, Int32.le_iff_toInt_le, Int32.lt_iff_toInt_lt, fa_eq, fa_lit, fa_litL, nI_toInt, pk_lT, Int32.toInt_toInt64, jadd64, jin, jnoneT] at *); omega)
set_option maxRecDepth 4000 in
set_option maxHeartbeats 1000000 in
theorem c_halfSize2_0 (np : Nat) (mem : jMem)   : jPi yX6_halfSize cX6_halfSize 2 .int 2 [.int 2, .int 0] np mem (fun v c => v = 2 ∧ c = mem) := by
  refine jPi.of (own := RX6) rfl rfl (Nat.le_of_ble_eq_true rfl) (fun G X hR hr hE => ?_)
  refine j_iload_n X dX6_halfSize_0 rfl ?_
  refine j_iload_n X dX6_halfSize_1 rfl ?_
  refine s_callSi X hR (c_shows2_0 np _) rfl u491 u489 u490 u14 hyX6_showsOfHalf (by decide) (by decide) (Nat.le_of_ble_eq_true rfl) dX6_halfSize_2 (fun v_2 m_2 h_2 => ?_)
  obtain ⟨e1, e2⟩ := h_2; have e1 := e1.symm; have e2 := e2.symm; subst e1; subst e2
  refine j_if_eq X 12 dX6_halfSize_5 (by decide) (fun c_5 => absurd c_5 (by decide)) (fun c_5 => ?_)
  refine j_iconst X dX6_halfSize_8 2 (by decide) ?_
  refine j_goto X 13 dX6_halfSize_9 (by decide) ?_
  refine s_iret X hE hr dX6_halfSize_13 rfl ?_
  first | exact ⟨rfl, rfl⟩ | (exfalso; clear hE hr hR X; (try simp only [lg_cmp_lt, lg_cmp_gt, lg_cmp_le, lg_cmp_ge] at *); (try simp (disch := omega) only [Int64.le_iff_toInt_le, Int64.lt_iff_toInt_lt, Int32.le_iff_toInt_le, Int32.lt_iff_toInt_lt, fa_eq, fa_lit, fa_litL, nI_toInt, pk_lT, Int32.toInt_toInt64, jadd64, jin, jnoneT] at *); omega)
set_option maxRecDepth 4000 in
set_option maxHeartbeats 1000000 in
theorem c_shows2_1 (np : Nat) (mem : jMem)   : jPi yX6_showsOfHalf cX6_showsOfHalf 2 .boolean 1 [.int 2, .int 1] np mem (fun v c => v = 0 ∧ c = mem) := by
  refine jPi.of (own := RX6) rfl rfl (Nat.le_of_ble_eq_true rfl) (fun G X hR hr hE => ?_)
  refine j_iload_n X dX6_showsOfHalf_0 rfl ?_
  refine j_iconst X dX6_showsOfHalf_1 2 (by decide) ?_
  refine j_iload_n X dX6_showsOfHalf_2 rfl ?_
  refine j_imul X dX6_showsOfHalf_3 ?_
  refine j_ishr X dX6_showsOfHalf_4 ?_
  refine j_iconst X dX6_showsOfHalf_5 3 (by decide) ?_
  refine j_iand X dX6_showsOfHalf_6 ?_
  refine j_if_eq X 14 dX6_showsOfHalf_7 (by decide) (fun c_7 => ?_) (fun c_7 => absurd c_7 (by decide))
  refine j_iconst X dX6_showsOfHalf_14 0 (by decide) ?_
  refine s_iret X hE hr dX6_showsOfHalf_15 (by first | exact jb_nar | rfl) ?_
  first | exact ⟨rfl, rfl⟩ | (exfalso; clear hE hr hR X; (try simp only [lg_cmp_lt, lg_cmp_gt, lg_cmp_le, lg_cmp_ge] at *); (try simp (disch := omega) only [Int64.le_iff_toInt_le, Int64.lt_iff_toInt_lt, Int32.le_iff_toInt_le, Int32.lt_iff_toInt_lt, fa_eq, fa_lit, fa_litL, nI_toInt, pk_lT, Int32.toInt_toInt64, jadd64, jin, jnoneT] at *); omega)
set_option maxRecDepth 4000 in
set_option maxHeartbeats 1000000 in
theorem c_halfSize2_1 (np : Nat) (mem : jMem)   : jPi yX6_halfSize cX6_halfSize 2 .int 2 [.int 2, .int 1] np mem (fun v c => v = 1 ∧ c = mem) := by
  refine jPi.of (own := RX6) rfl rfl (Nat.le_of_ble_eq_true rfl) (fun G X hR hr hE => ?_)
  refine j_iload_n X dX6_halfSize_0 rfl ?_
  refine j_iload_n X dX6_halfSize_1 rfl ?_
  refine s_callSi X hR (c_shows2_1 np _) rfl u491 u489 u490 u14 hyX6_showsOfHalf (by decide) (by decide) (Nat.le_of_ble_eq_true rfl) dX6_halfSize_2 (fun v_2 m_2 h_2 => ?_)
  obtain ⟨e1, e2⟩ := h_2; have e1 := e1.symm; have e2 := e2.symm; subst e1; subst e2
  refine j_if_eq X 12 dX6_halfSize_5 (by decide) (fun c_5 => ?_) (fun c_5 => absurd c_5 (by decide))
  refine j_iconst X dX6_halfSize_12 1 (by decide) ?_
  refine s_iret X hE hr dX6_halfSize_13 rfl ?_
  first | exact ⟨rfl, rfl⟩ | (exfalso; clear hE hr hR X; (try simp only [lg_cmp_lt, lg_cmp_gt, lg_cmp_le, lg_cmp_ge] at *); (try simp (disch := omega) only [Int64.le_iff_toInt_le, Int64.lt_iff_toInt_lt, Int32.le_iff_toInt_le, Int32.lt_iff_toInt_lt, fa_eq, fa_lit, fa_litL, nI_toInt, pk_lT, Int32.toInt_toInt64, jadd64, jin, jnoneT] at *); omega)
set_option maxRecDepth 4000 in
set_option maxHeartbeats 1000000 in
theorem c_showingSize2 (np : Nat) (mem : jMem)   : jPi yX6_showingSize cX6_showingSize 1 .int 3 [.int 2] np mem (fun v c => v = 3 ∧ c = mem) := by
  refine jPi.of (own := RX6) rfl rfl (Nat.le_of_ble_eq_true rfl) (fun G X hR hr hE => ?_)
  refine j_iload_n X dX6_showingSize_0 rfl ?_
  refine j_iconst X dX6_showingSize_1 0 (by decide) ?_
  refine s_callSi X hR (c_halfSize2_0 np _) rfl u501 u499 u500 u14 hyX6_halfSize (by decide) (by decide) (Nat.le_of_ble_eq_true rfl) dX6_showingSize_2 (fun v_2 m_2 h_2 => ?_)
  obtain ⟨e1, e2⟩ := h_2; have e1 := e1.symm; have e2 := e2.symm; subst e1; subst e2
  refine j_iload_n X dX6_showingSize_5 rfl ?_
  refine j_iconst X dX6_showingSize_6 1 (by decide) ?_
  refine s_callSi X hR (c_halfSize2_1 np _) rfl u501 u499 u500 u14 hyX6_halfSize (by decide) (by decide) (Nat.le_of_ble_eq_true rfl) dX6_showingSize_7 (fun v_2 m_2 h_2 => ?_)
  obtain ⟨e1, e2⟩ := h_2; have e1 := e1.symm; have e2 := e2.symm; subst e1; subst e2
  refine j_iadd X dX6_showingSize_10 ?_
  refine s_iret X hE hr dX6_showingSize_11 rfl ?_
  exact ⟨by decide, rfl⟩
set_option maxRecDepth 4000 in
set_option maxHeartbeats 1000000 in
theorem c_shownOf2_0 (np : Nat) (mem : jMem) (p : Nat) (F : Nat → Int32) (hp : p < np) (hN : mem (92 + 2 * p) 0 = nI p) (hF : mem (93 + 2 * p) = F) : jPi yX6_shownOf cX6_shownOf 3 .int 3 [.ref (92 + 2 * p), .int 2, .int 0] np mem (fun v c => v = (jLeaf (nI p) 0 (F 0)) ∧ c = mem) := by
  refine jPi.of (own := RX6) rfl rfl (Nat.le_of_ble_eq_true rfl) (fun G X hR hr hE => ?_)
  refine j_iload_n X dX6_shownOf_0 rfl ?_
  refine j_iload_n X dX6_shownOf_1 rfl ?_
  refine s_callNi X hR (c_hasBit np _ _ _) rfl u498 (by decide) u497 u1 hyX10_hasBit (by decide) (by decide) (Nat.le_of_ble_eq_true rfl) dX6_shownOf_2 (fun v_2 m_2 h_2 => ?_)
  obtain ⟨e1, e2⟩ := h_2; have e1 := e1.symm; have e2 := e2.symm; subst e1; subst e2
  refine j_ifb_eq X 17 dX6_shownOf_5 (by decide) (fun c_5 => ?_) (fun c_5 => absurd c_5 (by decide))
  refine j_aload_n X dX6_shownOf_17 rfl ?_
  refine j_iload_n X dX6_shownOf_18 rfl ?_
  refine s_callVi X hR (c_leaf0 np _ p F hp hN hF) rfl 6 (by decide) (oP np (by omega)) (kP np _) rfl u456 u453 u454 u455 u14 hyX6_leaf (by decide) (by decide) (Nat.le_of_ble_eq_true rfl) dX6_shownOf_19 (fun v_19 m_19 h_19 => ?_)
  obtain ⟨e1, e2⟩ := h_19; have e1 := e1.symm; have e2 := e2.symm; subst e1; subst e2
  refine s_iret X hE hr dX6_shownOf_22 rfl ?_
  first | exact ⟨rfl, rfl⟩ | (exfalso; clear hE hr hR X; (try simp only [lg_cmp_lt, lg_cmp_gt, lg_cmp_le, lg_cmp_ge] at *); (try simp (disch := omega) only [Int64.le_iff_toInt_le, Int64.lt_iff_toInt_lt, Int32.le_iff_toInt_le, Int32.lt_iff_toInt_lt, fa_eq, fa_lit, fa_litL, nI_toInt, pk_lT, Int32.toInt_toInt64, jadd64, jin, jnoneT] at *); omega)
set_option maxRecDepth 4000 in
set_option maxHeartbeats 1000000 in
theorem c_shownOf2_1 (np : Nat) (mem : jMem) (p : Nat) (F : Nat → Int32) (hp : p < np) (hN : mem (92 + 2 * p) 0 = nI p) (hF : mem (93 + 2 * p) = F) : jPi yX6_shownOf cX6_shownOf 3 .int 3 [.ref (92 + 2 * p), .int 2, .int 1] np mem (fun v c => v = F 1 ∧ c = mem) := by
  refine jPi.of (own := RX6) rfl rfl (Nat.le_of_ble_eq_true rfl) (fun G X hR hr hE => ?_)
  refine j_iload_n X dX6_shownOf_0 rfl ?_
  refine j_iload_n X dX6_shownOf_1 rfl ?_
  refine s_callNi X hR (c_hasBit np _ _ _) rfl u498 (by decide) u497 u1 hyX10_hasBit (by decide) (by decide) (Nat.le_of_ble_eq_true rfl) dX6_shownOf_2 (fun v_2 m_2 h_2 => ?_)
  obtain ⟨e1, e2⟩ := h_2; have e1 := e1.symm; have e2 := e2.symm; subst e1; subst e2
  refine j_ifb_eq X 17 dX6_shownOf_5 (by decide) (fun c_5 => absurd c_5 (by decide)) (fun c_5 => ?_)
  refine j_aload_n X dX6_shownOf_8 rfl ?_
  refine j_getR X 6 6 (by decide) (by decide) rfl u405 (oP np (by omega)) (kP np _) _ (pP_f np _) dX6_shownOf_9 ?_
  refine j_iload_n X dX6_shownOf_12 rfl ?_
  refine j_nrm _ (by first | (simp only [fa_lit, pk_mul, nI_add]; done) | (simp only [fa_lit, pk_mul, nI_add]; rfl) | rfl) ?_
  refine j_ialdN X (oPf np (by omega)) (kPf np _) (by rw [lPf]; omega) (by rw [lPf]; decide) F hF dX6_shownOf_13 ?_
  refine j_goto X 22 dX6_shownOf_14 (by decide) ?_
  refine s_iret X hE hr dX6_shownOf_22 rfl ?_
  first | exact ⟨rfl, rfl⟩ | (exfalso; clear hE hr hR X; (try simp only [lg_cmp_lt, lg_cmp_gt, lg_cmp_le, lg_cmp_ge] at *); (try simp (disch := omega) only [Int64.le_iff_toInt_le, Int64.lt_iff_toInt_lt, Int32.le_iff_toInt_le, Int32.lt_iff_toInt_lt, fa_eq, fa_lit, fa_litL, nI_toInt, pk_lT, Int32.toInt_toInt64, jadd64, jin, jnoneT] at *); omega)
set_option maxRecDepth 4000 in
set_option maxHeartbeats 1000000 in
theorem c_shownOf2_2 (np : Nat) (mem : jMem) (p : Nat) (F : Nat → Int32) (hp : p < np) (hN : mem (92 + 2 * p) 0 = nI p) (hF : mem (93 + 2 * p) = F) : jPi yX6_shownOf cX6_shownOf 3 .int 3 [.ref (92 + 2 * p), .int 2, .int 2] np mem (fun v c => v = (jLeaf (nI p) 2 (F 2)) ∧ c = mem) := by
  refine jPi.of (own := RX6) rfl rfl (Nat.le_of_ble_eq_true rfl) (fun G X hR hr hE => ?_)
  refine j_iload_n X dX6_shownOf_0 rfl ?_
  refine j_iload_n X dX6_shownOf_1 rfl ?_
  refine s_callNi X hR (c_hasBit np _ _ _) rfl u498 (by decide) u497 u1 hyX10_hasBit (by decide) (by decide) (Nat.le_of_ble_eq_true rfl) dX6_shownOf_2 (fun v_2 m_2 h_2 => ?_)
  obtain ⟨e1, e2⟩ := h_2; have e1 := e1.symm; have e2 := e2.symm; subst e1; subst e2
  refine j_ifb_eq X 17 dX6_shownOf_5 (by decide) (fun c_5 => ?_) (fun c_5 => absurd c_5 (by decide))
  refine j_aload_n X dX6_shownOf_17 rfl ?_
  refine j_iload_n X dX6_shownOf_18 rfl ?_
  refine s_callVi X hR (c_leaf2 np _ p F hp hN hF) rfl 6 (by decide) (oP np (by omega)) (kP np _) rfl u456 u453 u454 u455 u14 hyX6_leaf (by decide) (by decide) (Nat.le_of_ble_eq_true rfl) dX6_shownOf_19 (fun v_19 m_19 h_19 => ?_)
  obtain ⟨e1, e2⟩ := h_19; have e1 := e1.symm; have e2 := e2.symm; subst e1; subst e2
  refine s_iret X hE hr dX6_shownOf_22 rfl ?_
  first | exact ⟨rfl, rfl⟩ | (exfalso; clear hE hr hR X; (try simp only [lg_cmp_lt, lg_cmp_gt, lg_cmp_le, lg_cmp_ge] at *); (try simp (disch := omega) only [Int64.le_iff_toInt_le, Int64.lt_iff_toInt_lt, Int32.le_iff_toInt_le, Int32.lt_iff_toInt_lt, fa_eq, fa_lit, fa_litL, nI_toInt, pk_lT, Int32.toInt_toInt64, jadd64, jin, jnoneT] at *); omega)
set_option maxRecDepth 4000 in
set_option maxHeartbeats 1000000 in
theorem c_shownOf2_3 (np : Nat) (mem : jMem) (p : Nat) (F : Nat → Int32) (hp : p < np) (hN : mem (92 + 2 * p) 0 = nI p) (hF : mem (93 + 2 * p) = F) : jPi yX6_shownOf cX6_shownOf 3 .int 3 [.ref (92 + 2 * p), .int 2, .int 3] np mem (fun v c => v = (jLeaf (nI p) 3 (F 3)) ∧ c = mem) := by
  refine jPi.of (own := RX6) rfl rfl (Nat.le_of_ble_eq_true rfl) (fun G X hR hr hE => ?_)
  refine j_iload_n X dX6_shownOf_0 rfl ?_
  refine j_iload_n X dX6_shownOf_1 rfl ?_
  refine s_callNi X hR (c_hasBit np _ _ _) rfl u498 (by decide) u497 u1 hyX10_hasBit (by decide) (by decide) (Nat.le_of_ble_eq_true rfl) dX6_shownOf_2 (fun v_2 m_2 h_2 => ?_)
  obtain ⟨e1, e2⟩ := h_2; have e1 := e1.symm; have e2 := e2.symm; subst e1; subst e2
  refine j_ifb_eq X 17 dX6_shownOf_5 (by decide) (fun c_5 => ?_) (fun c_5 => absurd c_5 (by decide))
  refine j_aload_n X dX6_shownOf_17 rfl ?_
  refine j_iload_n X dX6_shownOf_18 rfl ?_
  refine s_callVi X hR (c_leaf3 np _ p F hp hN hF) rfl 6 (by decide) (oP np (by omega)) (kP np _) rfl u456 u453 u454 u455 u14 hyX6_leaf (by decide) (by decide) (Nat.le_of_ble_eq_true rfl) dX6_shownOf_19 (fun v_19 m_19 h_19 => ?_)
  obtain ⟨e1, e2⟩ := h_19; have e1 := e1.symm; have e2 := e2.symm; subst e1; subst e2
  refine s_iret X hE hr dX6_shownOf_22 rfl ?_
  first | exact ⟨rfl, rfl⟩ | (exfalso; clear hE hr hR X; (try simp only [lg_cmp_lt, lg_cmp_gt, lg_cmp_le, lg_cmp_ge] at *); (try simp (disch := omega) only [Int64.le_iff_toInt_le, Int64.lt_iff_toInt_lt, Int32.le_iff_toInt_le, Int32.lt_iff_toInt_lt, fa_eq, fa_lit, fa_litL, nI_toInt, pk_lT, Int32.toInt_toInt64, jadd64, jin, jnoneT] at *); omega)
set_option maxRecDepth 4000 in
set_option maxHeartbeats 1000000 in
theorem c_fillShowing2 (np : Nat) (mem : jMem) (p : Nat) (F : Nat → Int32) (hp : p < np) (hN : mem (92 + 2 * p) 0 = nI p) (hF : mem (93 + 2 * p) = F) : jPi yX6_fillShowing cX6_fillShowing 5 .int 4 [.ref (92 + 2 * p), .int 2, .ref 65] np mem (fun v c => v = 3 ∧ c = jup (jup (jup (mem) 65 0 (jLeaf (nI p) 0 (F 0))) 65 1 (F 1)) 65 2 (jJoin (jLeaf (nI p) 2 (F 2)) (jLeaf (nI p) 3 (F 3)))) := by
  refine jPi.of (own := RX6) rfl rfl (Nat.le_of_ble_eq_true rfl) (fun G X hR hr hE => ?_)
  refine j_iconst X dX6_fillShowing_0 0 (by decide) ?_
  refine j_istore_n X dX6_fillShowing_1 (by decide) ?_
  refine j_iconst X dX6_fillShowing_2 0 (by decide) ?_
  refine j_istore X dX6_fillShowing_3 (by decide) ?_
  refine j_iload X dX6_fillShowing_5 rfl ?_
  refine j_iconst X dX6_fillShowing_7 2 (by decide) ?_
  refine j_icmp_ge X 75 dX6_fillShowing_8 (by decide) (fun c_8 => absurd c_8 (by decide)) (fun c_8 => ?_)
  refine j_iload_n X dX6_fillShowing_11 rfl ?_
  refine j_iload X dX6_fillShowing_12 rfl ?_
  refine s_callSi X hR (c_shows2_0 np _) rfl u491 u489 u490 u14 hyX6_showsOfHalf (by decide) (by decide) (Nat.le_of_ble_eq_true rfl) dX6_fillShowing_14 (fun v_2 m_2 h_2 => ?_)
  obtain ⟨e1, e2⟩ := h_2; have e1 := e1.symm; have e2 := e2.symm; subst e1; subst e2
  refine j_if_eq X 51 dX6_fillShowing_17 (by decide) (fun c_17 => absurd c_17 (by decide)) (fun c_17 => ?_)
  refine j_aload_n X dX6_fillShowing_20 rfl ?_
  refine j_iload_n X dX6_fillShowing_21 rfl ?_
  refine j_aload_n X dX6_fillShowing_22 rfl ?_
  refine j_iload_n X dX6_fillShowing_23 rfl ?_
  refine j_iconst X dX6_fillShowing_24 2 (by decide) ?_
  refine j_iload X dX6_fillShowing_25 rfl ?_
  refine j_imul X dX6_fillShowing_27 ?_
  refine s_callVi X hR (c_shownOf2_0 np _ p F hp (by first | exact hN | (simp only [jup_o (show ¬ 92 + 2 * p = 65 by omega)]; exact hN)) (by first | exact hF | (simp only [jup_o (show ¬ 93 + 2 * p = 65 by omega)]; exact hF))) rfl 6 (by decide) (oP np (by omega)) (kP np _) rfl u495 u492 u494 qp4 u14 hyX6_shownOf (by decide) (by decide) (Nat.le_of_ble_eq_true rfl) dX6_fillShowing_28 (fun v_28 m_28 h_28 => ?_)
  obtain ⟨e1, e2⟩ := h_28; have e1 := e1.symm; have e2 := e2.symm; subst e1; subst e2
  refine j_nrm2 _ (by first | (simp only [fa_lit, pk_mul, nI_add]; done) | (simp only [fa_lit, pk_mul, nI_add]; rfl) | rfl) ?_
  refine j_iastN X (o65 np) (k65 np) (by rw [l65]; omega) (by rw [l65]; decide) dX6_fillShowing_31 ?_
  refine j_aload_n X dX6_fillShowing_32 rfl ?_
  refine j_iload_n X dX6_fillShowing_33 rfl ?_
  refine j_iconst X dX6_fillShowing_34 1 (by decide) ?_
  refine j_iadd X dX6_fillShowing_35 ?_
  refine j_aload_n X dX6_fillShowing_36 rfl ?_
  refine j_iload_n X dX6_fillShowing_37 rfl ?_
  refine j_iconst X dX6_fillShowing_38 2 (by decide) ?_
  refine j_iload X dX6_fillShowing_39 rfl ?_
  refine j_imul X dX6_fillShowing_41 ?_
  refine j_iconst X dX6_fillShowing_42 1 (by decide) ?_
  refine j_iadd X dX6_fillShowing_43 ?_
  refine s_callVi X hR (c_shownOf2_1 np _ p F hp (by first | exact hN | (simp only [jup_o (show ¬ 92 + 2 * p = 65 by omega)]; exact hN)) (by first | exact hF | (simp only [jup_o (show ¬ 93 + 2 * p = 65 by omega)]; exact hF))) rfl 6 (by decide) (oP np (by omega)) (kP np _) rfl u495 u492 u494 qp4 u14 hyX6_shownOf (by decide) (by decide) (Nat.le_of_ble_eq_true rfl) dX6_fillShowing_44 (fun v_44 m_44 h_44 => ?_)
  obtain ⟨e1, e2⟩ := h_44; have e1 := e1.symm; have e2 := e2.symm; subst e1; subst e2
  refine j_nrm2 _ (by first | (simp only [fa_lit, pk_mul, nI_add]; done) | (simp only [fa_lit, pk_mul, nI_add]; rfl) | rfl) ?_
  refine j_iastN X (o65 np) (k65 np) (by rw [l65]; omega) (by rw [l65]; decide) dX6_fillShowing_47 ?_
  refine j_goto X 60 dX6_fillShowing_48 (by decide) ?_
  refine j_iload_n X dX6_fillShowing_60 rfl ?_
  refine j_iload_n X dX6_fillShowing_61 rfl ?_
  refine j_iload X dX6_fillShowing_62 rfl ?_
  refine s_callSi X hR (c_halfSize2_0 np _) rfl u501 u499 u500 u14 hyX6_halfSize (by decide) (by decide) (Nat.le_of_ble_eq_true rfl) dX6_fillShowing_64 (fun v_2 m_2 h_2 => ?_)
  obtain ⟨e1, e2⟩ := h_2; have e1 := e1.symm; have e2 := e2.symm; subst e1; subst e2
  refine j_iadd X dX6_fillShowing_67 ?_
  refine j_istore_n X dX6_fillShowing_68 (by decide) ?_
  refine j_iinc X dX6_fillShowing_69 rfl 1 rfl ?_
  refine j_goto X 5 dX6_fillShowing_72 (by decide) ?_
  refine j_iload X dX6_fillShowing_5 rfl ?_
  refine j_iconst X dX6_fillShowing_7 2 (by decide) ?_
  refine j_icmp_ge X 75 dX6_fillShowing_8 (by decide) (fun c_8 => absurd c_8 (by decide)) (fun c_8 => ?_)
  refine j_iload_n X dX6_fillShowing_11 rfl ?_
  refine j_iload X dX6_fillShowing_12 rfl ?_
  refine s_callSi X hR (c_shows2_1 np _) rfl u491 u489 u490 u14 hyX6_showsOfHalf (by decide) (by decide) (Nat.le_of_ble_eq_true rfl) dX6_fillShowing_14 (fun v_2 m_2 h_2 => ?_)
  obtain ⟨e1, e2⟩ := h_2; have e1 := e1.symm; have e2 := e2.symm; subst e1; subst e2
  refine j_if_eq X 51 dX6_fillShowing_17 (by decide) (fun c_17 => ?_) (fun c_17 => absurd c_17 (by decide))
  refine j_aload_n X dX6_fillShowing_51 rfl ?_
  refine j_iload_n X dX6_fillShowing_52 rfl ?_
  refine j_aload_n X dX6_fillShowing_53 rfl ?_
  refine j_iload X dX6_fillShowing_54 rfl ?_
  refine s_callVi X hR (c_half1 np _ p F hp (by first | exact hN | (simp only [jup_o (show ¬ 92 + 2 * p = 65 by omega)]; exact hN)) (by first | exact hF | (simp only [jup_o (show ¬ 93 + 2 * p = 65 by omega)]; exact hF))) rfl 6 (by decide) (oP np (by omega)) (kP np _) rfl u452 u470 u450 u451 u14 hyX6_half (by decide) (by decide) (Nat.le_of_ble_eq_true rfl) dX6_fillShowing_56 (fun v_56 m_56 h_56 => ?_)
  obtain ⟨e1, e2⟩ := h_56; have e1 := e1.symm; have e2 := e2.symm; subst e1; subst e2
  refine j_nrm2 _ (by first | (simp only [fa_lit, pk_mul, nI_add]; done) | (simp only [fa_lit, pk_mul, nI_add]; rfl) | rfl) ?_
  refine j_iastN X (o65 np) (k65 np) (by rw [l65]; omega) (by rw [l65]; decide) dX6_fillShowing_59 ?_
  refine j_iload_n X dX6_fillShowing_60 rfl ?_
  refine j_iload_n X dX6_fillShowing_61 rfl ?_
  refine j_iload X dX6_fillShowing_62 rfl ?_
  refine s_callSi X hR (c_halfSize2_1 np _) rfl u501 u499 u500 u14 hyX6_halfSize (by decide) (by decide) (Nat.le_of_ble_eq_true rfl) dX6_fillShowing_64 (fun v_2 m_2 h_2 => ?_)
  obtain ⟨e1, e2⟩ := h_2; have e1 := e1.symm; have e2 := e2.symm; subst e1; subst e2
  refine j_iadd X dX6_fillShowing_67 ?_
  refine j_istore_n X dX6_fillShowing_68 (by decide) ?_
  refine j_iinc X dX6_fillShowing_69 rfl 1 rfl ?_
  refine j_goto X 5 dX6_fillShowing_72 (by decide) ?_
  refine j_iload X dX6_fillShowing_5 rfl ?_
  refine j_iconst X dX6_fillShowing_7 2 (by decide) ?_
  refine j_icmp_ge X 75 dX6_fillShowing_8 (by decide) (fun c_8 => ?_) (fun c_8 => absurd c_8 (by decide))
  refine j_iload_n X dX6_fillShowing_75 rfl ?_
  refine s_iret X hE hr dX6_fillShowing_76 rfl ?_
  exact ⟨by decide, rfl⟩
set_option maxRecDepth 4000 in
set_option maxHeartbeats 1000000 in
theorem c_shows3_0 (np : Nat) (mem : jMem)   : jPi yX6_showsOfHalf cX6_showsOfHalf 2 .boolean 1 [.int 3, .int 0] np mem (fun v c => v = 1 ∧ c = mem) := by
  refine jPi.of (own := RX6) rfl rfl (Nat.le_of_ble_eq_true rfl) (fun G X hR hr hE => ?_)
  refine j_iload_n X dX6_showsOfHalf_0 rfl ?_
  refine j_iconst X dX6_showsOfHalf_1 2 (by decide) ?_
  refine j_iload_n X dX6_showsOfHalf_2 rfl ?_
  refine j_imul X dX6_showsOfHalf_3 ?_
  refine j_ishr X dX6_showsOfHalf_4 ?_
  refine j_iconst X dX6_showsOfHalf_5 3 (by decide) ?_
  refine j_iand X dX6_showsOfHalf_6 ?_
  refine j_if_eq X 14 dX6_showsOfHalf_7 (by decide) (fun c_7 => absurd c_7 (by decide)) (fun c_7 => ?_)
  refine j_iconst X dX6_showsOfHalf_10 1 (by decide) ?_
  refine j_goto X 15 dX6_showsOfHalf_11 (by decide) ?_
  refine s_iret X hE hr dX6_showsOfHalf_15 (by first | exact jb_nar | rfl) ?_
  first | exact ⟨rfl, rfl⟩ | (exfalso; clear hE hr hR X; (try simp only [lg_cmp_lt, lg_cmp_gt, lg_cmp_le, lg_cmp_ge] at *); (try simp (disch := omega) only [Int64.le_iff_toInt_le, Int64.lt_iff_toInt_lt, Int32.le_iff_toInt_le, Int32.lt_iff_toInt_lt, fa_eq, fa_lit, fa_litL, nI_toInt, pk_lT, Int32.toInt_toInt64, jadd64, jin, jnoneT] at *); omega)
set_option maxRecDepth 4000 in
set_option maxHeartbeats 1000000 in
theorem c_halfSize3_0 (np : Nat) (mem : jMem)   : jPi yX6_halfSize cX6_halfSize 2 .int 2 [.int 3, .int 0] np mem (fun v c => v = 2 ∧ c = mem) := by
  refine jPi.of (own := RX6) rfl rfl (Nat.le_of_ble_eq_true rfl) (fun G X hR hr hE => ?_)
  refine j_iload_n X dX6_halfSize_0 rfl ?_
  refine j_iload_n X dX6_halfSize_1 rfl ?_
  refine s_callSi X hR (c_shows3_0 np _) rfl u491 u489 u490 u14 hyX6_showsOfHalf (by decide) (by decide) (Nat.le_of_ble_eq_true rfl) dX6_halfSize_2 (fun v_2 m_2 h_2 => ?_)
  obtain ⟨e1, e2⟩ := h_2; have e1 := e1.symm; have e2 := e2.symm; subst e1; subst e2
  refine j_if_eq X 12 dX6_halfSize_5 (by decide) (fun c_5 => absurd c_5 (by decide)) (fun c_5 => ?_)
  refine j_iconst X dX6_halfSize_8 2 (by decide) ?_
  refine j_goto X 13 dX6_halfSize_9 (by decide) ?_
  refine s_iret X hE hr dX6_halfSize_13 rfl ?_
  first | exact ⟨rfl, rfl⟩ | (exfalso; clear hE hr hR X; (try simp only [lg_cmp_lt, lg_cmp_gt, lg_cmp_le, lg_cmp_ge] at *); (try simp (disch := omega) only [Int64.le_iff_toInt_le, Int64.lt_iff_toInt_lt, Int32.le_iff_toInt_le, Int32.lt_iff_toInt_lt, fa_eq, fa_lit, fa_litL, nI_toInt, pk_lT, Int32.toInt_toInt64, jadd64, jin, jnoneT] at *); omega)
set_option maxRecDepth 4000 in
set_option maxHeartbeats 1000000 in
theorem c_shows3_1 (np : Nat) (mem : jMem)   : jPi yX6_showsOfHalf cX6_showsOfHalf 2 .boolean 1 [.int 3, .int 1] np mem (fun v c => v = 0 ∧ c = mem) := by
  refine jPi.of (own := RX6) rfl rfl (Nat.le_of_ble_eq_true rfl) (fun G X hR hr hE => ?_)
  refine j_iload_n X dX6_showsOfHalf_0 rfl ?_
  refine j_iconst X dX6_showsOfHalf_1 2 (by decide) ?_
  refine j_iload_n X dX6_showsOfHalf_2 rfl ?_
  refine j_imul X dX6_showsOfHalf_3 ?_
  refine j_ishr X dX6_showsOfHalf_4 ?_
  refine j_iconst X dX6_showsOfHalf_5 3 (by decide) ?_
  refine j_iand X dX6_showsOfHalf_6 ?_
  refine j_if_eq X 14 dX6_showsOfHalf_7 (by decide) (fun c_7 => ?_) (fun c_7 => absurd c_7 (by decide))
  refine j_iconst X dX6_showsOfHalf_14 0 (by decide) ?_
  refine s_iret X hE hr dX6_showsOfHalf_15 (by first | exact jb_nar | rfl) ?_
  first | exact ⟨rfl, rfl⟩ | (exfalso; clear hE hr hR X; (try simp only [lg_cmp_lt, lg_cmp_gt, lg_cmp_le, lg_cmp_ge] at *); (try simp (disch := omega) only [Int64.le_iff_toInt_le, Int64.lt_iff_toInt_lt, Int32.le_iff_toInt_le, Int32.lt_iff_toInt_lt, fa_eq, fa_lit, fa_litL, nI_toInt, pk_lT, Int32.toInt_toInt64, jadd64, jin, jnoneT] at *); omega)
set_option maxRecDepth 4000 in
set_option maxHeartbeats 1000000 in
theorem c_halfSize3_1 (np : Nat) (mem : jMem)   : jPi yX6_halfSize cX6_halfSize 2 .int 2 [.int 3, .int 1] np mem (fun v c => v = 1 ∧ c = mem) := by
  refine jPi.of (own := RX6) rfl rfl (Nat.le_of_ble_eq_true rfl) (fun G X hR hr hE => ?_)
  refine j_iload_n X dX6_halfSize_0 rfl ?_
  refine j_iload_n X dX6_halfSize_1 rfl ?_
  refine s_callSi X hR (c_shows3_1 np _) rfl u491 u489 u490 u14 hyX6_showsOfHalf (by decide) (by decide) (Nat.le_of_ble_eq_true rfl) dX6_halfSize_2 (fun v_2 m_2 h_2 => ?_)
  obtain ⟨e1, e2⟩ := h_2; have e1 := e1.symm; have e2 := e2.symm; subst e1; subst e2
  refine j_if_eq X 12 dX6_halfSize_5 (by decide) (fun c_5 => ?_) (fun c_5 => absurd c_5 (by decide))
  refine j_iconst X dX6_halfSize_12 1 (by decide) ?_
  refine s_iret X hE hr dX6_halfSize_13 rfl ?_
  first | exact ⟨rfl, rfl⟩ | (exfalso; clear hE hr hR X; (try simp only [lg_cmp_lt, lg_cmp_gt, lg_cmp_le, lg_cmp_ge] at *); (try simp (disch := omega) only [Int64.le_iff_toInt_le, Int64.lt_iff_toInt_lt, Int32.le_iff_toInt_le, Int32.lt_iff_toInt_lt, fa_eq, fa_lit, fa_litL, nI_toInt, pk_lT, Int32.toInt_toInt64, jadd64, jin, jnoneT] at *); omega)
set_option maxRecDepth 4000 in
set_option maxHeartbeats 1000000 in
theorem c_showingSize3 (np : Nat) (mem : jMem)   : jPi yX6_showingSize cX6_showingSize 1 .int 3 [.int 3] np mem (fun v c => v = 3 ∧ c = mem) := by
  refine jPi.of (own := RX6) rfl rfl (Nat.le_of_ble_eq_true rfl) (fun G X hR hr hE => ?_)
  refine j_iload_n X dX6_showingSize_0 rfl ?_
  refine j_iconst X dX6_showingSize_1 0 (by decide) ?_
  refine s_callSi X hR (c_halfSize3_0 np _) rfl u501 u499 u500 u14 hyX6_halfSize (by decide) (by decide) (Nat.le_of_ble_eq_true rfl) dX6_showingSize_2 (fun v_2 m_2 h_2 => ?_)
  obtain ⟨e1, e2⟩ := h_2; have e1 := e1.symm; have e2 := e2.symm; subst e1; subst e2
  refine j_iload_n X dX6_showingSize_5 rfl ?_
  refine j_iconst X dX6_showingSize_6 1 (by decide) ?_
  refine s_callSi X hR (c_halfSize3_1 np _) rfl u501 u499 u500 u14 hyX6_halfSize (by decide) (by decide) (Nat.le_of_ble_eq_true rfl) dX6_showingSize_7 (fun v_2 m_2 h_2 => ?_)
  obtain ⟨e1, e2⟩ := h_2; have e1 := e1.symm; have e2 := e2.symm; subst e1; subst e2
  refine j_iadd X dX6_showingSize_10 ?_
  refine s_iret X hE hr dX6_showingSize_11 rfl ?_
  exact ⟨by decide, rfl⟩
set_option maxRecDepth 4000 in
set_option maxHeartbeats 1000000 in
theorem c_shownOf3_0 (np : Nat) (mem : jMem) (p : Nat) (F : Nat → Int32) (hp : p < np) (hN : mem (92 + 2 * p) 0 = nI p) (hF : mem (93 + 2 * p) = F) : jPi yX6_shownOf cX6_shownOf 3 .int 3 [.ref (92 + 2 * p), .int 3, .int 0] np mem (fun v c => v = F 0 ∧ c = mem) := by
  refine jPi.of (own := RX6) rfl rfl (Nat.le_of_ble_eq_true rfl) (fun G X hR hr hE => ?_)
  refine j_iload_n X dX6_shownOf_0 rfl ?_
  refine j_iload_n X dX6_shownOf_1 rfl ?_
  refine s_callNi X hR (c_hasBit np _ _ _) rfl u498 (by decide) u497 u1 hyX10_hasBit (by decide) (by decide) (Nat.le_of_ble_eq_true rfl) dX6_shownOf_2 (fun v_2 m_2 h_2 => ?_)
  obtain ⟨e1, e2⟩ := h_2; have e1 := e1.symm; have e2 := e2.symm; subst e1; subst e2
  refine j_ifb_eq X 17 dX6_shownOf_5 (by decide) (fun c_5 => absurd c_5 (by decide)) (fun c_5 => ?_)
  refine j_aload_n X dX6_shownOf_8 rfl ?_
  refine j_getR X 6 6 (by decide) (by decide) rfl u405 (oP np (by omega)) (kP np _) _ (pP_f np _) dX6_shownOf_9 ?_
  refine j_iload_n X dX6_shownOf_12 rfl ?_
  refine j_nrm _ (by first | (simp only [fa_lit, pk_mul, nI_add]; done) | (simp only [fa_lit, pk_mul, nI_add]; rfl) | rfl) ?_
  refine j_ialdN X (oPf np (by omega)) (kPf np _) (by rw [lPf]; omega) (by rw [lPf]; decide) F hF dX6_shownOf_13 ?_
  refine j_goto X 22 dX6_shownOf_14 (by decide) ?_
  refine s_iret X hE hr dX6_shownOf_22 rfl ?_
  first | exact ⟨rfl, rfl⟩ | (exfalso; clear hE hr hR X; (try simp only [lg_cmp_lt, lg_cmp_gt, lg_cmp_le, lg_cmp_ge] at *); (try simp (disch := omega) only [Int64.le_iff_toInt_le, Int64.lt_iff_toInt_lt, Int32.le_iff_toInt_le, Int32.lt_iff_toInt_lt, fa_eq, fa_lit, fa_litL, nI_toInt, pk_lT, Int32.toInt_toInt64, jadd64, jin, jnoneT] at *); omega)
set_option maxRecDepth 4000 in
set_option maxHeartbeats 1000000 in
theorem c_shownOf3_1 (np : Nat) (mem : jMem) (p : Nat) (F : Nat → Int32) (hp : p < np) (hN : mem (92 + 2 * p) 0 = nI p) (hF : mem (93 + 2 * p) = F) : jPi yX6_shownOf cX6_shownOf 3 .int 3 [.ref (92 + 2 * p), .int 3, .int 1] np mem (fun v c => v = F 1 ∧ c = mem) := by
  refine jPi.of (own := RX6) rfl rfl (Nat.le_of_ble_eq_true rfl) (fun G X hR hr hE => ?_)
  refine j_iload_n X dX6_shownOf_0 rfl ?_
  refine j_iload_n X dX6_shownOf_1 rfl ?_
  refine s_callNi X hR (c_hasBit np _ _ _) rfl u498 (by decide) u497 u1 hyX10_hasBit (by decide) (by decide) (Nat.le_of_ble_eq_true rfl) dX6_shownOf_2 (fun v_2 m_2 h_2 => ?_)
  obtain ⟨e1, e2⟩ := h_2; have e1 := e1.symm; have e2 := e2.symm; subst e1; subst e2
  refine j_ifb_eq X 17 dX6_shownOf_5 (by decide) (fun c_5 => absurd c_5 (by decide)) (fun c_5 => ?_)
  refine j_aload_n X dX6_shownOf_8 rfl ?_
  refine j_getR X 6 6 (by decide) (by decide) rfl u405 (oP np (by omega)) (kP np _) _ (pP_f np _) dX6_shownOf_9 ?_
  refine j_iload_n X dX6_shownOf_12 rfl ?_
  refine j_nrm _ (by first | (simp only [fa_lit, pk_mul, nI_add]; done) | (simp only [fa_lit, pk_mul, nI_add]; rfl) | rfl) ?_
  refine j_ialdN X (oPf np (by omega)) (kPf np _) (by rw [lPf]; omega) (by rw [lPf]; decide) F hF dX6_shownOf_13 ?_
  refine j_goto X 22 dX6_shownOf_14 (by decide) ?_
  refine s_iret X hE hr dX6_shownOf_22 rfl ?_
  first | exact ⟨rfl, rfl⟩ | (exfalso; clear hE hr hR X; (try simp only [lg_cmp_lt, lg_cmp_gt, lg_cmp_le, lg_cmp_ge] at *); (try simp (disch := omega) only [Int64.le_iff_toInt_le, Int64.lt_iff_toInt_lt, Int32.le_iff_toInt_le, Int32.lt_iff_toInt_lt, fa_eq, fa_lit, fa_litL, nI_toInt, pk_lT, Int32.toInt_toInt64, jadd64, jin, jnoneT] at *); omega)
set_option maxRecDepth 4000 in
set_option maxHeartbeats 1000000 in
theorem c_shownOf3_2 (np : Nat) (mem : jMem) (p : Nat) (F : Nat → Int32) (hp : p < np) (hN : mem (92 + 2 * p) 0 = nI p) (hF : mem (93 + 2 * p) = F) : jPi yX6_shownOf cX6_shownOf 3 .int 3 [.ref (92 + 2 * p), .int 3, .int 2] np mem (fun v c => v = (jLeaf (nI p) 2 (F 2)) ∧ c = mem) := by
  refine jPi.of (own := RX6) rfl rfl (Nat.le_of_ble_eq_true rfl) (fun G X hR hr hE => ?_)
  refine j_iload_n X dX6_shownOf_0 rfl ?_
  refine j_iload_n X dX6_shownOf_1 rfl ?_
  refine s_callNi X hR (c_hasBit np _ _ _) rfl u498 (by decide) u497 u1 hyX10_hasBit (by decide) (by decide) (Nat.le_of_ble_eq_true rfl) dX6_shownOf_2 (fun v_2 m_2 h_2 => ?_)
  obtain ⟨e1, e2⟩ := h_2; have e1 := e1.symm; have e2 := e2.symm; subst e1; subst e2
  refine j_ifb_eq X 17 dX6_shownOf_5 (by decide) (fun c_5 => ?_) (fun c_5 => absurd c_5 (by decide))
  refine j_aload_n X dX6_shownOf_17 rfl ?_
  refine j_iload_n X dX6_shownOf_18 rfl ?_
  refine s_callVi X hR (c_leaf2 np _ p F hp hN hF) rfl 6 (by decide) (oP np (by omega)) (kP np _) rfl u456 u453 u454 u455 u14 hyX6_leaf (by decide) (by decide) (Nat.le_of_ble_eq_true rfl) dX6_shownOf_19 (fun v_19 m_19 h_19 => ?_)
  obtain ⟨e1, e2⟩ := h_19; have e1 := e1.symm; have e2 := e2.symm; subst e1; subst e2
  refine s_iret X hE hr dX6_shownOf_22 rfl ?_
  first | exact ⟨rfl, rfl⟩ | (exfalso; clear hE hr hR X; (try simp only [lg_cmp_lt, lg_cmp_gt, lg_cmp_le, lg_cmp_ge] at *); (try simp (disch := omega) only [Int64.le_iff_toInt_le, Int64.lt_iff_toInt_lt, Int32.le_iff_toInt_le, Int32.lt_iff_toInt_lt, fa_eq, fa_lit, fa_litL, nI_toInt, pk_lT, Int32.toInt_toInt64, jadd64, jin, jnoneT] at *); omega)
set_option maxRecDepth 4000 in
set_option maxHeartbeats 1000000 in
theorem c_shownOf3_3 (np : Nat) (mem : jMem) (p : Nat) (F : Nat → Int32) (hp : p < np) (hN : mem (92 + 2 * p) 0 = nI p) (hF : mem (93 + 2 * p) = F) : jPi yX6_shownOf cX6_shownOf 3 .int 3 [.ref (92 + 2 * p), .int 3, .int 3] np mem (fun v c => v = (jLeaf (nI p) 3 (F 3)) ∧ c = mem) := by
  refine jPi.of (own := RX6) rfl rfl (Nat.le_of_ble_eq_true rfl) (fun G X hR hr hE => ?_)
  refine j_iload_n X dX6_shownOf_0 rfl ?_
  refine j_iload_n X dX6_shownOf_1 rfl ?_
  refine s_callNi X hR (c_hasBit np _ _ _) rfl u498 (by decide) u497 u1 hyX10_hasBit (by decide) (by decide) (Nat.le_of_ble_eq_true rfl) dX6_shownOf_2 (fun v_2 m_2 h_2 => ?_)
  obtain ⟨e1, e2⟩ := h_2; have e1 := e1.symm; have e2 := e2.symm; subst e1; subst e2
  refine j_ifb_eq X 17 dX6_shownOf_5 (by decide) (fun c_5 => ?_) (fun c_5 => absurd c_5 (by decide))
  refine j_aload_n X dX6_shownOf_17 rfl ?_
  refine j_iload_n X dX6_shownOf_18 rfl ?_
  refine s_callVi X hR (c_leaf3 np _ p F hp hN hF) rfl 6 (by decide) (oP np (by omega)) (kP np _) rfl u456 u453 u454 u455 u14 hyX6_leaf (by decide) (by decide) (Nat.le_of_ble_eq_true rfl) dX6_shownOf_19 (fun v_19 m_19 h_19 => ?_)
  obtain ⟨e1, e2⟩ := h_19; have e1 := e1.symm; have e2 := e2.symm; subst e1; subst e2
  refine s_iret X hE hr dX6_shownOf_22 rfl ?_
  first | exact ⟨rfl, rfl⟩ | (exfalso; clear hE hr hR X; (try simp only [lg_cmp_lt, lg_cmp_gt, lg_cmp_le, lg_cmp_ge] at *); (try simp (disch := omega) only [Int64.le_iff_toInt_le, Int64.lt_iff_toInt_lt, Int32.le_iff_toInt_le, Int32.lt_iff_toInt_lt, fa_eq, fa_lit, fa_litL, nI_toInt, pk_lT, Int32.toInt_toInt64, jadd64, jin, jnoneT] at *); omega)
set_option maxRecDepth 4000 in
set_option maxHeartbeats 1000000 in
theorem c_fillShowing3 (np : Nat) (mem : jMem) (p : Nat) (F : Nat → Int32) (hp : p < np) (hN : mem (92 + 2 * p) 0 = nI p) (hF : mem (93 + 2 * p) = F) : jPi yX6_fillShowing cX6_fillShowing 5 .int 4 [.ref (92 + 2 * p), .int 3, .ref 65] np mem (fun v c => v = 3 ∧ c = jup (jup (jup (mem) 65 0 (F 0)) 65 1 (F 1)) 65 2 (jJoin (jLeaf (nI p) 2 (F 2)) (jLeaf (nI p) 3 (F 3)))) := by
  refine jPi.of (own := RX6) rfl rfl (Nat.le_of_ble_eq_true rfl) (fun G X hR hr hE => ?_)
  refine j_iconst X dX6_fillShowing_0 0 (by decide) ?_
  refine j_istore_n X dX6_fillShowing_1 (by decide) ?_
  refine j_iconst X dX6_fillShowing_2 0 (by decide) ?_
  refine j_istore X dX6_fillShowing_3 (by decide) ?_
  refine j_iload X dX6_fillShowing_5 rfl ?_
  refine j_iconst X dX6_fillShowing_7 2 (by decide) ?_
  refine j_icmp_ge X 75 dX6_fillShowing_8 (by decide) (fun c_8 => absurd c_8 (by decide)) (fun c_8 => ?_)
  refine j_iload_n X dX6_fillShowing_11 rfl ?_
  refine j_iload X dX6_fillShowing_12 rfl ?_
  refine s_callSi X hR (c_shows3_0 np _) rfl u491 u489 u490 u14 hyX6_showsOfHalf (by decide) (by decide) (Nat.le_of_ble_eq_true rfl) dX6_fillShowing_14 (fun v_2 m_2 h_2 => ?_)
  obtain ⟨e1, e2⟩ := h_2; have e1 := e1.symm; have e2 := e2.symm; subst e1; subst e2
  refine j_if_eq X 51 dX6_fillShowing_17 (by decide) (fun c_17 => absurd c_17 (by decide)) (fun c_17 => ?_)
  refine j_aload_n X dX6_fillShowing_20 rfl ?_
  refine j_iload_n X dX6_fillShowing_21 rfl ?_
  refine j_aload_n X dX6_fillShowing_22 rfl ?_
  refine j_iload_n X dX6_fillShowing_23 rfl ?_
  refine j_iconst X dX6_fillShowing_24 2 (by decide) ?_
  refine j_iload X dX6_fillShowing_25 rfl ?_
  refine j_imul X dX6_fillShowing_27 ?_
  refine s_callVi X hR (c_shownOf3_0 np _ p F hp (by first | exact hN | (simp only [jup_o (show ¬ 92 + 2 * p = 65 by omega)]; exact hN)) (by first | exact hF | (simp only [jup_o (show ¬ 93 + 2 * p = 65 by omega)]; exact hF))) rfl 6 (by decide) (oP np (by omega)) (kP np _) rfl u495 u492 u494 qp4 u14 hyX6_shownOf (by decide) (by decide) (Nat.le_of_ble_eq_true rfl) dX6_fillShowing_28 (fun v_28 m_28 h_28 => ?_)
  obtain ⟨e1, e2⟩ := h_28; have e1 := e1.symm; have e2 := e2.symm; subst e1; subst e2
  refine j_nrm2 _ (by first | (simp only [fa_lit, pk_mul, nI_add]; done) | (simp only [fa_lit, pk_mul, nI_add]; rfl) | rfl) ?_
  refine j_iastN X (o65 np) (k65 np) (by rw [l65]; omega) (by rw [l65]; decide) dX6_fillShowing_31 ?_
  refine j_aload_n X dX6_fillShowing_32 rfl ?_
  refine j_iload_n X dX6_fillShowing_33 rfl ?_
  refine j_iconst X dX6_fillShowing_34 1 (by decide) ?_
  refine j_iadd X dX6_fillShowing_35 ?_
  refine j_aload_n X dX6_fillShowing_36 rfl ?_
  refine j_iload_n X dX6_fillShowing_37 rfl ?_
  refine j_iconst X dX6_fillShowing_38 2 (by decide) ?_
  refine j_iload X dX6_fillShowing_39 rfl ?_
  refine j_imul X dX6_fillShowing_41 ?_
  refine j_iconst X dX6_fillShowing_42 1 (by decide) ?_
  refine j_iadd X dX6_fillShowing_43 ?_
  refine s_callVi X hR (c_shownOf3_1 np _ p F hp (by first | exact hN | (simp only [jup_o (show ¬ 92 + 2 * p = 65 by omega)]; exact hN)) (by first | exact hF | (simp only [jup_o (show ¬ 93 + 2 * p = 65 by omega)]; exact hF))) rfl 6 (by decide) (oP np (by omega)) (kP np _) rfl u495 u492 u494 qp4 u14 hyX6_shownOf (by decide) (by decide) (Nat.le_of_ble_eq_true rfl) dX6_fillShowing_44 (fun v_44 m_44 h_44 => ?_)
  obtain ⟨e1, e2⟩ := h_44; have e1 := e1.symm; have e2 := e2.symm; subst e1; subst e2
  refine j_nrm2 _ (by first | (simp only [fa_lit, pk_mul, nI_add]; done) | (simp only [fa_lit, pk_mul, nI_add]; rfl) | rfl) ?_
  refine j_iastN X (o65 np) (k65 np) (by rw [l65]; omega) (by rw [l65]; decide) dX6_fillShowing_47 ?_
  refine j_goto X 60 dX6_fillShowing_48 (by decide) ?_
  refine j_iload_n X dX6_fillShowing_60 rfl ?_
  refine j_iload_n X dX6_fillShowing_61 rfl ?_
  refine j_iload X dX6_fillShowing_62 rfl ?_
  refine s_callSi X hR (c_halfSize3_0 np _) rfl u501 u499 u500 u14 hyX6_halfSize (by decide) (by decide) (Nat.le_of_ble_eq_true rfl) dX6_fillShowing_64 (fun v_2 m_2 h_2 => ?_)
  obtain ⟨e1, e2⟩ := h_2; have e1 := e1.symm; have e2 := e2.symm; subst e1; subst e2
  refine j_iadd X dX6_fillShowing_67 ?_
  refine j_istore_n X dX6_fillShowing_68 (by decide) ?_
  refine j_iinc X dX6_fillShowing_69 rfl 1 rfl ?_
  refine j_goto X 5 dX6_fillShowing_72 (by decide) ?_
  refine j_iload X dX6_fillShowing_5 rfl ?_
  refine j_iconst X dX6_fillShowing_7 2 (by decide) ?_
  refine j_icmp_ge X 75 dX6_fillShowing_8 (by decide) (fun c_8 => absurd c_8 (by decide)) (fun c_8 => ?_)
  refine j_iload_n X dX6_fillShowing_11 rfl ?_
  refine j_iload X dX6_fillShowing_12 rfl ?_
  refine s_callSi X hR (c_shows3_1 np _) rfl u491 u489 u490 u14 hyX6_showsOfHalf (by decide) (by decide) (Nat.le_of_ble_eq_true rfl) dX6_fillShowing_14 (fun v_2 m_2 h_2 => ?_)
  obtain ⟨e1, e2⟩ := h_2; have e1 := e1.symm; have e2 := e2.symm; subst e1; subst e2
  refine j_if_eq X 51 dX6_fillShowing_17 (by decide) (fun c_17 => ?_) (fun c_17 => absurd c_17 (by decide))
  refine j_aload_n X dX6_fillShowing_51 rfl ?_
  refine j_iload_n X dX6_fillShowing_52 rfl ?_
  refine j_aload_n X dX6_fillShowing_53 rfl ?_
  refine j_iload X dX6_fillShowing_54 rfl ?_
  refine s_callVi X hR (c_half1 np _ p F hp (by first | exact hN | (simp only [jup_o (show ¬ 92 + 2 * p = 65 by omega)]; exact hN)) (by first | exact hF | (simp only [jup_o (show ¬ 93 + 2 * p = 65 by omega)]; exact hF))) rfl 6 (by decide) (oP np (by omega)) (kP np _) rfl u452 u470 u450 u451 u14 hyX6_half (by decide) (by decide) (Nat.le_of_ble_eq_true rfl) dX6_fillShowing_56 (fun v_56 m_56 h_56 => ?_)
  obtain ⟨e1, e2⟩ := h_56; have e1 := e1.symm; have e2 := e2.symm; subst e1; subst e2
  refine j_nrm2 _ (by first | (simp only [fa_lit, pk_mul, nI_add]; done) | (simp only [fa_lit, pk_mul, nI_add]; rfl) | rfl) ?_
  refine j_iastN X (o65 np) (k65 np) (by rw [l65]; omega) (by rw [l65]; decide) dX6_fillShowing_59 ?_
  refine j_iload_n X dX6_fillShowing_60 rfl ?_
  refine j_iload_n X dX6_fillShowing_61 rfl ?_
  refine j_iload X dX6_fillShowing_62 rfl ?_
  refine s_callSi X hR (c_halfSize3_1 np _) rfl u501 u499 u500 u14 hyX6_halfSize (by decide) (by decide) (Nat.le_of_ble_eq_true rfl) dX6_fillShowing_64 (fun v_2 m_2 h_2 => ?_)
  obtain ⟨e1, e2⟩ := h_2; have e1 := e1.symm; have e2 := e2.symm; subst e1; subst e2
  refine j_iadd X dX6_fillShowing_67 ?_
  refine j_istore_n X dX6_fillShowing_68 (by decide) ?_
  refine j_iinc X dX6_fillShowing_69 rfl 1 rfl ?_
  refine j_goto X 5 dX6_fillShowing_72 (by decide) ?_
  refine j_iload X dX6_fillShowing_5 rfl ?_
  refine j_iconst X dX6_fillShowing_7 2 (by decide) ?_
  refine j_icmp_ge X 75 dX6_fillShowing_8 (by decide) (fun c_8 => ?_) (fun c_8 => absurd c_8 (by decide))
  refine j_iload_n X dX6_fillShowing_75 rfl ?_
  refine s_iret X hE hr dX6_fillShowing_76 rfl ?_
  exact ⟨by decide, rfl⟩
set_option maxRecDepth 4000 in
set_option maxHeartbeats 1000000 in
theorem c_shows4_0 (np : Nat) (mem : jMem)   : jPi yX6_showsOfHalf cX6_showsOfHalf 2 .boolean 1 [.int 4, .int 0] np mem (fun v c => v = 0 ∧ c = mem) := by
  refine jPi.of (own := RX6) rfl rfl (Nat.le_of_ble_eq_true rfl) (fun G X hR hr hE => ?_)
  refine j_iload_n X dX6_showsOfHalf_0 rfl ?_
  refine j_iconst X dX6_showsOfHalf_1 2 (by decide) ?_
  refine j_iload_n X dX6_showsOfHalf_2 rfl ?_
  refine j_imul X dX6_showsOfHalf_3 ?_
  refine j_ishr X dX6_showsOfHalf_4 ?_
  refine j_iconst X dX6_showsOfHalf_5 3 (by decide) ?_
  refine j_iand X dX6_showsOfHalf_6 ?_
  refine j_if_eq X 14 dX6_showsOfHalf_7 (by decide) (fun c_7 => ?_) (fun c_7 => absurd c_7 (by decide))
  refine j_iconst X dX6_showsOfHalf_14 0 (by decide) ?_
  refine s_iret X hE hr dX6_showsOfHalf_15 (by first | exact jb_nar | rfl) ?_
  first | exact ⟨rfl, rfl⟩ | (exfalso; clear hE hr hR X; (try simp only [lg_cmp_lt, lg_cmp_gt, lg_cmp_le, lg_cmp_ge] at *); (try simp (disch := omega) only [Int64.le_iff_toInt_le, Int64.lt_iff_toInt_lt, Int32.le_iff_toInt_le, Int32.lt_iff_toInt_lt, fa_eq, fa_lit, fa_litL, nI_toInt, pk_lT, Int32.toInt_toInt64, jadd64, jin, jnoneT] at *); omega)
set_option maxRecDepth 4000 in
set_option maxHeartbeats 1000000 in
theorem c_halfSize4_0 (np : Nat) (mem : jMem)   : jPi yX6_halfSize cX6_halfSize 2 .int 2 [.int 4, .int 0] np mem (fun v c => v = 1 ∧ c = mem) := by
  refine jPi.of (own := RX6) rfl rfl (Nat.le_of_ble_eq_true rfl) (fun G X hR hr hE => ?_)
  refine j_iload_n X dX6_halfSize_0 rfl ?_
  refine j_iload_n X dX6_halfSize_1 rfl ?_
  refine s_callSi X hR (c_shows4_0 np _) rfl u491 u489 u490 u14 hyX6_showsOfHalf (by decide) (by decide) (Nat.le_of_ble_eq_true rfl) dX6_halfSize_2 (fun v_2 m_2 h_2 => ?_)
  obtain ⟨e1, e2⟩ := h_2; have e1 := e1.symm; have e2 := e2.symm; subst e1; subst e2
  refine j_if_eq X 12 dX6_halfSize_5 (by decide) (fun c_5 => ?_) (fun c_5 => absurd c_5 (by decide))
  refine j_iconst X dX6_halfSize_12 1 (by decide) ?_
  refine s_iret X hE hr dX6_halfSize_13 rfl ?_
  first | exact ⟨rfl, rfl⟩ | (exfalso; clear hE hr hR X; (try simp only [lg_cmp_lt, lg_cmp_gt, lg_cmp_le, lg_cmp_ge] at *); (try simp (disch := omega) only [Int64.le_iff_toInt_le, Int64.lt_iff_toInt_lt, Int32.le_iff_toInt_le, Int32.lt_iff_toInt_lt, fa_eq, fa_lit, fa_litL, nI_toInt, pk_lT, Int32.toInt_toInt64, jadd64, jin, jnoneT] at *); omega)
set_option maxRecDepth 4000 in
set_option maxHeartbeats 1000000 in
theorem c_shows4_1 (np : Nat) (mem : jMem)   : jPi yX6_showsOfHalf cX6_showsOfHalf 2 .boolean 1 [.int 4, .int 1] np mem (fun v c => v = 1 ∧ c = mem) := by
  refine jPi.of (own := RX6) rfl rfl (Nat.le_of_ble_eq_true rfl) (fun G X hR hr hE => ?_)
  refine j_iload_n X dX6_showsOfHalf_0 rfl ?_
  refine j_iconst X dX6_showsOfHalf_1 2 (by decide) ?_
  refine j_iload_n X dX6_showsOfHalf_2 rfl ?_
  refine j_imul X dX6_showsOfHalf_3 ?_
  refine j_ishr X dX6_showsOfHalf_4 ?_
  refine j_iconst X dX6_showsOfHalf_5 3 (by decide) ?_
  refine j_iand X dX6_showsOfHalf_6 ?_
  refine j_if_eq X 14 dX6_showsOfHalf_7 (by decide) (fun c_7 => absurd c_7 (by decide)) (fun c_7 => ?_)
  refine j_iconst X dX6_showsOfHalf_10 1 (by decide) ?_
  refine j_goto X 15 dX6_showsOfHalf_11 (by decide) ?_
  refine s_iret X hE hr dX6_showsOfHalf_15 (by first | exact jb_nar | rfl) ?_
  first | exact ⟨rfl, rfl⟩ | (exfalso; clear hE hr hR X; (try simp only [lg_cmp_lt, lg_cmp_gt, lg_cmp_le, lg_cmp_ge] at *); (try simp (disch := omega) only [Int64.le_iff_toInt_le, Int64.lt_iff_toInt_lt, Int32.le_iff_toInt_le, Int32.lt_iff_toInt_lt, fa_eq, fa_lit, fa_litL, nI_toInt, pk_lT, Int32.toInt_toInt64, jadd64, jin, jnoneT] at *); omega)
set_option maxRecDepth 4000 in
set_option maxHeartbeats 1000000 in
theorem c_halfSize4_1 (np : Nat) (mem : jMem)   : jPi yX6_halfSize cX6_halfSize 2 .int 2 [.int 4, .int 1] np mem (fun v c => v = 2 ∧ c = mem) := by
  refine jPi.of (own := RX6) rfl rfl (Nat.le_of_ble_eq_true rfl) (fun G X hR hr hE => ?_)
  refine j_iload_n X dX6_halfSize_0 rfl ?_
  refine j_iload_n X dX6_halfSize_1 rfl ?_
  refine s_callSi X hR (c_shows4_1 np _) rfl u491 u489 u490 u14 hyX6_showsOfHalf (by decide) (by decide) (Nat.le_of_ble_eq_true rfl) dX6_halfSize_2 (fun v_2 m_2 h_2 => ?_)
  obtain ⟨e1, e2⟩ := h_2; have e1 := e1.symm; have e2 := e2.symm; subst e1; subst e2
  refine j_if_eq X 12 dX6_halfSize_5 (by decide) (fun c_5 => absurd c_5 (by decide)) (fun c_5 => ?_)
  refine j_iconst X dX6_halfSize_8 2 (by decide) ?_
  refine j_goto X 13 dX6_halfSize_9 (by decide) ?_
  refine s_iret X hE hr dX6_halfSize_13 rfl ?_
  first | exact ⟨rfl, rfl⟩ | (exfalso; clear hE hr hR X; (try simp only [lg_cmp_lt, lg_cmp_gt, lg_cmp_le, lg_cmp_ge] at *); (try simp (disch := omega) only [Int64.le_iff_toInt_le, Int64.lt_iff_toInt_lt, Int32.le_iff_toInt_le, Int32.lt_iff_toInt_lt, fa_eq, fa_lit, fa_litL, nI_toInt, pk_lT, Int32.toInt_toInt64, jadd64, jin, jnoneT] at *); omega)
set_option maxRecDepth 4000 in
set_option maxHeartbeats 1000000 in
theorem c_showingSize4 (np : Nat) (mem : jMem)   : jPi yX6_showingSize cX6_showingSize 1 .int 3 [.int 4] np mem (fun v c => v = 3 ∧ c = mem) := by
  refine jPi.of (own := RX6) rfl rfl (Nat.le_of_ble_eq_true rfl) (fun G X hR hr hE => ?_)
  refine j_iload_n X dX6_showingSize_0 rfl ?_
  refine j_iconst X dX6_showingSize_1 0 (by decide) ?_
  refine s_callSi X hR (c_halfSize4_0 np _) rfl u501 u499 u500 u14 hyX6_halfSize (by decide) (by decide) (Nat.le_of_ble_eq_true rfl) dX6_showingSize_2 (fun v_2 m_2 h_2 => ?_)
  obtain ⟨e1, e2⟩ := h_2; have e1 := e1.symm; have e2 := e2.symm; subst e1; subst e2
  refine j_iload_n X dX6_showingSize_5 rfl ?_
  refine j_iconst X dX6_showingSize_6 1 (by decide) ?_
  refine s_callSi X hR (c_halfSize4_1 np _) rfl u501 u499 u500 u14 hyX6_halfSize (by decide) (by decide) (Nat.le_of_ble_eq_true rfl) dX6_showingSize_7 (fun v_2 m_2 h_2 => ?_)
  obtain ⟨e1, e2⟩ := h_2; have e1 := e1.symm; have e2 := e2.symm; subst e1; subst e2
  refine j_iadd X dX6_showingSize_10 ?_
  refine s_iret X hE hr dX6_showingSize_11 rfl ?_
  exact ⟨by decide, rfl⟩
set_option maxRecDepth 4000 in
set_option maxHeartbeats 1000000 in
theorem c_shownOf4_0 (np : Nat) (mem : jMem) (p : Nat) (F : Nat → Int32) (hp : p < np) (hN : mem (92 + 2 * p) 0 = nI p) (hF : mem (93 + 2 * p) = F) : jPi yX6_shownOf cX6_shownOf 3 .int 3 [.ref (92 + 2 * p), .int 4, .int 0] np mem (fun v c => v = (jLeaf (nI p) 0 (F 0)) ∧ c = mem) := by
  refine jPi.of (own := RX6) rfl rfl (Nat.le_of_ble_eq_true rfl) (fun G X hR hr hE => ?_)
  refine j_iload_n X dX6_shownOf_0 rfl ?_
  refine j_iload_n X dX6_shownOf_1 rfl ?_
  refine s_callNi X hR (c_hasBit np _ _ _) rfl u498 (by decide) u497 u1 hyX10_hasBit (by decide) (by decide) (Nat.le_of_ble_eq_true rfl) dX6_shownOf_2 (fun v_2 m_2 h_2 => ?_)
  obtain ⟨e1, e2⟩ := h_2; have e1 := e1.symm; have e2 := e2.symm; subst e1; subst e2
  refine j_ifb_eq X 17 dX6_shownOf_5 (by decide) (fun c_5 => ?_) (fun c_5 => absurd c_5 (by decide))
  refine j_aload_n X dX6_shownOf_17 rfl ?_
  refine j_iload_n X dX6_shownOf_18 rfl ?_
  refine s_callVi X hR (c_leaf0 np _ p F hp hN hF) rfl 6 (by decide) (oP np (by omega)) (kP np _) rfl u456 u453 u454 u455 u14 hyX6_leaf (by decide) (by decide) (Nat.le_of_ble_eq_true rfl) dX6_shownOf_19 (fun v_19 m_19 h_19 => ?_)
  obtain ⟨e1, e2⟩ := h_19; have e1 := e1.symm; have e2 := e2.symm; subst e1; subst e2
  refine s_iret X hE hr dX6_shownOf_22 rfl ?_
  first | exact ⟨rfl, rfl⟩ | (exfalso; clear hE hr hR X; (try simp only [lg_cmp_lt, lg_cmp_gt, lg_cmp_le, lg_cmp_ge] at *); (try simp (disch := omega) only [Int64.le_iff_toInt_le, Int64.lt_iff_toInt_lt, Int32.le_iff_toInt_le, Int32.lt_iff_toInt_lt, fa_eq, fa_lit, fa_litL, nI_toInt, pk_lT, Int32.toInt_toInt64, jadd64, jin, jnoneT] at *); omega)
set_option maxRecDepth 4000 in
set_option maxHeartbeats 1000000 in
theorem c_shownOf4_1 (np : Nat) (mem : jMem) (p : Nat) (F : Nat → Int32) (hp : p < np) (hN : mem (92 + 2 * p) 0 = nI p) (hF : mem (93 + 2 * p) = F) : jPi yX6_shownOf cX6_shownOf 3 .int 3 [.ref (92 + 2 * p), .int 4, .int 1] np mem (fun v c => v = (jLeaf (nI p) 1 (F 1)) ∧ c = mem) := by
  refine jPi.of (own := RX6) rfl rfl (Nat.le_of_ble_eq_true rfl) (fun G X hR hr hE => ?_)
  refine j_iload_n X dX6_shownOf_0 rfl ?_
  refine j_iload_n X dX6_shownOf_1 rfl ?_
  refine s_callNi X hR (c_hasBit np _ _ _) rfl u498 (by decide) u497 u1 hyX10_hasBit (by decide) (by decide) (Nat.le_of_ble_eq_true rfl) dX6_shownOf_2 (fun v_2 m_2 h_2 => ?_)
  obtain ⟨e1, e2⟩ := h_2; have e1 := e1.symm; have e2 := e2.symm; subst e1; subst e2
  refine j_ifb_eq X 17 dX6_shownOf_5 (by decide) (fun c_5 => ?_) (fun c_5 => absurd c_5 (by decide))
  refine j_aload_n X dX6_shownOf_17 rfl ?_
  refine j_iload_n X dX6_shownOf_18 rfl ?_
  refine s_callVi X hR (c_leaf1 np _ p F hp hN hF) rfl 6 (by decide) (oP np (by omega)) (kP np _) rfl u456 u453 u454 u455 u14 hyX6_leaf (by decide) (by decide) (Nat.le_of_ble_eq_true rfl) dX6_shownOf_19 (fun v_19 m_19 h_19 => ?_)
  obtain ⟨e1, e2⟩ := h_19; have e1 := e1.symm; have e2 := e2.symm; subst e1; subst e2
  refine s_iret X hE hr dX6_shownOf_22 rfl ?_
  first | exact ⟨rfl, rfl⟩ | (exfalso; clear hE hr hR X; (try simp only [lg_cmp_lt, lg_cmp_gt, lg_cmp_le, lg_cmp_ge] at *); (try simp (disch := omega) only [Int64.le_iff_toInt_le, Int64.lt_iff_toInt_lt, Int32.le_iff_toInt_le, Int32.lt_iff_toInt_lt, fa_eq, fa_lit, fa_litL, nI_toInt, pk_lT, Int32.toInt_toInt64, jadd64, jin, jnoneT] at *); omega)
set_option maxRecDepth 4000 in
set_option maxHeartbeats 1000000 in
theorem c_shownOf4_2 (np : Nat) (mem : jMem) (p : Nat) (F : Nat → Int32) (hp : p < np) (hN : mem (92 + 2 * p) 0 = nI p) (hF : mem (93 + 2 * p) = F) : jPi yX6_shownOf cX6_shownOf 3 .int 3 [.ref (92 + 2 * p), .int 4, .int 2] np mem (fun v c => v = F 2 ∧ c = mem) := by
  refine jPi.of (own := RX6) rfl rfl (Nat.le_of_ble_eq_true rfl) (fun G X hR hr hE => ?_)
  refine j_iload_n X dX6_shownOf_0 rfl ?_
  refine j_iload_n X dX6_shownOf_1 rfl ?_
  refine s_callNi X hR (c_hasBit np _ _ _) rfl u498 (by decide) u497 u1 hyX10_hasBit (by decide) (by decide) (Nat.le_of_ble_eq_true rfl) dX6_shownOf_2 (fun v_2 m_2 h_2 => ?_)
  obtain ⟨e1, e2⟩ := h_2; have e1 := e1.symm; have e2 := e2.symm; subst e1; subst e2
  refine j_ifb_eq X 17 dX6_shownOf_5 (by decide) (fun c_5 => absurd c_5 (by decide)) (fun c_5 => ?_)
  refine j_aload_n X dX6_shownOf_8 rfl ?_
  refine j_getR X 6 6 (by decide) (by decide) rfl u405 (oP np (by omega)) (kP np _) _ (pP_f np _) dX6_shownOf_9 ?_
  refine j_iload_n X dX6_shownOf_12 rfl ?_
  refine j_nrm _ (by first | (simp only [fa_lit, pk_mul, nI_add]; done) | (simp only [fa_lit, pk_mul, nI_add]; rfl) | rfl) ?_
  refine j_ialdN X (oPf np (by omega)) (kPf np _) (by rw [lPf]; omega) (by rw [lPf]; decide) F hF dX6_shownOf_13 ?_
  refine j_goto X 22 dX6_shownOf_14 (by decide) ?_
  refine s_iret X hE hr dX6_shownOf_22 rfl ?_
  first | exact ⟨rfl, rfl⟩ | (exfalso; clear hE hr hR X; (try simp only [lg_cmp_lt, lg_cmp_gt, lg_cmp_le, lg_cmp_ge] at *); (try simp (disch := omega) only [Int64.le_iff_toInt_le, Int64.lt_iff_toInt_lt, Int32.le_iff_toInt_le, Int32.lt_iff_toInt_lt, fa_eq, fa_lit, fa_litL, nI_toInt, pk_lT, Int32.toInt_toInt64, jadd64, jin, jnoneT] at *); omega)
set_option maxRecDepth 4000 in
set_option maxHeartbeats 1000000 in
theorem c_shownOf4_3 (np : Nat) (mem : jMem) (p : Nat) (F : Nat → Int32) (hp : p < np) (hN : mem (92 + 2 * p) 0 = nI p) (hF : mem (93 + 2 * p) = F) : jPi yX6_shownOf cX6_shownOf 3 .int 3 [.ref (92 + 2 * p), .int 4, .int 3] np mem (fun v c => v = (jLeaf (nI p) 3 (F 3)) ∧ c = mem) := by
  refine jPi.of (own := RX6) rfl rfl (Nat.le_of_ble_eq_true rfl) (fun G X hR hr hE => ?_)
  refine j_iload_n X dX6_shownOf_0 rfl ?_
  refine j_iload_n X dX6_shownOf_1 rfl ?_
  refine s_callNi X hR (c_hasBit np _ _ _) rfl u498 (by decide) u497 u1 hyX10_hasBit (by decide) (by decide) (Nat.le_of_ble_eq_true rfl) dX6_shownOf_2 (fun v_2 m_2 h_2 => ?_)
  obtain ⟨e1, e2⟩ := h_2; have e1 := e1.symm; have e2 := e2.symm; subst e1; subst e2
  refine j_ifb_eq X 17 dX6_shownOf_5 (by decide) (fun c_5 => ?_) (fun c_5 => absurd c_5 (by decide))
  refine j_aload_n X dX6_shownOf_17 rfl ?_
  refine j_iload_n X dX6_shownOf_18 rfl ?_
  refine s_callVi X hR (c_leaf3 np _ p F hp hN hF) rfl 6 (by decide) (oP np (by omega)) (kP np _) rfl u456 u453 u454 u455 u14 hyX6_leaf (by decide) (by decide) (Nat.le_of_ble_eq_true rfl) dX6_shownOf_19 (fun v_19 m_19 h_19 => ?_)
  obtain ⟨e1, e2⟩ := h_19; have e1 := e1.symm; have e2 := e2.symm; subst e1; subst e2
  refine s_iret X hE hr dX6_shownOf_22 rfl ?_
  first | exact ⟨rfl, rfl⟩ | (exfalso; clear hE hr hR X; (try simp only [lg_cmp_lt, lg_cmp_gt, lg_cmp_le, lg_cmp_ge] at *); (try simp (disch := omega) only [Int64.le_iff_toInt_le, Int64.lt_iff_toInt_lt, Int32.le_iff_toInt_le, Int32.lt_iff_toInt_lt, fa_eq, fa_lit, fa_litL, nI_toInt, pk_lT, Int32.toInt_toInt64, jadd64, jin, jnoneT] at *); omega)
set_option maxRecDepth 4000 in
set_option maxHeartbeats 1000000 in
theorem c_fillShowing4 (np : Nat) (mem : jMem) (p : Nat) (F : Nat → Int32) (hp : p < np) (hN : mem (92 + 2 * p) 0 = nI p) (hF : mem (93 + 2 * p) = F) : jPi yX6_fillShowing cX6_fillShowing 5 .int 4 [.ref (92 + 2 * p), .int 4, .ref 65] np mem (fun v c => v = 3 ∧ c = jup (jup (jup (mem) 65 0 (jJoin (jLeaf (nI p) 0 (F 0)) (jLeaf (nI p) 1 (F 1)))) 65 1 (F 2)) 65 2 (jLeaf (nI p) 3 (F 3))) := by
  refine jPi.of (own := RX6) rfl rfl (Nat.le_of_ble_eq_true rfl) (fun G X hR hr hE => ?_)
  refine j_iconst X dX6_fillShowing_0 0 (by decide) ?_
  refine j_istore_n X dX6_fillShowing_1 (by decide) ?_
  refine j_iconst X dX6_fillShowing_2 0 (by decide) ?_
  refine j_istore X dX6_fillShowing_3 (by decide) ?_
  refine j_iload X dX6_fillShowing_5 rfl ?_
  refine j_iconst X dX6_fillShowing_7 2 (by decide) ?_
  refine j_icmp_ge X 75 dX6_fillShowing_8 (by decide) (fun c_8 => absurd c_8 (by decide)) (fun c_8 => ?_)
  refine j_iload_n X dX6_fillShowing_11 rfl ?_
  refine j_iload X dX6_fillShowing_12 rfl ?_
  refine s_callSi X hR (c_shows4_0 np _) rfl u491 u489 u490 u14 hyX6_showsOfHalf (by decide) (by decide) (Nat.le_of_ble_eq_true rfl) dX6_fillShowing_14 (fun v_2 m_2 h_2 => ?_)
  obtain ⟨e1, e2⟩ := h_2; have e1 := e1.symm; have e2 := e2.symm; subst e1; subst e2
  refine j_if_eq X 51 dX6_fillShowing_17 (by decide) (fun c_17 => ?_) (fun c_17 => absurd c_17 (by decide))
  refine j_aload_n X dX6_fillShowing_51 rfl ?_
  refine j_iload_n X dX6_fillShowing_52 rfl ?_
  refine j_aload_n X dX6_fillShowing_53 rfl ?_
  refine j_iload X dX6_fillShowing_54 rfl ?_
  refine s_callVi X hR (c_half0 np _ p F hp (by first | exact hN | (simp only [jup_o (show ¬ 92 + 2 * p = 65 by omega)]; exact hN)) (by first | exact hF | (simp only [jup_o (show ¬ 93 + 2 * p = 65 by omega)]; exact hF))) rfl 6 (by decide) (oP np (by omega)) (kP np _) rfl u452 u470 u450 u451 u14 hyX6_half (by decide) (by decide) (Nat.le_of_ble_eq_true rfl) dX6_fillShowing_56 (fun v_56 m_56 h_56 => ?_)
  obtain ⟨e1, e2⟩ := h_56; have e1 := e1.symm; have e2 := e2.symm; subst e1; subst e2
  refine j_nrm2 _ (by first | (simp only [fa_lit, pk_mul, nI_add]; done) | (simp only [fa_lit, pk_mul, nI_add]; rfl) | rfl) ?_
  refine j_iastN X (o65 np) (k65 np) (by rw [l65]; omega) (by rw [l65]; decide) dX6_fillShowing_59 ?_
  refine j_iload_n X dX6_fillShowing_60 rfl ?_
  refine j_iload_n X dX6_fillShowing_61 rfl ?_
  refine j_iload X dX6_fillShowing_62 rfl ?_
  refine s_callSi X hR (c_halfSize4_0 np _) rfl u501 u499 u500 u14 hyX6_halfSize (by decide) (by decide) (Nat.le_of_ble_eq_true rfl) dX6_fillShowing_64 (fun v_2 m_2 h_2 => ?_)
  obtain ⟨e1, e2⟩ := h_2; have e1 := e1.symm; have e2 := e2.symm; subst e1; subst e2
  refine j_iadd X dX6_fillShowing_67 ?_
  refine j_istore_n X dX6_fillShowing_68 (by decide) ?_
  refine j_iinc X dX6_fillShowing_69 rfl 1 rfl ?_
  refine j_goto X 5 dX6_fillShowing_72 (by decide) ?_
  refine j_iload X dX6_fillShowing_5 rfl ?_
  refine j_iconst X dX6_fillShowing_7 2 (by decide) ?_
  refine j_icmp_ge X 75 dX6_fillShowing_8 (by decide) (fun c_8 => absurd c_8 (by decide)) (fun c_8 => ?_)
  refine j_iload_n X dX6_fillShowing_11 rfl ?_
  refine j_iload X dX6_fillShowing_12 rfl ?_
  refine s_callSi X hR (c_shows4_1 np _) rfl u491 u489 u490 u14 hyX6_showsOfHalf (by decide) (by decide) (Nat.le_of_ble_eq_true rfl) dX6_fillShowing_14 (fun v_2 m_2 h_2 => ?_)
  obtain ⟨e1, e2⟩ := h_2; have e1 := e1.symm; have e2 := e2.symm; subst e1; subst e2
  refine j_if_eq X 51 dX6_fillShowing_17 (by decide) (fun c_17 => absurd c_17 (by decide)) (fun c_17 => ?_)
  refine j_aload_n X dX6_fillShowing_20 rfl ?_
  refine j_iload_n X dX6_fillShowing_21 rfl ?_
  refine j_aload_n X dX6_fillShowing_22 rfl ?_
  refine j_iload_n X dX6_fillShowing_23 rfl ?_
  refine j_iconst X dX6_fillShowing_24 2 (by decide) ?_
  refine j_iload X dX6_fillShowing_25 rfl ?_
  refine j_imul X dX6_fillShowing_27 ?_
  refine s_callVi X hR (c_shownOf4_2 np _ p F hp (by first | exact hN | (simp only [jup_o (show ¬ 92 + 2 * p = 65 by omega)]; exact hN)) (by first | exact hF | (simp only [jup_o (show ¬ 93 + 2 * p = 65 by omega)]; exact hF))) rfl 6 (by decide) (oP np (by omega)) (kP np _) rfl u495 u492 u494 qp4 u14 hyX6_shownOf (by decide) (by decide) (Nat.le_of_ble_eq_true rfl) dX6_fillShowing_28 (fun v_28 m_28 h_28 => ?_)
  obtain ⟨e1, e2⟩ := h_28; have e1 := e1.symm; have e2 := e2.symm; subst e1; subst e2
  refine j_nrm2 _ (by first | (simp only [fa_lit, pk_mul, nI_add]; done) | (simp only [fa_lit, pk_mul, nI_add]; rfl) | rfl) ?_
  refine j_iastN X (o65 np) (k65 np) (by rw [l65]; omega) (by rw [l65]; decide) dX6_fillShowing_31 ?_
  refine j_aload_n X dX6_fillShowing_32 rfl ?_
  refine j_iload_n X dX6_fillShowing_33 rfl ?_
  refine j_iconst X dX6_fillShowing_34 1 (by decide) ?_
  refine j_iadd X dX6_fillShowing_35 ?_
  refine j_aload_n X dX6_fillShowing_36 rfl ?_
  refine j_iload_n X dX6_fillShowing_37 rfl ?_
  refine j_iconst X dX6_fillShowing_38 2 (by decide) ?_
  refine j_iload X dX6_fillShowing_39 rfl ?_
  refine j_imul X dX6_fillShowing_41 ?_
  refine j_iconst X dX6_fillShowing_42 1 (by decide) ?_
  refine j_iadd X dX6_fillShowing_43 ?_
  refine s_callVi X hR (c_shownOf4_3 np _ p F hp (by first | exact hN | (simp only [jup_o (show ¬ 92 + 2 * p = 65 by omega)]; exact hN)) (by first | exact hF | (simp only [jup_o (show ¬ 93 + 2 * p = 65 by omega)]; exact hF))) rfl 6 (by decide) (oP np (by omega)) (kP np _) rfl u495 u492 u494 qp4 u14 hyX6_shownOf (by decide) (by decide) (Nat.le_of_ble_eq_true rfl) dX6_fillShowing_44 (fun v_44 m_44 h_44 => ?_)
  obtain ⟨e1, e2⟩ := h_44; have e1 := e1.symm; have e2 := e2.symm; subst e1; subst e2
  refine j_nrm2 _ (by first | (simp only [fa_lit, pk_mul, nI_add]; done) | (simp only [fa_lit, pk_mul, nI_add]; rfl) | rfl) ?_
  refine j_iastN X (o65 np) (k65 np) (by rw [l65]; omega) (by rw [l65]; decide) dX6_fillShowing_47 ?_
  refine j_goto X 60 dX6_fillShowing_48 (by decide) ?_
  refine j_iload_n X dX6_fillShowing_60 rfl ?_
  refine j_iload_n X dX6_fillShowing_61 rfl ?_
  refine j_iload X dX6_fillShowing_62 rfl ?_
  refine s_callSi X hR (c_halfSize4_1 np _) rfl u501 u499 u500 u14 hyX6_halfSize (by decide) (by decide) (Nat.le_of_ble_eq_true rfl) dX6_fillShowing_64 (fun v_2 m_2 h_2 => ?_)
  obtain ⟨e1, e2⟩ := h_2; have e1 := e1.symm; have e2 := e2.symm; subst e1; subst e2
  refine j_iadd X dX6_fillShowing_67 ?_
  refine j_istore_n X dX6_fillShowing_68 (by decide) ?_
  refine j_iinc X dX6_fillShowing_69 rfl 1 rfl ?_
  refine j_goto X 5 dX6_fillShowing_72 (by decide) ?_
  refine j_iload X dX6_fillShowing_5 rfl ?_
  refine j_iconst X dX6_fillShowing_7 2 (by decide) ?_
  refine j_icmp_ge X 75 dX6_fillShowing_8 (by decide) (fun c_8 => ?_) (fun c_8 => absurd c_8 (by decide))
  refine j_iload_n X dX6_fillShowing_75 rfl ?_
  refine s_iret X hE hr dX6_fillShowing_76 rfl ?_
  exact ⟨by decide, rfl⟩
set_option maxRecDepth 4000 in
set_option maxHeartbeats 1000000 in
theorem c_shows5_0 (np : Nat) (mem : jMem)   : jPi yX6_showsOfHalf cX6_showsOfHalf 2 .boolean 1 [.int 5, .int 0] np mem (fun v c => v = 1 ∧ c = mem) := by
  refine jPi.of (own := RX6) rfl rfl (Nat.le_of_ble_eq_true rfl) (fun G X hR hr hE => ?_)
  refine j_iload_n X dX6_showsOfHalf_0 rfl ?_
  refine j_iconst X dX6_showsOfHalf_1 2 (by decide) ?_
  refine j_iload_n X dX6_showsOfHalf_2 rfl ?_
  refine j_imul X dX6_showsOfHalf_3 ?_
  refine j_ishr X dX6_showsOfHalf_4 ?_
  refine j_iconst X dX6_showsOfHalf_5 3 (by decide) ?_
  refine j_iand X dX6_showsOfHalf_6 ?_
  refine j_if_eq X 14 dX6_showsOfHalf_7 (by decide) (fun c_7 => absurd c_7 (by decide)) (fun c_7 => ?_)
  refine j_iconst X dX6_showsOfHalf_10 1 (by decide) ?_
  refine j_goto X 15 dX6_showsOfHalf_11 (by decide) ?_
  refine s_iret X hE hr dX6_showsOfHalf_15 (by first | exact jb_nar | rfl) ?_
  first | exact ⟨rfl, rfl⟩ | (exfalso; clear hE hr hR X; (try simp only [lg_cmp_lt, lg_cmp_gt, lg_cmp_le, lg_cmp_ge] at *); (try simp (disch := omega) only [Int64.le_iff_toInt_le, Int64.lt_iff_toInt_lt, Int32.le_iff_toInt_le, Int32.lt_iff_toInt_lt, fa_eq, fa_lit, fa_litL, nI_toInt, pk_lT, Int32.toInt_toInt64, jadd64, jin, jnoneT] at *); omega)
set_option maxRecDepth 4000 in
set_option maxHeartbeats 1000000 in
theorem c_halfSize5_0 (np : Nat) (mem : jMem)   : jPi yX6_halfSize cX6_halfSize 2 .int 2 [.int 5, .int 0] np mem (fun v c => v = 2 ∧ c = mem) := by
  refine jPi.of (own := RX6) rfl rfl (Nat.le_of_ble_eq_true rfl) (fun G X hR hr hE => ?_)
  refine j_iload_n X dX6_halfSize_0 rfl ?_
  refine j_iload_n X dX6_halfSize_1 rfl ?_
  refine s_callSi X hR (c_shows5_0 np _) rfl u491 u489 u490 u14 hyX6_showsOfHalf (by decide) (by decide) (Nat.le_of_ble_eq_true rfl) dX6_halfSize_2 (fun v_2 m_2 h_2 => ?_)
  obtain ⟨e1, e2⟩ := h_2; have e1 := e1.symm; have e2 := e2.symm; subst e1; subst e2
  refine j_if_eq X 12 dX6_halfSize_5 (by decide) (fun c_5 => absurd c_5 (by decide)) (fun c_5 => ?_)
  refine j_iconst X dX6_halfSize_8 2 (by decide) ?_
  refine j_goto X 13 dX6_halfSize_9 (by decide) ?_
  refine s_iret X hE hr dX6_halfSize_13 rfl ?_
  first | exact ⟨rfl, rfl⟩ | (exfalso; clear hE hr hR X; (try simp only [lg_cmp_lt, lg_cmp_gt, lg_cmp_le, lg_cmp_ge] at *); (try simp (disch := omega) only [Int64.le_iff_toInt_le, Int64.lt_iff_toInt_lt, Int32.le_iff_toInt_le, Int32.lt_iff_toInt_lt, fa_eq, fa_lit, fa_litL, nI_toInt, pk_lT, Int32.toInt_toInt64, jadd64, jin, jnoneT] at *); omega)
set_option maxRecDepth 4000 in
set_option maxHeartbeats 1000000 in
theorem c_shows5_1 (np : Nat) (mem : jMem)   : jPi yX6_showsOfHalf cX6_showsOfHalf 2 .boolean 1 [.int 5, .int 1] np mem (fun v c => v = 1 ∧ c = mem) := by
  refine jPi.of (own := RX6) rfl rfl (Nat.le_of_ble_eq_true rfl) (fun G X hR hr hE => ?_)
  refine j_iload_n X dX6_showsOfHalf_0 rfl ?_
  refine j_iconst X dX6_showsOfHalf_1 2 (by decide) ?_
  refine j_iload_n X dX6_showsOfHalf_2 rfl ?_
  refine j_imul X dX6_showsOfHalf_3 ?_
  refine j_ishr X dX6_showsOfHalf_4 ?_
  refine j_iconst X dX6_showsOfHalf_5 3 (by decide) ?_
  refine j_iand X dX6_showsOfHalf_6 ?_
  refine j_if_eq X 14 dX6_showsOfHalf_7 (by decide) (fun c_7 => absurd c_7 (by decide)) (fun c_7 => ?_)
  refine j_iconst X dX6_showsOfHalf_10 1 (by decide) ?_
  refine j_goto X 15 dX6_showsOfHalf_11 (by decide) ?_
  refine s_iret X hE hr dX6_showsOfHalf_15 (by first | exact jb_nar | rfl) ?_
  first | exact ⟨rfl, rfl⟩ | (exfalso; clear hE hr hR X; (try simp only [lg_cmp_lt, lg_cmp_gt, lg_cmp_le, lg_cmp_ge] at *); (try simp (disch := omega) only [Int64.le_iff_toInt_le, Int64.lt_iff_toInt_lt, Int32.le_iff_toInt_le, Int32.lt_iff_toInt_lt, fa_eq, fa_lit, fa_litL, nI_toInt, pk_lT, Int32.toInt_toInt64, jadd64, jin, jnoneT] at *); omega)
set_option maxRecDepth 4000 in
set_option maxHeartbeats 1000000 in
theorem c_halfSize5_1 (np : Nat) (mem : jMem)   : jPi yX6_halfSize cX6_halfSize 2 .int 2 [.int 5, .int 1] np mem (fun v c => v = 2 ∧ c = mem) := by
  refine jPi.of (own := RX6) rfl rfl (Nat.le_of_ble_eq_true rfl) (fun G X hR hr hE => ?_)
  refine j_iload_n X dX6_halfSize_0 rfl ?_
  refine j_iload_n X dX6_halfSize_1 rfl ?_
  refine s_callSi X hR (c_shows5_1 np _) rfl u491 u489 u490 u14 hyX6_showsOfHalf (by decide) (by decide) (Nat.le_of_ble_eq_true rfl) dX6_halfSize_2 (fun v_2 m_2 h_2 => ?_)
  obtain ⟨e1, e2⟩ := h_2; have e1 := e1.symm; have e2 := e2.symm; subst e1; subst e2
  refine j_if_eq X 12 dX6_halfSize_5 (by decide) (fun c_5 => absurd c_5 (by decide)) (fun c_5 => ?_)
  refine j_iconst X dX6_halfSize_8 2 (by decide) ?_
  refine j_goto X 13 dX6_halfSize_9 (by decide) ?_
  refine s_iret X hE hr dX6_halfSize_13 rfl ?_
  first | exact ⟨rfl, rfl⟩ | (exfalso; clear hE hr hR X; (try simp only [lg_cmp_lt, lg_cmp_gt, lg_cmp_le, lg_cmp_ge] at *); (try simp (disch := omega) only [Int64.le_iff_toInt_le, Int64.lt_iff_toInt_lt, Int32.le_iff_toInt_le, Int32.lt_iff_toInt_lt, fa_eq, fa_lit, fa_litL, nI_toInt, pk_lT, Int32.toInt_toInt64, jadd64, jin, jnoneT] at *); omega)
set_option maxRecDepth 4000 in
set_option maxHeartbeats 1000000 in
theorem c_showingSize5 (np : Nat) (mem : jMem)   : jPi yX6_showingSize cX6_showingSize 1 .int 3 [.int 5] np mem (fun v c => v = 4 ∧ c = mem) := by
  refine jPi.of (own := RX6) rfl rfl (Nat.le_of_ble_eq_true rfl) (fun G X hR hr hE => ?_)
  refine j_iload_n X dX6_showingSize_0 rfl ?_
  refine j_iconst X dX6_showingSize_1 0 (by decide) ?_
  refine s_callSi X hR (c_halfSize5_0 np _) rfl u501 u499 u500 u14 hyX6_halfSize (by decide) (by decide) (Nat.le_of_ble_eq_true rfl) dX6_showingSize_2 (fun v_2 m_2 h_2 => ?_)
  obtain ⟨e1, e2⟩ := h_2; have e1 := e1.symm; have e2 := e2.symm; subst e1; subst e2
  refine j_iload_n X dX6_showingSize_5 rfl ?_
  refine j_iconst X dX6_showingSize_6 1 (by decide) ?_
  refine s_callSi X hR (c_halfSize5_1 np _) rfl u501 u499 u500 u14 hyX6_halfSize (by decide) (by decide) (Nat.le_of_ble_eq_true rfl) dX6_showingSize_7 (fun v_2 m_2 h_2 => ?_)
  obtain ⟨e1, e2⟩ := h_2; have e1 := e1.symm; have e2 := e2.symm; subst e1; subst e2
  refine j_iadd X dX6_showingSize_10 ?_
  refine s_iret X hE hr dX6_showingSize_11 rfl ?_
  exact ⟨by decide, rfl⟩
set_option maxRecDepth 4000 in
set_option maxHeartbeats 1000000 in
theorem c_shownOf5_0 (np : Nat) (mem : jMem) (p : Nat) (F : Nat → Int32) (hp : p < np) (hN : mem (92 + 2 * p) 0 = nI p) (hF : mem (93 + 2 * p) = F) : jPi yX6_shownOf cX6_shownOf 3 .int 3 [.ref (92 + 2 * p), .int 5, .int 0] np mem (fun v c => v = F 0 ∧ c = mem) := by
  refine jPi.of (own := RX6) rfl rfl (Nat.le_of_ble_eq_true rfl) (fun G X hR hr hE => ?_)
  refine j_iload_n X dX6_shownOf_0 rfl ?_
  refine j_iload_n X dX6_shownOf_1 rfl ?_
  refine s_callNi X hR (c_hasBit np _ _ _) rfl u498 (by decide) u497 u1 hyX10_hasBit (by decide) (by decide) (Nat.le_of_ble_eq_true rfl) dX6_shownOf_2 (fun v_2 m_2 h_2 => ?_)
  obtain ⟨e1, e2⟩ := h_2; have e1 := e1.symm; have e2 := e2.symm; subst e1; subst e2
  refine j_ifb_eq X 17 dX6_shownOf_5 (by decide) (fun c_5 => absurd c_5 (by decide)) (fun c_5 => ?_)
  refine j_aload_n X dX6_shownOf_8 rfl ?_
  refine j_getR X 6 6 (by decide) (by decide) rfl u405 (oP np (by omega)) (kP np _) _ (pP_f np _) dX6_shownOf_9 ?_
  refine j_iload_n X dX6_shownOf_12 rfl ?_
  refine j_nrm _ (by first | (simp only [fa_lit, pk_mul, nI_add]; done) | (simp only [fa_lit, pk_mul, nI_add]; rfl) | rfl) ?_
  refine j_ialdN X (oPf np (by omega)) (kPf np _) (by rw [lPf]; omega) (by rw [lPf]; decide) F hF dX6_shownOf_13 ?_
  refine j_goto X 22 dX6_shownOf_14 (by decide) ?_
  refine s_iret X hE hr dX6_shownOf_22 rfl ?_
  first | exact ⟨rfl, rfl⟩ | (exfalso; clear hE hr hR X; (try simp only [lg_cmp_lt, lg_cmp_gt, lg_cmp_le, lg_cmp_ge] at *); (try simp (disch := omega) only [Int64.le_iff_toInt_le, Int64.lt_iff_toInt_lt, Int32.le_iff_toInt_le, Int32.lt_iff_toInt_lt, fa_eq, fa_lit, fa_litL, nI_toInt, pk_lT, Int32.toInt_toInt64, jadd64, jin, jnoneT] at *); omega)
set_option maxRecDepth 4000 in
set_option maxHeartbeats 1000000 in
theorem c_shownOf5_1 (np : Nat) (mem : jMem) (p : Nat) (F : Nat → Int32) (hp : p < np) (hN : mem (92 + 2 * p) 0 = nI p) (hF : mem (93 + 2 * p) = F) : jPi yX6_shownOf cX6_shownOf 3 .int 3 [.ref (92 + 2 * p), .int 5, .int 1] np mem (fun v c => v = (jLeaf (nI p) 1 (F 1)) ∧ c = mem) := by
  refine jPi.of (own := RX6) rfl rfl (Nat.le_of_ble_eq_true rfl) (fun G X hR hr hE => ?_)
  refine j_iload_n X dX6_shownOf_0 rfl ?_
  refine j_iload_n X dX6_shownOf_1 rfl ?_
  refine s_callNi X hR (c_hasBit np _ _ _) rfl u498 (by decide) u497 u1 hyX10_hasBit (by decide) (by decide) (Nat.le_of_ble_eq_true rfl) dX6_shownOf_2 (fun v_2 m_2 h_2 => ?_)
  obtain ⟨e1, e2⟩ := h_2; have e1 := e1.symm; have e2 := e2.symm; subst e1; subst e2
  refine j_ifb_eq X 17 dX6_shownOf_5 (by decide) (fun c_5 => ?_) (fun c_5 => absurd c_5 (by decide))
  refine j_aload_n X dX6_shownOf_17 rfl ?_
  refine j_iload_n X dX6_shownOf_18 rfl ?_
  refine s_callVi X hR (c_leaf1 np _ p F hp hN hF) rfl 6 (by decide) (oP np (by omega)) (kP np _) rfl u456 u453 u454 u455 u14 hyX6_leaf (by decide) (by decide) (Nat.le_of_ble_eq_true rfl) dX6_shownOf_19 (fun v_19 m_19 h_19 => ?_)
  obtain ⟨e1, e2⟩ := h_19; have e1 := e1.symm; have e2 := e2.symm; subst e1; subst e2
  refine s_iret X hE hr dX6_shownOf_22 rfl ?_
  first | exact ⟨rfl, rfl⟩ | (exfalso; clear hE hr hR X; (try simp only [lg_cmp_lt, lg_cmp_gt, lg_cmp_le, lg_cmp_ge] at *); (try simp (disch := omega) only [Int64.le_iff_toInt_le, Int64.lt_iff_toInt_lt, Int32.le_iff_toInt_le, Int32.lt_iff_toInt_lt, fa_eq, fa_lit, fa_litL, nI_toInt, pk_lT, Int32.toInt_toInt64, jadd64, jin, jnoneT] at *); omega)
set_option maxRecDepth 4000 in
set_option maxHeartbeats 1000000 in
theorem c_shownOf5_2 (np : Nat) (mem : jMem) (p : Nat) (F : Nat → Int32) (hp : p < np) (hN : mem (92 + 2 * p) 0 = nI p) (hF : mem (93 + 2 * p) = F) : jPi yX6_shownOf cX6_shownOf 3 .int 3 [.ref (92 + 2 * p), .int 5, .int 2] np mem (fun v c => v = F 2 ∧ c = mem) := by
  refine jPi.of (own := RX6) rfl rfl (Nat.le_of_ble_eq_true rfl) (fun G X hR hr hE => ?_)
  refine j_iload_n X dX6_shownOf_0 rfl ?_
  refine j_iload_n X dX6_shownOf_1 rfl ?_
  refine s_callNi X hR (c_hasBit np _ _ _) rfl u498 (by decide) u497 u1 hyX10_hasBit (by decide) (by decide) (Nat.le_of_ble_eq_true rfl) dX6_shownOf_2 (fun v_2 m_2 h_2 => ?_)
  obtain ⟨e1, e2⟩ := h_2; have e1 := e1.symm; have e2 := e2.symm; subst e1; subst e2
  refine j_ifb_eq X 17 dX6_shownOf_5 (by decide) (fun c_5 => absurd c_5 (by decide)) (fun c_5 => ?_)
  refine j_aload_n X dX6_shownOf_8 rfl ?_
  refine j_getR X 6 6 (by decide) (by decide) rfl u405 (oP np (by omega)) (kP np _) _ (pP_f np _) dX6_shownOf_9 ?_
  refine j_iload_n X dX6_shownOf_12 rfl ?_
  refine j_nrm _ (by first | (simp only [fa_lit, pk_mul, nI_add]; done) | (simp only [fa_lit, pk_mul, nI_add]; rfl) | rfl) ?_
  refine j_ialdN X (oPf np (by omega)) (kPf np _) (by rw [lPf]; omega) (by rw [lPf]; decide) F hF dX6_shownOf_13 ?_
  refine j_goto X 22 dX6_shownOf_14 (by decide) ?_
  refine s_iret X hE hr dX6_shownOf_22 rfl ?_
  first | exact ⟨rfl, rfl⟩ | (exfalso; clear hE hr hR X; (try simp only [lg_cmp_lt, lg_cmp_gt, lg_cmp_le, lg_cmp_ge] at *); (try simp (disch := omega) only [Int64.le_iff_toInt_le, Int64.lt_iff_toInt_lt, Int32.le_iff_toInt_le, Int32.lt_iff_toInt_lt, fa_eq, fa_lit, fa_litL, nI_toInt, pk_lT, Int32.toInt_toInt64, jadd64, jin, jnoneT] at *); omega)
set_option maxRecDepth 4000 in
set_option maxHeartbeats 1000000 in
theorem c_shownOf5_3 (np : Nat) (mem : jMem) (p : Nat) (F : Nat → Int32) (hp : p < np) (hN : mem (92 + 2 * p) 0 = nI p) (hF : mem (93 + 2 * p) = F) : jPi yX6_shownOf cX6_shownOf 3 .int 3 [.ref (92 + 2 * p), .int 5, .int 3] np mem (fun v c => v = (jLeaf (nI p) 3 (F 3)) ∧ c = mem) := by
  refine jPi.of (own := RX6) rfl rfl (Nat.le_of_ble_eq_true rfl) (fun G X hR hr hE => ?_)
  refine j_iload_n X dX6_shownOf_0 rfl ?_
  refine j_iload_n X dX6_shownOf_1 rfl ?_
  refine s_callNi X hR (c_hasBit np _ _ _) rfl u498 (by decide) u497 u1 hyX10_hasBit (by decide) (by decide) (Nat.le_of_ble_eq_true rfl) dX6_shownOf_2 (fun v_2 m_2 h_2 => ?_)
  obtain ⟨e1, e2⟩ := h_2; have e1 := e1.symm; have e2 := e2.symm; subst e1; subst e2
  refine j_ifb_eq X 17 dX6_shownOf_5 (by decide) (fun c_5 => ?_) (fun c_5 => absurd c_5 (by decide))
  refine j_aload_n X dX6_shownOf_17 rfl ?_
  refine j_iload_n X dX6_shownOf_18 rfl ?_
  refine s_callVi X hR (c_leaf3 np _ p F hp hN hF) rfl 6 (by decide) (oP np (by omega)) (kP np _) rfl u456 u453 u454 u455 u14 hyX6_leaf (by decide) (by decide) (Nat.le_of_ble_eq_true rfl) dX6_shownOf_19 (fun v_19 m_19 h_19 => ?_)
  obtain ⟨e1, e2⟩ := h_19; have e1 := e1.symm; have e2 := e2.symm; subst e1; subst e2
  refine s_iret X hE hr dX6_shownOf_22 rfl ?_
  first | exact ⟨rfl, rfl⟩ | (exfalso; clear hE hr hR X; (try simp only [lg_cmp_lt, lg_cmp_gt, lg_cmp_le, lg_cmp_ge] at *); (try simp (disch := omega) only [Int64.le_iff_toInt_le, Int64.lt_iff_toInt_lt, Int32.le_iff_toInt_le, Int32.lt_iff_toInt_lt, fa_eq, fa_lit, fa_litL, nI_toInt, pk_lT, Int32.toInt_toInt64, jadd64, jin, jnoneT] at *); omega)
set_option maxRecDepth 4000 in
set_option maxHeartbeats 1000000 in
theorem c_fillShowing5 (np : Nat) (mem : jMem) (p : Nat) (F : Nat → Int32) (hp : p < np) (hN : mem (92 + 2 * p) 0 = nI p) (hF : mem (93 + 2 * p) = F) : jPi yX6_fillShowing cX6_fillShowing 5 .int 4 [.ref (92 + 2 * p), .int 5, .ref 65] np mem (fun v c => v = 4 ∧ c = jup (jup (jup (jup (mem) 65 0 (F 0)) 65 1 (jLeaf (nI p) 1 (F 1))) 65 2 (F 2)) 65 3 (jLeaf (nI p) 3 (F 3))) := by
  refine jPi.of (own := RX6) rfl rfl (Nat.le_of_ble_eq_true rfl) (fun G X hR hr hE => ?_)
  refine j_iconst X dX6_fillShowing_0 0 (by decide) ?_
  refine j_istore_n X dX6_fillShowing_1 (by decide) ?_
  refine j_iconst X dX6_fillShowing_2 0 (by decide) ?_
  refine j_istore X dX6_fillShowing_3 (by decide) ?_
  refine j_iload X dX6_fillShowing_5 rfl ?_
  refine j_iconst X dX6_fillShowing_7 2 (by decide) ?_
  refine j_icmp_ge X 75 dX6_fillShowing_8 (by decide) (fun c_8 => absurd c_8 (by decide)) (fun c_8 => ?_)
  refine j_iload_n X dX6_fillShowing_11 rfl ?_
  refine j_iload X dX6_fillShowing_12 rfl ?_
  refine s_callSi X hR (c_shows5_0 np _) rfl u491 u489 u490 u14 hyX6_showsOfHalf (by decide) (by decide) (Nat.le_of_ble_eq_true rfl) dX6_fillShowing_14 (fun v_2 m_2 h_2 => ?_)
  obtain ⟨e1, e2⟩ := h_2; have e1 := e1.symm; have e2 := e2.symm; subst e1; subst e2
  refine j_if_eq X 51 dX6_fillShowing_17 (by decide) (fun c_17 => absurd c_17 (by decide)) (fun c_17 => ?_)
  refine j_aload_n X dX6_fillShowing_20 rfl ?_
  refine j_iload_n X dX6_fillShowing_21 rfl ?_
  refine j_aload_n X dX6_fillShowing_22 rfl ?_
  refine j_iload_n X dX6_fillShowing_23 rfl ?_
  refine j_iconst X dX6_fillShowing_24 2 (by decide) ?_
  refine j_iload X dX6_fillShowing_25 rfl ?_
  refine j_imul X dX6_fillShowing_27 ?_
  refine s_callVi X hR (c_shownOf5_0 np _ p F hp (by first | exact hN | (simp only [jup_o (show ¬ 92 + 2 * p = 65 by omega)]; exact hN)) (by first | exact hF | (simp only [jup_o (show ¬ 93 + 2 * p = 65 by omega)]; exact hF))) rfl 6 (by decide) (oP np (by omega)) (kP np _) rfl u495 u492 u494 qp4 u14 hyX6_shownOf (by decide) (by decide) (Nat.le_of_ble_eq_true rfl) dX6_fillShowing_28 (fun v_28 m_28 h_28 => ?_)
  obtain ⟨e1, e2⟩ := h_28; have e1 := e1.symm; have e2 := e2.symm; subst e1; subst e2
  refine j_nrm2 _ (by first | (simp only [fa_lit, pk_mul, nI_add]; done) | (simp only [fa_lit, pk_mul, nI_add]; rfl) | rfl) ?_
  refine j_iastN X (o65 np) (k65 np) (by rw [l65]; omega) (by rw [l65]; decide) dX6_fillShowing_31 ?_
  refine j_aload_n X dX6_fillShowing_32 rfl ?_
  refine j_iload_n X dX6_fillShowing_33 rfl ?_
  refine j_iconst X dX6_fillShowing_34 1 (by decide) ?_
  refine j_iadd X dX6_fillShowing_35 ?_
  refine j_aload_n X dX6_fillShowing_36 rfl ?_
  refine j_iload_n X dX6_fillShowing_37 rfl ?_
  refine j_iconst X dX6_fillShowing_38 2 (by decide) ?_
  refine j_iload X dX6_fillShowing_39 rfl ?_
  refine j_imul X dX6_fillShowing_41 ?_
  refine j_iconst X dX6_fillShowing_42 1 (by decide) ?_
  refine j_iadd X dX6_fillShowing_43 ?_
  refine s_callVi X hR (c_shownOf5_1 np _ p F hp (by first | exact hN | (simp only [jup_o (show ¬ 92 + 2 * p = 65 by omega)]; exact hN)) (by first | exact hF | (simp only [jup_o (show ¬ 93 + 2 * p = 65 by omega)]; exact hF))) rfl 6 (by decide) (oP np (by omega)) (kP np _) rfl u495 u492 u494 qp4 u14 hyX6_shownOf (by decide) (by decide) (Nat.le_of_ble_eq_true rfl) dX6_fillShowing_44 (fun v_44 m_44 h_44 => ?_)
  obtain ⟨e1, e2⟩ := h_44; have e1 := e1.symm; have e2 := e2.symm; subst e1; subst e2
  refine j_nrm2 _ (by first | (simp only [fa_lit, pk_mul, nI_add]; done) | (simp only [fa_lit, pk_mul, nI_add]; rfl) | rfl) ?_
  refine j_iastN X (o65 np) (k65 np) (by rw [l65]; omega) (by rw [l65]; decide) dX6_fillShowing_47 ?_
  refine j_goto X 60 dX6_fillShowing_48 (by decide) ?_
  refine j_iload_n X dX6_fillShowing_60 rfl ?_
  refine j_iload_n X dX6_fillShowing_61 rfl ?_
  refine j_iload X dX6_fillShowing_62 rfl ?_
  refine s_callSi X hR (c_halfSize5_0 np _) rfl u501 u499 u500 u14 hyX6_halfSize (by decide) (by decide) (Nat.le_of_ble_eq_true rfl) dX6_fillShowing_64 (fun v_2 m_2 h_2 => ?_)
  obtain ⟨e1, e2⟩ := h_2; have e1 := e1.symm; have e2 := e2.symm; subst e1; subst e2
  refine j_iadd X dX6_fillShowing_67 ?_
  refine j_istore_n X dX6_fillShowing_68 (by decide) ?_
  refine j_iinc X dX6_fillShowing_69 rfl 1 rfl ?_
  refine j_goto X 5 dX6_fillShowing_72 (by decide) ?_
  refine j_iload X dX6_fillShowing_5 rfl ?_
  refine j_iconst X dX6_fillShowing_7 2 (by decide) ?_
  refine j_icmp_ge X 75 dX6_fillShowing_8 (by decide) (fun c_8 => absurd c_8 (by decide)) (fun c_8 => ?_)
  refine j_iload_n X dX6_fillShowing_11 rfl ?_
  refine j_iload X dX6_fillShowing_12 rfl ?_
  refine s_callSi X hR (c_shows5_1 np _) rfl u491 u489 u490 u14 hyX6_showsOfHalf (by decide) (by decide) (Nat.le_of_ble_eq_true rfl) dX6_fillShowing_14 (fun v_2 m_2 h_2 => ?_)
  obtain ⟨e1, e2⟩ := h_2; have e1 := e1.symm; have e2 := e2.symm; subst e1; subst e2
  refine j_if_eq X 51 dX6_fillShowing_17 (by decide) (fun c_17 => absurd c_17 (by decide)) (fun c_17 => ?_)
  refine j_aload_n X dX6_fillShowing_20 rfl ?_
  refine j_iload_n X dX6_fillShowing_21 rfl ?_
  refine j_aload_n X dX6_fillShowing_22 rfl ?_
  refine j_iload_n X dX6_fillShowing_23 rfl ?_
  refine j_iconst X dX6_fillShowing_24 2 (by decide) ?_
  refine j_iload X dX6_fillShowing_25 rfl ?_
  refine j_imul X dX6_fillShowing_27 ?_
  refine s_callVi X hR (c_shownOf5_2 np _ p F hp (by first | exact hN | (simp only [jup_o (show ¬ 92 + 2 * p = 65 by omega)]; exact hN)) (by first | exact hF | (simp only [jup_o (show ¬ 93 + 2 * p = 65 by omega)]; exact hF))) rfl 6 (by decide) (oP np (by omega)) (kP np _) rfl u495 u492 u494 qp4 u14 hyX6_shownOf (by decide) (by decide) (Nat.le_of_ble_eq_true rfl) dX6_fillShowing_28 (fun v_28 m_28 h_28 => ?_)
  obtain ⟨e1, e2⟩ := h_28; have e1 := e1.symm; have e2 := e2.symm; subst e1; subst e2
  refine j_nrm2 _ (by first | (simp only [fa_lit, pk_mul, nI_add]; done) | (simp only [fa_lit, pk_mul, nI_add]; rfl) | rfl) ?_
  refine j_iastN X (o65 np) (k65 np) (by rw [l65]; omega) (by rw [l65]; decide) dX6_fillShowing_31 ?_
  refine j_aload_n X dX6_fillShowing_32 rfl ?_
  refine j_iload_n X dX6_fillShowing_33 rfl ?_
  refine j_iconst X dX6_fillShowing_34 1 (by decide) ?_
  refine j_iadd X dX6_fillShowing_35 ?_
  refine j_aload_n X dX6_fillShowing_36 rfl ?_
  refine j_iload_n X dX6_fillShowing_37 rfl ?_
  refine j_iconst X dX6_fillShowing_38 2 (by decide) ?_
  refine j_iload X dX6_fillShowing_39 rfl ?_
  refine j_imul X dX6_fillShowing_41 ?_
  refine j_iconst X dX6_fillShowing_42 1 (by decide) ?_
  refine j_iadd X dX6_fillShowing_43 ?_
  refine s_callVi X hR (c_shownOf5_3 np _ p F hp (by first | exact hN | (simp only [jup_o (show ¬ 92 + 2 * p = 65 by omega)]; exact hN)) (by first | exact hF | (simp only [jup_o (show ¬ 93 + 2 * p = 65 by omega)]; exact hF))) rfl 6 (by decide) (oP np (by omega)) (kP np _) rfl u495 u492 u494 qp4 u14 hyX6_shownOf (by decide) (by decide) (Nat.le_of_ble_eq_true rfl) dX6_fillShowing_44 (fun v_44 m_44 h_44 => ?_)
  obtain ⟨e1, e2⟩ := h_44; have e1 := e1.symm; have e2 := e2.symm; subst e1; subst e2
  refine j_nrm2 _ (by first | (simp only [fa_lit, pk_mul, nI_add]; done) | (simp only [fa_lit, pk_mul, nI_add]; rfl) | rfl) ?_
  refine j_iastN X (o65 np) (k65 np) (by rw [l65]; omega) (by rw [l65]; decide) dX6_fillShowing_47 ?_
  refine j_goto X 60 dX6_fillShowing_48 (by decide) ?_
  refine j_iload_n X dX6_fillShowing_60 rfl ?_
  refine j_iload_n X dX6_fillShowing_61 rfl ?_
  refine j_iload X dX6_fillShowing_62 rfl ?_
  refine s_callSi X hR (c_halfSize5_1 np _) rfl u501 u499 u500 u14 hyX6_halfSize (by decide) (by decide) (Nat.le_of_ble_eq_true rfl) dX6_fillShowing_64 (fun v_2 m_2 h_2 => ?_)
  obtain ⟨e1, e2⟩ := h_2; have e1 := e1.symm; have e2 := e2.symm; subst e1; subst e2
  refine j_iadd X dX6_fillShowing_67 ?_
  refine j_istore_n X dX6_fillShowing_68 (by decide) ?_
  refine j_iinc X dX6_fillShowing_69 rfl 1 rfl ?_
  refine j_goto X 5 dX6_fillShowing_72 (by decide) ?_
  refine j_iload X dX6_fillShowing_5 rfl ?_
  refine j_iconst X dX6_fillShowing_7 2 (by decide) ?_
  refine j_icmp_ge X 75 dX6_fillShowing_8 (by decide) (fun c_8 => ?_) (fun c_8 => absurd c_8 (by decide))
  refine j_iload_n X dX6_fillShowing_75 rfl ?_
  refine s_iret X hE hr dX6_fillShowing_76 rfl ?_
  exact ⟨by decide, rfl⟩
set_option maxRecDepth 4000 in
set_option maxHeartbeats 1000000 in
theorem c_shows6_0 (np : Nat) (mem : jMem)   : jPi yX6_showsOfHalf cX6_showsOfHalf 2 .boolean 1 [.int 6, .int 0] np mem (fun v c => v = 1 ∧ c = mem) := by
  refine jPi.of (own := RX6) rfl rfl (Nat.le_of_ble_eq_true rfl) (fun G X hR hr hE => ?_)
  refine j_iload_n X dX6_showsOfHalf_0 rfl ?_
  refine j_iconst X dX6_showsOfHalf_1 2 (by decide) ?_
  refine j_iload_n X dX6_showsOfHalf_2 rfl ?_
  refine j_imul X dX6_showsOfHalf_3 ?_
  refine j_ishr X dX6_showsOfHalf_4 ?_
  refine j_iconst X dX6_showsOfHalf_5 3 (by decide) ?_
  refine j_iand X dX6_showsOfHalf_6 ?_
  refine j_if_eq X 14 dX6_showsOfHalf_7 (by decide) (fun c_7 => absurd c_7 (by decide)) (fun c_7 => ?_)
  refine j_iconst X dX6_showsOfHalf_10 1 (by decide) ?_
  refine j_goto X 15 dX6_showsOfHalf_11 (by decide) ?_
  refine s_iret X hE hr dX6_showsOfHalf_15 (by first | exact jb_nar | rfl) ?_
  first | exact ⟨rfl, rfl⟩ | (exfalso; clear hE hr hR X; (try simp only [lg_cmp_lt, lg_cmp_gt, lg_cmp_le, lg_cmp_ge] at *); (try simp (disch := omega) only [Int64.le_iff_toInt_le, Int64.lt_iff_toInt_lt, Int32.le_iff_toInt_le, Int32.lt_iff_toInt_lt, fa_eq, fa_lit, fa_litL, nI_toInt, pk_lT, Int32.toInt_toInt64, jadd64, jin, jnoneT] at *); omega)
set_option maxRecDepth 4000 in
set_option maxHeartbeats 1000000 in
theorem c_halfSize6_0 (np : Nat) (mem : jMem)   : jPi yX6_halfSize cX6_halfSize 2 .int 2 [.int 6, .int 0] np mem (fun v c => v = 2 ∧ c = mem) := by
  refine jPi.of (own := RX6) rfl rfl (Nat.le_of_ble_eq_true rfl) (fun G X hR hr hE => ?_)
  refine j_iload_n X dX6_halfSize_0 rfl ?_
  refine j_iload_n X dX6_halfSize_1 rfl ?_
  refine s_callSi X hR (c_shows6_0 np _) rfl u491 u489 u490 u14 hyX6_showsOfHalf (by decide) (by decide) (Nat.le_of_ble_eq_true rfl) dX6_halfSize_2 (fun v_2 m_2 h_2 => ?_)
  obtain ⟨e1, e2⟩ := h_2; have e1 := e1.symm; have e2 := e2.symm; subst e1; subst e2
  refine j_if_eq X 12 dX6_halfSize_5 (by decide) (fun c_5 => absurd c_5 (by decide)) (fun c_5 => ?_)
  refine j_iconst X dX6_halfSize_8 2 (by decide) ?_
  refine j_goto X 13 dX6_halfSize_9 (by decide) ?_
  refine s_iret X hE hr dX6_halfSize_13 rfl ?_
  first | exact ⟨rfl, rfl⟩ | (exfalso; clear hE hr hR X; (try simp only [lg_cmp_lt, lg_cmp_gt, lg_cmp_le, lg_cmp_ge] at *); (try simp (disch := omega) only [Int64.le_iff_toInt_le, Int64.lt_iff_toInt_lt, Int32.le_iff_toInt_le, Int32.lt_iff_toInt_lt, fa_eq, fa_lit, fa_litL, nI_toInt, pk_lT, Int32.toInt_toInt64, jadd64, jin, jnoneT] at *); omega)
set_option maxRecDepth 4000 in
set_option maxHeartbeats 1000000 in
theorem c_shows6_1 (np : Nat) (mem : jMem)   : jPi yX6_showsOfHalf cX6_showsOfHalf 2 .boolean 1 [.int 6, .int 1] np mem (fun v c => v = 1 ∧ c = mem) := by
  refine jPi.of (own := RX6) rfl rfl (Nat.le_of_ble_eq_true rfl) (fun G X hR hr hE => ?_)
  refine j_iload_n X dX6_showsOfHalf_0 rfl ?_
  refine j_iconst X dX6_showsOfHalf_1 2 (by decide) ?_
  refine j_iload_n X dX6_showsOfHalf_2 rfl ?_
  refine j_imul X dX6_showsOfHalf_3 ?_
  refine j_ishr X dX6_showsOfHalf_4 ?_
  refine j_iconst X dX6_showsOfHalf_5 3 (by decide) ?_
  refine j_iand X dX6_showsOfHalf_6 ?_
  refine j_if_eq X 14 dX6_showsOfHalf_7 (by decide) (fun c_7 => absurd c_7 (by decide)) (fun c_7 => ?_)
  refine j_iconst X dX6_showsOfHalf_10 1 (by decide) ?_
  refine j_goto X 15 dX6_showsOfHalf_11 (by decide) ?_
  refine s_iret X hE hr dX6_showsOfHalf_15 (by first | exact jb_nar | rfl) ?_
  first | exact ⟨rfl, rfl⟩ | (exfalso; clear hE hr hR X; (try simp only [lg_cmp_lt, lg_cmp_gt, lg_cmp_le, lg_cmp_ge] at *); (try simp (disch := omega) only [Int64.le_iff_toInt_le, Int64.lt_iff_toInt_lt, Int32.le_iff_toInt_le, Int32.lt_iff_toInt_lt, fa_eq, fa_lit, fa_litL, nI_toInt, pk_lT, Int32.toInt_toInt64, jadd64, jin, jnoneT] at *); omega)
set_option maxRecDepth 4000 in
set_option maxHeartbeats 1000000 in
theorem c_halfSize6_1 (np : Nat) (mem : jMem)   : jPi yX6_halfSize cX6_halfSize 2 .int 2 [.int 6, .int 1] np mem (fun v c => v = 2 ∧ c = mem) := by
  refine jPi.of (own := RX6) rfl rfl (Nat.le_of_ble_eq_true rfl) (fun G X hR hr hE => ?_)
  refine j_iload_n X dX6_halfSize_0 rfl ?_
  refine j_iload_n X dX6_halfSize_1 rfl ?_
  refine s_callSi X hR (c_shows6_1 np _) rfl u491 u489 u490 u14 hyX6_showsOfHalf (by decide) (by decide) (Nat.le_of_ble_eq_true rfl) dX6_halfSize_2 (fun v_2 m_2 h_2 => ?_)
  obtain ⟨e1, e2⟩ := h_2; have e1 := e1.symm; have e2 := e2.symm; subst e1; subst e2
  refine j_if_eq X 12 dX6_halfSize_5 (by decide) (fun c_5 => absurd c_5 (by decide)) (fun c_5 => ?_)
  refine j_iconst X dX6_halfSize_8 2 (by decide) ?_
  refine j_goto X 13 dX6_halfSize_9 (by decide) ?_
  refine s_iret X hE hr dX6_halfSize_13 rfl ?_
  first | exact ⟨rfl, rfl⟩ | (exfalso; clear hE hr hR X; (try simp only [lg_cmp_lt, lg_cmp_gt, lg_cmp_le, lg_cmp_ge] at *); (try simp (disch := omega) only [Int64.le_iff_toInt_le, Int64.lt_iff_toInt_lt, Int32.le_iff_toInt_le, Int32.lt_iff_toInt_lt, fa_eq, fa_lit, fa_litL, nI_toInt, pk_lT, Int32.toInt_toInt64, jadd64, jin, jnoneT] at *); omega)
set_option maxRecDepth 4000 in
set_option maxHeartbeats 1000000 in
theorem c_showingSize6 (np : Nat) (mem : jMem)   : jPi yX6_showingSize cX6_showingSize 1 .int 3 [.int 6] np mem (fun v c => v = 4 ∧ c = mem) := by
  refine jPi.of (own := RX6) rfl rfl (Nat.le_of_ble_eq_true rfl) (fun G X hR hr hE => ?_)
  refine j_iload_n X dX6_showingSize_0 rfl ?_
  refine j_iconst X dX6_showingSize_1 0 (by decide) ?_
  refine s_callSi X hR (c_halfSize6_0 np _) rfl u501 u499 u500 u14 hyX6_halfSize (by decide) (by decide) (Nat.le_of_ble_eq_true rfl) dX6_showingSize_2 (fun v_2 m_2 h_2 => ?_)
  obtain ⟨e1, e2⟩ := h_2; have e1 := e1.symm; have e2 := e2.symm; subst e1; subst e2
  refine j_iload_n X dX6_showingSize_5 rfl ?_
  refine j_iconst X dX6_showingSize_6 1 (by decide) ?_
  refine s_callSi X hR (c_halfSize6_1 np _) rfl u501 u499 u500 u14 hyX6_halfSize (by decide) (by decide) (Nat.le_of_ble_eq_true rfl) dX6_showingSize_7 (fun v_2 m_2 h_2 => ?_)
  obtain ⟨e1, e2⟩ := h_2; have e1 := e1.symm; have e2 := e2.symm; subst e1; subst e2
  refine j_iadd X dX6_showingSize_10 ?_
  refine s_iret X hE hr dX6_showingSize_11 rfl ?_
  exact ⟨by decide, rfl⟩
set_option maxRecDepth 4000 in
set_option maxHeartbeats 1000000 in
theorem c_shownOf6_0 (np : Nat) (mem : jMem) (p : Nat) (F : Nat → Int32) (hp : p < np) (hN : mem (92 + 2 * p) 0 = nI p) (hF : mem (93 + 2 * p) = F) : jPi yX6_shownOf cX6_shownOf 3 .int 3 [.ref (92 + 2 * p), .int 6, .int 0] np mem (fun v c => v = (jLeaf (nI p) 0 (F 0)) ∧ c = mem) := by
  refine jPi.of (own := RX6) rfl rfl (Nat.le_of_ble_eq_true rfl) (fun G X hR hr hE => ?_)
  refine j_iload_n X dX6_shownOf_0 rfl ?_
  refine j_iload_n X dX6_shownOf_1 rfl ?_
  refine s_callNi X hR (c_hasBit np _ _ _) rfl u498 (by decide) u497 u1 hyX10_hasBit (by decide) (by decide) (Nat.le_of_ble_eq_true rfl) dX6_shownOf_2 (fun v_2 m_2 h_2 => ?_)
  obtain ⟨e1, e2⟩ := h_2; have e1 := e1.symm; have e2 := e2.symm; subst e1; subst e2
  refine j_ifb_eq X 17 dX6_shownOf_5 (by decide) (fun c_5 => ?_) (fun c_5 => absurd c_5 (by decide))
  refine j_aload_n X dX6_shownOf_17 rfl ?_
  refine j_iload_n X dX6_shownOf_18 rfl ?_
  refine s_callVi X hR (c_leaf0 np _ p F hp hN hF) rfl 6 (by decide) (oP np (by omega)) (kP np _) rfl u456 u453 u454 u455 u14 hyX6_leaf (by decide) (by decide) (Nat.le_of_ble_eq_true rfl) dX6_shownOf_19 (fun v_19 m_19 h_19 => ?_)
  obtain ⟨e1, e2⟩ := h_19; have e1 := e1.symm; have e2 := e2.symm; subst e1; subst e2
  refine s_iret X hE hr dX6_shownOf_22 rfl ?_
  first | exact ⟨rfl, rfl⟩ | (exfalso; clear hE hr hR X; (try simp only [lg_cmp_lt, lg_cmp_gt, lg_cmp_le, lg_cmp_ge] at *); (try simp (disch := omega) only [Int64.le_iff_toInt_le, Int64.lt_iff_toInt_lt, Int32.le_iff_toInt_le, Int32.lt_iff_toInt_lt, fa_eq, fa_lit, fa_litL, nI_toInt, pk_lT, Int32.toInt_toInt64, jadd64, jin, jnoneT] at *); omega)
set_option maxRecDepth 4000 in
set_option maxHeartbeats 1000000 in
theorem c_shownOf6_1 (np : Nat) (mem : jMem) (p : Nat) (F : Nat → Int32) (hp : p < np) (hN : mem (92 + 2 * p) 0 = nI p) (hF : mem (93 + 2 * p) = F) : jPi yX6_shownOf cX6_shownOf 3 .int 3 [.ref (92 + 2 * p), .int 6, .int 1] np mem (fun v c => v = F 1 ∧ c = mem) := by
  refine jPi.of (own := RX6) rfl rfl (Nat.le_of_ble_eq_true rfl) (fun G X hR hr hE => ?_)
  refine j_iload_n X dX6_shownOf_0 rfl ?_
  refine j_iload_n X dX6_shownOf_1 rfl ?_
  refine s_callNi X hR (c_hasBit np _ _ _) rfl u498 (by decide) u497 u1 hyX10_hasBit (by decide) (by decide) (Nat.le_of_ble_eq_true rfl) dX6_shownOf_2 (fun v_2 m_2 h_2 => ?_)
  obtain ⟨e1, e2⟩ := h_2; have e1 := e1.symm; have e2 := e2.symm; subst e1; subst e2
  refine j_ifb_eq X 17 dX6_shownOf_5 (by decide) (fun c_5 => absurd c_5 (by decide)) (fun c_5 => ?_)
  refine j_aload_n X dX6_shownOf_8 rfl ?_
  refine j_getR X 6 6 (by decide) (by decide) rfl u405 (oP np (by omega)) (kP np _) _ (pP_f np _) dX6_shownOf_9 ?_
  refine j_iload_n X dX6_shownOf_12 rfl ?_
  refine j_nrm _ (by first | (simp only [fa_lit, pk_mul, nI_add]; done) | (simp only [fa_lit, pk_mul, nI_add]; rfl) | rfl) ?_
  refine j_ialdN X (oPf np (by omega)) (kPf np _) (by rw [lPf]; omega) (by rw [lPf]; decide) F hF dX6_shownOf_13 ?_
  refine j_goto X 22 dX6_shownOf_14 (by decide) ?_
  refine s_iret X hE hr dX6_shownOf_22 rfl ?_
  first | exact ⟨rfl, rfl⟩ | (exfalso; clear hE hr hR X; (try simp only [lg_cmp_lt, lg_cmp_gt, lg_cmp_le, lg_cmp_ge] at *); (try simp (disch := omega) only [Int64.le_iff_toInt_le, Int64.lt_iff_toInt_lt, Int32.le_iff_toInt_le, Int32.lt_iff_toInt_lt, fa_eq, fa_lit, fa_litL, nI_toInt, pk_lT, Int32.toInt_toInt64, jadd64, jin, jnoneT] at *); omega)
set_option maxRecDepth 4000 in
set_option maxHeartbeats 1000000 in
theorem c_shownOf6_2 (np : Nat) (mem : jMem) (p : Nat) (F : Nat → Int32) (hp : p < np) (hN : mem (92 + 2 * p) 0 = nI p) (hF : mem (93 + 2 * p) = F) : jPi yX6_shownOf cX6_shownOf 3 .int 3 [.ref (92 + 2 * p), .int 6, .int 2] np mem (fun v c => v = F 2 ∧ c = mem) := by
  refine jPi.of (own := RX6) rfl rfl (Nat.le_of_ble_eq_true rfl) (fun G X hR hr hE => ?_)
  refine j_iload_n X dX6_shownOf_0 rfl ?_
  refine j_iload_n X dX6_shownOf_1 rfl ?_
  refine s_callNi X hR (c_hasBit np _ _ _) rfl u498 (by decide) u497 u1 hyX10_hasBit (by decide) (by decide) (Nat.le_of_ble_eq_true rfl) dX6_shownOf_2 (fun v_2 m_2 h_2 => ?_)
  obtain ⟨e1, e2⟩ := h_2; have e1 := e1.symm; have e2 := e2.symm; subst e1; subst e2
  refine j_ifb_eq X 17 dX6_shownOf_5 (by decide) (fun c_5 => absurd c_5 (by decide)) (fun c_5 => ?_)
  refine j_aload_n X dX6_shownOf_8 rfl ?_
  refine j_getR X 6 6 (by decide) (by decide) rfl u405 (oP np (by omega)) (kP np _) _ (pP_f np _) dX6_shownOf_9 ?_
  refine j_iload_n X dX6_shownOf_12 rfl ?_
  refine j_nrm _ (by first | (simp only [fa_lit, pk_mul, nI_add]; done) | (simp only [fa_lit, pk_mul, nI_add]; rfl) | rfl) ?_
  refine j_ialdN X (oPf np (by omega)) (kPf np _) (by rw [lPf]; omega) (by rw [lPf]; decide) F hF dX6_shownOf_13 ?_
  refine j_goto X 22 dX6_shownOf_14 (by decide) ?_
  refine s_iret X hE hr dX6_shownOf_22 rfl ?_
  first | exact ⟨rfl, rfl⟩ | (exfalso; clear hE hr hR X; (try simp only [lg_cmp_lt, lg_cmp_gt, lg_cmp_le, lg_cmp_ge] at *); (try simp (disch := omega) only [Int64.le_iff_toInt_le, Int64.lt_iff_toInt_lt, Int32.le_iff_toInt_le, Int32.lt_iff_toInt_lt, fa_eq, fa_lit, fa_litL, nI_toInt, pk_lT, Int32.toInt_toInt64, jadd64, jin, jnoneT] at *); omega)
set_option maxRecDepth 4000 in
set_option maxHeartbeats 1000000 in
theorem c_shownOf6_3 (np : Nat) (mem : jMem) (p : Nat) (F : Nat → Int32) (hp : p < np) (hN : mem (92 + 2 * p) 0 = nI p) (hF : mem (93 + 2 * p) = F) : jPi yX6_shownOf cX6_shownOf 3 .int 3 [.ref (92 + 2 * p), .int 6, .int 3] np mem (fun v c => v = (jLeaf (nI p) 3 (F 3)) ∧ c = mem) := by
  refine jPi.of (own := RX6) rfl rfl (Nat.le_of_ble_eq_true rfl) (fun G X hR hr hE => ?_)
  refine j_iload_n X dX6_shownOf_0 rfl ?_
  refine j_iload_n X dX6_shownOf_1 rfl ?_
  refine s_callNi X hR (c_hasBit np _ _ _) rfl u498 (by decide) u497 u1 hyX10_hasBit (by decide) (by decide) (Nat.le_of_ble_eq_true rfl) dX6_shownOf_2 (fun v_2 m_2 h_2 => ?_)
  obtain ⟨e1, e2⟩ := h_2; have e1 := e1.symm; have e2 := e2.symm; subst e1; subst e2
  refine j_ifb_eq X 17 dX6_shownOf_5 (by decide) (fun c_5 => ?_) (fun c_5 => absurd c_5 (by decide))
  refine j_aload_n X dX6_shownOf_17 rfl ?_
  refine j_iload_n X dX6_shownOf_18 rfl ?_
  refine s_callVi X hR (c_leaf3 np _ p F hp hN hF) rfl 6 (by decide) (oP np (by omega)) (kP np _) rfl u456 u453 u454 u455 u14 hyX6_leaf (by decide) (by decide) (Nat.le_of_ble_eq_true rfl) dX6_shownOf_19 (fun v_19 m_19 h_19 => ?_)
  obtain ⟨e1, e2⟩ := h_19; have e1 := e1.symm; have e2 := e2.symm; subst e1; subst e2
  refine s_iret X hE hr dX6_shownOf_22 rfl ?_
  first | exact ⟨rfl, rfl⟩ | (exfalso; clear hE hr hR X; (try simp only [lg_cmp_lt, lg_cmp_gt, lg_cmp_le, lg_cmp_ge] at *); (try simp (disch := omega) only [Int64.le_iff_toInt_le, Int64.lt_iff_toInt_lt, Int32.le_iff_toInt_le, Int32.lt_iff_toInt_lt, fa_eq, fa_lit, fa_litL, nI_toInt, pk_lT, Int32.toInt_toInt64, jadd64, jin, jnoneT] at *); omega)
set_option maxRecDepth 4000 in
set_option maxHeartbeats 1000000 in
theorem c_fillShowing6 (np : Nat) (mem : jMem) (p : Nat) (F : Nat → Int32) (hp : p < np) (hN : mem (92 + 2 * p) 0 = nI p) (hF : mem (93 + 2 * p) = F) : jPi yX6_fillShowing cX6_fillShowing 5 .int 4 [.ref (92 + 2 * p), .int 6, .ref 65] np mem (fun v c => v = 4 ∧ c = jup (jup (jup (jup (mem) 65 0 (jLeaf (nI p) 0 (F 0))) 65 1 (F 1)) 65 2 (F 2)) 65 3 (jLeaf (nI p) 3 (F 3))) := by
  refine jPi.of (own := RX6) rfl rfl (Nat.le_of_ble_eq_true rfl) (fun G X hR hr hE => ?_)
  refine j_iconst X dX6_fillShowing_0 0 (by decide) ?_
  refine j_istore_n X dX6_fillShowing_1 (by decide) ?_
  refine j_iconst X dX6_fillShowing_2 0 (by decide) ?_
  refine j_istore X dX6_fillShowing_3 (by decide) ?_
  refine j_iload X dX6_fillShowing_5 rfl ?_
  refine j_iconst X dX6_fillShowing_7 2 (by decide) ?_
  refine j_icmp_ge X 75 dX6_fillShowing_8 (by decide) (fun c_8 => absurd c_8 (by decide)) (fun c_8 => ?_)
  refine j_iload_n X dX6_fillShowing_11 rfl ?_
  refine j_iload X dX6_fillShowing_12 rfl ?_
  refine s_callSi X hR (c_shows6_0 np _) rfl u491 u489 u490 u14 hyX6_showsOfHalf (by decide) (by decide) (Nat.le_of_ble_eq_true rfl) dX6_fillShowing_14 (fun v_2 m_2 h_2 => ?_)
  obtain ⟨e1, e2⟩ := h_2; have e1 := e1.symm; have e2 := e2.symm; subst e1; subst e2
  refine j_if_eq X 51 dX6_fillShowing_17 (by decide) (fun c_17 => absurd c_17 (by decide)) (fun c_17 => ?_)
  refine j_aload_n X dX6_fillShowing_20 rfl ?_
  refine j_iload_n X dX6_fillShowing_21 rfl ?_
  refine j_aload_n X dX6_fillShowing_22 rfl ?_
  refine j_iload_n X dX6_fillShowing_23 rfl ?_
  refine j_iconst X dX6_fillShowing_24 2 (by decide) ?_
  refine j_iload X dX6_fillShowing_25 rfl ?_
  refine j_imul X dX6_fillShowing_27 ?_
  refine s_callVi X hR (c_shownOf6_0 np _ p F hp (by first | exact hN | (simp only [jup_o (show ¬ 92 + 2 * p = 65 by omega)]; exact hN)) (by first | exact hF | (simp only [jup_o (show ¬ 93 + 2 * p = 65 by omega)]; exact hF))) rfl 6 (by decide) (oP np (by omega)) (kP np _) rfl u495 u492 u494 qp4 u14 hyX6_shownOf (by decide) (by decide) (Nat.le_of_ble_eq_true rfl) dX6_fillShowing_28 (fun v_28 m_28 h_28 => ?_)
  obtain ⟨e1, e2⟩ := h_28; have e1 := e1.symm; have e2 := e2.symm; subst e1; subst e2
  refine j_nrm2 _ (by first | (simp only [fa_lit, pk_mul, nI_add]; done) | (simp only [fa_lit, pk_mul, nI_add]; rfl) | rfl) ?_
  refine j_iastN X (o65 np) (k65 np) (by rw [l65]; omega) (by rw [l65]; decide) dX6_fillShowing_31 ?_
  refine j_aload_n X dX6_fillShowing_32 rfl ?_
  refine j_iload_n X dX6_fillShowing_33 rfl ?_
  refine j_iconst X dX6_fillShowing_34 1 (by decide) ?_
  refine j_iadd X dX6_fillShowing_35 ?_
  refine j_aload_n X dX6_fillShowing_36 rfl ?_
  refine j_iload_n X dX6_fillShowing_37 rfl ?_
  refine j_iconst X dX6_fillShowing_38 2 (by decide) ?_
  refine j_iload X dX6_fillShowing_39 rfl ?_
  refine j_imul X dX6_fillShowing_41 ?_
  refine j_iconst X dX6_fillShowing_42 1 (by decide) ?_
  refine j_iadd X dX6_fillShowing_43 ?_
  refine s_callVi X hR (c_shownOf6_1 np _ p F hp (by first | exact hN | (simp only [jup_o (show ¬ 92 + 2 * p = 65 by omega)]; exact hN)) (by first | exact hF | (simp only [jup_o (show ¬ 93 + 2 * p = 65 by omega)]; exact hF))) rfl 6 (by decide) (oP np (by omega)) (kP np _) rfl u495 u492 u494 qp4 u14 hyX6_shownOf (by decide) (by decide) (Nat.le_of_ble_eq_true rfl) dX6_fillShowing_44 (fun v_44 m_44 h_44 => ?_)
  obtain ⟨e1, e2⟩ := h_44; have e1 := e1.symm; have e2 := e2.symm; subst e1; subst e2
  refine j_nrm2 _ (by first | (simp only [fa_lit, pk_mul, nI_add]; done) | (simp only [fa_lit, pk_mul, nI_add]; rfl) | rfl) ?_
  refine j_iastN X (o65 np) (k65 np) (by rw [l65]; omega) (by rw [l65]; decide) dX6_fillShowing_47 ?_
  refine j_goto X 60 dX6_fillShowing_48 (by decide) ?_
  refine j_iload_n X dX6_fillShowing_60 rfl ?_
  refine j_iload_n X dX6_fillShowing_61 rfl ?_
  refine j_iload X dX6_fillShowing_62 rfl ?_
  refine s_callSi X hR (c_halfSize6_0 np _) rfl u501 u499 u500 u14 hyX6_halfSize (by decide) (by decide) (Nat.le_of_ble_eq_true rfl) dX6_fillShowing_64 (fun v_2 m_2 h_2 => ?_)
  obtain ⟨e1, e2⟩ := h_2; have e1 := e1.symm; have e2 := e2.symm; subst e1; subst e2
  refine j_iadd X dX6_fillShowing_67 ?_
  refine j_istore_n X dX6_fillShowing_68 (by decide) ?_
  refine j_iinc X dX6_fillShowing_69 rfl 1 rfl ?_
  refine j_goto X 5 dX6_fillShowing_72 (by decide) ?_
  refine j_iload X dX6_fillShowing_5 rfl ?_
  refine j_iconst X dX6_fillShowing_7 2 (by decide) ?_
  refine j_icmp_ge X 75 dX6_fillShowing_8 (by decide) (fun c_8 => absurd c_8 (by decide)) (fun c_8 => ?_)
  refine j_iload_n X dX6_fillShowing_11 rfl ?_
  refine j_iload X dX6_fillShowing_12 rfl ?_
  refine s_callSi X hR (c_shows6_1 np _) rfl u491 u489 u490 u14 hyX6_showsOfHalf (by decide) (by decide) (Nat.le_of_ble_eq_true rfl) dX6_fillShowing_14 (fun v_2 m_2 h_2 => ?_)
  obtain ⟨e1, e2⟩ := h_2; have e1 := e1.symm; have e2 := e2.symm; subst e1; subst e2
  refine j_if_eq X 51 dX6_fillShowing_17 (by decide) (fun c_17 => absurd c_17 (by decide)) (fun c_17 => ?_)
  refine j_aload_n X dX6_fillShowing_20 rfl ?_
  refine j_iload_n X dX6_fillShowing_21 rfl ?_
  refine j_aload_n X dX6_fillShowing_22 rfl ?_
  refine j_iload_n X dX6_fillShowing_23 rfl ?_
  refine j_iconst X dX6_fillShowing_24 2 (by decide) ?_
  refine j_iload X dX6_fillShowing_25 rfl ?_
  refine j_imul X dX6_fillShowing_27 ?_
  refine s_callVi X hR (c_shownOf6_2 np _ p F hp (by first | exact hN | (simp only [jup_o (show ¬ 92 + 2 * p = 65 by omega)]; exact hN)) (by first | exact hF | (simp only [jup_o (show ¬ 93 + 2 * p = 65 by omega)]; exact hF))) rfl 6 (by decide) (oP np (by omega)) (kP np _) rfl u495 u492 u494 qp4 u14 hyX6_shownOf (by decide) (by decide) (Nat.le_of_ble_eq_true rfl) dX6_fillShowing_28 (fun v_28 m_28 h_28 => ?_)
  obtain ⟨e1, e2⟩ := h_28; have e1 := e1.symm; have e2 := e2.symm; subst e1; subst e2
  refine j_nrm2 _ (by first | (simp only [fa_lit, pk_mul, nI_add]; done) | (simp only [fa_lit, pk_mul, nI_add]; rfl) | rfl) ?_
  refine j_iastN X (o65 np) (k65 np) (by rw [l65]; omega) (by rw [l65]; decide) dX6_fillShowing_31 ?_
  refine j_aload_n X dX6_fillShowing_32 rfl ?_
  refine j_iload_n X dX6_fillShowing_33 rfl ?_
  refine j_iconst X dX6_fillShowing_34 1 (by decide) ?_
  refine j_iadd X dX6_fillShowing_35 ?_
  refine j_aload_n X dX6_fillShowing_36 rfl ?_
  refine j_iload_n X dX6_fillShowing_37 rfl ?_
  refine j_iconst X dX6_fillShowing_38 2 (by decide) ?_
  refine j_iload X dX6_fillShowing_39 rfl ?_
  refine j_imul X dX6_fillShowing_41 ?_
  refine j_iconst X dX6_fillShowing_42 1 (by decide) ?_
  refine j_iadd X dX6_fillShowing_43 ?_
  refine s_callVi X hR (c_shownOf6_3 np _ p F hp (by first | exact hN | (simp only [jup_o (show ¬ 92 + 2 * p = 65 by omega)]; exact hN)) (by first | exact hF | (simp only [jup_o (show ¬ 93 + 2 * p = 65 by omega)]; exact hF))) rfl 6 (by decide) (oP np (by omega)) (kP np _) rfl u495 u492 u494 qp4 u14 hyX6_shownOf (by decide) (by decide) (Nat.le_of_ble_eq_true rfl) dX6_fillShowing_44 (fun v_44 m_44 h_44 => ?_)
  obtain ⟨e1, e2⟩ := h_44; have e1 := e1.symm; have e2 := e2.symm; subst e1; subst e2
  refine j_nrm2 _ (by first | (simp only [fa_lit, pk_mul, nI_add]; done) | (simp only [fa_lit, pk_mul, nI_add]; rfl) | rfl) ?_
  refine j_iastN X (o65 np) (k65 np) (by rw [l65]; omega) (by rw [l65]; decide) dX6_fillShowing_47 ?_
  refine j_goto X 60 dX6_fillShowing_48 (by decide) ?_
  refine j_iload_n X dX6_fillShowing_60 rfl ?_
  refine j_iload_n X dX6_fillShowing_61 rfl ?_
  refine j_iload X dX6_fillShowing_62 rfl ?_
  refine s_callSi X hR (c_halfSize6_1 np _) rfl u501 u499 u500 u14 hyX6_halfSize (by decide) (by decide) (Nat.le_of_ble_eq_true rfl) dX6_fillShowing_64 (fun v_2 m_2 h_2 => ?_)
  obtain ⟨e1, e2⟩ := h_2; have e1 := e1.symm; have e2 := e2.symm; subst e1; subst e2
  refine j_iadd X dX6_fillShowing_67 ?_
  refine j_istore_n X dX6_fillShowing_68 (by decide) ?_
  refine j_iinc X dX6_fillShowing_69 rfl 1 rfl ?_
  refine j_goto X 5 dX6_fillShowing_72 (by decide) ?_
  refine j_iload X dX6_fillShowing_5 rfl ?_
  refine j_iconst X dX6_fillShowing_7 2 (by decide) ?_
  refine j_icmp_ge X 75 dX6_fillShowing_8 (by decide) (fun c_8 => ?_) (fun c_8 => absurd c_8 (by decide))
  refine j_iload_n X dX6_fillShowing_75 rfl ?_
  refine s_iret X hE hr dX6_fillShowing_76 rfl ?_
  exact ⟨by decide, rfl⟩
set_option maxRecDepth 4000 in
set_option maxHeartbeats 1000000 in
theorem c_shows7_0 (np : Nat) (mem : jMem)   : jPi yX6_showsOfHalf cX6_showsOfHalf 2 .boolean 1 [.int 7, .int 0] np mem (fun v c => v = 1 ∧ c = mem) := by
  refine jPi.of (own := RX6) rfl rfl (Nat.le_of_ble_eq_true rfl) (fun G X hR hr hE => ?_)
  refine j_iload_n X dX6_showsOfHalf_0 rfl ?_
  refine j_iconst X dX6_showsOfHalf_1 2 (by decide) ?_
  refine j_iload_n X dX6_showsOfHalf_2 rfl ?_
  refine j_imul X dX6_showsOfHalf_3 ?_
  refine j_ishr X dX6_showsOfHalf_4 ?_
  refine j_iconst X dX6_showsOfHalf_5 3 (by decide) ?_
  refine j_iand X dX6_showsOfHalf_6 ?_
  refine j_if_eq X 14 dX6_showsOfHalf_7 (by decide) (fun c_7 => absurd c_7 (by decide)) (fun c_7 => ?_)
  refine j_iconst X dX6_showsOfHalf_10 1 (by decide) ?_
  refine j_goto X 15 dX6_showsOfHalf_11 (by decide) ?_
  refine s_iret X hE hr dX6_showsOfHalf_15 (by first | exact jb_nar | rfl) ?_
  first | exact ⟨rfl, rfl⟩ | (exfalso; clear hE hr hR X; (try simp only [lg_cmp_lt, lg_cmp_gt, lg_cmp_le, lg_cmp_ge] at *); (try simp (disch := omega) only [Int64.le_iff_toInt_le, Int64.lt_iff_toInt_lt, Int32.le_iff_toInt_le, Int32.lt_iff_toInt_lt, fa_eq, fa_lit, fa_litL, nI_toInt, pk_lT, Int32.toInt_toInt64, jadd64, jin, jnoneT] at *); omega)
set_option maxRecDepth 4000 in
set_option maxHeartbeats 1000000 in
theorem c_halfSize7_0 (np : Nat) (mem : jMem)   : jPi yX6_halfSize cX6_halfSize 2 .int 2 [.int 7, .int 0] np mem (fun v c => v = 2 ∧ c = mem) := by
  refine jPi.of (own := RX6) rfl rfl (Nat.le_of_ble_eq_true rfl) (fun G X hR hr hE => ?_)
  refine j_iload_n X dX6_halfSize_0 rfl ?_
  refine j_iload_n X dX6_halfSize_1 rfl ?_
  refine s_callSi X hR (c_shows7_0 np _) rfl u491 u489 u490 u14 hyX6_showsOfHalf (by decide) (by decide) (Nat.le_of_ble_eq_true rfl) dX6_halfSize_2 (fun v_2 m_2 h_2 => ?_)
  obtain ⟨e1, e2⟩ := h_2; have e1 := e1.symm; have e2 := e2.symm; subst e1; subst e2
  refine j_if_eq X 12 dX6_halfSize_5 (by decide) (fun c_5 => absurd c_5 (by decide)) (fun c_5 => ?_)
  refine j_iconst X dX6_halfSize_8 2 (by decide) ?_
  refine j_goto X 13 dX6_halfSize_9 (by decide) ?_
  refine s_iret X hE hr dX6_halfSize_13 rfl ?_
  first | exact ⟨rfl, rfl⟩ | (exfalso; clear hE hr hR X; (try simp only [lg_cmp_lt, lg_cmp_gt, lg_cmp_le, lg_cmp_ge] at *); (try simp (disch := omega) only [Int64.le_iff_toInt_le, Int64.lt_iff_toInt_lt, Int32.le_iff_toInt_le, Int32.lt_iff_toInt_lt, fa_eq, fa_lit, fa_litL, nI_toInt, pk_lT, Int32.toInt_toInt64, jadd64, jin, jnoneT] at *); omega)
set_option maxRecDepth 4000 in
set_option maxHeartbeats 1000000 in
theorem c_shows7_1 (np : Nat) (mem : jMem)   : jPi yX6_showsOfHalf cX6_showsOfHalf 2 .boolean 1 [.int 7, .int 1] np mem (fun v c => v = 1 ∧ c = mem) := by
  refine jPi.of (own := RX6) rfl rfl (Nat.le_of_ble_eq_true rfl) (fun G X hR hr hE => ?_)
  refine j_iload_n X dX6_showsOfHalf_0 rfl ?_
  refine j_iconst X dX6_showsOfHalf_1 2 (by decide) ?_
  refine j_iload_n X dX6_showsOfHalf_2 rfl ?_
  refine j_imul X dX6_showsOfHalf_3 ?_
  refine j_ishr X dX6_showsOfHalf_4 ?_
  refine j_iconst X dX6_showsOfHalf_5 3 (by decide) ?_
  refine j_iand X dX6_showsOfHalf_6 ?_
  refine j_if_eq X 14 dX6_showsOfHalf_7 (by decide) (fun c_7 => absurd c_7 (by decide)) (fun c_7 => ?_)
  refine j_iconst X dX6_showsOfHalf_10 1 (by decide) ?_
  refine j_goto X 15 dX6_showsOfHalf_11 (by decide) ?_
  refine s_iret X hE hr dX6_showsOfHalf_15 (by first | exact jb_nar | rfl) ?_
  first | exact ⟨rfl, rfl⟩ | (exfalso; clear hE hr hR X; (try simp only [lg_cmp_lt, lg_cmp_gt, lg_cmp_le, lg_cmp_ge] at *); (try simp (disch := omega) only [Int64.le_iff_toInt_le, Int64.lt_iff_toInt_lt, Int32.le_iff_toInt_le, Int32.lt_iff_toInt_lt, fa_eq, fa_lit, fa_litL, nI_toInt, pk_lT, Int32.toInt_toInt64, jadd64, jin, jnoneT] at *); omega)
set_option maxRecDepth 4000 in
set_option maxHeartbeats 1000000 in
theorem c_halfSize7_1 (np : Nat) (mem : jMem)   : jPi yX6_halfSize cX6_halfSize 2 .int 2 [.int 7, .int 1] np mem (fun v c => v = 2 ∧ c = mem) := by
  refine jPi.of (own := RX6) rfl rfl (Nat.le_of_ble_eq_true rfl) (fun G X hR hr hE => ?_)
  refine j_iload_n X dX6_halfSize_0 rfl ?_
  refine j_iload_n X dX6_halfSize_1 rfl ?_
  refine s_callSi X hR (c_shows7_1 np _) rfl u491 u489 u490 u14 hyX6_showsOfHalf (by decide) (by decide) (Nat.le_of_ble_eq_true rfl) dX6_halfSize_2 (fun v_2 m_2 h_2 => ?_)
  obtain ⟨e1, e2⟩ := h_2; have e1 := e1.symm; have e2 := e2.symm; subst e1; subst e2
  refine j_if_eq X 12 dX6_halfSize_5 (by decide) (fun c_5 => absurd c_5 (by decide)) (fun c_5 => ?_)
  refine j_iconst X dX6_halfSize_8 2 (by decide) ?_
  refine j_goto X 13 dX6_halfSize_9 (by decide) ?_
  refine s_iret X hE hr dX6_halfSize_13 rfl ?_
  first | exact ⟨rfl, rfl⟩ | (exfalso; clear hE hr hR X; (try simp only [lg_cmp_lt, lg_cmp_gt, lg_cmp_le, lg_cmp_ge] at *); (try simp (disch := omega) only [Int64.le_iff_toInt_le, Int64.lt_iff_toInt_lt, Int32.le_iff_toInt_le, Int32.lt_iff_toInt_lt, fa_eq, fa_lit, fa_litL, nI_toInt, pk_lT, Int32.toInt_toInt64, jadd64, jin, jnoneT] at *); omega)
set_option maxRecDepth 4000 in
set_option maxHeartbeats 1000000 in
theorem c_showingSize7 (np : Nat) (mem : jMem)   : jPi yX6_showingSize cX6_showingSize 1 .int 3 [.int 7] np mem (fun v c => v = 4 ∧ c = mem) := by
  refine jPi.of (own := RX6) rfl rfl (Nat.le_of_ble_eq_true rfl) (fun G X hR hr hE => ?_)
  refine j_iload_n X dX6_showingSize_0 rfl ?_
  refine j_iconst X dX6_showingSize_1 0 (by decide) ?_
  refine s_callSi X hR (c_halfSize7_0 np _) rfl u501 u499 u500 u14 hyX6_halfSize (by decide) (by decide) (Nat.le_of_ble_eq_true rfl) dX6_showingSize_2 (fun v_2 m_2 h_2 => ?_)
  obtain ⟨e1, e2⟩ := h_2; have e1 := e1.symm; have e2 := e2.symm; subst e1; subst e2
  refine j_iload_n X dX6_showingSize_5 rfl ?_
  refine j_iconst X dX6_showingSize_6 1 (by decide) ?_
  refine s_callSi X hR (c_halfSize7_1 np _) rfl u501 u499 u500 u14 hyX6_halfSize (by decide) (by decide) (Nat.le_of_ble_eq_true rfl) dX6_showingSize_7 (fun v_2 m_2 h_2 => ?_)
  obtain ⟨e1, e2⟩ := h_2; have e1 := e1.symm; have e2 := e2.symm; subst e1; subst e2
  refine j_iadd X dX6_showingSize_10 ?_
  refine s_iret X hE hr dX6_showingSize_11 rfl ?_
  exact ⟨by decide, rfl⟩
set_option maxRecDepth 4000 in
set_option maxHeartbeats 1000000 in
theorem c_shownOf7_0 (np : Nat) (mem : jMem) (p : Nat) (F : Nat → Int32) (hp : p < np) (hN : mem (92 + 2 * p) 0 = nI p) (hF : mem (93 + 2 * p) = F) : jPi yX6_shownOf cX6_shownOf 3 .int 3 [.ref (92 + 2 * p), .int 7, .int 0] np mem (fun v c => v = F 0 ∧ c = mem) := by
  refine jPi.of (own := RX6) rfl rfl (Nat.le_of_ble_eq_true rfl) (fun G X hR hr hE => ?_)
  refine j_iload_n X dX6_shownOf_0 rfl ?_
  refine j_iload_n X dX6_shownOf_1 rfl ?_
  refine s_callNi X hR (c_hasBit np _ _ _) rfl u498 (by decide) u497 u1 hyX10_hasBit (by decide) (by decide) (Nat.le_of_ble_eq_true rfl) dX6_shownOf_2 (fun v_2 m_2 h_2 => ?_)
  obtain ⟨e1, e2⟩ := h_2; have e1 := e1.symm; have e2 := e2.symm; subst e1; subst e2
  refine j_ifb_eq X 17 dX6_shownOf_5 (by decide) (fun c_5 => absurd c_5 (by decide)) (fun c_5 => ?_)
  refine j_aload_n X dX6_shownOf_8 rfl ?_
  refine j_getR X 6 6 (by decide) (by decide) rfl u405 (oP np (by omega)) (kP np _) _ (pP_f np _) dX6_shownOf_9 ?_
  refine j_iload_n X dX6_shownOf_12 rfl ?_
  refine j_nrm _ (by first | (simp only [fa_lit, pk_mul, nI_add]; done) | (simp only [fa_lit, pk_mul, nI_add]; rfl) | rfl) ?_
  refine j_ialdN X (oPf np (by omega)) (kPf np _) (by rw [lPf]; omega) (by rw [lPf]; decide) F hF dX6_shownOf_13 ?_
  refine j_goto X 22 dX6_shownOf_14 (by decide) ?_
  refine s_iret X hE hr dX6_shownOf_22 rfl ?_
  first | exact ⟨rfl, rfl⟩ | (exfalso; clear hE hr hR X; (try simp only [lg_cmp_lt, lg_cmp_gt, lg_cmp_le, lg_cmp_ge] at *); (try simp (disch := omega) only [Int64.le_iff_toInt_le, Int64.lt_iff_toInt_lt, Int32.le_iff_toInt_le, Int32.lt_iff_toInt_lt, fa_eq, fa_lit, fa_litL, nI_toInt, pk_lT, Int32.toInt_toInt64, jadd64, jin, jnoneT] at *); omega)
set_option maxRecDepth 4000 in
set_option maxHeartbeats 1000000 in
theorem c_shownOf7_1 (np : Nat) (mem : jMem) (p : Nat) (F : Nat → Int32) (hp : p < np) (hN : mem (92 + 2 * p) 0 = nI p) (hF : mem (93 + 2 * p) = F) : jPi yX6_shownOf cX6_shownOf 3 .int 3 [.ref (92 + 2 * p), .int 7, .int 1] np mem (fun v c => v = F 1 ∧ c = mem) := by
  refine jPi.of (own := RX6) rfl rfl (Nat.le_of_ble_eq_true rfl) (fun G X hR hr hE => ?_)
  refine j_iload_n X dX6_shownOf_0 rfl ?_
  refine j_iload_n X dX6_shownOf_1 rfl ?_
  refine s_callNi X hR (c_hasBit np _ _ _) rfl u498 (by decide) u497 u1 hyX10_hasBit (by decide) (by decide) (Nat.le_of_ble_eq_true rfl) dX6_shownOf_2 (fun v_2 m_2 h_2 => ?_)
  obtain ⟨e1, e2⟩ := h_2; have e1 := e1.symm; have e2 := e2.symm; subst e1; subst e2
  refine j_ifb_eq X 17 dX6_shownOf_5 (by decide) (fun c_5 => absurd c_5 (by decide)) (fun c_5 => ?_)
  refine j_aload_n X dX6_shownOf_8 rfl ?_
  refine j_getR X 6 6 (by decide) (by decide) rfl u405 (oP np (by omega)) (kP np _) _ (pP_f np _) dX6_shownOf_9 ?_
  refine j_iload_n X dX6_shownOf_12 rfl ?_
  refine j_nrm _ (by first | (simp only [fa_lit, pk_mul, nI_add]; done) | (simp only [fa_lit, pk_mul, nI_add]; rfl) | rfl) ?_
  refine j_ialdN X (oPf np (by omega)) (kPf np _) (by rw [lPf]; omega) (by rw [lPf]; decide) F hF dX6_shownOf_13 ?_
  refine j_goto X 22 dX6_shownOf_14 (by decide) ?_
  refine s_iret X hE hr dX6_shownOf_22 rfl ?_
  first | exact ⟨rfl, rfl⟩ | (exfalso; clear hE hr hR X; (try simp only [lg_cmp_lt, lg_cmp_gt, lg_cmp_le, lg_cmp_ge] at *); (try simp (disch := omega) only [Int64.le_iff_toInt_le, Int64.lt_iff_toInt_lt, Int32.le_iff_toInt_le, Int32.lt_iff_toInt_lt, fa_eq, fa_lit, fa_litL, nI_toInt, pk_lT, Int32.toInt_toInt64, jadd64, jin, jnoneT] at *); omega)
set_option maxRecDepth 4000 in
set_option maxHeartbeats 1000000 in
theorem c_shownOf7_2 (np : Nat) (mem : jMem) (p : Nat) (F : Nat → Int32) (hp : p < np) (hN : mem (92 + 2 * p) 0 = nI p) (hF : mem (93 + 2 * p) = F) : jPi yX6_shownOf cX6_shownOf 3 .int 3 [.ref (92 + 2 * p), .int 7, .int 2] np mem (fun v c => v = F 2 ∧ c = mem) := by
  refine jPi.of (own := RX6) rfl rfl (Nat.le_of_ble_eq_true rfl) (fun G X hR hr hE => ?_)
  refine j_iload_n X dX6_shownOf_0 rfl ?_
  refine j_iload_n X dX6_shownOf_1 rfl ?_
  refine s_callNi X hR (c_hasBit np _ _ _) rfl u498 (by decide) u497 u1 hyX10_hasBit (by decide) (by decide) (Nat.le_of_ble_eq_true rfl) dX6_shownOf_2 (fun v_2 m_2 h_2 => ?_)
  obtain ⟨e1, e2⟩ := h_2; have e1 := e1.symm; have e2 := e2.symm; subst e1; subst e2
  refine j_ifb_eq X 17 dX6_shownOf_5 (by decide) (fun c_5 => absurd c_5 (by decide)) (fun c_5 => ?_)
  refine j_aload_n X dX6_shownOf_8 rfl ?_
  refine j_getR X 6 6 (by decide) (by decide) rfl u405 (oP np (by omega)) (kP np _) _ (pP_f np _) dX6_shownOf_9 ?_
  refine j_iload_n X dX6_shownOf_12 rfl ?_
  refine j_nrm _ (by first | (simp only [fa_lit, pk_mul, nI_add]; done) | (simp only [fa_lit, pk_mul, nI_add]; rfl) | rfl) ?_
  refine j_ialdN X (oPf np (by omega)) (kPf np _) (by rw [lPf]; omega) (by rw [lPf]; decide) F hF dX6_shownOf_13 ?_
  refine j_goto X 22 dX6_shownOf_14 (by decide) ?_
  refine s_iret X hE hr dX6_shownOf_22 rfl ?_
  first | exact ⟨rfl, rfl⟩ | (exfalso; clear hE hr hR X; (try simp only [lg_cmp_lt, lg_cmp_gt, lg_cmp_le, lg_cmp_ge] at *); (try simp (disch := omega) only [Int64.le_iff_toInt_le, Int64.lt_iff_toInt_lt, Int32.le_iff_toInt_le, Int32.lt_iff_toInt_lt, fa_eq, fa_lit, fa_litL, nI_toInt, pk_lT, Int32.toInt_toInt64, jadd64, jin, jnoneT] at *); omega)
set_option maxRecDepth 4000 in
set_option maxHeartbeats 1000000 in
theorem c_shownOf7_3 (np : Nat) (mem : jMem) (p : Nat) (F : Nat → Int32) (hp : p < np) (hN : mem (92 + 2 * p) 0 = nI p) (hF : mem (93 + 2 * p) = F) : jPi yX6_shownOf cX6_shownOf 3 .int 3 [.ref (92 + 2 * p), .int 7, .int 3] np mem (fun v c => v = (jLeaf (nI p) 3 (F 3)) ∧ c = mem) := by
  refine jPi.of (own := RX6) rfl rfl (Nat.le_of_ble_eq_true rfl) (fun G X hR hr hE => ?_)
  refine j_iload_n X dX6_shownOf_0 rfl ?_
  refine j_iload_n X dX6_shownOf_1 rfl ?_
  refine s_callNi X hR (c_hasBit np _ _ _) rfl u498 (by decide) u497 u1 hyX10_hasBit (by decide) (by decide) (Nat.le_of_ble_eq_true rfl) dX6_shownOf_2 (fun v_2 m_2 h_2 => ?_)
  obtain ⟨e1, e2⟩ := h_2; have e1 := e1.symm; have e2 := e2.symm; subst e1; subst e2
  refine j_ifb_eq X 17 dX6_shownOf_5 (by decide) (fun c_5 => ?_) (fun c_5 => absurd c_5 (by decide))
  refine j_aload_n X dX6_shownOf_17 rfl ?_
  refine j_iload_n X dX6_shownOf_18 rfl ?_
  refine s_callVi X hR (c_leaf3 np _ p F hp hN hF) rfl 6 (by decide) (oP np (by omega)) (kP np _) rfl u456 u453 u454 u455 u14 hyX6_leaf (by decide) (by decide) (Nat.le_of_ble_eq_true rfl) dX6_shownOf_19 (fun v_19 m_19 h_19 => ?_)
  obtain ⟨e1, e2⟩ := h_19; have e1 := e1.symm; have e2 := e2.symm; subst e1; subst e2
  refine s_iret X hE hr dX6_shownOf_22 rfl ?_
  first | exact ⟨rfl, rfl⟩ | (exfalso; clear hE hr hR X; (try simp only [lg_cmp_lt, lg_cmp_gt, lg_cmp_le, lg_cmp_ge] at *); (try simp (disch := omega) only [Int64.le_iff_toInt_le, Int64.lt_iff_toInt_lt, Int32.le_iff_toInt_le, Int32.lt_iff_toInt_lt, fa_eq, fa_lit, fa_litL, nI_toInt, pk_lT, Int32.toInt_toInt64, jadd64, jin, jnoneT] at *); omega)
set_option maxRecDepth 4000 in
set_option maxHeartbeats 1000000 in
theorem c_fillShowing7 (np : Nat) (mem : jMem) (p : Nat) (F : Nat → Int32) (hp : p < np) (hN : mem (92 + 2 * p) 0 = nI p) (hF : mem (93 + 2 * p) = F) : jPi yX6_fillShowing cX6_fillShowing 5 .int 4 [.ref (92 + 2 * p), .int 7, .ref 65] np mem (fun v c => v = 4 ∧ c = jup (jup (jup (jup (mem) 65 0 (F 0)) 65 1 (F 1)) 65 2 (F 2)) 65 3 (jLeaf (nI p) 3 (F 3))) := by
  refine jPi.of (own := RX6) rfl rfl (Nat.le_of_ble_eq_true rfl) (fun G X hR hr hE => ?_)
  refine j_iconst X dX6_fillShowing_0 0 (by decide) ?_
  refine j_istore_n X dX6_fillShowing_1 (by decide) ?_
  refine j_iconst X dX6_fillShowing_2 0 (by decide) ?_
  refine j_istore X dX6_fillShowing_3 (by decide) ?_
  refine j_iload X dX6_fillShowing_5 rfl ?_
  refine j_iconst X dX6_fillShowing_7 2 (by decide) ?_
  refine j_icmp_ge X 75 dX6_fillShowing_8 (by decide) (fun c_8 => absurd c_8 (by decide)) (fun c_8 => ?_)
  refine j_iload_n X dX6_fillShowing_11 rfl ?_
  refine j_iload X dX6_fillShowing_12 rfl ?_
  refine s_callSi X hR (c_shows7_0 np _) rfl u491 u489 u490 u14 hyX6_showsOfHalf (by decide) (by decide) (Nat.le_of_ble_eq_true rfl) dX6_fillShowing_14 (fun v_2 m_2 h_2 => ?_)
  obtain ⟨e1, e2⟩ := h_2; have e1 := e1.symm; have e2 := e2.symm; subst e1; subst e2
  refine j_if_eq X 51 dX6_fillShowing_17 (by decide) (fun c_17 => absurd c_17 (by decide)) (fun c_17 => ?_)
  refine j_aload_n X dX6_fillShowing_20 rfl ?_
  refine j_iload_n X dX6_fillShowing_21 rfl ?_
  refine j_aload_n X dX6_fillShowing_22 rfl ?_
  refine j_iload_n X dX6_fillShowing_23 rfl ?_
  refine j_iconst X dX6_fillShowing_24 2 (by decide) ?_
  refine j_iload X dX6_fillShowing_25 rfl ?_
  refine j_imul X dX6_fillShowing_27 ?_
  refine s_callVi X hR (c_shownOf7_0 np _ p F hp (by first | exact hN | (simp only [jup_o (show ¬ 92 + 2 * p = 65 by omega)]; exact hN)) (by first | exact hF | (simp only [jup_o (show ¬ 93 + 2 * p = 65 by omega)]; exact hF))) rfl 6 (by decide) (oP np (by omega)) (kP np _) rfl u495 u492 u494 qp4 u14 hyX6_shownOf (by decide) (by decide) (Nat.le_of_ble_eq_true rfl) dX6_fillShowing_28 (fun v_28 m_28 h_28 => ?_)
  obtain ⟨e1, e2⟩ := h_28; have e1 := e1.symm; have e2 := e2.symm; subst e1; subst e2
  refine j_nrm2 _ (by first | (simp only [fa_lit, pk_mul, nI_add]; done) | (simp only [fa_lit, pk_mul, nI_add]; rfl) | rfl) ?_
  refine j_iastN X (o65 np) (k65 np) (by rw [l65]; omega) (by rw [l65]; decide) dX6_fillShowing_31 ?_
  refine j_aload_n X dX6_fillShowing_32 rfl ?_
  refine j_iload_n X dX6_fillShowing_33 rfl ?_
  refine j_iconst X dX6_fillShowing_34 1 (by decide) ?_
  refine j_iadd X dX6_fillShowing_35 ?_
  refine j_aload_n X dX6_fillShowing_36 rfl ?_
  refine j_iload_n X dX6_fillShowing_37 rfl ?_
  refine j_iconst X dX6_fillShowing_38 2 (by decide) ?_
  refine j_iload X dX6_fillShowing_39 rfl ?_
  refine j_imul X dX6_fillShowing_41 ?_
  refine j_iconst X dX6_fillShowing_42 1 (by decide) ?_
  refine j_iadd X dX6_fillShowing_43 ?_
  refine s_callVi X hR (c_shownOf7_1 np _ p F hp (by first | exact hN | (simp only [jup_o (show ¬ 92 + 2 * p = 65 by omega)]; exact hN)) (by first | exact hF | (simp only [jup_o (show ¬ 93 + 2 * p = 65 by omega)]; exact hF))) rfl 6 (by decide) (oP np (by omega)) (kP np _) rfl u495 u492 u494 qp4 u14 hyX6_shownOf (by decide) (by decide) (Nat.le_of_ble_eq_true rfl) dX6_fillShowing_44 (fun v_44 m_44 h_44 => ?_)
  obtain ⟨e1, e2⟩ := h_44; have e1 := e1.symm; have e2 := e2.symm; subst e1; subst e2
  refine j_nrm2 _ (by first | (simp only [fa_lit, pk_mul, nI_add]; done) | (simp only [fa_lit, pk_mul, nI_add]; rfl) | rfl) ?_
  refine j_iastN X (o65 np) (k65 np) (by rw [l65]; omega) (by rw [l65]; decide) dX6_fillShowing_47 ?_
  refine j_goto X 60 dX6_fillShowing_48 (by decide) ?_
  refine j_iload_n X dX6_fillShowing_60 rfl ?_
  refine j_iload_n X dX6_fillShowing_61 rfl ?_
  refine j_iload X dX6_fillShowing_62 rfl ?_
  refine s_callSi X hR (c_halfSize7_0 np _) rfl u501 u499 u500 u14 hyX6_halfSize (by decide) (by decide) (Nat.le_of_ble_eq_true rfl) dX6_fillShowing_64 (fun v_2 m_2 h_2 => ?_)
  obtain ⟨e1, e2⟩ := h_2; have e1 := e1.symm; have e2 := e2.symm; subst e1; subst e2
  refine j_iadd X dX6_fillShowing_67 ?_
  refine j_istore_n X dX6_fillShowing_68 (by decide) ?_
  refine j_iinc X dX6_fillShowing_69 rfl 1 rfl ?_
  refine j_goto X 5 dX6_fillShowing_72 (by decide) ?_
  refine j_iload X dX6_fillShowing_5 rfl ?_
  refine j_iconst X dX6_fillShowing_7 2 (by decide) ?_
  refine j_icmp_ge X 75 dX6_fillShowing_8 (by decide) (fun c_8 => absurd c_8 (by decide)) (fun c_8 => ?_)
  refine j_iload_n X dX6_fillShowing_11 rfl ?_
  refine j_iload X dX6_fillShowing_12 rfl ?_
  refine s_callSi X hR (c_shows7_1 np _) rfl u491 u489 u490 u14 hyX6_showsOfHalf (by decide) (by decide) (Nat.le_of_ble_eq_true rfl) dX6_fillShowing_14 (fun v_2 m_2 h_2 => ?_)
  obtain ⟨e1, e2⟩ := h_2; have e1 := e1.symm; have e2 := e2.symm; subst e1; subst e2
  refine j_if_eq X 51 dX6_fillShowing_17 (by decide) (fun c_17 => absurd c_17 (by decide)) (fun c_17 => ?_)
  refine j_aload_n X dX6_fillShowing_20 rfl ?_
  refine j_iload_n X dX6_fillShowing_21 rfl ?_
  refine j_aload_n X dX6_fillShowing_22 rfl ?_
  refine j_iload_n X dX6_fillShowing_23 rfl ?_
  refine j_iconst X dX6_fillShowing_24 2 (by decide) ?_
  refine j_iload X dX6_fillShowing_25 rfl ?_
  refine j_imul X dX6_fillShowing_27 ?_
  refine s_callVi X hR (c_shownOf7_2 np _ p F hp (by first | exact hN | (simp only [jup_o (show ¬ 92 + 2 * p = 65 by omega)]; exact hN)) (by first | exact hF | (simp only [jup_o (show ¬ 93 + 2 * p = 65 by omega)]; exact hF))) rfl 6 (by decide) (oP np (by omega)) (kP np _) rfl u495 u492 u494 qp4 u14 hyX6_shownOf (by decide) (by decide) (Nat.le_of_ble_eq_true rfl) dX6_fillShowing_28 (fun v_28 m_28 h_28 => ?_)
  obtain ⟨e1, e2⟩ := h_28; have e1 := e1.symm; have e2 := e2.symm; subst e1; subst e2
  refine j_nrm2 _ (by first | (simp only [fa_lit, pk_mul, nI_add]; done) | (simp only [fa_lit, pk_mul, nI_add]; rfl) | rfl) ?_
  refine j_iastN X (o65 np) (k65 np) (by rw [l65]; omega) (by rw [l65]; decide) dX6_fillShowing_31 ?_
  refine j_aload_n X dX6_fillShowing_32 rfl ?_
  refine j_iload_n X dX6_fillShowing_33 rfl ?_
  refine j_iconst X dX6_fillShowing_34 1 (by decide) ?_
  refine j_iadd X dX6_fillShowing_35 ?_
  refine j_aload_n X dX6_fillShowing_36 rfl ?_
  refine j_iload_n X dX6_fillShowing_37 rfl ?_
  refine j_iconst X dX6_fillShowing_38 2 (by decide) ?_
  refine j_iload X dX6_fillShowing_39 rfl ?_
  refine j_imul X dX6_fillShowing_41 ?_
  refine j_iconst X dX6_fillShowing_42 1 (by decide) ?_
  refine j_iadd X dX6_fillShowing_43 ?_
  refine s_callVi X hR (c_shownOf7_3 np _ p F hp (by first | exact hN | (simp only [jup_o (show ¬ 92 + 2 * p = 65 by omega)]; exact hN)) (by first | exact hF | (simp only [jup_o (show ¬ 93 + 2 * p = 65 by omega)]; exact hF))) rfl 6 (by decide) (oP np (by omega)) (kP np _) rfl u495 u492 u494 qp4 u14 hyX6_shownOf (by decide) (by decide) (Nat.le_of_ble_eq_true rfl) dX6_fillShowing_44 (fun v_44 m_44 h_44 => ?_)
  obtain ⟨e1, e2⟩ := h_44; have e1 := e1.symm; have e2 := e2.symm; subst e1; subst e2
  refine j_nrm2 _ (by first | (simp only [fa_lit, pk_mul, nI_add]; done) | (simp only [fa_lit, pk_mul, nI_add]; rfl) | rfl) ?_
  refine j_iastN X (o65 np) (k65 np) (by rw [l65]; omega) (by rw [l65]; decide) dX6_fillShowing_47 ?_
  refine j_goto X 60 dX6_fillShowing_48 (by decide) ?_
  refine j_iload_n X dX6_fillShowing_60 rfl ?_
  refine j_iload_n X dX6_fillShowing_61 rfl ?_
  refine j_iload X dX6_fillShowing_62 rfl ?_
  refine s_callSi X hR (c_halfSize7_1 np _) rfl u501 u499 u500 u14 hyX6_halfSize (by decide) (by decide) (Nat.le_of_ble_eq_true rfl) dX6_fillShowing_64 (fun v_2 m_2 h_2 => ?_)
  obtain ⟨e1, e2⟩ := h_2; have e1 := e1.symm; have e2 := e2.symm; subst e1; subst e2
  refine j_iadd X dX6_fillShowing_67 ?_
  refine j_istore_n X dX6_fillShowing_68 (by decide) ?_
  refine j_iinc X dX6_fillShowing_69 rfl 1 rfl ?_
  refine j_goto X 5 dX6_fillShowing_72 (by decide) ?_
  refine j_iload X dX6_fillShowing_5 rfl ?_
  refine j_iconst X dX6_fillShowing_7 2 (by decide) ?_
  refine j_icmp_ge X 75 dX6_fillShowing_8 (by decide) (fun c_8 => ?_) (fun c_8 => absurd c_8 (by decide))
  refine j_iload_n X dX6_fillShowing_75 rfl ?_
  refine s_iret X hE hr dX6_fillShowing_76 rfl ?_
  exact ⟨by decide, rfl⟩
set_option maxRecDepth 4000 in
set_option maxHeartbeats 1000000 in
theorem c_shows8_0 (np : Nat) (mem : jMem)   : jPi yX6_showsOfHalf cX6_showsOfHalf 2 .boolean 1 [.int 8, .int 0] np mem (fun v c => v = 0 ∧ c = mem) := by
  refine jPi.of (own := RX6) rfl rfl (Nat.le_of_ble_eq_true rfl) (fun G X hR hr hE => ?_)
  refine j_iload_n X dX6_showsOfHalf_0 rfl ?_
  refine j_iconst X dX6_showsOfHalf_1 2 (by decide) ?_
  refine j_iload_n X dX6_showsOfHalf_2 rfl ?_
  refine j_imul X dX6_showsOfHalf_3 ?_
  refine j_ishr X dX6_showsOfHalf_4 ?_
  refine j_iconst X dX6_showsOfHalf_5 3 (by decide) ?_
  refine j_iand X dX6_showsOfHalf_6 ?_
  refine j_if_eq X 14 dX6_showsOfHalf_7 (by decide) (fun c_7 => ?_) (fun c_7 => absurd c_7 (by decide))
  refine j_iconst X dX6_showsOfHalf_14 0 (by decide) ?_
  refine s_iret X hE hr dX6_showsOfHalf_15 (by first | exact jb_nar | rfl) ?_
  first | exact ⟨rfl, rfl⟩ | (exfalso; clear hE hr hR X; (try simp only [lg_cmp_lt, lg_cmp_gt, lg_cmp_le, lg_cmp_ge] at *); (try simp (disch := omega) only [Int64.le_iff_toInt_le, Int64.lt_iff_toInt_lt, Int32.le_iff_toInt_le, Int32.lt_iff_toInt_lt, fa_eq, fa_lit, fa_litL, nI_toInt, pk_lT, Int32.toInt_toInt64, jadd64, jin, jnoneT] at *); omega)
set_option maxRecDepth 4000 in
set_option maxHeartbeats 1000000 in
theorem c_halfSize8_0 (np : Nat) (mem : jMem)   : jPi yX6_halfSize cX6_halfSize 2 .int 2 [.int 8, .int 0] np mem (fun v c => v = 1 ∧ c = mem) := by
  refine jPi.of (own := RX6) rfl rfl (Nat.le_of_ble_eq_true rfl) (fun G X hR hr hE => ?_)
  refine j_iload_n X dX6_halfSize_0 rfl ?_
  refine j_iload_n X dX6_halfSize_1 rfl ?_
  refine s_callSi X hR (c_shows8_0 np _) rfl u491 u489 u490 u14 hyX6_showsOfHalf (by decide) (by decide) (Nat.le_of_ble_eq_true rfl) dX6_halfSize_2 (fun v_2 m_2 h_2 => ?_)
  obtain ⟨e1, e2⟩ := h_2; have e1 := e1.symm; have e2 := e2.symm; subst e1; subst e2
  refine j_if_eq X 12 dX6_halfSize_5 (by decide) (fun c_5 => ?_) (fun c_5 => absurd c_5 (by decide))
  refine j_iconst X dX6_halfSize_12 1 (by decide) ?_
  refine s_iret X hE hr dX6_halfSize_13 rfl ?_
  first | exact ⟨rfl, rfl⟩ | (exfalso; clear hE hr hR X; (try simp only [lg_cmp_lt, lg_cmp_gt, lg_cmp_le, lg_cmp_ge] at *); (try simp (disch := omega) only [Int64.le_iff_toInt_le, Int64.lt_iff_toInt_lt, Int32.le_iff_toInt_le, Int32.lt_iff_toInt_lt, fa_eq, fa_lit, fa_litL, nI_toInt, pk_lT, Int32.toInt_toInt64, jadd64, jin, jnoneT] at *); omega)
set_option maxRecDepth 4000 in
set_option maxHeartbeats 1000000 in
theorem c_shows8_1 (np : Nat) (mem : jMem)   : jPi yX6_showsOfHalf cX6_showsOfHalf 2 .boolean 1 [.int 8, .int 1] np mem (fun v c => v = 1 ∧ c = mem) := by
  refine jPi.of (own := RX6) rfl rfl (Nat.le_of_ble_eq_true rfl) (fun G X hR hr hE => ?_)
  refine j_iload_n X dX6_showsOfHalf_0 rfl ?_
  refine j_iconst X dX6_showsOfHalf_1 2 (by decide) ?_
  refine j_iload_n X dX6_showsOfHalf_2 rfl ?_
  refine j_imul X dX6_showsOfHalf_3 ?_
  refine j_ishr X dX6_showsOfHalf_4 ?_
  refine j_iconst X dX6_showsOfHalf_5 3 (by decide) ?_
  refine j_iand X dX6_showsOfHalf_6 ?_
  refine j_if_eq X 14 dX6_showsOfHalf_7 (by decide) (fun c_7 => absurd c_7 (by decide)) (fun c_7 => ?_)
  refine j_iconst X dX6_showsOfHalf_10 1 (by decide) ?_
  refine j_goto X 15 dX6_showsOfHalf_11 (by decide) ?_
  refine s_iret X hE hr dX6_showsOfHalf_15 (by first | exact jb_nar | rfl) ?_
  first | exact ⟨rfl, rfl⟩ | (exfalso; clear hE hr hR X; (try simp only [lg_cmp_lt, lg_cmp_gt, lg_cmp_le, lg_cmp_ge] at *); (try simp (disch := omega) only [Int64.le_iff_toInt_le, Int64.lt_iff_toInt_lt, Int32.le_iff_toInt_le, Int32.lt_iff_toInt_lt, fa_eq, fa_lit, fa_litL, nI_toInt, pk_lT, Int32.toInt_toInt64, jadd64, jin, jnoneT] at *); omega)
set_option maxRecDepth 4000 in
set_option maxHeartbeats 1000000 in
theorem c_halfSize8_1 (np : Nat) (mem : jMem)   : jPi yX6_halfSize cX6_halfSize 2 .int 2 [.int 8, .int 1] np mem (fun v c => v = 2 ∧ c = mem) := by
  refine jPi.of (own := RX6) rfl rfl (Nat.le_of_ble_eq_true rfl) (fun G X hR hr hE => ?_)
  refine j_iload_n X dX6_halfSize_0 rfl ?_
  refine j_iload_n X dX6_halfSize_1 rfl ?_
  refine s_callSi X hR (c_shows8_1 np _) rfl u491 u489 u490 u14 hyX6_showsOfHalf (by decide) (by decide) (Nat.le_of_ble_eq_true rfl) dX6_halfSize_2 (fun v_2 m_2 h_2 => ?_)
  obtain ⟨e1, e2⟩ := h_2; have e1 := e1.symm; have e2 := e2.symm; subst e1; subst e2
  refine j_if_eq X 12 dX6_halfSize_5 (by decide) (fun c_5 => absurd c_5 (by decide)) (fun c_5 => ?_)
  refine j_iconst X dX6_halfSize_8 2 (by decide) ?_
  refine j_goto X 13 dX6_halfSize_9 (by decide) ?_
  refine s_iret X hE hr dX6_halfSize_13 rfl ?_
  first | exact ⟨rfl, rfl⟩ | (exfalso; clear hE hr hR X; (try simp only [lg_cmp_lt, lg_cmp_gt, lg_cmp_le, lg_cmp_ge] at *); (try simp (disch := omega) only [Int64.le_iff_toInt_le, Int64.lt_iff_toInt_lt, Int32.le_iff_toInt_le, Int32.lt_iff_toInt_lt, fa_eq, fa_lit, fa_litL, nI_toInt, pk_lT, Int32.toInt_toInt64, jadd64, jin, jnoneT] at *); omega)
set_option maxRecDepth 4000 in
set_option maxHeartbeats 1000000 in
theorem c_showingSize8 (np : Nat) (mem : jMem)   : jPi yX6_showingSize cX6_showingSize 1 .int 3 [.int 8] np mem (fun v c => v = 3 ∧ c = mem) := by
  refine jPi.of (own := RX6) rfl rfl (Nat.le_of_ble_eq_true rfl) (fun G X hR hr hE => ?_)
  refine j_iload_n X dX6_showingSize_0 rfl ?_
  refine j_iconst X dX6_showingSize_1 0 (by decide) ?_
  refine s_callSi X hR (c_halfSize8_0 np _) rfl u501 u499 u500 u14 hyX6_halfSize (by decide) (by decide) (Nat.le_of_ble_eq_true rfl) dX6_showingSize_2 (fun v_2 m_2 h_2 => ?_)
  obtain ⟨e1, e2⟩ := h_2; have e1 := e1.symm; have e2 := e2.symm; subst e1; subst e2
  refine j_iload_n X dX6_showingSize_5 rfl ?_
  refine j_iconst X dX6_showingSize_6 1 (by decide) ?_
  refine s_callSi X hR (c_halfSize8_1 np _) rfl u501 u499 u500 u14 hyX6_halfSize (by decide) (by decide) (Nat.le_of_ble_eq_true rfl) dX6_showingSize_7 (fun v_2 m_2 h_2 => ?_)
  obtain ⟨e1, e2⟩ := h_2; have e1 := e1.symm; have e2 := e2.symm; subst e1; subst e2
  refine j_iadd X dX6_showingSize_10 ?_
  refine s_iret X hE hr dX6_showingSize_11 rfl ?_
  exact ⟨by decide, rfl⟩
set_option maxRecDepth 4000 in
set_option maxHeartbeats 1000000 in
theorem c_shownOf8_0 (np : Nat) (mem : jMem) (p : Nat) (F : Nat → Int32) (hp : p < np) (hN : mem (92 + 2 * p) 0 = nI p) (hF : mem (93 + 2 * p) = F) : jPi yX6_shownOf cX6_shownOf 3 .int 3 [.ref (92 + 2 * p), .int 8, .int 0] np mem (fun v c => v = (jLeaf (nI p) 0 (F 0)) ∧ c = mem) := by
  refine jPi.of (own := RX6) rfl rfl (Nat.le_of_ble_eq_true rfl) (fun G X hR hr hE => ?_)
  refine j_iload_n X dX6_shownOf_0 rfl ?_
  refine j_iload_n X dX6_shownOf_1 rfl ?_
  refine s_callNi X hR (c_hasBit np _ _ _) rfl u498 (by decide) u497 u1 hyX10_hasBit (by decide) (by decide) (Nat.le_of_ble_eq_true rfl) dX6_shownOf_2 (fun v_2 m_2 h_2 => ?_)
  obtain ⟨e1, e2⟩ := h_2; have e1 := e1.symm; have e2 := e2.symm; subst e1; subst e2
  refine j_ifb_eq X 17 dX6_shownOf_5 (by decide) (fun c_5 => ?_) (fun c_5 => absurd c_5 (by decide))
  refine j_aload_n X dX6_shownOf_17 rfl ?_
  refine j_iload_n X dX6_shownOf_18 rfl ?_
  refine s_callVi X hR (c_leaf0 np _ p F hp hN hF) rfl 6 (by decide) (oP np (by omega)) (kP np _) rfl u456 u453 u454 u455 u14 hyX6_leaf (by decide) (by decide) (Nat.le_of_ble_eq_true rfl) dX6_shownOf_19 (fun v_19 m_19 h_19 => ?_)
  obtain ⟨e1, e2⟩ := h_19; have e1 := e1.symm; have e2 := e2.symm; subst e1; subst e2
  refine s_iret X hE hr dX6_shownOf_22 rfl ?_
  first | exact ⟨rfl, rfl⟩ | (exfalso; clear hE hr hR X; (try simp only [lg_cmp_lt, lg_cmp_gt, lg_cmp_le, lg_cmp_ge] at *); (try simp (disch := omega) only [Int64.le_iff_toInt_le, Int64.lt_iff_toInt_lt, Int32.le_iff_toInt_le, Int32.lt_iff_toInt_lt, fa_eq, fa_lit, fa_litL, nI_toInt, pk_lT, Int32.toInt_toInt64, jadd64, jin, jnoneT] at *); omega)
set_option maxRecDepth 4000 in
set_option maxHeartbeats 1000000 in
theorem c_shownOf8_1 (np : Nat) (mem : jMem) (p : Nat) (F : Nat → Int32) (hp : p < np) (hN : mem (92 + 2 * p) 0 = nI p) (hF : mem (93 + 2 * p) = F) : jPi yX6_shownOf cX6_shownOf 3 .int 3 [.ref (92 + 2 * p), .int 8, .int 1] np mem (fun v c => v = (jLeaf (nI p) 1 (F 1)) ∧ c = mem) := by
  refine jPi.of (own := RX6) rfl rfl (Nat.le_of_ble_eq_true rfl) (fun G X hR hr hE => ?_)
  refine j_iload_n X dX6_shownOf_0 rfl ?_
  refine j_iload_n X dX6_shownOf_1 rfl ?_
  refine s_callNi X hR (c_hasBit np _ _ _) rfl u498 (by decide) u497 u1 hyX10_hasBit (by decide) (by decide) (Nat.le_of_ble_eq_true rfl) dX6_shownOf_2 (fun v_2 m_2 h_2 => ?_)
  obtain ⟨e1, e2⟩ := h_2; have e1 := e1.symm; have e2 := e2.symm; subst e1; subst e2
  refine j_ifb_eq X 17 dX6_shownOf_5 (by decide) (fun c_5 => ?_) (fun c_5 => absurd c_5 (by decide))
  refine j_aload_n X dX6_shownOf_17 rfl ?_
  refine j_iload_n X dX6_shownOf_18 rfl ?_
  refine s_callVi X hR (c_leaf1 np _ p F hp hN hF) rfl 6 (by decide) (oP np (by omega)) (kP np _) rfl u456 u453 u454 u455 u14 hyX6_leaf (by decide) (by decide) (Nat.le_of_ble_eq_true rfl) dX6_shownOf_19 (fun v_19 m_19 h_19 => ?_)
  obtain ⟨e1, e2⟩ := h_19; have e1 := e1.symm; have e2 := e2.symm; subst e1; subst e2
  refine s_iret X hE hr dX6_shownOf_22 rfl ?_
  first | exact ⟨rfl, rfl⟩ | (exfalso; clear hE hr hR X; (try simp only [lg_cmp_lt, lg_cmp_gt, lg_cmp_le, lg_cmp_ge] at *); (try simp (disch := omega) only [Int64.le_iff_toInt_le, Int64.lt_iff_toInt_lt, Int32.le_iff_toInt_le, Int32.lt_iff_toInt_lt, fa_eq, fa_lit, fa_litL, nI_toInt, pk_lT, Int32.toInt_toInt64, jadd64, jin, jnoneT] at *); omega)
set_option maxRecDepth 4000 in
set_option maxHeartbeats 1000000 in
theorem c_shownOf8_2 (np : Nat) (mem : jMem) (p : Nat) (F : Nat → Int32) (hp : p < np) (hN : mem (92 + 2 * p) 0 = nI p) (hF : mem (93 + 2 * p) = F) : jPi yX6_shownOf cX6_shownOf 3 .int 3 [.ref (92 + 2 * p), .int 8, .int 2] np mem (fun v c => v = (jLeaf (nI p) 2 (F 2)) ∧ c = mem) := by
  refine jPi.of (own := RX6) rfl rfl (Nat.le_of_ble_eq_true rfl) (fun G X hR hr hE => ?_)
  refine j_iload_n X dX6_shownOf_0 rfl ?_
  refine j_iload_n X dX6_shownOf_1 rfl ?_
  refine s_callNi X hR (c_hasBit np _ _ _) rfl u498 (by decide) u497 u1 hyX10_hasBit (by decide) (by decide) (Nat.le_of_ble_eq_true rfl) dX6_shownOf_2 (fun v_2 m_2 h_2 => ?_)
  obtain ⟨e1, e2⟩ := h_2; have e1 := e1.symm; have e2 := e2.symm; subst e1; subst e2
  refine j_ifb_eq X 17 dX6_shownOf_5 (by decide) (fun c_5 => ?_) (fun c_5 => absurd c_5 (by decide))
  refine j_aload_n X dX6_shownOf_17 rfl ?_
  refine j_iload_n X dX6_shownOf_18 rfl ?_
  refine s_callVi X hR (c_leaf2 np _ p F hp hN hF) rfl 6 (by decide) (oP np (by omega)) (kP np _) rfl u456 u453 u454 u455 u14 hyX6_leaf (by decide) (by decide) (Nat.le_of_ble_eq_true rfl) dX6_shownOf_19 (fun v_19 m_19 h_19 => ?_)
  obtain ⟨e1, e2⟩ := h_19; have e1 := e1.symm; have e2 := e2.symm; subst e1; subst e2
  refine s_iret X hE hr dX6_shownOf_22 rfl ?_
  first | exact ⟨rfl, rfl⟩ | (exfalso; clear hE hr hR X; (try simp only [lg_cmp_lt, lg_cmp_gt, lg_cmp_le, lg_cmp_ge] at *); (try simp (disch := omega) only [Int64.le_iff_toInt_le, Int64.lt_iff_toInt_lt, Int32.le_iff_toInt_le, Int32.lt_iff_toInt_lt, fa_eq, fa_lit, fa_litL, nI_toInt, pk_lT, Int32.toInt_toInt64, jadd64, jin, jnoneT] at *); omega)
set_option maxRecDepth 4000 in
set_option maxHeartbeats 1000000 in
theorem c_shownOf8_3 (np : Nat) (mem : jMem) (p : Nat) (F : Nat → Int32) (hp : p < np) (hN : mem (92 + 2 * p) 0 = nI p) (hF : mem (93 + 2 * p) = F) : jPi yX6_shownOf cX6_shownOf 3 .int 3 [.ref (92 + 2 * p), .int 8, .int 3] np mem (fun v c => v = F 3 ∧ c = mem) := by
  refine jPi.of (own := RX6) rfl rfl (Nat.le_of_ble_eq_true rfl) (fun G X hR hr hE => ?_)
  refine j_iload_n X dX6_shownOf_0 rfl ?_
  refine j_iload_n X dX6_shownOf_1 rfl ?_
  refine s_callNi X hR (c_hasBit np _ _ _) rfl u498 (by decide) u497 u1 hyX10_hasBit (by decide) (by decide) (Nat.le_of_ble_eq_true rfl) dX6_shownOf_2 (fun v_2 m_2 h_2 => ?_)
  obtain ⟨e1, e2⟩ := h_2; have e1 := e1.symm; have e2 := e2.symm; subst e1; subst e2
  refine j_ifb_eq X 17 dX6_shownOf_5 (by decide) (fun c_5 => absurd c_5 (by decide)) (fun c_5 => ?_)
  refine j_aload_n X dX6_shownOf_8 rfl ?_
  refine j_getR X 6 6 (by decide) (by decide) rfl u405 (oP np (by omega)) (kP np _) _ (pP_f np _) dX6_shownOf_9 ?_
  refine j_iload_n X dX6_shownOf_12 rfl ?_
  refine j_nrm _ (by first | (simp only [fa_lit, pk_mul, nI_add]; done) | (simp only [fa_lit, pk_mul, nI_add]; rfl) | rfl) ?_
  refine j_ialdN X (oPf np (by omega)) (kPf np _) (by rw [lPf]; omega) (by rw [lPf]; decide) F hF dX6_shownOf_13 ?_
  refine j_goto X 22 dX6_shownOf_14 (by decide) ?_
  refine s_iret X hE hr dX6_shownOf_22 rfl ?_
  first | exact ⟨rfl, rfl⟩ | (exfalso; clear hE hr hR X; (try simp only [lg_cmp_lt, lg_cmp_gt, lg_cmp_le, lg_cmp_ge] at *); (try simp (disch := omega) only [Int64.le_iff_toInt_le, Int64.lt_iff_toInt_lt, Int32.le_iff_toInt_le, Int32.lt_iff_toInt_lt, fa_eq, fa_lit, fa_litL, nI_toInt, pk_lT, Int32.toInt_toInt64, jadd64, jin, jnoneT] at *); omega)
set_option maxRecDepth 4000 in
set_option maxHeartbeats 1000000 in
theorem c_fillShowing8 (np : Nat) (mem : jMem) (p : Nat) (F : Nat → Int32) (hp : p < np) (hN : mem (92 + 2 * p) 0 = nI p) (hF : mem (93 + 2 * p) = F) : jPi yX6_fillShowing cX6_fillShowing 5 .int 4 [.ref (92 + 2 * p), .int 8, .ref 65] np mem (fun v c => v = 3 ∧ c = jup (jup (jup (mem) 65 0 (jJoin (jLeaf (nI p) 0 (F 0)) (jLeaf (nI p) 1 (F 1)))) 65 1 (jLeaf (nI p) 2 (F 2))) 65 2 (F 3)) := by
  refine jPi.of (own := RX6) rfl rfl (Nat.le_of_ble_eq_true rfl) (fun G X hR hr hE => ?_)
  refine j_iconst X dX6_fillShowing_0 0 (by decide) ?_
  refine j_istore_n X dX6_fillShowing_1 (by decide) ?_
  refine j_iconst X dX6_fillShowing_2 0 (by decide) ?_
  refine j_istore X dX6_fillShowing_3 (by decide) ?_
  refine j_iload X dX6_fillShowing_5 rfl ?_
  refine j_iconst X dX6_fillShowing_7 2 (by decide) ?_
  refine j_icmp_ge X 75 dX6_fillShowing_8 (by decide) (fun c_8 => absurd c_8 (by decide)) (fun c_8 => ?_)
  refine j_iload_n X dX6_fillShowing_11 rfl ?_
  refine j_iload X dX6_fillShowing_12 rfl ?_
  refine s_callSi X hR (c_shows8_0 np _) rfl u491 u489 u490 u14 hyX6_showsOfHalf (by decide) (by decide) (Nat.le_of_ble_eq_true rfl) dX6_fillShowing_14 (fun v_2 m_2 h_2 => ?_)
  obtain ⟨e1, e2⟩ := h_2; have e1 := e1.symm; have e2 := e2.symm; subst e1; subst e2
  refine j_if_eq X 51 dX6_fillShowing_17 (by decide) (fun c_17 => ?_) (fun c_17 => absurd c_17 (by decide))
  refine j_aload_n X dX6_fillShowing_51 rfl ?_
  refine j_iload_n X dX6_fillShowing_52 rfl ?_
  refine j_aload_n X dX6_fillShowing_53 rfl ?_
  refine j_iload X dX6_fillShowing_54 rfl ?_
  refine s_callVi X hR (c_half0 np _ p F hp (by first | exact hN | (simp only [jup_o (show ¬ 92 + 2 * p = 65 by omega)]; exact hN)) (by first | exact hF | (simp only [jup_o (show ¬ 93 + 2 * p = 65 by omega)]; exact hF))) rfl 6 (by decide) (oP np (by omega)) (kP np _) rfl u452 u470 u450 u451 u14 hyX6_half (by decide) (by decide) (Nat.le_of_ble_eq_true rfl) dX6_fillShowing_56 (fun v_56 m_56 h_56 => ?_)
  obtain ⟨e1, e2⟩ := h_56; have e1 := e1.symm; have e2 := e2.symm; subst e1; subst e2
  refine j_nrm2 _ (by first | (simp only [fa_lit, pk_mul, nI_add]; done) | (simp only [fa_lit, pk_mul, nI_add]; rfl) | rfl) ?_
  refine j_iastN X (o65 np) (k65 np) (by rw [l65]; omega) (by rw [l65]; decide) dX6_fillShowing_59 ?_
  refine j_iload_n X dX6_fillShowing_60 rfl ?_
  refine j_iload_n X dX6_fillShowing_61 rfl ?_
  refine j_iload X dX6_fillShowing_62 rfl ?_
  refine s_callSi X hR (c_halfSize8_0 np _) rfl u501 u499 u500 u14 hyX6_halfSize (by decide) (by decide) (Nat.le_of_ble_eq_true rfl) dX6_fillShowing_64 (fun v_2 m_2 h_2 => ?_)
  obtain ⟨e1, e2⟩ := h_2; have e1 := e1.symm; have e2 := e2.symm; subst e1; subst e2
  refine j_iadd X dX6_fillShowing_67 ?_
  refine j_istore_n X dX6_fillShowing_68 (by decide) ?_
  refine j_iinc X dX6_fillShowing_69 rfl 1 rfl ?_
  refine j_goto X 5 dX6_fillShowing_72 (by decide) ?_
  refine j_iload X dX6_fillShowing_5 rfl ?_
  refine j_iconst X dX6_fillShowing_7 2 (by decide) ?_
  refine j_icmp_ge X 75 dX6_fillShowing_8 (by decide) (fun c_8 => absurd c_8 (by decide)) (fun c_8 => ?_)
  refine j_iload_n X dX6_fillShowing_11 rfl ?_
  refine j_iload X dX6_fillShowing_12 rfl ?_
  refine s_callSi X hR (c_shows8_1 np _) rfl u491 u489 u490 u14 hyX6_showsOfHalf (by decide) (by decide) (Nat.le_of_ble_eq_true rfl) dX6_fillShowing_14 (fun v_2 m_2 h_2 => ?_)
  obtain ⟨e1, e2⟩ := h_2; have e1 := e1.symm; have e2 := e2.symm; subst e1; subst e2
  refine j_if_eq X 51 dX6_fillShowing_17 (by decide) (fun c_17 => absurd c_17 (by decide)) (fun c_17 => ?_)
  refine j_aload_n X dX6_fillShowing_20 rfl ?_
  refine j_iload_n X dX6_fillShowing_21 rfl ?_
  refine j_aload_n X dX6_fillShowing_22 rfl ?_
  refine j_iload_n X dX6_fillShowing_23 rfl ?_
  refine j_iconst X dX6_fillShowing_24 2 (by decide) ?_
  refine j_iload X dX6_fillShowing_25 rfl ?_
  refine j_imul X dX6_fillShowing_27 ?_
  refine s_callVi X hR (c_shownOf8_2 np _ p F hp (by first | exact hN | (simp only [jup_o (show ¬ 92 + 2 * p = 65 by omega)]; exact hN)) (by first | exact hF | (simp only [jup_o (show ¬ 93 + 2 * p = 65 by omega)]; exact hF))) rfl 6 (by decide) (oP np (by omega)) (kP np _) rfl u495 u492 u494 qp4 u14 hyX6_shownOf (by decide) (by decide) (Nat.le_of_ble_eq_true rfl) dX6_fillShowing_28 (fun v_28 m_28 h_28 => ?_)
  obtain ⟨e1, e2⟩ := h_28; have e1 := e1.symm; have e2 := e2.symm; subst e1; subst e2
  refine j_nrm2 _ (by first | (simp only [fa_lit, pk_mul, nI_add]; done) | (simp only [fa_lit, pk_mul, nI_add]; rfl) | rfl) ?_
  refine j_iastN X (o65 np) (k65 np) (by rw [l65]; omega) (by rw [l65]; decide) dX6_fillShowing_31 ?_
  refine j_aload_n X dX6_fillShowing_32 rfl ?_
  refine j_iload_n X dX6_fillShowing_33 rfl ?_
  refine j_iconst X dX6_fillShowing_34 1 (by decide) ?_
  refine j_iadd X dX6_fillShowing_35 ?_
  refine j_aload_n X dX6_fillShowing_36 rfl ?_
  refine j_iload_n X dX6_fillShowing_37 rfl ?_
  refine j_iconst X dX6_fillShowing_38 2 (by decide) ?_
  refine j_iload X dX6_fillShowing_39 rfl ?_
  refine j_imul X dX6_fillShowing_41 ?_
  refine j_iconst X dX6_fillShowing_42 1 (by decide) ?_
  refine j_iadd X dX6_fillShowing_43 ?_
  refine s_callVi X hR (c_shownOf8_3 np _ p F hp (by first | exact hN | (simp only [jup_o (show ¬ 92 + 2 * p = 65 by omega)]; exact hN)) (by first | exact hF | (simp only [jup_o (show ¬ 93 + 2 * p = 65 by omega)]; exact hF))) rfl 6 (by decide) (oP np (by omega)) (kP np _) rfl u495 u492 u494 qp4 u14 hyX6_shownOf (by decide) (by decide) (Nat.le_of_ble_eq_true rfl) dX6_fillShowing_44 (fun v_44 m_44 h_44 => ?_)
  obtain ⟨e1, e2⟩ := h_44; have e1 := e1.symm; have e2 := e2.symm; subst e1; subst e2
  refine j_nrm2 _ (by first | (simp only [fa_lit, pk_mul, nI_add]; done) | (simp only [fa_lit, pk_mul, nI_add]; rfl) | rfl) ?_
  refine j_iastN X (o65 np) (k65 np) (by rw [l65]; omega) (by rw [l65]; decide) dX6_fillShowing_47 ?_
  refine j_goto X 60 dX6_fillShowing_48 (by decide) ?_
  refine j_iload_n X dX6_fillShowing_60 rfl ?_
  refine j_iload_n X dX6_fillShowing_61 rfl ?_
  refine j_iload X dX6_fillShowing_62 rfl ?_
  refine s_callSi X hR (c_halfSize8_1 np _) rfl u501 u499 u500 u14 hyX6_halfSize (by decide) (by decide) (Nat.le_of_ble_eq_true rfl) dX6_fillShowing_64 (fun v_2 m_2 h_2 => ?_)
  obtain ⟨e1, e2⟩ := h_2; have e1 := e1.symm; have e2 := e2.symm; subst e1; subst e2
  refine j_iadd X dX6_fillShowing_67 ?_
  refine j_istore_n X dX6_fillShowing_68 (by decide) ?_
  refine j_iinc X dX6_fillShowing_69 rfl 1 rfl ?_
  refine j_goto X 5 dX6_fillShowing_72 (by decide) ?_
  refine j_iload X dX6_fillShowing_5 rfl ?_
  refine j_iconst X dX6_fillShowing_7 2 (by decide) ?_
  refine j_icmp_ge X 75 dX6_fillShowing_8 (by decide) (fun c_8 => ?_) (fun c_8 => absurd c_8 (by decide))
  refine j_iload_n X dX6_fillShowing_75 rfl ?_
  refine s_iret X hE hr dX6_fillShowing_76 rfl ?_
  exact ⟨by decide, rfl⟩
set_option maxRecDepth 4000 in
set_option maxHeartbeats 1000000 in
theorem c_shows9_0 (np : Nat) (mem : jMem)   : jPi yX6_showsOfHalf cX6_showsOfHalf 2 .boolean 1 [.int 9, .int 0] np mem (fun v c => v = 1 ∧ c = mem) := by
  refine jPi.of (own := RX6) rfl rfl (Nat.le_of_ble_eq_true rfl) (fun G X hR hr hE => ?_)
  refine j_iload_n X dX6_showsOfHalf_0 rfl ?_
  refine j_iconst X dX6_showsOfHalf_1 2 (by decide) ?_
  refine j_iload_n X dX6_showsOfHalf_2 rfl ?_
  refine j_imul X dX6_showsOfHalf_3 ?_
  refine j_ishr X dX6_showsOfHalf_4 ?_
  refine j_iconst X dX6_showsOfHalf_5 3 (by decide) ?_
  refine j_iand X dX6_showsOfHalf_6 ?_
  refine j_if_eq X 14 dX6_showsOfHalf_7 (by decide) (fun c_7 => absurd c_7 (by decide)) (fun c_7 => ?_)
  refine j_iconst X dX6_showsOfHalf_10 1 (by decide) ?_
  refine j_goto X 15 dX6_showsOfHalf_11 (by decide) ?_
  refine s_iret X hE hr dX6_showsOfHalf_15 (by first | exact jb_nar | rfl) ?_
  first | exact ⟨rfl, rfl⟩ | (exfalso; clear hE hr hR X; (try simp only [lg_cmp_lt, lg_cmp_gt, lg_cmp_le, lg_cmp_ge] at *); (try simp (disch := omega) only [Int64.le_iff_toInt_le, Int64.lt_iff_toInt_lt, Int32.le_iff_toInt_le, Int32.lt_iff_toInt_lt, fa_eq, fa_lit, fa_litL, nI_toInt, pk_lT, Int32.toInt_toInt64, jadd64, jin, jnoneT] at *); omega)
set_option maxRecDepth 4000 in
set_option maxHeartbeats 1000000 in
theorem c_halfSize9_0 (np : Nat) (mem : jMem)   : jPi yX6_halfSize cX6_halfSize 2 .int 2 [.int 9, .int 0] np mem (fun v c => v = 2 ∧ c = mem) := by
  refine jPi.of (own := RX6) rfl rfl (Nat.le_of_ble_eq_true rfl) (fun G X hR hr hE => ?_)
  refine j_iload_n X dX6_halfSize_0 rfl ?_
  refine j_iload_n X dX6_halfSize_1 rfl ?_
  refine s_callSi X hR (c_shows9_0 np _) rfl u491 u489 u490 u14 hyX6_showsOfHalf (by decide) (by decide) (Nat.le_of_ble_eq_true rfl) dX6_halfSize_2 (fun v_2 m_2 h_2 => ?_)
  obtain ⟨e1, e2⟩ := h_2; have e1 := e1.symm; have e2 := e2.symm; subst e1; subst e2
  refine j_if_eq X 12 dX6_halfSize_5 (by decide) (fun c_5 => absurd c_5 (by decide)) (fun c_5 => ?_)
  refine j_iconst X dX6_halfSize_8 2 (by decide) ?_
  refine j_goto X 13 dX6_halfSize_9 (by decide) ?_
  refine s_iret X hE hr dX6_halfSize_13 rfl ?_
  first | exact ⟨rfl, rfl⟩ | (exfalso; clear hE hr hR X; (try simp only [lg_cmp_lt, lg_cmp_gt, lg_cmp_le, lg_cmp_ge] at *); (try simp (disch := omega) only [Int64.le_iff_toInt_le, Int64.lt_iff_toInt_lt, Int32.le_iff_toInt_le, Int32.lt_iff_toInt_lt, fa_eq, fa_lit, fa_litL, nI_toInt, pk_lT, Int32.toInt_toInt64, jadd64, jin, jnoneT] at *); omega)
set_option maxRecDepth 4000 in
set_option maxHeartbeats 1000000 in
theorem c_shows9_1 (np : Nat) (mem : jMem)   : jPi yX6_showsOfHalf cX6_showsOfHalf 2 .boolean 1 [.int 9, .int 1] np mem (fun v c => v = 1 ∧ c = mem) := by
  refine jPi.of (own := RX6) rfl rfl (Nat.le_of_ble_eq_true rfl) (fun G X hR hr hE => ?_)
  refine j_iload_n X dX6_showsOfHalf_0 rfl ?_
  refine j_iconst X dX6_showsOfHalf_1 2 (by decide) ?_
  refine j_iload_n X dX6_showsOfHalf_2 rfl ?_
  refine j_imul X dX6_showsOfHalf_3 ?_
  refine j_ishr X dX6_showsOfHalf_4 ?_
  refine j_iconst X dX6_showsOfHalf_5 3 (by decide) ?_
  refine j_iand X dX6_showsOfHalf_6 ?_
  refine j_if_eq X 14 dX6_showsOfHalf_7 (by decide) (fun c_7 => absurd c_7 (by decide)) (fun c_7 => ?_)
  refine j_iconst X dX6_showsOfHalf_10 1 (by decide) ?_
  refine j_goto X 15 dX6_showsOfHalf_11 (by decide) ?_
  refine s_iret X hE hr dX6_showsOfHalf_15 (by first | exact jb_nar | rfl) ?_
  first | exact ⟨rfl, rfl⟩ | (exfalso; clear hE hr hR X; (try simp only [lg_cmp_lt, lg_cmp_gt, lg_cmp_le, lg_cmp_ge] at *); (try simp (disch := omega) only [Int64.le_iff_toInt_le, Int64.lt_iff_toInt_lt, Int32.le_iff_toInt_le, Int32.lt_iff_toInt_lt, fa_eq, fa_lit, fa_litL, nI_toInt, pk_lT, Int32.toInt_toInt64, jadd64, jin, jnoneT] at *); omega)
set_option maxRecDepth 4000 in
set_option maxHeartbeats 1000000 in
theorem c_halfSize9_1 (np : Nat) (mem : jMem)   : jPi yX6_halfSize cX6_halfSize 2 .int 2 [.int 9, .int 1] np mem (fun v c => v = 2 ∧ c = mem) := by
  refine jPi.of (own := RX6) rfl rfl (Nat.le_of_ble_eq_true rfl) (fun G X hR hr hE => ?_)
  refine j_iload_n X dX6_halfSize_0 rfl ?_
  refine j_iload_n X dX6_halfSize_1 rfl ?_
  refine s_callSi X hR (c_shows9_1 np _) rfl u491 u489 u490 u14 hyX6_showsOfHalf (by decide) (by decide) (Nat.le_of_ble_eq_true rfl) dX6_halfSize_2 (fun v_2 m_2 h_2 => ?_)
  obtain ⟨e1, e2⟩ := h_2; have e1 := e1.symm; have e2 := e2.symm; subst e1; subst e2
  refine j_if_eq X 12 dX6_halfSize_5 (by decide) (fun c_5 => absurd c_5 (by decide)) (fun c_5 => ?_)
  refine j_iconst X dX6_halfSize_8 2 (by decide) ?_
  refine j_goto X 13 dX6_halfSize_9 (by decide) ?_
  refine s_iret X hE hr dX6_halfSize_13 rfl ?_
  first | exact ⟨rfl, rfl⟩ | (exfalso; clear hE hr hR X; (try simp only [lg_cmp_lt, lg_cmp_gt, lg_cmp_le, lg_cmp_ge] at *); (try simp (disch := omega) only [Int64.le_iff_toInt_le, Int64.lt_iff_toInt_lt, Int32.le_iff_toInt_le, Int32.lt_iff_toInt_lt, fa_eq, fa_lit, fa_litL, nI_toInt, pk_lT, Int32.toInt_toInt64, jadd64, jin, jnoneT] at *); omega)
set_option maxRecDepth 4000 in
set_option maxHeartbeats 1000000 in
theorem c_showingSize9 (np : Nat) (mem : jMem)   : jPi yX6_showingSize cX6_showingSize 1 .int 3 [.int 9] np mem (fun v c => v = 4 ∧ c = mem) := by
  refine jPi.of (own := RX6) rfl rfl (Nat.le_of_ble_eq_true rfl) (fun G X hR hr hE => ?_)
  refine j_iload_n X dX6_showingSize_0 rfl ?_
  refine j_iconst X dX6_showingSize_1 0 (by decide) ?_
  refine s_callSi X hR (c_halfSize9_0 np _) rfl u501 u499 u500 u14 hyX6_halfSize (by decide) (by decide) (Nat.le_of_ble_eq_true rfl) dX6_showingSize_2 (fun v_2 m_2 h_2 => ?_)
  obtain ⟨e1, e2⟩ := h_2; have e1 := e1.symm; have e2 := e2.symm; subst e1; subst e2
  refine j_iload_n X dX6_showingSize_5 rfl ?_
  refine j_iconst X dX6_showingSize_6 1 (by decide) ?_
  refine s_callSi X hR (c_halfSize9_1 np _) rfl u501 u499 u500 u14 hyX6_halfSize (by decide) (by decide) (Nat.le_of_ble_eq_true rfl) dX6_showingSize_7 (fun v_2 m_2 h_2 => ?_)
  obtain ⟨e1, e2⟩ := h_2; have e1 := e1.symm; have e2 := e2.symm; subst e1; subst e2
  refine j_iadd X dX6_showingSize_10 ?_
  refine s_iret X hE hr dX6_showingSize_11 rfl ?_
  exact ⟨by decide, rfl⟩
set_option maxRecDepth 4000 in
set_option maxHeartbeats 1000000 in
theorem c_shownOf9_0 (np : Nat) (mem : jMem) (p : Nat) (F : Nat → Int32) (hp : p < np) (hN : mem (92 + 2 * p) 0 = nI p) (hF : mem (93 + 2 * p) = F) : jPi yX6_shownOf cX6_shownOf 3 .int 3 [.ref (92 + 2 * p), .int 9, .int 0] np mem (fun v c => v = F 0 ∧ c = mem) := by
  refine jPi.of (own := RX6) rfl rfl (Nat.le_of_ble_eq_true rfl) (fun G X hR hr hE => ?_)
  refine j_iload_n X dX6_shownOf_0 rfl ?_
  refine j_iload_n X dX6_shownOf_1 rfl ?_
  refine s_callNi X hR (c_hasBit np _ _ _) rfl u498 (by decide) u497 u1 hyX10_hasBit (by decide) (by decide) (Nat.le_of_ble_eq_true rfl) dX6_shownOf_2 (fun v_2 m_2 h_2 => ?_)
  obtain ⟨e1, e2⟩ := h_2; have e1 := e1.symm; have e2 := e2.symm; subst e1; subst e2
  refine j_ifb_eq X 17 dX6_shownOf_5 (by decide) (fun c_5 => absurd c_5 (by decide)) (fun c_5 => ?_)
  refine j_aload_n X dX6_shownOf_8 rfl ?_
  refine j_getR X 6 6 (by decide) (by decide) rfl u405 (oP np (by omega)) (kP np _) _ (pP_f np _) dX6_shownOf_9 ?_
  refine j_iload_n X dX6_shownOf_12 rfl ?_
  refine j_nrm _ (by first | (simp only [fa_lit, pk_mul, nI_add]; done) | (simp only [fa_lit, pk_mul, nI_add]; rfl) | rfl) ?_
  refine j_ialdN X (oPf np (by omega)) (kPf np _) (by rw [lPf]; omega) (by rw [lPf]; decide) F hF dX6_shownOf_13 ?_
  refine j_goto X 22 dX6_shownOf_14 (by decide) ?_
  refine s_iret X hE hr dX6_shownOf_22 rfl ?_
  first | exact ⟨rfl, rfl⟩ | (exfalso; clear hE hr hR X; (try simp only [lg_cmp_lt, lg_cmp_gt, lg_cmp_le, lg_cmp_ge] at *); (try simp (disch := omega) only [Int64.le_iff_toInt_le, Int64.lt_iff_toInt_lt, Int32.le_iff_toInt_le, Int32.lt_iff_toInt_lt, fa_eq, fa_lit, fa_litL, nI_toInt, pk_lT, Int32.toInt_toInt64, jadd64, jin, jnoneT] at *); omega)
set_option maxRecDepth 4000 in
set_option maxHeartbeats 1000000 in
theorem c_shownOf9_1 (np : Nat) (mem : jMem) (p : Nat) (F : Nat → Int32) (hp : p < np) (hN : mem (92 + 2 * p) 0 = nI p) (hF : mem (93 + 2 * p) = F) : jPi yX6_shownOf cX6_shownOf 3 .int 3 [.ref (92 + 2 * p), .int 9, .int 1] np mem (fun v c => v = (jLeaf (nI p) 1 (F 1)) ∧ c = mem) := by
  refine jPi.of (own := RX6) rfl rfl (Nat.le_of_ble_eq_true rfl) (fun G X hR hr hE => ?_)
  refine j_iload_n X dX6_shownOf_0 rfl ?_
  refine j_iload_n X dX6_shownOf_1 rfl ?_
  refine s_callNi X hR (c_hasBit np _ _ _) rfl u498 (by decide) u497 u1 hyX10_hasBit (by decide) (by decide) (Nat.le_of_ble_eq_true rfl) dX6_shownOf_2 (fun v_2 m_2 h_2 => ?_)
  obtain ⟨e1, e2⟩ := h_2; have e1 := e1.symm; have e2 := e2.symm; subst e1; subst e2
  refine j_ifb_eq X 17 dX6_shownOf_5 (by decide) (fun c_5 => ?_) (fun c_5 => absurd c_5 (by decide))
  refine j_aload_n X dX6_shownOf_17 rfl ?_
  refine j_iload_n X dX6_shownOf_18 rfl ?_
  refine s_callVi X hR (c_leaf1 np _ p F hp hN hF) rfl 6 (by decide) (oP np (by omega)) (kP np _) rfl u456 u453 u454 u455 u14 hyX6_leaf (by decide) (by decide) (Nat.le_of_ble_eq_true rfl) dX6_shownOf_19 (fun v_19 m_19 h_19 => ?_)
  obtain ⟨e1, e2⟩ := h_19; have e1 := e1.symm; have e2 := e2.symm; subst e1; subst e2
  refine s_iret X hE hr dX6_shownOf_22 rfl ?_
  first | exact ⟨rfl, rfl⟩ | (exfalso; clear hE hr hR X; (try simp only [lg_cmp_lt, lg_cmp_gt, lg_cmp_le, lg_cmp_ge] at *); (try simp (disch := omega) only [Int64.le_iff_toInt_le, Int64.lt_iff_toInt_lt, Int32.le_iff_toInt_le, Int32.lt_iff_toInt_lt, fa_eq, fa_lit, fa_litL, nI_toInt, pk_lT, Int32.toInt_toInt64, jadd64, jin, jnoneT] at *); omega)
set_option maxRecDepth 4000 in
set_option maxHeartbeats 1000000 in
theorem c_shownOf9_2 (np : Nat) (mem : jMem) (p : Nat) (F : Nat → Int32) (hp : p < np) (hN : mem (92 + 2 * p) 0 = nI p) (hF : mem (93 + 2 * p) = F) : jPi yX6_shownOf cX6_shownOf 3 .int 3 [.ref (92 + 2 * p), .int 9, .int 2] np mem (fun v c => v = (jLeaf (nI p) 2 (F 2)) ∧ c = mem) := by
  refine jPi.of (own := RX6) rfl rfl (Nat.le_of_ble_eq_true rfl) (fun G X hR hr hE => ?_)
  refine j_iload_n X dX6_shownOf_0 rfl ?_
  refine j_iload_n X dX6_shownOf_1 rfl ?_
  refine s_callNi X hR (c_hasBit np _ _ _) rfl u498 (by decide) u497 u1 hyX10_hasBit (by decide) (by decide) (Nat.le_of_ble_eq_true rfl) dX6_shownOf_2 (fun v_2 m_2 h_2 => ?_)
  obtain ⟨e1, e2⟩ := h_2; have e1 := e1.symm; have e2 := e2.symm; subst e1; subst e2
  refine j_ifb_eq X 17 dX6_shownOf_5 (by decide) (fun c_5 => ?_) (fun c_5 => absurd c_5 (by decide))
  refine j_aload_n X dX6_shownOf_17 rfl ?_
  refine j_iload_n X dX6_shownOf_18 rfl ?_
  refine s_callVi X hR (c_leaf2 np _ p F hp hN hF) rfl 6 (by decide) (oP np (by omega)) (kP np _) rfl u456 u453 u454 u455 u14 hyX6_leaf (by decide) (by decide) (Nat.le_of_ble_eq_true rfl) dX6_shownOf_19 (fun v_19 m_19 h_19 => ?_)
  obtain ⟨e1, e2⟩ := h_19; have e1 := e1.symm; have e2 := e2.symm; subst e1; subst e2
  refine s_iret X hE hr dX6_shownOf_22 rfl ?_
  first | exact ⟨rfl, rfl⟩ | (exfalso; clear hE hr hR X; (try simp only [lg_cmp_lt, lg_cmp_gt, lg_cmp_le, lg_cmp_ge] at *); (try simp (disch := omega) only [Int64.le_iff_toInt_le, Int64.lt_iff_toInt_lt, Int32.le_iff_toInt_le, Int32.lt_iff_toInt_lt, fa_eq, fa_lit, fa_litL, nI_toInt, pk_lT, Int32.toInt_toInt64, jadd64, jin, jnoneT] at *); omega)
set_option maxRecDepth 4000 in
set_option maxHeartbeats 1000000 in
theorem c_shownOf9_3 (np : Nat) (mem : jMem) (p : Nat) (F : Nat → Int32) (hp : p < np) (hN : mem (92 + 2 * p) 0 = nI p) (hF : mem (93 + 2 * p) = F) : jPi yX6_shownOf cX6_shownOf 3 .int 3 [.ref (92 + 2 * p), .int 9, .int 3] np mem (fun v c => v = F 3 ∧ c = mem) := by
  refine jPi.of (own := RX6) rfl rfl (Nat.le_of_ble_eq_true rfl) (fun G X hR hr hE => ?_)
  refine j_iload_n X dX6_shownOf_0 rfl ?_
  refine j_iload_n X dX6_shownOf_1 rfl ?_
  refine s_callNi X hR (c_hasBit np _ _ _) rfl u498 (by decide) u497 u1 hyX10_hasBit (by decide) (by decide) (Nat.le_of_ble_eq_true rfl) dX6_shownOf_2 (fun v_2 m_2 h_2 => ?_)
  obtain ⟨e1, e2⟩ := h_2; have e1 := e1.symm; have e2 := e2.symm; subst e1; subst e2
  refine j_ifb_eq X 17 dX6_shownOf_5 (by decide) (fun c_5 => absurd c_5 (by decide)) (fun c_5 => ?_)
  refine j_aload_n X dX6_shownOf_8 rfl ?_
  refine j_getR X 6 6 (by decide) (by decide) rfl u405 (oP np (by omega)) (kP np _) _ (pP_f np _) dX6_shownOf_9 ?_
  refine j_iload_n X dX6_shownOf_12 rfl ?_
  refine j_nrm _ (by first | (simp only [fa_lit, pk_mul, nI_add]; done) | (simp only [fa_lit, pk_mul, nI_add]; rfl) | rfl) ?_
  refine j_ialdN X (oPf np (by omega)) (kPf np _) (by rw [lPf]; omega) (by rw [lPf]; decide) F hF dX6_shownOf_13 ?_
  refine j_goto X 22 dX6_shownOf_14 (by decide) ?_
  refine s_iret X hE hr dX6_shownOf_22 rfl ?_
  first | exact ⟨rfl, rfl⟩ | (exfalso; clear hE hr hR X; (try simp only [lg_cmp_lt, lg_cmp_gt, lg_cmp_le, lg_cmp_ge] at *); (try simp (disch := omega) only [Int64.le_iff_toInt_le, Int64.lt_iff_toInt_lt, Int32.le_iff_toInt_le, Int32.lt_iff_toInt_lt, fa_eq, fa_lit, fa_litL, nI_toInt, pk_lT, Int32.toInt_toInt64, jadd64, jin, jnoneT] at *); omega)
set_option maxRecDepth 4000 in
set_option maxHeartbeats 1000000 in
theorem c_fillShowing9 (np : Nat) (mem : jMem) (p : Nat) (F : Nat → Int32) (hp : p < np) (hN : mem (92 + 2 * p) 0 = nI p) (hF : mem (93 + 2 * p) = F) : jPi yX6_fillShowing cX6_fillShowing 5 .int 4 [.ref (92 + 2 * p), .int 9, .ref 65] np mem (fun v c => v = 4 ∧ c = jup (jup (jup (jup (mem) 65 0 (F 0)) 65 1 (jLeaf (nI p) 1 (F 1))) 65 2 (jLeaf (nI p) 2 (F 2))) 65 3 (F 3)) := by
  refine jPi.of (own := RX6) rfl rfl (Nat.le_of_ble_eq_true rfl) (fun G X hR hr hE => ?_)
  refine j_iconst X dX6_fillShowing_0 0 (by decide) ?_
  refine j_istore_n X dX6_fillShowing_1 (by decide) ?_
  refine j_iconst X dX6_fillShowing_2 0 (by decide) ?_
  refine j_istore X dX6_fillShowing_3 (by decide) ?_
  refine j_iload X dX6_fillShowing_5 rfl ?_
  refine j_iconst X dX6_fillShowing_7 2 (by decide) ?_
  refine j_icmp_ge X 75 dX6_fillShowing_8 (by decide) (fun c_8 => absurd c_8 (by decide)) (fun c_8 => ?_)
  refine j_iload_n X dX6_fillShowing_11 rfl ?_
  refine j_iload X dX6_fillShowing_12 rfl ?_
  refine s_callSi X hR (c_shows9_0 np _) rfl u491 u489 u490 u14 hyX6_showsOfHalf (by decide) (by decide) (Nat.le_of_ble_eq_true rfl) dX6_fillShowing_14 (fun v_2 m_2 h_2 => ?_)
  obtain ⟨e1, e2⟩ := h_2; have e1 := e1.symm; have e2 := e2.symm; subst e1; subst e2
  refine j_if_eq X 51 dX6_fillShowing_17 (by decide) (fun c_17 => absurd c_17 (by decide)) (fun c_17 => ?_)
  refine j_aload_n X dX6_fillShowing_20 rfl ?_
  refine j_iload_n X dX6_fillShowing_21 rfl ?_
  refine j_aload_n X dX6_fillShowing_22 rfl ?_
  refine j_iload_n X dX6_fillShowing_23 rfl ?_
  refine j_iconst X dX6_fillShowing_24 2 (by decide) ?_
  refine j_iload X dX6_fillShowing_25 rfl ?_
  refine j_imul X dX6_fillShowing_27 ?_
  refine s_callVi X hR (c_shownOf9_0 np _ p F hp (by first | exact hN | (simp only [jup_o (show ¬ 92 + 2 * p = 65 by omega)]; exact hN)) (by first | exact hF | (simp only [jup_o (show ¬ 93 + 2 * p = 65 by omega)]; exact hF))) rfl 6 (by decide) (oP np (by omega)) (kP np _) rfl u495 u492 u494 qp4 u14 hyX6_shownOf (by decide) (by decide) (Nat.le_of_ble_eq_true rfl) dX6_fillShowing_28 (fun v_28 m_28 h_28 => ?_)
  obtain ⟨e1, e2⟩ := h_28; have e1 := e1.symm; have e2 := e2.symm; subst e1; subst e2
  refine j_nrm2 _ (by first | (simp only [fa_lit, pk_mul, nI_add]; done) | (simp only [fa_lit, pk_mul, nI_add]; rfl) | rfl) ?_
  refine j_iastN X (o65 np) (k65 np) (by rw [l65]; omega) (by rw [l65]; decide) dX6_fillShowing_31 ?_
  refine j_aload_n X dX6_fillShowing_32 rfl ?_
  refine j_iload_n X dX6_fillShowing_33 rfl ?_
  refine j_iconst X dX6_fillShowing_34 1 (by decide) ?_
  refine j_iadd X dX6_fillShowing_35 ?_
  refine j_aload_n X dX6_fillShowing_36 rfl ?_
  refine j_iload_n X dX6_fillShowing_37 rfl ?_
  refine j_iconst X dX6_fillShowing_38 2 (by decide) ?_
  refine j_iload X dX6_fillShowing_39 rfl ?_
  refine j_imul X dX6_fillShowing_41 ?_
  refine j_iconst X dX6_fillShowing_42 1 (by decide) ?_
  refine j_iadd X dX6_fillShowing_43 ?_
  refine s_callVi X hR (c_shownOf9_1 np _ p F hp (by first | exact hN | (simp only [jup_o (show ¬ 92 + 2 * p = 65 by omega)]; exact hN)) (by first | exact hF | (simp only [jup_o (show ¬ 93 + 2 * p = 65 by omega)]; exact hF))) rfl 6 (by decide) (oP np (by omega)) (kP np _) rfl u495 u492 u494 qp4 u14 hyX6_shownOf (by decide) (by decide) (Nat.le_of_ble_eq_true rfl) dX6_fillShowing_44 (fun v_44 m_44 h_44 => ?_)
  obtain ⟨e1, e2⟩ := h_44; have e1 := e1.symm; have e2 := e2.symm; subst e1; subst e2
  refine j_nrm2 _ (by first | (simp only [fa_lit, pk_mul, nI_add]; done) | (simp only [fa_lit, pk_mul, nI_add]; rfl) | rfl) ?_
  refine j_iastN X (o65 np) (k65 np) (by rw [l65]; omega) (by rw [l65]; decide) dX6_fillShowing_47 ?_
  refine j_goto X 60 dX6_fillShowing_48 (by decide) ?_
  refine j_iload_n X dX6_fillShowing_60 rfl ?_
  refine j_iload_n X dX6_fillShowing_61 rfl ?_
  refine j_iload X dX6_fillShowing_62 rfl ?_
  refine s_callSi X hR (c_halfSize9_0 np _) rfl u501 u499 u500 u14 hyX6_halfSize (by decide) (by decide) (Nat.le_of_ble_eq_true rfl) dX6_fillShowing_64 (fun v_2 m_2 h_2 => ?_)
  obtain ⟨e1, e2⟩ := h_2; have e1 := e1.symm; have e2 := e2.symm; subst e1; subst e2
  refine j_iadd X dX6_fillShowing_67 ?_
  refine j_istore_n X dX6_fillShowing_68 (by decide) ?_
  refine j_iinc X dX6_fillShowing_69 rfl 1 rfl ?_
  refine j_goto X 5 dX6_fillShowing_72 (by decide) ?_
  refine j_iload X dX6_fillShowing_5 rfl ?_
  refine j_iconst X dX6_fillShowing_7 2 (by decide) ?_
  refine j_icmp_ge X 75 dX6_fillShowing_8 (by decide) (fun c_8 => absurd c_8 (by decide)) (fun c_8 => ?_)
  refine j_iload_n X dX6_fillShowing_11 rfl ?_
  refine j_iload X dX6_fillShowing_12 rfl ?_
  refine s_callSi X hR (c_shows9_1 np _) rfl u491 u489 u490 u14 hyX6_showsOfHalf (by decide) (by decide) (Nat.le_of_ble_eq_true rfl) dX6_fillShowing_14 (fun v_2 m_2 h_2 => ?_)
  obtain ⟨e1, e2⟩ := h_2; have e1 := e1.symm; have e2 := e2.symm; subst e1; subst e2
  refine j_if_eq X 51 dX6_fillShowing_17 (by decide) (fun c_17 => absurd c_17 (by decide)) (fun c_17 => ?_)
  refine j_aload_n X dX6_fillShowing_20 rfl ?_
  refine j_iload_n X dX6_fillShowing_21 rfl ?_
  refine j_aload_n X dX6_fillShowing_22 rfl ?_
  refine j_iload_n X dX6_fillShowing_23 rfl ?_
  refine j_iconst X dX6_fillShowing_24 2 (by decide) ?_
  refine j_iload X dX6_fillShowing_25 rfl ?_
  refine j_imul X dX6_fillShowing_27 ?_
  refine s_callVi X hR (c_shownOf9_2 np _ p F hp (by first | exact hN | (simp only [jup_o (show ¬ 92 + 2 * p = 65 by omega)]; exact hN)) (by first | exact hF | (simp only [jup_o (show ¬ 93 + 2 * p = 65 by omega)]; exact hF))) rfl 6 (by decide) (oP np (by omega)) (kP np _) rfl u495 u492 u494 qp4 u14 hyX6_shownOf (by decide) (by decide) (Nat.le_of_ble_eq_true rfl) dX6_fillShowing_28 (fun v_28 m_28 h_28 => ?_)
  obtain ⟨e1, e2⟩ := h_28; have e1 := e1.symm; have e2 := e2.symm; subst e1; subst e2
  refine j_nrm2 _ (by first | (simp only [fa_lit, pk_mul, nI_add]; done) | (simp only [fa_lit, pk_mul, nI_add]; rfl) | rfl) ?_
  refine j_iastN X (o65 np) (k65 np) (by rw [l65]; omega) (by rw [l65]; decide) dX6_fillShowing_31 ?_
  refine j_aload_n X dX6_fillShowing_32 rfl ?_
  refine j_iload_n X dX6_fillShowing_33 rfl ?_
  refine j_iconst X dX6_fillShowing_34 1 (by decide) ?_
  refine j_iadd X dX6_fillShowing_35 ?_
  refine j_aload_n X dX6_fillShowing_36 rfl ?_
  refine j_iload_n X dX6_fillShowing_37 rfl ?_
  refine j_iconst X dX6_fillShowing_38 2 (by decide) ?_
  refine j_iload X dX6_fillShowing_39 rfl ?_
  refine j_imul X dX6_fillShowing_41 ?_
  refine j_iconst X dX6_fillShowing_42 1 (by decide) ?_
  refine j_iadd X dX6_fillShowing_43 ?_
  refine s_callVi X hR (c_shownOf9_3 np _ p F hp (by first | exact hN | (simp only [jup_o (show ¬ 92 + 2 * p = 65 by omega)]; exact hN)) (by first | exact hF | (simp only [jup_o (show ¬ 93 + 2 * p = 65 by omega)]; exact hF))) rfl 6 (by decide) (oP np (by omega)) (kP np _) rfl u495 u492 u494 qp4 u14 hyX6_shownOf (by decide) (by decide) (Nat.le_of_ble_eq_true rfl) dX6_fillShowing_44 (fun v_44 m_44 h_44 => ?_)
  obtain ⟨e1, e2⟩ := h_44; have e1 := e1.symm; have e2 := e2.symm; subst e1; subst e2
  refine j_nrm2 _ (by first | (simp only [fa_lit, pk_mul, nI_add]; done) | (simp only [fa_lit, pk_mul, nI_add]; rfl) | rfl) ?_
  refine j_iastN X (o65 np) (k65 np) (by rw [l65]; omega) (by rw [l65]; decide) dX6_fillShowing_47 ?_
  refine j_goto X 60 dX6_fillShowing_48 (by decide) ?_
  refine j_iload_n X dX6_fillShowing_60 rfl ?_
  refine j_iload_n X dX6_fillShowing_61 rfl ?_
  refine j_iload X dX6_fillShowing_62 rfl ?_
  refine s_callSi X hR (c_halfSize9_1 np _) rfl u501 u499 u500 u14 hyX6_halfSize (by decide) (by decide) (Nat.le_of_ble_eq_true rfl) dX6_fillShowing_64 (fun v_2 m_2 h_2 => ?_)
  obtain ⟨e1, e2⟩ := h_2; have e1 := e1.symm; have e2 := e2.symm; subst e1; subst e2
  refine j_iadd X dX6_fillShowing_67 ?_
  refine j_istore_n X dX6_fillShowing_68 (by decide) ?_
  refine j_iinc X dX6_fillShowing_69 rfl 1 rfl ?_
  refine j_goto X 5 dX6_fillShowing_72 (by decide) ?_
  refine j_iload X dX6_fillShowing_5 rfl ?_
  refine j_iconst X dX6_fillShowing_7 2 (by decide) ?_
  refine j_icmp_ge X 75 dX6_fillShowing_8 (by decide) (fun c_8 => ?_) (fun c_8 => absurd c_8 (by decide))
  refine j_iload_n X dX6_fillShowing_75 rfl ?_
  refine s_iret X hE hr dX6_fillShowing_76 rfl ?_
  exact ⟨by decide, rfl⟩
set_option maxRecDepth 4000 in
set_option maxHeartbeats 1000000 in
theorem c_shows10_0 (np : Nat) (mem : jMem)   : jPi yX6_showsOfHalf cX6_showsOfHalf 2 .boolean 1 [.int 10, .int 0] np mem (fun v c => v = 1 ∧ c = mem) := by
  refine jPi.of (own := RX6) rfl rfl (Nat.le_of_ble_eq_true rfl) (fun G X hR hr hE => ?_)
  refine j_iload_n X dX6_showsOfHalf_0 rfl ?_
  refine j_iconst X dX6_showsOfHalf_1 2 (by decide) ?_
  refine j_iload_n X dX6_showsOfHalf_2 rfl ?_
  refine j_imul X dX6_showsOfHalf_3 ?_
  refine j_ishr X dX6_showsOfHalf_4 ?_
  refine j_iconst X dX6_showsOfHalf_5 3 (by decide) ?_
  refine j_iand X dX6_showsOfHalf_6 ?_
  refine j_if_eq X 14 dX6_showsOfHalf_7 (by decide) (fun c_7 => absurd c_7 (by decide)) (fun c_7 => ?_)
  refine j_iconst X dX6_showsOfHalf_10 1 (by decide) ?_
  refine j_goto X 15 dX6_showsOfHalf_11 (by decide) ?_
  refine s_iret X hE hr dX6_showsOfHalf_15 (by first | exact jb_nar | rfl) ?_
  first | exact ⟨rfl, rfl⟩ | (exfalso; clear hE hr hR X; (try simp only [lg_cmp_lt, lg_cmp_gt, lg_cmp_le, lg_cmp_ge] at *); (try simp (disch := omega) only [Int64.le_iff_toInt_le, Int64.lt_iff_toInt_lt, Int32.le_iff_toInt_le, Int32.lt_iff_toInt_lt, fa_eq, fa_lit, fa_litL, nI_toInt, pk_lT, Int32.toInt_toInt64, jadd64, jin, jnoneT] at *); omega)
set_option maxRecDepth 4000 in
set_option maxHeartbeats 1000000 in
theorem c_halfSize10_0 (np : Nat) (mem : jMem)   : jPi yX6_halfSize cX6_halfSize 2 .int 2 [.int 10, .int 0] np mem (fun v c => v = 2 ∧ c = mem) := by
  refine jPi.of (own := RX6) rfl rfl (Nat.le_of_ble_eq_true rfl) (fun G X hR hr hE => ?_)
  refine j_iload_n X dX6_halfSize_0 rfl ?_
  refine j_iload_n X dX6_halfSize_1 rfl ?_
  refine s_callSi X hR (c_shows10_0 np _) rfl u491 u489 u490 u14 hyX6_showsOfHalf (by decide) (by decide) (Nat.le_of_ble_eq_true rfl) dX6_halfSize_2 (fun v_2 m_2 h_2 => ?_)
  obtain ⟨e1, e2⟩ := h_2; have e1 := e1.symm; have e2 := e2.symm; subst e1; subst e2
  refine j_if_eq X 12 dX6_halfSize_5 (by decide) (fun c_5 => absurd c_5 (by decide)) (fun c_5 => ?_)
  refine j_iconst X dX6_halfSize_8 2 (by decide) ?_
  refine j_goto X 13 dX6_halfSize_9 (by decide) ?_
  refine s_iret X hE hr dX6_halfSize_13 rfl ?_
  first | exact ⟨rfl, rfl⟩ | (exfalso; clear hE hr hR X; (try simp only [lg_cmp_lt, lg_cmp_gt, lg_cmp_le, lg_cmp_ge] at *); (try simp (disch := omega) only [Int64.le_iff_toInt_le, Int64.lt_iff_toInt_lt, Int32.le_iff_toInt_le, Int32.lt_iff_toInt_lt, fa_eq, fa_lit, fa_litL, nI_toInt, pk_lT, Int32.toInt_toInt64, jadd64, jin, jnoneT] at *); omega)
set_option maxRecDepth 4000 in
set_option maxHeartbeats 1000000 in
theorem c_shows10_1 (np : Nat) (mem : jMem)   : jPi yX6_showsOfHalf cX6_showsOfHalf 2 .boolean 1 [.int 10, .int 1] np mem (fun v c => v = 1 ∧ c = mem) := by
  refine jPi.of (own := RX6) rfl rfl (Nat.le_of_ble_eq_true rfl) (fun G X hR hr hE => ?_)
  refine j_iload_n X dX6_showsOfHalf_0 rfl ?_
  refine j_iconst X dX6_showsOfHalf_1 2 (by decide) ?_
  refine j_iload_n X dX6_showsOfHalf_2 rfl ?_
  refine j_imul X dX6_showsOfHalf_3 ?_
  refine j_ishr X dX6_showsOfHalf_4 ?_
  refine j_iconst X dX6_showsOfHalf_5 3 (by decide) ?_
  refine j_iand X dX6_showsOfHalf_6 ?_
  refine j_if_eq X 14 dX6_showsOfHalf_7 (by decide) (fun c_7 => absurd c_7 (by decide)) (fun c_7 => ?_)
  refine j_iconst X dX6_showsOfHalf_10 1 (by decide) ?_
  refine j_goto X 15 dX6_showsOfHalf_11 (by decide) ?_
  refine s_iret X hE hr dX6_showsOfHalf_15 (by first | exact jb_nar | rfl) ?_
  first | exact ⟨rfl, rfl⟩ | (exfalso; clear hE hr hR X; (try simp only [lg_cmp_lt, lg_cmp_gt, lg_cmp_le, lg_cmp_ge] at *); (try simp (disch := omega) only [Int64.le_iff_toInt_le, Int64.lt_iff_toInt_lt, Int32.le_iff_toInt_le, Int32.lt_iff_toInt_lt, fa_eq, fa_lit, fa_litL, nI_toInt, pk_lT, Int32.toInt_toInt64, jadd64, jin, jnoneT] at *); omega)
set_option maxRecDepth 4000 in
set_option maxHeartbeats 1000000 in
theorem c_halfSize10_1 (np : Nat) (mem : jMem)   : jPi yX6_halfSize cX6_halfSize 2 .int 2 [.int 10, .int 1] np mem (fun v c => v = 2 ∧ c = mem) := by
  refine jPi.of (own := RX6) rfl rfl (Nat.le_of_ble_eq_true rfl) (fun G X hR hr hE => ?_)
  refine j_iload_n X dX6_halfSize_0 rfl ?_
  refine j_iload_n X dX6_halfSize_1 rfl ?_
  refine s_callSi X hR (c_shows10_1 np _) rfl u491 u489 u490 u14 hyX6_showsOfHalf (by decide) (by decide) (Nat.le_of_ble_eq_true rfl) dX6_halfSize_2 (fun v_2 m_2 h_2 => ?_)
  obtain ⟨e1, e2⟩ := h_2; have e1 := e1.symm; have e2 := e2.symm; subst e1; subst e2
  refine j_if_eq X 12 dX6_halfSize_5 (by decide) (fun c_5 => absurd c_5 (by decide)) (fun c_5 => ?_)
  refine j_iconst X dX6_halfSize_8 2 (by decide) ?_
  refine j_goto X 13 dX6_halfSize_9 (by decide) ?_
  refine s_iret X hE hr dX6_halfSize_13 rfl ?_
  first | exact ⟨rfl, rfl⟩ | (exfalso; clear hE hr hR X; (try simp only [lg_cmp_lt, lg_cmp_gt, lg_cmp_le, lg_cmp_ge] at *); (try simp (disch := omega) only [Int64.le_iff_toInt_le, Int64.lt_iff_toInt_lt, Int32.le_iff_toInt_le, Int32.lt_iff_toInt_lt, fa_eq, fa_lit, fa_litL, nI_toInt, pk_lT, Int32.toInt_toInt64, jadd64, jin, jnoneT] at *); omega)
set_option maxRecDepth 4000 in
set_option maxHeartbeats 1000000 in
theorem c_showingSize10 (np : Nat) (mem : jMem)   : jPi yX6_showingSize cX6_showingSize 1 .int 3 [.int 10] np mem (fun v c => v = 4 ∧ c = mem) := by
  refine jPi.of (own := RX6) rfl rfl (Nat.le_of_ble_eq_true rfl) (fun G X hR hr hE => ?_)
  refine j_iload_n X dX6_showingSize_0 rfl ?_
  refine j_iconst X dX6_showingSize_1 0 (by decide) ?_
  refine s_callSi X hR (c_halfSize10_0 np _) rfl u501 u499 u500 u14 hyX6_halfSize (by decide) (by decide) (Nat.le_of_ble_eq_true rfl) dX6_showingSize_2 (fun v_2 m_2 h_2 => ?_)
  obtain ⟨e1, e2⟩ := h_2; have e1 := e1.symm; have e2 := e2.symm; subst e1; subst e2
  refine j_iload_n X dX6_showingSize_5 rfl ?_
  refine j_iconst X dX6_showingSize_6 1 (by decide) ?_
  refine s_callSi X hR (c_halfSize10_1 np _) rfl u501 u499 u500 u14 hyX6_halfSize (by decide) (by decide) (Nat.le_of_ble_eq_true rfl) dX6_showingSize_7 (fun v_2 m_2 h_2 => ?_)
  obtain ⟨e1, e2⟩ := h_2; have e1 := e1.symm; have e2 := e2.symm; subst e1; subst e2
  refine j_iadd X dX6_showingSize_10 ?_
  refine s_iret X hE hr dX6_showingSize_11 rfl ?_
  exact ⟨by decide, rfl⟩
set_option maxRecDepth 4000 in
set_option maxHeartbeats 1000000 in
theorem c_shownOf10_0 (np : Nat) (mem : jMem) (p : Nat) (F : Nat → Int32) (hp : p < np) (hN : mem (92 + 2 * p) 0 = nI p) (hF : mem (93 + 2 * p) = F) : jPi yX6_shownOf cX6_shownOf 3 .int 3 [.ref (92 + 2 * p), .int 10, .int 0] np mem (fun v c => v = (jLeaf (nI p) 0 (F 0)) ∧ c = mem) := by
  refine jPi.of (own := RX6) rfl rfl (Nat.le_of_ble_eq_true rfl) (fun G X hR hr hE => ?_)
  refine j_iload_n X dX6_shownOf_0 rfl ?_
  refine j_iload_n X dX6_shownOf_1 rfl ?_
  refine s_callNi X hR (c_hasBit np _ _ _) rfl u498 (by decide) u497 u1 hyX10_hasBit (by decide) (by decide) (Nat.le_of_ble_eq_true rfl) dX6_shownOf_2 (fun v_2 m_2 h_2 => ?_)
  obtain ⟨e1, e2⟩ := h_2; have e1 := e1.symm; have e2 := e2.symm; subst e1; subst e2
  refine j_ifb_eq X 17 dX6_shownOf_5 (by decide) (fun c_5 => ?_) (fun c_5 => absurd c_5 (by decide))
  refine j_aload_n X dX6_shownOf_17 rfl ?_
  refine j_iload_n X dX6_shownOf_18 rfl ?_
  refine s_callVi X hR (c_leaf0 np _ p F hp hN hF) rfl 6 (by decide) (oP np (by omega)) (kP np _) rfl u456 u453 u454 u455 u14 hyX6_leaf (by decide) (by decide) (Nat.le_of_ble_eq_true rfl) dX6_shownOf_19 (fun v_19 m_19 h_19 => ?_)
  obtain ⟨e1, e2⟩ := h_19; have e1 := e1.symm; have e2 := e2.symm; subst e1; subst e2
  refine s_iret X hE hr dX6_shownOf_22 rfl ?_
  first | exact ⟨rfl, rfl⟩ | (exfalso; clear hE hr hR X; (try simp only [lg_cmp_lt, lg_cmp_gt, lg_cmp_le, lg_cmp_ge] at *); (try simp (disch := omega) only [Int64.le_iff_toInt_le, Int64.lt_iff_toInt_lt, Int32.le_iff_toInt_le, Int32.lt_iff_toInt_lt, fa_eq, fa_lit, fa_litL, nI_toInt, pk_lT, Int32.toInt_toInt64, jadd64, jin, jnoneT] at *); omega)
set_option maxRecDepth 4000 in
set_option maxHeartbeats 1000000 in
theorem c_shownOf10_1 (np : Nat) (mem : jMem) (p : Nat) (F : Nat → Int32) (hp : p < np) (hN : mem (92 + 2 * p) 0 = nI p) (hF : mem (93 + 2 * p) = F) : jPi yX6_shownOf cX6_shownOf 3 .int 3 [.ref (92 + 2 * p), .int 10, .int 1] np mem (fun v c => v = F 1 ∧ c = mem) := by
  refine jPi.of (own := RX6) rfl rfl (Nat.le_of_ble_eq_true rfl) (fun G X hR hr hE => ?_)
  refine j_iload_n X dX6_shownOf_0 rfl ?_
  refine j_iload_n X dX6_shownOf_1 rfl ?_
  refine s_callNi X hR (c_hasBit np _ _ _) rfl u498 (by decide) u497 u1 hyX10_hasBit (by decide) (by decide) (Nat.le_of_ble_eq_true rfl) dX6_shownOf_2 (fun v_2 m_2 h_2 => ?_)
  obtain ⟨e1, e2⟩ := h_2; have e1 := e1.symm; have e2 := e2.symm; subst e1; subst e2
  refine j_ifb_eq X 17 dX6_shownOf_5 (by decide) (fun c_5 => absurd c_5 (by decide)) (fun c_5 => ?_)
  refine j_aload_n X dX6_shownOf_8 rfl ?_
  refine j_getR X 6 6 (by decide) (by decide) rfl u405 (oP np (by omega)) (kP np _) _ (pP_f np _) dX6_shownOf_9 ?_
  refine j_iload_n X dX6_shownOf_12 rfl ?_
  refine j_nrm _ (by first | (simp only [fa_lit, pk_mul, nI_add]; done) | (simp only [fa_lit, pk_mul, nI_add]; rfl) | rfl) ?_
  refine j_ialdN X (oPf np (by omega)) (kPf np _) (by rw [lPf]; omega) (by rw [lPf]; decide) F hF dX6_shownOf_13 ?_
  refine j_goto X 22 dX6_shownOf_14 (by decide) ?_
  refine s_iret X hE hr dX6_shownOf_22 rfl ?_
  first | exact ⟨rfl, rfl⟩ | (exfalso; clear hE hr hR X; (try simp only [lg_cmp_lt, lg_cmp_gt, lg_cmp_le, lg_cmp_ge] at *); (try simp (disch := omega) only [Int64.le_iff_toInt_le, Int64.lt_iff_toInt_lt, Int32.le_iff_toInt_le, Int32.lt_iff_toInt_lt, fa_eq, fa_lit, fa_litL, nI_toInt, pk_lT, Int32.toInt_toInt64, jadd64, jin, jnoneT] at *); omega)
set_option maxRecDepth 4000 in
set_option maxHeartbeats 1000000 in
theorem c_shownOf10_2 (np : Nat) (mem : jMem) (p : Nat) (F : Nat → Int32) (hp : p < np) (hN : mem (92 + 2 * p) 0 = nI p) (hF : mem (93 + 2 * p) = F) : jPi yX6_shownOf cX6_shownOf 3 .int 3 [.ref (92 + 2 * p), .int 10, .int 2] np mem (fun v c => v = (jLeaf (nI p) 2 (F 2)) ∧ c = mem) := by
  refine jPi.of (own := RX6) rfl rfl (Nat.le_of_ble_eq_true rfl) (fun G X hR hr hE => ?_)
  refine j_iload_n X dX6_shownOf_0 rfl ?_
  refine j_iload_n X dX6_shownOf_1 rfl ?_
  refine s_callNi X hR (c_hasBit np _ _ _) rfl u498 (by decide) u497 u1 hyX10_hasBit (by decide) (by decide) (Nat.le_of_ble_eq_true rfl) dX6_shownOf_2 (fun v_2 m_2 h_2 => ?_)
  obtain ⟨e1, e2⟩ := h_2; have e1 := e1.symm; have e2 := e2.symm; subst e1; subst e2
  refine j_ifb_eq X 17 dX6_shownOf_5 (by decide) (fun c_5 => ?_) (fun c_5 => absurd c_5 (by decide))
  refine j_aload_n X dX6_shownOf_17 rfl ?_
  refine j_iload_n X dX6_shownOf_18 rfl ?_
  refine s_callVi X hR (c_leaf2 np _ p F hp hN hF) rfl 6 (by decide) (oP np (by omega)) (kP np _) rfl u456 u453 u454 u455 u14 hyX6_leaf (by decide) (by decide) (Nat.le_of_ble_eq_true rfl) dX6_shownOf_19 (fun v_19 m_19 h_19 => ?_)
  obtain ⟨e1, e2⟩ := h_19; have e1 := e1.symm; have e2 := e2.symm; subst e1; subst e2
  refine s_iret X hE hr dX6_shownOf_22 rfl ?_
  first | exact ⟨rfl, rfl⟩ | (exfalso; clear hE hr hR X; (try simp only [lg_cmp_lt, lg_cmp_gt, lg_cmp_le, lg_cmp_ge] at *); (try simp (disch := omega) only [Int64.le_iff_toInt_le, Int64.lt_iff_toInt_lt, Int32.le_iff_toInt_le, Int32.lt_iff_toInt_lt, fa_eq, fa_lit, fa_litL, nI_toInt, pk_lT, Int32.toInt_toInt64, jadd64, jin, jnoneT] at *); omega)
set_option maxRecDepth 4000 in
set_option maxHeartbeats 1000000 in
theorem c_shownOf10_3 (np : Nat) (mem : jMem) (p : Nat) (F : Nat → Int32) (hp : p < np) (hN : mem (92 + 2 * p) 0 = nI p) (hF : mem (93 + 2 * p) = F) : jPi yX6_shownOf cX6_shownOf 3 .int 3 [.ref (92 + 2 * p), .int 10, .int 3] np mem (fun v c => v = F 3 ∧ c = mem) := by
  refine jPi.of (own := RX6) rfl rfl (Nat.le_of_ble_eq_true rfl) (fun G X hR hr hE => ?_)
  refine j_iload_n X dX6_shownOf_0 rfl ?_
  refine j_iload_n X dX6_shownOf_1 rfl ?_
  refine s_callNi X hR (c_hasBit np _ _ _) rfl u498 (by decide) u497 u1 hyX10_hasBit (by decide) (by decide) (Nat.le_of_ble_eq_true rfl) dX6_shownOf_2 (fun v_2 m_2 h_2 => ?_)
  obtain ⟨e1, e2⟩ := h_2; have e1 := e1.symm; have e2 := e2.symm; subst e1; subst e2
  refine j_ifb_eq X 17 dX6_shownOf_5 (by decide) (fun c_5 => absurd c_5 (by decide)) (fun c_5 => ?_)
  refine j_aload_n X dX6_shownOf_8 rfl ?_
  refine j_getR X 6 6 (by decide) (by decide) rfl u405 (oP np (by omega)) (kP np _) _ (pP_f np _) dX6_shownOf_9 ?_
  refine j_iload_n X dX6_shownOf_12 rfl ?_
  refine j_nrm _ (by first | (simp only [fa_lit, pk_mul, nI_add]; done) | (simp only [fa_lit, pk_mul, nI_add]; rfl) | rfl) ?_
  refine j_ialdN X (oPf np (by omega)) (kPf np _) (by rw [lPf]; omega) (by rw [lPf]; decide) F hF dX6_shownOf_13 ?_
  refine j_goto X 22 dX6_shownOf_14 (by decide) ?_
  refine s_iret X hE hr dX6_shownOf_22 rfl ?_
  first | exact ⟨rfl, rfl⟩ | (exfalso; clear hE hr hR X; (try simp only [lg_cmp_lt, lg_cmp_gt, lg_cmp_le, lg_cmp_ge] at *); (try simp (disch := omega) only [Int64.le_iff_toInt_le, Int64.lt_iff_toInt_lt, Int32.le_iff_toInt_le, Int32.lt_iff_toInt_lt, fa_eq, fa_lit, fa_litL, nI_toInt, pk_lT, Int32.toInt_toInt64, jadd64, jin, jnoneT] at *); omega)
set_option maxRecDepth 4000 in
set_option maxHeartbeats 1000000 in
theorem c_fillShowing10 (np : Nat) (mem : jMem) (p : Nat) (F : Nat → Int32) (hp : p < np) (hN : mem (92 + 2 * p) 0 = nI p) (hF : mem (93 + 2 * p) = F) : jPi yX6_fillShowing cX6_fillShowing 5 .int 4 [.ref (92 + 2 * p), .int 10, .ref 65] np mem (fun v c => v = 4 ∧ c = jup (jup (jup (jup (mem) 65 0 (jLeaf (nI p) 0 (F 0))) 65 1 (F 1)) 65 2 (jLeaf (nI p) 2 (F 2))) 65 3 (F 3)) := by
  refine jPi.of (own := RX6) rfl rfl (Nat.le_of_ble_eq_true rfl) (fun G X hR hr hE => ?_)
  refine j_iconst X dX6_fillShowing_0 0 (by decide) ?_
  refine j_istore_n X dX6_fillShowing_1 (by decide) ?_
  refine j_iconst X dX6_fillShowing_2 0 (by decide) ?_
  refine j_istore X dX6_fillShowing_3 (by decide) ?_
  refine j_iload X dX6_fillShowing_5 rfl ?_
  refine j_iconst X dX6_fillShowing_7 2 (by decide) ?_
  refine j_icmp_ge X 75 dX6_fillShowing_8 (by decide) (fun c_8 => absurd c_8 (by decide)) (fun c_8 => ?_)
  refine j_iload_n X dX6_fillShowing_11 rfl ?_
  refine j_iload X dX6_fillShowing_12 rfl ?_
  refine s_callSi X hR (c_shows10_0 np _) rfl u491 u489 u490 u14 hyX6_showsOfHalf (by decide) (by decide) (Nat.le_of_ble_eq_true rfl) dX6_fillShowing_14 (fun v_2 m_2 h_2 => ?_)
  obtain ⟨e1, e2⟩ := h_2; have e1 := e1.symm; have e2 := e2.symm; subst e1; subst e2
  refine j_if_eq X 51 dX6_fillShowing_17 (by decide) (fun c_17 => absurd c_17 (by decide)) (fun c_17 => ?_)
  refine j_aload_n X dX6_fillShowing_20 rfl ?_
  refine j_iload_n X dX6_fillShowing_21 rfl ?_
  refine j_aload_n X dX6_fillShowing_22 rfl ?_
  refine j_iload_n X dX6_fillShowing_23 rfl ?_
  refine j_iconst X dX6_fillShowing_24 2 (by decide) ?_
  refine j_iload X dX6_fillShowing_25 rfl ?_
  refine j_imul X dX6_fillShowing_27 ?_
  refine s_callVi X hR (c_shownOf10_0 np _ p F hp (by first | exact hN | (simp only [jup_o (show ¬ 92 + 2 * p = 65 by omega)]; exact hN)) (by first | exact hF | (simp only [jup_o (show ¬ 93 + 2 * p = 65 by omega)]; exact hF))) rfl 6 (by decide) (oP np (by omega)) (kP np _) rfl u495 u492 u494 qp4 u14 hyX6_shownOf (by decide) (by decide) (Nat.le_of_ble_eq_true rfl) dX6_fillShowing_28 (fun v_28 m_28 h_28 => ?_)
  obtain ⟨e1, e2⟩ := h_28; have e1 := e1.symm; have e2 := e2.symm; subst e1; subst e2
  refine j_nrm2 _ (by first | (simp only [fa_lit, pk_mul, nI_add]; done) | (simp only [fa_lit, pk_mul, nI_add]; rfl) | rfl) ?_
  refine j_iastN X (o65 np) (k65 np) (by rw [l65]; omega) (by rw [l65]; decide) dX6_fillShowing_31 ?_
  refine j_aload_n X dX6_fillShowing_32 rfl ?_
  refine j_iload_n X dX6_fillShowing_33 rfl ?_
  refine j_iconst X dX6_fillShowing_34 1 (by decide) ?_
  refine j_iadd X dX6_fillShowing_35 ?_
  refine j_aload_n X dX6_fillShowing_36 rfl ?_
  refine j_iload_n X dX6_fillShowing_37 rfl ?_
  refine j_iconst X dX6_fillShowing_38 2 (by decide) ?_
  refine j_iload X dX6_fillShowing_39 rfl ?_
  refine j_imul X dX6_fillShowing_41 ?_
  refine j_iconst X dX6_fillShowing_42 1 (by decide) ?_
  refine j_iadd X dX6_fillShowing_43 ?_
  refine s_callVi X hR (c_shownOf10_1 np _ p F hp (by first | exact hN | (simp only [jup_o (show ¬ 92 + 2 * p = 65 by omega)]; exact hN)) (by first | exact hF | (simp only [jup_o (show ¬ 93 + 2 * p = 65 by omega)]; exact hF))) rfl 6 (by decide) (oP np (by omega)) (kP np _) rfl u495 u492 u494 qp4 u14 hyX6_shownOf (by decide) (by decide) (Nat.le_of_ble_eq_true rfl) dX6_fillShowing_44 (fun v_44 m_44 h_44 => ?_)
  obtain ⟨e1, e2⟩ := h_44; have e1 := e1.symm; have e2 := e2.symm; subst e1; subst e2
  refine j_nrm2 _ (by first | (simp only [fa_lit, pk_mul, nI_add]; done) | (simp only [fa_lit, pk_mul, nI_add]; rfl) | rfl) ?_
  refine j_iastN X (o65 np) (k65 np) (by rw [l65]; omega) (by rw [l65]; decide) dX6_fillShowing_47 ?_
  refine j_goto X 60 dX6_fillShowing_48 (by decide) ?_
  refine j_iload_n X dX6_fillShowing_60 rfl ?_
  refine j_iload_n X dX6_fillShowing_61 rfl ?_
  refine j_iload X dX6_fillShowing_62 rfl ?_
  refine s_callSi X hR (c_halfSize10_0 np _) rfl u501 u499 u500 u14 hyX6_halfSize (by decide) (by decide) (Nat.le_of_ble_eq_true rfl) dX6_fillShowing_64 (fun v_2 m_2 h_2 => ?_)
  obtain ⟨e1, e2⟩ := h_2; have e1 := e1.symm; have e2 := e2.symm; subst e1; subst e2
  refine j_iadd X dX6_fillShowing_67 ?_
  refine j_istore_n X dX6_fillShowing_68 (by decide) ?_
  refine j_iinc X dX6_fillShowing_69 rfl 1 rfl ?_
  refine j_goto X 5 dX6_fillShowing_72 (by decide) ?_
  refine j_iload X dX6_fillShowing_5 rfl ?_
  refine j_iconst X dX6_fillShowing_7 2 (by decide) ?_
  refine j_icmp_ge X 75 dX6_fillShowing_8 (by decide) (fun c_8 => absurd c_8 (by decide)) (fun c_8 => ?_)
  refine j_iload_n X dX6_fillShowing_11 rfl ?_
  refine j_iload X dX6_fillShowing_12 rfl ?_
  refine s_callSi X hR (c_shows10_1 np _) rfl u491 u489 u490 u14 hyX6_showsOfHalf (by decide) (by decide) (Nat.le_of_ble_eq_true rfl) dX6_fillShowing_14 (fun v_2 m_2 h_2 => ?_)
  obtain ⟨e1, e2⟩ := h_2; have e1 := e1.symm; have e2 := e2.symm; subst e1; subst e2
  refine j_if_eq X 51 dX6_fillShowing_17 (by decide) (fun c_17 => absurd c_17 (by decide)) (fun c_17 => ?_)
  refine j_aload_n X dX6_fillShowing_20 rfl ?_
  refine j_iload_n X dX6_fillShowing_21 rfl ?_
  refine j_aload_n X dX6_fillShowing_22 rfl ?_
  refine j_iload_n X dX6_fillShowing_23 rfl ?_
  refine j_iconst X dX6_fillShowing_24 2 (by decide) ?_
  refine j_iload X dX6_fillShowing_25 rfl ?_
  refine j_imul X dX6_fillShowing_27 ?_
  refine s_callVi X hR (c_shownOf10_2 np _ p F hp (by first | exact hN | (simp only [jup_o (show ¬ 92 + 2 * p = 65 by omega)]; exact hN)) (by first | exact hF | (simp only [jup_o (show ¬ 93 + 2 * p = 65 by omega)]; exact hF))) rfl 6 (by decide) (oP np (by omega)) (kP np _) rfl u495 u492 u494 qp4 u14 hyX6_shownOf (by decide) (by decide) (Nat.le_of_ble_eq_true rfl) dX6_fillShowing_28 (fun v_28 m_28 h_28 => ?_)
  obtain ⟨e1, e2⟩ := h_28; have e1 := e1.symm; have e2 := e2.symm; subst e1; subst e2
  refine j_nrm2 _ (by first | (simp only [fa_lit, pk_mul, nI_add]; done) | (simp only [fa_lit, pk_mul, nI_add]; rfl) | rfl) ?_
  refine j_iastN X (o65 np) (k65 np) (by rw [l65]; omega) (by rw [l65]; decide) dX6_fillShowing_31 ?_
  refine j_aload_n X dX6_fillShowing_32 rfl ?_
  refine j_iload_n X dX6_fillShowing_33 rfl ?_
  refine j_iconst X dX6_fillShowing_34 1 (by decide) ?_
  refine j_iadd X dX6_fillShowing_35 ?_
  refine j_aload_n X dX6_fillShowing_36 rfl ?_
  refine j_iload_n X dX6_fillShowing_37 rfl ?_
  refine j_iconst X dX6_fillShowing_38 2 (by decide) ?_
  refine j_iload X dX6_fillShowing_39 rfl ?_
  refine j_imul X dX6_fillShowing_41 ?_
  refine j_iconst X dX6_fillShowing_42 1 (by decide) ?_
  refine j_iadd X dX6_fillShowing_43 ?_
  refine s_callVi X hR (c_shownOf10_3 np _ p F hp (by first | exact hN | (simp only [jup_o (show ¬ 92 + 2 * p = 65 by omega)]; exact hN)) (by first | exact hF | (simp only [jup_o (show ¬ 93 + 2 * p = 65 by omega)]; exact hF))) rfl 6 (by decide) (oP np (by omega)) (kP np _) rfl u495 u492 u494 qp4 u14 hyX6_shownOf (by decide) (by decide) (Nat.le_of_ble_eq_true rfl) dX6_fillShowing_44 (fun v_44 m_44 h_44 => ?_)
  obtain ⟨e1, e2⟩ := h_44; have e1 := e1.symm; have e2 := e2.symm; subst e1; subst e2
  refine j_nrm2 _ (by first | (simp only [fa_lit, pk_mul, nI_add]; done) | (simp only [fa_lit, pk_mul, nI_add]; rfl) | rfl) ?_
  refine j_iastN X (o65 np) (k65 np) (by rw [l65]; omega) (by rw [l65]; decide) dX6_fillShowing_47 ?_
  refine j_goto X 60 dX6_fillShowing_48 (by decide) ?_
  refine j_iload_n X dX6_fillShowing_60 rfl ?_
  refine j_iload_n X dX6_fillShowing_61 rfl ?_
  refine j_iload X dX6_fillShowing_62 rfl ?_
  refine s_callSi X hR (c_halfSize10_1 np _) rfl u501 u499 u500 u14 hyX6_halfSize (by decide) (by decide) (Nat.le_of_ble_eq_true rfl) dX6_fillShowing_64 (fun v_2 m_2 h_2 => ?_)
  obtain ⟨e1, e2⟩ := h_2; have e1 := e1.symm; have e2 := e2.symm; subst e1; subst e2
  refine j_iadd X dX6_fillShowing_67 ?_
  refine j_istore_n X dX6_fillShowing_68 (by decide) ?_
  refine j_iinc X dX6_fillShowing_69 rfl 1 rfl ?_
  refine j_goto X 5 dX6_fillShowing_72 (by decide) ?_
  refine j_iload X dX6_fillShowing_5 rfl ?_
  refine j_iconst X dX6_fillShowing_7 2 (by decide) ?_
  refine j_icmp_ge X 75 dX6_fillShowing_8 (by decide) (fun c_8 => ?_) (fun c_8 => absurd c_8 (by decide))
  refine j_iload_n X dX6_fillShowing_75 rfl ?_
  refine s_iret X hE hr dX6_fillShowing_76 rfl ?_
  exact ⟨by decide, rfl⟩
set_option maxRecDepth 4000 in
set_option maxHeartbeats 1000000 in
theorem c_shows11_0 (np : Nat) (mem : jMem)   : jPi yX6_showsOfHalf cX6_showsOfHalf 2 .boolean 1 [.int 11, .int 0] np mem (fun v c => v = 1 ∧ c = mem) := by
  refine jPi.of (own := RX6) rfl rfl (Nat.le_of_ble_eq_true rfl) (fun G X hR hr hE => ?_)
  refine j_iload_n X dX6_showsOfHalf_0 rfl ?_
  refine j_iconst X dX6_showsOfHalf_1 2 (by decide) ?_
  refine j_iload_n X dX6_showsOfHalf_2 rfl ?_
  refine j_imul X dX6_showsOfHalf_3 ?_
  refine j_ishr X dX6_showsOfHalf_4 ?_
  refine j_iconst X dX6_showsOfHalf_5 3 (by decide) ?_
  refine j_iand X dX6_showsOfHalf_6 ?_
  refine j_if_eq X 14 dX6_showsOfHalf_7 (by decide) (fun c_7 => absurd c_7 (by decide)) (fun c_7 => ?_)
  refine j_iconst X dX6_showsOfHalf_10 1 (by decide) ?_
  refine j_goto X 15 dX6_showsOfHalf_11 (by decide) ?_
  refine s_iret X hE hr dX6_showsOfHalf_15 (by first | exact jb_nar | rfl) ?_
  first | exact ⟨rfl, rfl⟩ | (exfalso; clear hE hr hR X; (try simp only [lg_cmp_lt, lg_cmp_gt, lg_cmp_le, lg_cmp_ge] at *); (try simp (disch := omega) only [Int64.le_iff_toInt_le, Int64.lt_iff_toInt_lt, Int32.le_iff_toInt_le, Int32.lt_iff_toInt_lt, fa_eq, fa_lit, fa_litL, nI_toInt, pk_lT, Int32.toInt_toInt64, jadd64, jin, jnoneT] at *); omega)
set_option maxRecDepth 4000 in
set_option maxHeartbeats 1000000 in
theorem c_halfSize11_0 (np : Nat) (mem : jMem)   : jPi yX6_halfSize cX6_halfSize 2 .int 2 [.int 11, .int 0] np mem (fun v c => v = 2 ∧ c = mem) := by
  refine jPi.of (own := RX6) rfl rfl (Nat.le_of_ble_eq_true rfl) (fun G X hR hr hE => ?_)
  refine j_iload_n X dX6_halfSize_0 rfl ?_
  refine j_iload_n X dX6_halfSize_1 rfl ?_
  refine s_callSi X hR (c_shows11_0 np _) rfl u491 u489 u490 u14 hyX6_showsOfHalf (by decide) (by decide) (Nat.le_of_ble_eq_true rfl) dX6_halfSize_2 (fun v_2 m_2 h_2 => ?_)
  obtain ⟨e1, e2⟩ := h_2; have e1 := e1.symm; have e2 := e2.symm; subst e1; subst e2
  refine j_if_eq X 12 dX6_halfSize_5 (by decide) (fun c_5 => absurd c_5 (by decide)) (fun c_5 => ?_)
  refine j_iconst X dX6_halfSize_8 2 (by decide) ?_
  refine j_goto X 13 dX6_halfSize_9 (by decide) ?_
  refine s_iret X hE hr dX6_halfSize_13 rfl ?_
  first | exact ⟨rfl, rfl⟩ | (exfalso; clear hE hr hR X; (try simp only [lg_cmp_lt, lg_cmp_gt, lg_cmp_le, lg_cmp_ge] at *); (try simp (disch := omega) only [Int64.le_iff_toInt_le, Int64.lt_iff_toInt_lt, Int32.le_iff_toInt_le, Int32.lt_iff_toInt_lt, fa_eq, fa_lit, fa_litL, nI_toInt, pk_lT, Int32.toInt_toInt64, jadd64, jin, jnoneT] at *); omega)
set_option maxRecDepth 4000 in
set_option maxHeartbeats 1000000 in
theorem c_shows11_1 (np : Nat) (mem : jMem)   : jPi yX6_showsOfHalf cX6_showsOfHalf 2 .boolean 1 [.int 11, .int 1] np mem (fun v c => v = 1 ∧ c = mem) := by
  refine jPi.of (own := RX6) rfl rfl (Nat.le_of_ble_eq_true rfl) (fun G X hR hr hE => ?_)
  refine j_iload_n X dX6_showsOfHalf_0 rfl ?_
  refine j_iconst X dX6_showsOfHalf_1 2 (by decide) ?_
  refine j_iload_n X dX6_showsOfHalf_2 rfl ?_
  refine j_imul X dX6_showsOfHalf_3 ?_
  refine j_ishr X dX6_showsOfHalf_4 ?_
  refine j_iconst X dX6_showsOfHalf_5 3 (by decide) ?_
  refine j_iand X dX6_showsOfHalf_6 ?_
  refine j_if_eq X 14 dX6_showsOfHalf_7 (by decide) (fun c_7 => absurd c_7 (by decide)) (fun c_7 => ?_)
  refine j_iconst X dX6_showsOfHalf_10 1 (by decide) ?_
  refine j_goto X 15 dX6_showsOfHalf_11 (by decide) ?_
  refine s_iret X hE hr dX6_showsOfHalf_15 (by first | exact jb_nar | rfl) ?_
  first | exact ⟨rfl, rfl⟩ | (exfalso; clear hE hr hR X; (try simp only [lg_cmp_lt, lg_cmp_gt, lg_cmp_le, lg_cmp_ge] at *); (try simp (disch := omega) only [Int64.le_iff_toInt_le, Int64.lt_iff_toInt_lt, Int32.le_iff_toInt_le, Int32.lt_iff_toInt_lt, fa_eq, fa_lit, fa_litL, nI_toInt, pk_lT, Int32.toInt_toInt64, jadd64, jin, jnoneT] at *); omega)
set_option maxRecDepth 4000 in
set_option maxHeartbeats 1000000 in
theorem c_halfSize11_1 (np : Nat) (mem : jMem)   : jPi yX6_halfSize cX6_halfSize 2 .int 2 [.int 11, .int 1] np mem (fun v c => v = 2 ∧ c = mem) := by
  refine jPi.of (own := RX6) rfl rfl (Nat.le_of_ble_eq_true rfl) (fun G X hR hr hE => ?_)
  refine j_iload_n X dX6_halfSize_0 rfl ?_
  refine j_iload_n X dX6_halfSize_1 rfl ?_
  refine s_callSi X hR (c_shows11_1 np _) rfl u491 u489 u490 u14 hyX6_showsOfHalf (by decide) (by decide) (Nat.le_of_ble_eq_true rfl) dX6_halfSize_2 (fun v_2 m_2 h_2 => ?_)
  obtain ⟨e1, e2⟩ := h_2; have e1 := e1.symm; have e2 := e2.symm; subst e1; subst e2
  refine j_if_eq X 12 dX6_halfSize_5 (by decide) (fun c_5 => absurd c_5 (by decide)) (fun c_5 => ?_)
  refine j_iconst X dX6_halfSize_8 2 (by decide) ?_
  refine j_goto X 13 dX6_halfSize_9 (by decide) ?_
  refine s_iret X hE hr dX6_halfSize_13 rfl ?_
  first | exact ⟨rfl, rfl⟩ | (exfalso; clear hE hr hR X; (try simp only [lg_cmp_lt, lg_cmp_gt, lg_cmp_le, lg_cmp_ge] at *); (try simp (disch := omega) only [Int64.le_iff_toInt_le, Int64.lt_iff_toInt_lt, Int32.le_iff_toInt_le, Int32.lt_iff_toInt_lt, fa_eq, fa_lit, fa_litL, nI_toInt, pk_lT, Int32.toInt_toInt64, jadd64, jin, jnoneT] at *); omega)
set_option maxRecDepth 4000 in
set_option maxHeartbeats 1000000 in
theorem c_showingSize11 (np : Nat) (mem : jMem)   : jPi yX6_showingSize cX6_showingSize 1 .int 3 [.int 11] np mem (fun v c => v = 4 ∧ c = mem) := by
  refine jPi.of (own := RX6) rfl rfl (Nat.le_of_ble_eq_true rfl) (fun G X hR hr hE => ?_)
  refine j_iload_n X dX6_showingSize_0 rfl ?_
  refine j_iconst X dX6_showingSize_1 0 (by decide) ?_
  refine s_callSi X hR (c_halfSize11_0 np _) rfl u501 u499 u500 u14 hyX6_halfSize (by decide) (by decide) (Nat.le_of_ble_eq_true rfl) dX6_showingSize_2 (fun v_2 m_2 h_2 => ?_)
  obtain ⟨e1, e2⟩ := h_2; have e1 := e1.symm; have e2 := e2.symm; subst e1; subst e2
  refine j_iload_n X dX6_showingSize_5 rfl ?_
  refine j_iconst X dX6_showingSize_6 1 (by decide) ?_
  refine s_callSi X hR (c_halfSize11_1 np _) rfl u501 u499 u500 u14 hyX6_halfSize (by decide) (by decide) (Nat.le_of_ble_eq_true rfl) dX6_showingSize_7 (fun v_2 m_2 h_2 => ?_)
  obtain ⟨e1, e2⟩ := h_2; have e1 := e1.symm; have e2 := e2.symm; subst e1; subst e2
  refine j_iadd X dX6_showingSize_10 ?_
  refine s_iret X hE hr dX6_showingSize_11 rfl ?_
  exact ⟨by decide, rfl⟩
set_option maxRecDepth 4000 in
set_option maxHeartbeats 1000000 in
theorem c_shownOf11_0 (np : Nat) (mem : jMem) (p : Nat) (F : Nat → Int32) (hp : p < np) (hN : mem (92 + 2 * p) 0 = nI p) (hF : mem (93 + 2 * p) = F) : jPi yX6_shownOf cX6_shownOf 3 .int 3 [.ref (92 + 2 * p), .int 11, .int 0] np mem (fun v c => v = F 0 ∧ c = mem) := by
  refine jPi.of (own := RX6) rfl rfl (Nat.le_of_ble_eq_true rfl) (fun G X hR hr hE => ?_)
  refine j_iload_n X dX6_shownOf_0 rfl ?_
  refine j_iload_n X dX6_shownOf_1 rfl ?_
  refine s_callNi X hR (c_hasBit np _ _ _) rfl u498 (by decide) u497 u1 hyX10_hasBit (by decide) (by decide) (Nat.le_of_ble_eq_true rfl) dX6_shownOf_2 (fun v_2 m_2 h_2 => ?_)
  obtain ⟨e1, e2⟩ := h_2; have e1 := e1.symm; have e2 := e2.symm; subst e1; subst e2
  refine j_ifb_eq X 17 dX6_shownOf_5 (by decide) (fun c_5 => absurd c_5 (by decide)) (fun c_5 => ?_)
  refine j_aload_n X dX6_shownOf_8 rfl ?_
  refine j_getR X 6 6 (by decide) (by decide) rfl u405 (oP np (by omega)) (kP np _) _ (pP_f np _) dX6_shownOf_9 ?_
  refine j_iload_n X dX6_shownOf_12 rfl ?_
  refine j_nrm _ (by first | (simp only [fa_lit, pk_mul, nI_add]; done) | (simp only [fa_lit, pk_mul, nI_add]; rfl) | rfl) ?_
  refine j_ialdN X (oPf np (by omega)) (kPf np _) (by rw [lPf]; omega) (by rw [lPf]; decide) F hF dX6_shownOf_13 ?_
  refine j_goto X 22 dX6_shownOf_14 (by decide) ?_
  refine s_iret X hE hr dX6_shownOf_22 rfl ?_
  first | exact ⟨rfl, rfl⟩ | (exfalso; clear hE hr hR X; (try simp only [lg_cmp_lt, lg_cmp_gt, lg_cmp_le, lg_cmp_ge] at *); (try simp (disch := omega) only [Int64.le_iff_toInt_le, Int64.lt_iff_toInt_lt, Int32.le_iff_toInt_le, Int32.lt_iff_toInt_lt, fa_eq, fa_lit, fa_litL, nI_toInt, pk_lT, Int32.toInt_toInt64, jadd64, jin, jnoneT] at *); omega)
set_option maxRecDepth 4000 in
set_option maxHeartbeats 1000000 in
theorem c_shownOf11_1 (np : Nat) (mem : jMem) (p : Nat) (F : Nat → Int32) (hp : p < np) (hN : mem (92 + 2 * p) 0 = nI p) (hF : mem (93 + 2 * p) = F) : jPi yX6_shownOf cX6_shownOf 3 .int 3 [.ref (92 + 2 * p), .int 11, .int 1] np mem (fun v c => v = F 1 ∧ c = mem) := by
  refine jPi.of (own := RX6) rfl rfl (Nat.le_of_ble_eq_true rfl) (fun G X hR hr hE => ?_)
  refine j_iload_n X dX6_shownOf_0 rfl ?_
  refine j_iload_n X dX6_shownOf_1 rfl ?_
  refine s_callNi X hR (c_hasBit np _ _ _) rfl u498 (by decide) u497 u1 hyX10_hasBit (by decide) (by decide) (Nat.le_of_ble_eq_true rfl) dX6_shownOf_2 (fun v_2 m_2 h_2 => ?_)
  obtain ⟨e1, e2⟩ := h_2; have e1 := e1.symm; have e2 := e2.symm; subst e1; subst e2
  refine j_ifb_eq X 17 dX6_shownOf_5 (by decide) (fun c_5 => absurd c_5 (by decide)) (fun c_5 => ?_)
  refine j_aload_n X dX6_shownOf_8 rfl ?_
  refine j_getR X 6 6 (by decide) (by decide) rfl u405 (oP np (by omega)) (kP np _) _ (pP_f np _) dX6_shownOf_9 ?_
  refine j_iload_n X dX6_shownOf_12 rfl ?_
  refine j_nrm _ (by first | (simp only [fa_lit, pk_mul, nI_add]; done) | (simp only [fa_lit, pk_mul, nI_add]; rfl) | rfl) ?_
  refine j_ialdN X (oPf np (by omega)) (kPf np _) (by rw [lPf]; omega) (by rw [lPf]; decide) F hF dX6_shownOf_13 ?_
  refine j_goto X 22 dX6_shownOf_14 (by decide) ?_
  refine s_iret X hE hr dX6_shownOf_22 rfl ?_
  first | exact ⟨rfl, rfl⟩ | (exfalso; clear hE hr hR X; (try simp only [lg_cmp_lt, lg_cmp_gt, lg_cmp_le, lg_cmp_ge] at *); (try simp (disch := omega) only [Int64.le_iff_toInt_le, Int64.lt_iff_toInt_lt, Int32.le_iff_toInt_le, Int32.lt_iff_toInt_lt, fa_eq, fa_lit, fa_litL, nI_toInt, pk_lT, Int32.toInt_toInt64, jadd64, jin, jnoneT] at *); omega)
set_option maxRecDepth 4000 in
set_option maxHeartbeats 1000000 in
theorem c_shownOf11_2 (np : Nat) (mem : jMem) (p : Nat) (F : Nat → Int32) (hp : p < np) (hN : mem (92 + 2 * p) 0 = nI p) (hF : mem (93 + 2 * p) = F) : jPi yX6_shownOf cX6_shownOf 3 .int 3 [.ref (92 + 2 * p), .int 11, .int 2] np mem (fun v c => v = (jLeaf (nI p) 2 (F 2)) ∧ c = mem) := by
  refine jPi.of (own := RX6) rfl rfl (Nat.le_of_ble_eq_true rfl) (fun G X hR hr hE => ?_)
  refine j_iload_n X dX6_shownOf_0 rfl ?_
  refine j_iload_n X dX6_shownOf_1 rfl ?_
  refine s_callNi X hR (c_hasBit np _ _ _) rfl u498 (by decide) u497 u1 hyX10_hasBit (by decide) (by decide) (Nat.le_of_ble_eq_true rfl) dX6_shownOf_2 (fun v_2 m_2 h_2 => ?_)
  obtain ⟨e1, e2⟩ := h_2; have e1 := e1.symm; have e2 := e2.symm; subst e1; subst e2
  refine j_ifb_eq X 17 dX6_shownOf_5 (by decide) (fun c_5 => ?_) (fun c_5 => absurd c_5 (by decide))
  refine j_aload_n X dX6_shownOf_17 rfl ?_
  refine j_iload_n X dX6_shownOf_18 rfl ?_
  refine s_callVi X hR (c_leaf2 np _ p F hp hN hF) rfl 6 (by decide) (oP np (by omega)) (kP np _) rfl u456 u453 u454 u455 u14 hyX6_leaf (by decide) (by decide) (Nat.le_of_ble_eq_true rfl) dX6_shownOf_19 (fun v_19 m_19 h_19 => ?_)
  obtain ⟨e1, e2⟩ := h_19; have e1 := e1.symm; have e2 := e2.symm; subst e1; subst e2
  refine s_iret X hE hr dX6_shownOf_22 rfl ?_
  first | exact ⟨rfl, rfl⟩ | (exfalso; clear hE hr hR X; (try simp only [lg_cmp_lt, lg_cmp_gt, lg_cmp_le, lg_cmp_ge] at *); (try simp (disch := omega) only [Int64.le_iff_toInt_le, Int64.lt_iff_toInt_lt, Int32.le_iff_toInt_le, Int32.lt_iff_toInt_lt, fa_eq, fa_lit, fa_litL, nI_toInt, pk_lT, Int32.toInt_toInt64, jadd64, jin, jnoneT] at *); omega)
set_option maxRecDepth 4000 in
set_option maxHeartbeats 1000000 in
theorem c_shownOf11_3 (np : Nat) (mem : jMem) (p : Nat) (F : Nat → Int32) (hp : p < np) (hN : mem (92 + 2 * p) 0 = nI p) (hF : mem (93 + 2 * p) = F) : jPi yX6_shownOf cX6_shownOf 3 .int 3 [.ref (92 + 2 * p), .int 11, .int 3] np mem (fun v c => v = F 3 ∧ c = mem) := by
  refine jPi.of (own := RX6) rfl rfl (Nat.le_of_ble_eq_true rfl) (fun G X hR hr hE => ?_)
  refine j_iload_n X dX6_shownOf_0 rfl ?_
  refine j_iload_n X dX6_shownOf_1 rfl ?_
  refine s_callNi X hR (c_hasBit np _ _ _) rfl u498 (by decide) u497 u1 hyX10_hasBit (by decide) (by decide) (Nat.le_of_ble_eq_true rfl) dX6_shownOf_2 (fun v_2 m_2 h_2 => ?_)
  obtain ⟨e1, e2⟩ := h_2; have e1 := e1.symm; have e2 := e2.symm; subst e1; subst e2
  refine j_ifb_eq X 17 dX6_shownOf_5 (by decide) (fun c_5 => absurd c_5 (by decide)) (fun c_5 => ?_)
  refine j_aload_n X dX6_shownOf_8 rfl ?_
  refine j_getR X 6 6 (by decide) (by decide) rfl u405 (oP np (by omega)) (kP np _) _ (pP_f np _) dX6_shownOf_9 ?_
  refine j_iload_n X dX6_shownOf_12 rfl ?_
  refine j_nrm _ (by first | (simp only [fa_lit, pk_mul, nI_add]; done) | (simp only [fa_lit, pk_mul, nI_add]; rfl) | rfl) ?_
  refine j_ialdN X (oPf np (by omega)) (kPf np _) (by rw [lPf]; omega) (by rw [lPf]; decide) F hF dX6_shownOf_13 ?_
  refine j_goto X 22 dX6_shownOf_14 (by decide) ?_
  refine s_iret X hE hr dX6_shownOf_22 rfl ?_
  first | exact ⟨rfl, rfl⟩ | (exfalso; clear hE hr hR X; (try simp only [lg_cmp_lt, lg_cmp_gt, lg_cmp_le, lg_cmp_ge] at *); (try simp (disch := omega) only [Int64.le_iff_toInt_le, Int64.lt_iff_toInt_lt, Int32.le_iff_toInt_le, Int32.lt_iff_toInt_lt, fa_eq, fa_lit, fa_litL, nI_toInt, pk_lT, Int32.toInt_toInt64, jadd64, jin, jnoneT] at *); omega)
set_option maxRecDepth 4000 in
set_option maxHeartbeats 1000000 in
theorem c_fillShowing11 (np : Nat) (mem : jMem) (p : Nat) (F : Nat → Int32) (hp : p < np) (hN : mem (92 + 2 * p) 0 = nI p) (hF : mem (93 + 2 * p) = F) : jPi yX6_fillShowing cX6_fillShowing 5 .int 4 [.ref (92 + 2 * p), .int 11, .ref 65] np mem (fun v c => v = 4 ∧ c = jup (jup (jup (jup (mem) 65 0 (F 0)) 65 1 (F 1)) 65 2 (jLeaf (nI p) 2 (F 2))) 65 3 (F 3)) := by
  refine jPi.of (own := RX6) rfl rfl (Nat.le_of_ble_eq_true rfl) (fun G X hR hr hE => ?_)
  refine j_iconst X dX6_fillShowing_0 0 (by decide) ?_
  refine j_istore_n X dX6_fillShowing_1 (by decide) ?_
  refine j_iconst X dX6_fillShowing_2 0 (by decide) ?_
  refine j_istore X dX6_fillShowing_3 (by decide) ?_
  refine j_iload X dX6_fillShowing_5 rfl ?_
  refine j_iconst X dX6_fillShowing_7 2 (by decide) ?_
  refine j_icmp_ge X 75 dX6_fillShowing_8 (by decide) (fun c_8 => absurd c_8 (by decide)) (fun c_8 => ?_)
  refine j_iload_n X dX6_fillShowing_11 rfl ?_
  refine j_iload X dX6_fillShowing_12 rfl ?_
  refine s_callSi X hR (c_shows11_0 np _) rfl u491 u489 u490 u14 hyX6_showsOfHalf (by decide) (by decide) (Nat.le_of_ble_eq_true rfl) dX6_fillShowing_14 (fun v_2 m_2 h_2 => ?_)
  obtain ⟨e1, e2⟩ := h_2; have e1 := e1.symm; have e2 := e2.symm; subst e1; subst e2
  refine j_if_eq X 51 dX6_fillShowing_17 (by decide) (fun c_17 => absurd c_17 (by decide)) (fun c_17 => ?_)
  refine j_aload_n X dX6_fillShowing_20 rfl ?_
  refine j_iload_n X dX6_fillShowing_21 rfl ?_
  refine j_aload_n X dX6_fillShowing_22 rfl ?_
  refine j_iload_n X dX6_fillShowing_23 rfl ?_
  refine j_iconst X dX6_fillShowing_24 2 (by decide) ?_
  refine j_iload X dX6_fillShowing_25 rfl ?_
  refine j_imul X dX6_fillShowing_27 ?_
  refine s_callVi X hR (c_shownOf11_0 np _ p F hp (by first | exact hN | (simp only [jup_o (show ¬ 92 + 2 * p = 65 by omega)]; exact hN)) (by first | exact hF | (simp only [jup_o (show ¬ 93 + 2 * p = 65 by omega)]; exact hF))) rfl 6 (by decide) (oP np (by omega)) (kP np _) rfl u495 u492 u494 qp4 u14 hyX6_shownOf (by decide) (by decide) (Nat.le_of_ble_eq_true rfl) dX6_fillShowing_28 (fun v_28 m_28 h_28 => ?_)
  obtain ⟨e1, e2⟩ := h_28; have e1 := e1.symm; have e2 := e2.symm; subst e1; subst e2
  refine j_nrm2 _ (by first | (simp only [fa_lit, pk_mul, nI_add]; done) | (simp only [fa_lit, pk_mul, nI_add]; rfl) | rfl) ?_
  refine j_iastN X (o65 np) (k65 np) (by rw [l65]; omega) (by rw [l65]; decide) dX6_fillShowing_31 ?_
  refine j_aload_n X dX6_fillShowing_32 rfl ?_
  refine j_iload_n X dX6_fillShowing_33 rfl ?_
  refine j_iconst X dX6_fillShowing_34 1 (by decide) ?_
  refine j_iadd X dX6_fillShowing_35 ?_
  refine j_aload_n X dX6_fillShowing_36 rfl ?_
  refine j_iload_n X dX6_fillShowing_37 rfl ?_
  refine j_iconst X dX6_fillShowing_38 2 (by decide) ?_
  refine j_iload X dX6_fillShowing_39 rfl ?_
  refine j_imul X dX6_fillShowing_41 ?_
  refine j_iconst X dX6_fillShowing_42 1 (by decide) ?_
  refine j_iadd X dX6_fillShowing_43 ?_
  refine s_callVi X hR (c_shownOf11_1 np _ p F hp (by first | exact hN | (simp only [jup_o (show ¬ 92 + 2 * p = 65 by omega)]; exact hN)) (by first | exact hF | (simp only [jup_o (show ¬ 93 + 2 * p = 65 by omega)]; exact hF))) rfl 6 (by decide) (oP np (by omega)) (kP np _) rfl u495 u492 u494 qp4 u14 hyX6_shownOf (by decide) (by decide) (Nat.le_of_ble_eq_true rfl) dX6_fillShowing_44 (fun v_44 m_44 h_44 => ?_)
  obtain ⟨e1, e2⟩ := h_44; have e1 := e1.symm; have e2 := e2.symm; subst e1; subst e2
  refine j_nrm2 _ (by first | (simp only [fa_lit, pk_mul, nI_add]; done) | (simp only [fa_lit, pk_mul, nI_add]; rfl) | rfl) ?_
  refine j_iastN X (o65 np) (k65 np) (by rw [l65]; omega) (by rw [l65]; decide) dX6_fillShowing_47 ?_
  refine j_goto X 60 dX6_fillShowing_48 (by decide) ?_
  refine j_iload_n X dX6_fillShowing_60 rfl ?_
  refine j_iload_n X dX6_fillShowing_61 rfl ?_
  refine j_iload X dX6_fillShowing_62 rfl ?_
  refine s_callSi X hR (c_halfSize11_0 np _) rfl u501 u499 u500 u14 hyX6_halfSize (by decide) (by decide) (Nat.le_of_ble_eq_true rfl) dX6_fillShowing_64 (fun v_2 m_2 h_2 => ?_)
  obtain ⟨e1, e2⟩ := h_2; have e1 := e1.symm; have e2 := e2.symm; subst e1; subst e2
  refine j_iadd X dX6_fillShowing_67 ?_
  refine j_istore_n X dX6_fillShowing_68 (by decide) ?_
  refine j_iinc X dX6_fillShowing_69 rfl 1 rfl ?_
  refine j_goto X 5 dX6_fillShowing_72 (by decide) ?_
  refine j_iload X dX6_fillShowing_5 rfl ?_
  refine j_iconst X dX6_fillShowing_7 2 (by decide) ?_
  refine j_icmp_ge X 75 dX6_fillShowing_8 (by decide) (fun c_8 => absurd c_8 (by decide)) (fun c_8 => ?_)
  refine j_iload_n X dX6_fillShowing_11 rfl ?_
  refine j_iload X dX6_fillShowing_12 rfl ?_
  refine s_callSi X hR (c_shows11_1 np _) rfl u491 u489 u490 u14 hyX6_showsOfHalf (by decide) (by decide) (Nat.le_of_ble_eq_true rfl) dX6_fillShowing_14 (fun v_2 m_2 h_2 => ?_)
  obtain ⟨e1, e2⟩ := h_2; have e1 := e1.symm; have e2 := e2.symm; subst e1; subst e2
  refine j_if_eq X 51 dX6_fillShowing_17 (by decide) (fun c_17 => absurd c_17 (by decide)) (fun c_17 => ?_)
  refine j_aload_n X dX6_fillShowing_20 rfl ?_
  refine j_iload_n X dX6_fillShowing_21 rfl ?_
  refine j_aload_n X dX6_fillShowing_22 rfl ?_
  refine j_iload_n X dX6_fillShowing_23 rfl ?_
  refine j_iconst X dX6_fillShowing_24 2 (by decide) ?_
  refine j_iload X dX6_fillShowing_25 rfl ?_
  refine j_imul X dX6_fillShowing_27 ?_
  refine s_callVi X hR (c_shownOf11_2 np _ p F hp (by first | exact hN | (simp only [jup_o (show ¬ 92 + 2 * p = 65 by omega)]; exact hN)) (by first | exact hF | (simp only [jup_o (show ¬ 93 + 2 * p = 65 by omega)]; exact hF))) rfl 6 (by decide) (oP np (by omega)) (kP np _) rfl u495 u492 u494 qp4 u14 hyX6_shownOf (by decide) (by decide) (Nat.le_of_ble_eq_true rfl) dX6_fillShowing_28 (fun v_28 m_28 h_28 => ?_)
  obtain ⟨e1, e2⟩ := h_28; have e1 := e1.symm; have e2 := e2.symm; subst e1; subst e2
  refine j_nrm2 _ (by first | (simp only [fa_lit, pk_mul, nI_add]; done) | (simp only [fa_lit, pk_mul, nI_add]; rfl) | rfl) ?_
  refine j_iastN X (o65 np) (k65 np) (by rw [l65]; omega) (by rw [l65]; decide) dX6_fillShowing_31 ?_
  refine j_aload_n X dX6_fillShowing_32 rfl ?_
  refine j_iload_n X dX6_fillShowing_33 rfl ?_
  refine j_iconst X dX6_fillShowing_34 1 (by decide) ?_
  refine j_iadd X dX6_fillShowing_35 ?_
  refine j_aload_n X dX6_fillShowing_36 rfl ?_
  refine j_iload_n X dX6_fillShowing_37 rfl ?_
  refine j_iconst X dX6_fillShowing_38 2 (by decide) ?_
  refine j_iload X dX6_fillShowing_39 rfl ?_
  refine j_imul X dX6_fillShowing_41 ?_
  refine j_iconst X dX6_fillShowing_42 1 (by decide) ?_
  refine j_iadd X dX6_fillShowing_43 ?_
  refine s_callVi X hR (c_shownOf11_3 np _ p F hp (by first | exact hN | (simp only [jup_o (show ¬ 92 + 2 * p = 65 by omega)]; exact hN)) (by first | exact hF | (simp only [jup_o (show ¬ 93 + 2 * p = 65 by omega)]; exact hF))) rfl 6 (by decide) (oP np (by omega)) (kP np _) rfl u495 u492 u494 qp4 u14 hyX6_shownOf (by decide) (by decide) (Nat.le_of_ble_eq_true rfl) dX6_fillShowing_44 (fun v_44 m_44 h_44 => ?_)
  obtain ⟨e1, e2⟩ := h_44; have e1 := e1.symm; have e2 := e2.symm; subst e1; subst e2
  refine j_nrm2 _ (by first | (simp only [fa_lit, pk_mul, nI_add]; done) | (simp only [fa_lit, pk_mul, nI_add]; rfl) | rfl) ?_
  refine j_iastN X (o65 np) (k65 np) (by rw [l65]; omega) (by rw [l65]; decide) dX6_fillShowing_47 ?_
  refine j_goto X 60 dX6_fillShowing_48 (by decide) ?_
  refine j_iload_n X dX6_fillShowing_60 rfl ?_
  refine j_iload_n X dX6_fillShowing_61 rfl ?_
  refine j_iload X dX6_fillShowing_62 rfl ?_
  refine s_callSi X hR (c_halfSize11_1 np _) rfl u501 u499 u500 u14 hyX6_halfSize (by decide) (by decide) (Nat.le_of_ble_eq_true rfl) dX6_fillShowing_64 (fun v_2 m_2 h_2 => ?_)
  obtain ⟨e1, e2⟩ := h_2; have e1 := e1.symm; have e2 := e2.symm; subst e1; subst e2
  refine j_iadd X dX6_fillShowing_67 ?_
  refine j_istore_n X dX6_fillShowing_68 (by decide) ?_
  refine j_iinc X dX6_fillShowing_69 rfl 1 rfl ?_
  refine j_goto X 5 dX6_fillShowing_72 (by decide) ?_
  refine j_iload X dX6_fillShowing_5 rfl ?_
  refine j_iconst X dX6_fillShowing_7 2 (by decide) ?_
  refine j_icmp_ge X 75 dX6_fillShowing_8 (by decide) (fun c_8 => ?_) (fun c_8 => absurd c_8 (by decide))
  refine j_iload_n X dX6_fillShowing_75 rfl ?_
  refine s_iret X hE hr dX6_fillShowing_76 rfl ?_
  exact ⟨by decide, rfl⟩
set_option maxRecDepth 4000 in
set_option maxHeartbeats 1000000 in
theorem c_shows12_0 (np : Nat) (mem : jMem)   : jPi yX6_showsOfHalf cX6_showsOfHalf 2 .boolean 1 [.int 12, .int 0] np mem (fun v c => v = 0 ∧ c = mem) := by
  refine jPi.of (own := RX6) rfl rfl (Nat.le_of_ble_eq_true rfl) (fun G X hR hr hE => ?_)
  refine j_iload_n X dX6_showsOfHalf_0 rfl ?_
  refine j_iconst X dX6_showsOfHalf_1 2 (by decide) ?_
  refine j_iload_n X dX6_showsOfHalf_2 rfl ?_
  refine j_imul X dX6_showsOfHalf_3 ?_
  refine j_ishr X dX6_showsOfHalf_4 ?_
  refine j_iconst X dX6_showsOfHalf_5 3 (by decide) ?_
  refine j_iand X dX6_showsOfHalf_6 ?_
  refine j_if_eq X 14 dX6_showsOfHalf_7 (by decide) (fun c_7 => ?_) (fun c_7 => absurd c_7 (by decide))
  refine j_iconst X dX6_showsOfHalf_14 0 (by decide) ?_
  refine s_iret X hE hr dX6_showsOfHalf_15 (by first | exact jb_nar | rfl) ?_
  first | exact ⟨rfl, rfl⟩ | (exfalso; clear hE hr hR X; (try simp only [lg_cmp_lt, lg_cmp_gt, lg_cmp_le, lg_cmp_ge] at *); (try simp (disch := omega) only [Int64.le_iff_toInt_le, Int64.lt_iff_toInt_lt, Int32.le_iff_toInt_le, Int32.lt_iff_toInt_lt, fa_eq, fa_lit, fa_litL, nI_toInt, pk_lT, Int32.toInt_toInt64, jadd64, jin, jnoneT] at *); omega)
set_option maxRecDepth 4000 in
set_option maxHeartbeats 1000000 in
theorem c_halfSize12_0 (np : Nat) (mem : jMem)   : jPi yX6_halfSize cX6_halfSize 2 .int 2 [.int 12, .int 0] np mem (fun v c => v = 1 ∧ c = mem) := by
  refine jPi.of (own := RX6) rfl rfl (Nat.le_of_ble_eq_true rfl) (fun G X hR hr hE => ?_)
  refine j_iload_n X dX6_halfSize_0 rfl ?_
  refine j_iload_n X dX6_halfSize_1 rfl ?_
  refine s_callSi X hR (c_shows12_0 np _) rfl u491 u489 u490 u14 hyX6_showsOfHalf (by decide) (by decide) (Nat.le_of_ble_eq_true rfl) dX6_halfSize_2 (fun v_2 m_2 h_2 => ?_)
  obtain ⟨e1, e2⟩ := h_2; have e1 := e1.symm; have e2 := e2.symm; subst e1; subst e2
  refine j_if_eq X 12 dX6_halfSize_5 (by decide) (fun c_5 => ?_) (fun c_5 => absurd c_5 (by decide))
  refine j_iconst X dX6_halfSize_12 1 (by decide) ?_
  refine s_iret X hE hr dX6_halfSize_13 rfl ?_
  first | exact ⟨rfl, rfl⟩ | (exfalso; clear hE hr hR X; (try simp only [lg_cmp_lt, lg_cmp_gt, lg_cmp_le, lg_cmp_ge] at *); (try simp (disch := omega) only [Int64.le_iff_toInt_le, Int64.lt_iff_toInt_lt, Int32.le_iff_toInt_le, Int32.lt_iff_toInt_lt, fa_eq, fa_lit, fa_litL, nI_toInt, pk_lT, Int32.toInt_toInt64, jadd64, jin, jnoneT] at *); omega)
set_option maxRecDepth 4000 in
set_option maxHeartbeats 1000000 in
theorem c_shows12_1 (np : Nat) (mem : jMem)   : jPi yX6_showsOfHalf cX6_showsOfHalf 2 .boolean 1 [.int 12, .int 1] np mem (fun v c => v = 1 ∧ c = mem) := by
  refine jPi.of (own := RX6) rfl rfl (Nat.le_of_ble_eq_true rfl) (fun G X hR hr hE => ?_)
  refine j_iload_n X dX6_showsOfHalf_0 rfl ?_
  refine j_iconst X dX6_showsOfHalf_1 2 (by decide) ?_
  refine j_iload_n X dX6_showsOfHalf_2 rfl ?_
  refine j_imul X dX6_showsOfHalf_3 ?_
  refine j_ishr X dX6_showsOfHalf_4 ?_
  refine j_iconst X dX6_showsOfHalf_5 3 (by decide) ?_
  refine j_iand X dX6_showsOfHalf_6 ?_
  refine j_if_eq X 14 dX6_showsOfHalf_7 (by decide) (fun c_7 => absurd c_7 (by decide)) (fun c_7 => ?_)
  refine j_iconst X dX6_showsOfHalf_10 1 (by decide) ?_
  refine j_goto X 15 dX6_showsOfHalf_11 (by decide) ?_
  refine s_iret X hE hr dX6_showsOfHalf_15 (by first | exact jb_nar | rfl) ?_
  first | exact ⟨rfl, rfl⟩ | (exfalso; clear hE hr hR X; (try simp only [lg_cmp_lt, lg_cmp_gt, lg_cmp_le, lg_cmp_ge] at *); (try simp (disch := omega) only [Int64.le_iff_toInt_le, Int64.lt_iff_toInt_lt, Int32.le_iff_toInt_le, Int32.lt_iff_toInt_lt, fa_eq, fa_lit, fa_litL, nI_toInt, pk_lT, Int32.toInt_toInt64, jadd64, jin, jnoneT] at *); omega)
set_option maxRecDepth 4000 in
set_option maxHeartbeats 1000000 in
theorem c_halfSize12_1 (np : Nat) (mem : jMem)   : jPi yX6_halfSize cX6_halfSize 2 .int 2 [.int 12, .int 1] np mem (fun v c => v = 2 ∧ c = mem) := by
  refine jPi.of (own := RX6) rfl rfl (Nat.le_of_ble_eq_true rfl) (fun G X hR hr hE => ?_)
  refine j_iload_n X dX6_halfSize_0 rfl ?_
  refine j_iload_n X dX6_halfSize_1 rfl ?_
  refine s_callSi X hR (c_shows12_1 np _) rfl u491 u489 u490 u14 hyX6_showsOfHalf (by decide) (by decide) (Nat.le_of_ble_eq_true rfl) dX6_halfSize_2 (fun v_2 m_2 h_2 => ?_)
  obtain ⟨e1, e2⟩ := h_2; have e1 := e1.symm; have e2 := e2.symm; subst e1; subst e2
  refine j_if_eq X 12 dX6_halfSize_5 (by decide) (fun c_5 => absurd c_5 (by decide)) (fun c_5 => ?_)
  refine j_iconst X dX6_halfSize_8 2 (by decide) ?_
  refine j_goto X 13 dX6_halfSize_9 (by decide) ?_
  refine s_iret X hE hr dX6_halfSize_13 rfl ?_
  first | exact ⟨rfl, rfl⟩ | (exfalso; clear hE hr hR X; (try simp only [lg_cmp_lt, lg_cmp_gt, lg_cmp_le, lg_cmp_ge] at *); (try simp (disch := omega) only [Int64.le_iff_toInt_le, Int64.lt_iff_toInt_lt, Int32.le_iff_toInt_le, Int32.lt_iff_toInt_lt, fa_eq, fa_lit, fa_litL, nI_toInt, pk_lT, Int32.toInt_toInt64, jadd64, jin, jnoneT] at *); omega)
set_option maxRecDepth 4000 in
set_option maxHeartbeats 1000000 in
theorem c_showingSize12 (np : Nat) (mem : jMem)   : jPi yX6_showingSize cX6_showingSize 1 .int 3 [.int 12] np mem (fun v c => v = 3 ∧ c = mem) := by
  refine jPi.of (own := RX6) rfl rfl (Nat.le_of_ble_eq_true rfl) (fun G X hR hr hE => ?_)
  refine j_iload_n X dX6_showingSize_0 rfl ?_
  refine j_iconst X dX6_showingSize_1 0 (by decide) ?_
  refine s_callSi X hR (c_halfSize12_0 np _) rfl u501 u499 u500 u14 hyX6_halfSize (by decide) (by decide) (Nat.le_of_ble_eq_true rfl) dX6_showingSize_2 (fun v_2 m_2 h_2 => ?_)
  obtain ⟨e1, e2⟩ := h_2; have e1 := e1.symm; have e2 := e2.symm; subst e1; subst e2
  refine j_iload_n X dX6_showingSize_5 rfl ?_
  refine j_iconst X dX6_showingSize_6 1 (by decide) ?_
  refine s_callSi X hR (c_halfSize12_1 np _) rfl u501 u499 u500 u14 hyX6_halfSize (by decide) (by decide) (Nat.le_of_ble_eq_true rfl) dX6_showingSize_7 (fun v_2 m_2 h_2 => ?_)
  obtain ⟨e1, e2⟩ := h_2; have e1 := e1.symm; have e2 := e2.symm; subst e1; subst e2
  refine j_iadd X dX6_showingSize_10 ?_
  refine s_iret X hE hr dX6_showingSize_11 rfl ?_
  exact ⟨by decide, rfl⟩
set_option maxRecDepth 4000 in
set_option maxHeartbeats 1000000 in
theorem c_shownOf12_0 (np : Nat) (mem : jMem) (p : Nat) (F : Nat → Int32) (hp : p < np) (hN : mem (92 + 2 * p) 0 = nI p) (hF : mem (93 + 2 * p) = F) : jPi yX6_shownOf cX6_shownOf 3 .int 3 [.ref (92 + 2 * p), .int 12, .int 0] np mem (fun v c => v = (jLeaf (nI p) 0 (F 0)) ∧ c = mem) := by
  refine jPi.of (own := RX6) rfl rfl (Nat.le_of_ble_eq_true rfl) (fun G X hR hr hE => ?_)
  refine j_iload_n X dX6_shownOf_0 rfl ?_
  refine j_iload_n X dX6_shownOf_1 rfl ?_
  refine s_callNi X hR (c_hasBit np _ _ _) rfl u498 (by decide) u497 u1 hyX10_hasBit (by decide) (by decide) (Nat.le_of_ble_eq_true rfl) dX6_shownOf_2 (fun v_2 m_2 h_2 => ?_)
  obtain ⟨e1, e2⟩ := h_2; have e1 := e1.symm; have e2 := e2.symm; subst e1; subst e2
  refine j_ifb_eq X 17 dX6_shownOf_5 (by decide) (fun c_5 => ?_) (fun c_5 => absurd c_5 (by decide))
  refine j_aload_n X dX6_shownOf_17 rfl ?_
  refine j_iload_n X dX6_shownOf_18 rfl ?_
  refine s_callVi X hR (c_leaf0 np _ p F hp hN hF) rfl 6 (by decide) (oP np (by omega)) (kP np _) rfl u456 u453 u454 u455 u14 hyX6_leaf (by decide) (by decide) (Nat.le_of_ble_eq_true rfl) dX6_shownOf_19 (fun v_19 m_19 h_19 => ?_)
  obtain ⟨e1, e2⟩ := h_19; have e1 := e1.symm; have e2 := e2.symm; subst e1; subst e2
  refine s_iret X hE hr dX6_shownOf_22 rfl ?_
  first | exact ⟨rfl, rfl⟩ | (exfalso; clear hE hr hR X; (try simp only [lg_cmp_lt, lg_cmp_gt, lg_cmp_le, lg_cmp_ge] at *); (try simp (disch := omega) only [Int64.le_iff_toInt_le, Int64.lt_iff_toInt_lt, Int32.le_iff_toInt_le, Int32.lt_iff_toInt_lt, fa_eq, fa_lit, fa_litL, nI_toInt, pk_lT, Int32.toInt_toInt64, jadd64, jin, jnoneT] at *); omega)
set_option maxRecDepth 4000 in
set_option maxHeartbeats 1000000 in
theorem c_shownOf12_1 (np : Nat) (mem : jMem) (p : Nat) (F : Nat → Int32) (hp : p < np) (hN : mem (92 + 2 * p) 0 = nI p) (hF : mem (93 + 2 * p) = F) : jPi yX6_shownOf cX6_shownOf 3 .int 3 [.ref (92 + 2 * p), .int 12, .int 1] np mem (fun v c => v = (jLeaf (nI p) 1 (F 1)) ∧ c = mem) := by
  refine jPi.of (own := RX6) rfl rfl (Nat.le_of_ble_eq_true rfl) (fun G X hR hr hE => ?_)
  refine j_iload_n X dX6_shownOf_0 rfl ?_
  refine j_iload_n X dX6_shownOf_1 rfl ?_
  refine s_callNi X hR (c_hasBit np _ _ _) rfl u498 (by decide) u497 u1 hyX10_hasBit (by decide) (by decide) (Nat.le_of_ble_eq_true rfl) dX6_shownOf_2 (fun v_2 m_2 h_2 => ?_)
  obtain ⟨e1, e2⟩ := h_2; have e1 := e1.symm; have e2 := e2.symm; subst e1; subst e2
  refine j_ifb_eq X 17 dX6_shownOf_5 (by decide) (fun c_5 => ?_) (fun c_5 => absurd c_5 (by decide))
  refine j_aload_n X dX6_shownOf_17 rfl ?_
  refine j_iload_n X dX6_shownOf_18 rfl ?_
  refine s_callVi X hR (c_leaf1 np _ p F hp hN hF) rfl 6 (by decide) (oP np (by omega)) (kP np _) rfl u456 u453 u454 u455 u14 hyX6_leaf (by decide) (by decide) (Nat.le_of_ble_eq_true rfl) dX6_shownOf_19 (fun v_19 m_19 h_19 => ?_)
  obtain ⟨e1, e2⟩ := h_19; have e1 := e1.symm; have e2 := e2.symm; subst e1; subst e2
  refine s_iret X hE hr dX6_shownOf_22 rfl ?_
  first | exact ⟨rfl, rfl⟩ | (exfalso; clear hE hr hR X; (try simp only [lg_cmp_lt, lg_cmp_gt, lg_cmp_le, lg_cmp_ge] at *); (try simp (disch := omega) only [Int64.le_iff_toInt_le, Int64.lt_iff_toInt_lt, Int32.le_iff_toInt_le, Int32.lt_iff_toInt_lt, fa_eq, fa_lit, fa_litL, nI_toInt, pk_lT, Int32.toInt_toInt64, jadd64, jin, jnoneT] at *); omega)
set_option maxRecDepth 4000 in
set_option maxHeartbeats 1000000 in
theorem c_shownOf12_2 (np : Nat) (mem : jMem) (p : Nat) (F : Nat → Int32) (hp : p < np) (hN : mem (92 + 2 * p) 0 = nI p) (hF : mem (93 + 2 * p) = F) : jPi yX6_shownOf cX6_shownOf 3 .int 3 [.ref (92 + 2 * p), .int 12, .int 2] np mem (fun v c => v = F 2 ∧ c = mem) := by
  refine jPi.of (own := RX6) rfl rfl (Nat.le_of_ble_eq_true rfl) (fun G X hR hr hE => ?_)
  refine j_iload_n X dX6_shownOf_0 rfl ?_
  refine j_iload_n X dX6_shownOf_1 rfl ?_
  refine s_callNi X hR (c_hasBit np _ _ _) rfl u498 (by decide) u497 u1 hyX10_hasBit (by decide) (by decide) (Nat.le_of_ble_eq_true rfl) dX6_shownOf_2 (fun v_2 m_2 h_2 => ?_)
  obtain ⟨e1, e2⟩ := h_2; have e1 := e1.symm; have e2 := e2.symm; subst e1; subst e2
  refine j_ifb_eq X 17 dX6_shownOf_5 (by decide) (fun c_5 => absurd c_5 (by decide)) (fun c_5 => ?_)
  refine j_aload_n X dX6_shownOf_8 rfl ?_
  refine j_getR X 6 6 (by decide) (by decide) rfl u405 (oP np (by omega)) (kP np _) _ (pP_f np _) dX6_shownOf_9 ?_
  refine j_iload_n X dX6_shownOf_12 rfl ?_
  refine j_nrm _ (by first | (simp only [fa_lit, pk_mul, nI_add]; done) | (simp only [fa_lit, pk_mul, nI_add]; rfl) | rfl) ?_
  refine j_ialdN X (oPf np (by omega)) (kPf np _) (by rw [lPf]; omega) (by rw [lPf]; decide) F hF dX6_shownOf_13 ?_
  refine j_goto X 22 dX6_shownOf_14 (by decide) ?_
  refine s_iret X hE hr dX6_shownOf_22 rfl ?_
  first | exact ⟨rfl, rfl⟩ | (exfalso; clear hE hr hR X; (try simp only [lg_cmp_lt, lg_cmp_gt, lg_cmp_le, lg_cmp_ge] at *); (try simp (disch := omega) only [Int64.le_iff_toInt_le, Int64.lt_iff_toInt_lt, Int32.le_iff_toInt_le, Int32.lt_iff_toInt_lt, fa_eq, fa_lit, fa_litL, nI_toInt, pk_lT, Int32.toInt_toInt64, jadd64, jin, jnoneT] at *); omega)
set_option maxRecDepth 4000 in
set_option maxHeartbeats 1000000 in
theorem c_shownOf12_3 (np : Nat) (mem : jMem) (p : Nat) (F : Nat → Int32) (hp : p < np) (hN : mem (92 + 2 * p) 0 = nI p) (hF : mem (93 + 2 * p) = F) : jPi yX6_shownOf cX6_shownOf 3 .int 3 [.ref (92 + 2 * p), .int 12, .int 3] np mem (fun v c => v = F 3 ∧ c = mem) := by
  refine jPi.of (own := RX6) rfl rfl (Nat.le_of_ble_eq_true rfl) (fun G X hR hr hE => ?_)
  refine j_iload_n X dX6_shownOf_0 rfl ?_
  refine j_iload_n X dX6_shownOf_1 rfl ?_
  refine s_callNi X hR (c_hasBit np _ _ _) rfl u498 (by decide) u497 u1 hyX10_hasBit (by decide) (by decide) (Nat.le_of_ble_eq_true rfl) dX6_shownOf_2 (fun v_2 m_2 h_2 => ?_)
  obtain ⟨e1, e2⟩ := h_2; have e1 := e1.symm; have e2 := e2.symm; subst e1; subst e2
  refine j_ifb_eq X 17 dX6_shownOf_5 (by decide) (fun c_5 => absurd c_5 (by decide)) (fun c_5 => ?_)
  refine j_aload_n X dX6_shownOf_8 rfl ?_
  refine j_getR X 6 6 (by decide) (by decide) rfl u405 (oP np (by omega)) (kP np _) _ (pP_f np _) dX6_shownOf_9 ?_
  refine j_iload_n X dX6_shownOf_12 rfl ?_
  refine j_nrm _ (by first | (simp only [fa_lit, pk_mul, nI_add]; done) | (simp only [fa_lit, pk_mul, nI_add]; rfl) | rfl) ?_
  refine j_ialdN X (oPf np (by omega)) (kPf np _) (by rw [lPf]; omega) (by rw [lPf]; decide) F hF dX6_shownOf_13 ?_
  refine j_goto X 22 dX6_shownOf_14 (by decide) ?_
  refine s_iret X hE hr dX6_shownOf_22 rfl ?_
  first | exact ⟨rfl, rfl⟩ | (exfalso; clear hE hr hR X; (try simp only [lg_cmp_lt, lg_cmp_gt, lg_cmp_le, lg_cmp_ge] at *); (try simp (disch := omega) only [Int64.le_iff_toInt_le, Int64.lt_iff_toInt_lt, Int32.le_iff_toInt_le, Int32.lt_iff_toInt_lt, fa_eq, fa_lit, fa_litL, nI_toInt, pk_lT, Int32.toInt_toInt64, jadd64, jin, jnoneT] at *); omega)
set_option maxRecDepth 4000 in
set_option maxHeartbeats 1000000 in
theorem c_fillShowing12 (np : Nat) (mem : jMem) (p : Nat) (F : Nat → Int32) (hp : p < np) (hN : mem (92 + 2 * p) 0 = nI p) (hF : mem (93 + 2 * p) = F) : jPi yX6_fillShowing cX6_fillShowing 5 .int 4 [.ref (92 + 2 * p), .int 12, .ref 65] np mem (fun v c => v = 3 ∧ c = jup (jup (jup (mem) 65 0 (jJoin (jLeaf (nI p) 0 (F 0)) (jLeaf (nI p) 1 (F 1)))) 65 1 (F 2)) 65 2 (F 3)) := by
  refine jPi.of (own := RX6) rfl rfl (Nat.le_of_ble_eq_true rfl) (fun G X hR hr hE => ?_)
  refine j_iconst X dX6_fillShowing_0 0 (by decide) ?_
  refine j_istore_n X dX6_fillShowing_1 (by decide) ?_
  refine j_iconst X dX6_fillShowing_2 0 (by decide) ?_
  refine j_istore X dX6_fillShowing_3 (by decide) ?_
  refine j_iload X dX6_fillShowing_5 rfl ?_
  refine j_iconst X dX6_fillShowing_7 2 (by decide) ?_
  refine j_icmp_ge X 75 dX6_fillShowing_8 (by decide) (fun c_8 => absurd c_8 (by decide)) (fun c_8 => ?_)
  refine j_iload_n X dX6_fillShowing_11 rfl ?_
  refine j_iload X dX6_fillShowing_12 rfl ?_
  refine s_callSi X hR (c_shows12_0 np _) rfl u491 u489 u490 u14 hyX6_showsOfHalf (by decide) (by decide) (Nat.le_of_ble_eq_true rfl) dX6_fillShowing_14 (fun v_2 m_2 h_2 => ?_)
  obtain ⟨e1, e2⟩ := h_2; have e1 := e1.symm; have e2 := e2.symm; subst e1; subst e2
  refine j_if_eq X 51 dX6_fillShowing_17 (by decide) (fun c_17 => ?_) (fun c_17 => absurd c_17 (by decide))
  refine j_aload_n X dX6_fillShowing_51 rfl ?_
  refine j_iload_n X dX6_fillShowing_52 rfl ?_
  refine j_aload_n X dX6_fillShowing_53 rfl ?_
  refine j_iload X dX6_fillShowing_54 rfl ?_
  refine s_callVi X hR (c_half0 np _ p F hp (by first | exact hN | (simp only [jup_o (show ¬ 92 + 2 * p = 65 by omega)]; exact hN)) (by first | exact hF | (simp only [jup_o (show ¬ 93 + 2 * p = 65 by omega)]; exact hF))) rfl 6 (by decide) (oP np (by omega)) (kP np _) rfl u452 u470 u450 u451 u14 hyX6_half (by decide) (by decide) (Nat.le_of_ble_eq_true rfl) dX6_fillShowing_56 (fun v_56 m_56 h_56 => ?_)
  obtain ⟨e1, e2⟩ := h_56; have e1 := e1.symm; have e2 := e2.symm; subst e1; subst e2
  refine j_nrm2 _ (by first | (simp only [fa_lit, pk_mul, nI_add]; done) | (simp only [fa_lit, pk_mul, nI_add]; rfl) | rfl) ?_
  refine j_iastN X (o65 np) (k65 np) (by rw [l65]; omega) (by rw [l65]; decide) dX6_fillShowing_59 ?_
  refine j_iload_n X dX6_fillShowing_60 rfl ?_
  refine j_iload_n X dX6_fillShowing_61 rfl ?_
  refine j_iload X dX6_fillShowing_62 rfl ?_
  refine s_callSi X hR (c_halfSize12_0 np _) rfl u501 u499 u500 u14 hyX6_halfSize (by decide) (by decide) (Nat.le_of_ble_eq_true rfl) dX6_fillShowing_64 (fun v_2 m_2 h_2 => ?_)
  obtain ⟨e1, e2⟩ := h_2; have e1 := e1.symm; have e2 := e2.symm; subst e1; subst e2
  refine j_iadd X dX6_fillShowing_67 ?_
  refine j_istore_n X dX6_fillShowing_68 (by decide) ?_
  refine j_iinc X dX6_fillShowing_69 rfl 1 rfl ?_
  refine j_goto X 5 dX6_fillShowing_72 (by decide) ?_
  refine j_iload X dX6_fillShowing_5 rfl ?_
  refine j_iconst X dX6_fillShowing_7 2 (by decide) ?_
  refine j_icmp_ge X 75 dX6_fillShowing_8 (by decide) (fun c_8 => absurd c_8 (by decide)) (fun c_8 => ?_)
  refine j_iload_n X dX6_fillShowing_11 rfl ?_
  refine j_iload X dX6_fillShowing_12 rfl ?_
  refine s_callSi X hR (c_shows12_1 np _) rfl u491 u489 u490 u14 hyX6_showsOfHalf (by decide) (by decide) (Nat.le_of_ble_eq_true rfl) dX6_fillShowing_14 (fun v_2 m_2 h_2 => ?_)
  obtain ⟨e1, e2⟩ := h_2; have e1 := e1.symm; have e2 := e2.symm; subst e1; subst e2
  refine j_if_eq X 51 dX6_fillShowing_17 (by decide) (fun c_17 => absurd c_17 (by decide)) (fun c_17 => ?_)
  refine j_aload_n X dX6_fillShowing_20 rfl ?_
  refine j_iload_n X dX6_fillShowing_21 rfl ?_
  refine j_aload_n X dX6_fillShowing_22 rfl ?_
  refine j_iload_n X dX6_fillShowing_23 rfl ?_
  refine j_iconst X dX6_fillShowing_24 2 (by decide) ?_
  refine j_iload X dX6_fillShowing_25 rfl ?_
  refine j_imul X dX6_fillShowing_27 ?_
  refine s_callVi X hR (c_shownOf12_2 np _ p F hp (by first | exact hN | (simp only [jup_o (show ¬ 92 + 2 * p = 65 by omega)]; exact hN)) (by first | exact hF | (simp only [jup_o (show ¬ 93 + 2 * p = 65 by omega)]; exact hF))) rfl 6 (by decide) (oP np (by omega)) (kP np _) rfl u495 u492 u494 qp4 u14 hyX6_shownOf (by decide) (by decide) (Nat.le_of_ble_eq_true rfl) dX6_fillShowing_28 (fun v_28 m_28 h_28 => ?_)
  obtain ⟨e1, e2⟩ := h_28; have e1 := e1.symm; have e2 := e2.symm; subst e1; subst e2
  refine j_nrm2 _ (by first | (simp only [fa_lit, pk_mul, nI_add]; done) | (simp only [fa_lit, pk_mul, nI_add]; rfl) | rfl) ?_
  refine j_iastN X (o65 np) (k65 np) (by rw [l65]; omega) (by rw [l65]; decide) dX6_fillShowing_31 ?_
  refine j_aload_n X dX6_fillShowing_32 rfl ?_
  refine j_iload_n X dX6_fillShowing_33 rfl ?_
  refine j_iconst X dX6_fillShowing_34 1 (by decide) ?_
  refine j_iadd X dX6_fillShowing_35 ?_
  refine j_aload_n X dX6_fillShowing_36 rfl ?_
  refine j_iload_n X dX6_fillShowing_37 rfl ?_
  refine j_iconst X dX6_fillShowing_38 2 (by decide) ?_
  refine j_iload X dX6_fillShowing_39 rfl ?_
  refine j_imul X dX6_fillShowing_41 ?_
  refine j_iconst X dX6_fillShowing_42 1 (by decide) ?_
  refine j_iadd X dX6_fillShowing_43 ?_
  refine s_callVi X hR (c_shownOf12_3 np _ p F hp (by first | exact hN | (simp only [jup_o (show ¬ 92 + 2 * p = 65 by omega)]; exact hN)) (by first | exact hF | (simp only [jup_o (show ¬ 93 + 2 * p = 65 by omega)]; exact hF))) rfl 6 (by decide) (oP np (by omega)) (kP np _) rfl u495 u492 u494 qp4 u14 hyX6_shownOf (by decide) (by decide) (Nat.le_of_ble_eq_true rfl) dX6_fillShowing_44 (fun v_44 m_44 h_44 => ?_)
  obtain ⟨e1, e2⟩ := h_44; have e1 := e1.symm; have e2 := e2.symm; subst e1; subst e2
  refine j_nrm2 _ (by first | (simp only [fa_lit, pk_mul, nI_add]; done) | (simp only [fa_lit, pk_mul, nI_add]; rfl) | rfl) ?_
  refine j_iastN X (o65 np) (k65 np) (by rw [l65]; omega) (by rw [l65]; decide) dX6_fillShowing_47 ?_
  refine j_goto X 60 dX6_fillShowing_48 (by decide) ?_
  refine j_iload_n X dX6_fillShowing_60 rfl ?_
  refine j_iload_n X dX6_fillShowing_61 rfl ?_
  refine j_iload X dX6_fillShowing_62 rfl ?_
  refine s_callSi X hR (c_halfSize12_1 np _) rfl u501 u499 u500 u14 hyX6_halfSize (by decide) (by decide) (Nat.le_of_ble_eq_true rfl) dX6_fillShowing_64 (fun v_2 m_2 h_2 => ?_)
  obtain ⟨e1, e2⟩ := h_2; have e1 := e1.symm; have e2 := e2.symm; subst e1; subst e2
  refine j_iadd X dX6_fillShowing_67 ?_
  refine j_istore_n X dX6_fillShowing_68 (by decide) ?_
  refine j_iinc X dX6_fillShowing_69 rfl 1 rfl ?_
  refine j_goto X 5 dX6_fillShowing_72 (by decide) ?_
  refine j_iload X dX6_fillShowing_5 rfl ?_
  refine j_iconst X dX6_fillShowing_7 2 (by decide) ?_
  refine j_icmp_ge X 75 dX6_fillShowing_8 (by decide) (fun c_8 => ?_) (fun c_8 => absurd c_8 (by decide))
  refine j_iload_n X dX6_fillShowing_75 rfl ?_
  refine s_iret X hE hr dX6_fillShowing_76 rfl ?_
  exact ⟨by decide, rfl⟩
set_option maxRecDepth 4000 in
set_option maxHeartbeats 1000000 in
theorem c_shows13_0 (np : Nat) (mem : jMem)   : jPi yX6_showsOfHalf cX6_showsOfHalf 2 .boolean 1 [.int 13, .int 0] np mem (fun v c => v = 1 ∧ c = mem) := by
  refine jPi.of (own := RX6) rfl rfl (Nat.le_of_ble_eq_true rfl) (fun G X hR hr hE => ?_)
  refine j_iload_n X dX6_showsOfHalf_0 rfl ?_
  refine j_iconst X dX6_showsOfHalf_1 2 (by decide) ?_
  refine j_iload_n X dX6_showsOfHalf_2 rfl ?_
  refine j_imul X dX6_showsOfHalf_3 ?_
  refine j_ishr X dX6_showsOfHalf_4 ?_
  refine j_iconst X dX6_showsOfHalf_5 3 (by decide) ?_
  refine j_iand X dX6_showsOfHalf_6 ?_
  refine j_if_eq X 14 dX6_showsOfHalf_7 (by decide) (fun c_7 => absurd c_7 (by decide)) (fun c_7 => ?_)
  refine j_iconst X dX6_showsOfHalf_10 1 (by decide) ?_
  refine j_goto X 15 dX6_showsOfHalf_11 (by decide) ?_
  refine s_iret X hE hr dX6_showsOfHalf_15 (by first | exact jb_nar | rfl) ?_
  first | exact ⟨rfl, rfl⟩ | (exfalso; clear hE hr hR X; (try simp only [lg_cmp_lt, lg_cmp_gt, lg_cmp_le, lg_cmp_ge] at *); (try simp (disch := omega) only [Int64.le_iff_toInt_le, Int64.lt_iff_toInt_lt, Int32.le_iff_toInt_le, Int32.lt_iff_toInt_lt, fa_eq, fa_lit, fa_litL, nI_toInt, pk_lT, Int32.toInt_toInt64, jadd64, jin, jnoneT] at *); omega)
set_option maxRecDepth 4000 in
set_option maxHeartbeats 1000000 in
theorem c_halfSize13_0 (np : Nat) (mem : jMem)   : jPi yX6_halfSize cX6_halfSize 2 .int 2 [.int 13, .int 0] np mem (fun v c => v = 2 ∧ c = mem) := by
  refine jPi.of (own := RX6) rfl rfl (Nat.le_of_ble_eq_true rfl) (fun G X hR hr hE => ?_)
  refine j_iload_n X dX6_halfSize_0 rfl ?_
  refine j_iload_n X dX6_halfSize_1 rfl ?_
  refine s_callSi X hR (c_shows13_0 np _) rfl u491 u489 u490 u14 hyX6_showsOfHalf (by decide) (by decide) (Nat.le_of_ble_eq_true rfl) dX6_halfSize_2 (fun v_2 m_2 h_2 => ?_)
  obtain ⟨e1, e2⟩ := h_2; have e1 := e1.symm; have e2 := e2.symm; subst e1; subst e2
  refine j_if_eq X 12 dX6_halfSize_5 (by decide) (fun c_5 => absurd c_5 (by decide)) (fun c_5 => ?_)
  refine j_iconst X dX6_halfSize_8 2 (by decide) ?_
  refine j_goto X 13 dX6_halfSize_9 (by decide) ?_
  refine s_iret X hE hr dX6_halfSize_13 rfl ?_
  first | exact ⟨rfl, rfl⟩ | (exfalso; clear hE hr hR X; (try simp only [lg_cmp_lt, lg_cmp_gt, lg_cmp_le, lg_cmp_ge] at *); (try simp (disch := omega) only [Int64.le_iff_toInt_le, Int64.lt_iff_toInt_lt, Int32.le_iff_toInt_le, Int32.lt_iff_toInt_lt, fa_eq, fa_lit, fa_litL, nI_toInt, pk_lT, Int32.toInt_toInt64, jadd64, jin, jnoneT] at *); omega)
set_option maxRecDepth 4000 in
set_option maxHeartbeats 1000000 in
theorem c_shows13_1 (np : Nat) (mem : jMem)   : jPi yX6_showsOfHalf cX6_showsOfHalf 2 .boolean 1 [.int 13, .int 1] np mem (fun v c => v = 1 ∧ c = mem) := by
  refine jPi.of (own := RX6) rfl rfl (Nat.le_of_ble_eq_true rfl) (fun G X hR hr hE => ?_)
  refine j_iload_n X dX6_showsOfHalf_0 rfl ?_
  refine j_iconst X dX6_showsOfHalf_1 2 (by decide) ?_
  refine j_iload_n X dX6_showsOfHalf_2 rfl ?_
  refine j_imul X dX6_showsOfHalf_3 ?_
  refine j_ishr X dX6_showsOfHalf_4 ?_
  refine j_iconst X dX6_showsOfHalf_5 3 (by decide) ?_
  refine j_iand X dX6_showsOfHalf_6 ?_
  refine j_if_eq X 14 dX6_showsOfHalf_7 (by decide) (fun c_7 => absurd c_7 (by decide)) (fun c_7 => ?_)
  refine j_iconst X dX6_showsOfHalf_10 1 (by decide) ?_
  refine j_goto X 15 dX6_showsOfHalf_11 (by decide) ?_
  refine s_iret X hE hr dX6_showsOfHalf_15 (by first | exact jb_nar | rfl) ?_
  first | exact ⟨rfl, rfl⟩ | (exfalso; clear hE hr hR X; (try simp only [lg_cmp_lt, lg_cmp_gt, lg_cmp_le, lg_cmp_ge] at *); (try simp (disch := omega) only [Int64.le_iff_toInt_le, Int64.lt_iff_toInt_lt, Int32.le_iff_toInt_le, Int32.lt_iff_toInt_lt, fa_eq, fa_lit, fa_litL, nI_toInt, pk_lT, Int32.toInt_toInt64, jadd64, jin, jnoneT] at *); omega)
set_option maxRecDepth 4000 in
set_option maxHeartbeats 1000000 in
theorem c_halfSize13_1 (np : Nat) (mem : jMem)   : jPi yX6_halfSize cX6_halfSize 2 .int 2 [.int 13, .int 1] np mem (fun v c => v = 2 ∧ c = mem) := by
  refine jPi.of (own := RX6) rfl rfl (Nat.le_of_ble_eq_true rfl) (fun G X hR hr hE => ?_)
  refine j_iload_n X dX6_halfSize_0 rfl ?_
  refine j_iload_n X dX6_halfSize_1 rfl ?_
  refine s_callSi X hR (c_shows13_1 np _) rfl u491 u489 u490 u14 hyX6_showsOfHalf (by decide) (by decide) (Nat.le_of_ble_eq_true rfl) dX6_halfSize_2 (fun v_2 m_2 h_2 => ?_)
  obtain ⟨e1, e2⟩ := h_2; have e1 := e1.symm; have e2 := e2.symm; subst e1; subst e2
  refine j_if_eq X 12 dX6_halfSize_5 (by decide) (fun c_5 => absurd c_5 (by decide)) (fun c_5 => ?_)
  refine j_iconst X dX6_halfSize_8 2 (by decide) ?_
  refine j_goto X 13 dX6_halfSize_9 (by decide) ?_
  refine s_iret X hE hr dX6_halfSize_13 rfl ?_
  first | exact ⟨rfl, rfl⟩ | (exfalso; clear hE hr hR X; (try simp only [lg_cmp_lt, lg_cmp_gt, lg_cmp_le, lg_cmp_ge] at *); (try simp (disch := omega) only [Int64.le_iff_toInt_le, Int64.lt_iff_toInt_lt, Int32.le_iff_toInt_le, Int32.lt_iff_toInt_lt, fa_eq, fa_lit, fa_litL, nI_toInt, pk_lT, Int32.toInt_toInt64, jadd64, jin, jnoneT] at *); omega)
set_option maxRecDepth 4000 in
set_option maxHeartbeats 1000000 in
theorem c_showingSize13 (np : Nat) (mem : jMem)   : jPi yX6_showingSize cX6_showingSize 1 .int 3 [.int 13] np mem (fun v c => v = 4 ∧ c = mem) := by
  refine jPi.of (own := RX6) rfl rfl (Nat.le_of_ble_eq_true rfl) (fun G X hR hr hE => ?_)
  refine j_iload_n X dX6_showingSize_0 rfl ?_
  refine j_iconst X dX6_showingSize_1 0 (by decide) ?_
  refine s_callSi X hR (c_halfSize13_0 np _) rfl u501 u499 u500 u14 hyX6_halfSize (by decide) (by decide) (Nat.le_of_ble_eq_true rfl) dX6_showingSize_2 (fun v_2 m_2 h_2 => ?_)
  obtain ⟨e1, e2⟩ := h_2; have e1 := e1.symm; have e2 := e2.symm; subst e1; subst e2
  refine j_iload_n X dX6_showingSize_5 rfl ?_
  refine j_iconst X dX6_showingSize_6 1 (by decide) ?_
  refine s_callSi X hR (c_halfSize13_1 np _) rfl u501 u499 u500 u14 hyX6_halfSize (by decide) (by decide) (Nat.le_of_ble_eq_true rfl) dX6_showingSize_7 (fun v_2 m_2 h_2 => ?_)
  obtain ⟨e1, e2⟩ := h_2; have e1 := e1.symm; have e2 := e2.symm; subst e1; subst e2
  refine j_iadd X dX6_showingSize_10 ?_
  refine s_iret X hE hr dX6_showingSize_11 rfl ?_
  exact ⟨by decide, rfl⟩
set_option maxRecDepth 4000 in
set_option maxHeartbeats 1000000 in
theorem c_shownOf13_0 (np : Nat) (mem : jMem) (p : Nat) (F : Nat → Int32) (hp : p < np) (hN : mem (92 + 2 * p) 0 = nI p) (hF : mem (93 + 2 * p) = F) : jPi yX6_shownOf cX6_shownOf 3 .int 3 [.ref (92 + 2 * p), .int 13, .int 0] np mem (fun v c => v = F 0 ∧ c = mem) := by
  refine jPi.of (own := RX6) rfl rfl (Nat.le_of_ble_eq_true rfl) (fun G X hR hr hE => ?_)
  refine j_iload_n X dX6_shownOf_0 rfl ?_
  refine j_iload_n X dX6_shownOf_1 rfl ?_
  refine s_callNi X hR (c_hasBit np _ _ _) rfl u498 (by decide) u497 u1 hyX10_hasBit (by decide) (by decide) (Nat.le_of_ble_eq_true rfl) dX6_shownOf_2 (fun v_2 m_2 h_2 => ?_)
  obtain ⟨e1, e2⟩ := h_2; have e1 := e1.symm; have e2 := e2.symm; subst e1; subst e2
  refine j_ifb_eq X 17 dX6_shownOf_5 (by decide) (fun c_5 => absurd c_5 (by decide)) (fun c_5 => ?_)
  refine j_aload_n X dX6_shownOf_8 rfl ?_
  refine j_getR X 6 6 (by decide) (by decide) rfl u405 (oP np (by omega)) (kP np _) _ (pP_f np _) dX6_shownOf_9 ?_
  refine j_iload_n X dX6_shownOf_12 rfl ?_
  refine j_nrm _ (by first | (simp only [fa_lit, pk_mul, nI_add]; done) | (simp only [fa_lit, pk_mul, nI_add]; rfl) | rfl) ?_
  refine j_ialdN X (oPf np (by omega)) (kPf np _) (by rw [lPf]; omega) (by rw [lPf]; decide) F hF dX6_shownOf_13 ?_
  refine j_goto X 22 dX6_shownOf_14 (by decide) ?_
  refine s_iret X hE hr dX6_shownOf_22 rfl ?_
  first | exact ⟨rfl, rfl⟩ | (exfalso; clear hE hr hR X; (try simp only [lg_cmp_lt, lg_cmp_gt, lg_cmp_le, lg_cmp_ge] at *); (try simp (disch := omega) only [Int64.le_iff_toInt_le, Int64.lt_iff_toInt_lt, Int32.le_iff_toInt_le, Int32.lt_iff_toInt_lt, fa_eq, fa_lit, fa_litL, nI_toInt, pk_lT, Int32.toInt_toInt64, jadd64, jin, jnoneT] at *); omega)
set_option maxRecDepth 4000 in
set_option maxHeartbeats 1000000 in
theorem c_shownOf13_1 (np : Nat) (mem : jMem) (p : Nat) (F : Nat → Int32) (hp : p < np) (hN : mem (92 + 2 * p) 0 = nI p) (hF : mem (93 + 2 * p) = F) : jPi yX6_shownOf cX6_shownOf 3 .int 3 [.ref (92 + 2 * p), .int 13, .int 1] np mem (fun v c => v = (jLeaf (nI p) 1 (F 1)) ∧ c = mem) := by
  refine jPi.of (own := RX6) rfl rfl (Nat.le_of_ble_eq_true rfl) (fun G X hR hr hE => ?_)
  refine j_iload_n X dX6_shownOf_0 rfl ?_
  refine j_iload_n X dX6_shownOf_1 rfl ?_
  refine s_callNi X hR (c_hasBit np _ _ _) rfl u498 (by decide) u497 u1 hyX10_hasBit (by decide) (by decide) (Nat.le_of_ble_eq_true rfl) dX6_shownOf_2 (fun v_2 m_2 h_2 => ?_)
  obtain ⟨e1, e2⟩ := h_2; have e1 := e1.symm; have e2 := e2.symm; subst e1; subst e2
  refine j_ifb_eq X 17 dX6_shownOf_5 (by decide) (fun c_5 => ?_) (fun c_5 => absurd c_5 (by decide))
  refine j_aload_n X dX6_shownOf_17 rfl ?_
  refine j_iload_n X dX6_shownOf_18 rfl ?_
  refine s_callVi X hR (c_leaf1 np _ p F hp hN hF) rfl 6 (by decide) (oP np (by omega)) (kP np _) rfl u456 u453 u454 u455 u14 hyX6_leaf (by decide) (by decide) (Nat.le_of_ble_eq_true rfl) dX6_shownOf_19 (fun v_19 m_19 h_19 => ?_)
  obtain ⟨e1, e2⟩ := h_19; have e1 := e1.symm; have e2 := e2.symm; subst e1; subst e2
  refine s_iret X hE hr dX6_shownOf_22 rfl ?_
  first | exact ⟨rfl, rfl⟩ | (exfalso; clear hE hr hR X; (try simp only [lg_cmp_lt, lg_cmp_gt, lg_cmp_le, lg_cmp_ge] at *); (try simp (disch := omega) only [Int64.le_iff_toInt_le, Int64.lt_iff_toInt_lt, Int32.le_iff_toInt_le, Int32.lt_iff_toInt_lt, fa_eq, fa_lit, fa_litL, nI_toInt, pk_lT, Int32.toInt_toInt64, jadd64, jin, jnoneT] at *); omega)
set_option maxRecDepth 4000 in
set_option maxHeartbeats 1000000 in
theorem c_shownOf13_2 (np : Nat) (mem : jMem) (p : Nat) (F : Nat → Int32) (hp : p < np) (hN : mem (92 + 2 * p) 0 = nI p) (hF : mem (93 + 2 * p) = F) : jPi yX6_shownOf cX6_shownOf 3 .int 3 [.ref (92 + 2 * p), .int 13, .int 2] np mem (fun v c => v = F 2 ∧ c = mem) := by
  refine jPi.of (own := RX6) rfl rfl (Nat.le_of_ble_eq_true rfl) (fun G X hR hr hE => ?_)
  refine j_iload_n X dX6_shownOf_0 rfl ?_
  refine j_iload_n X dX6_shownOf_1 rfl ?_
  refine s_callNi X hR (c_hasBit np _ _ _) rfl u498 (by decide) u497 u1 hyX10_hasBit (by decide) (by decide) (Nat.le_of_ble_eq_true rfl) dX6_shownOf_2 (fun v_2 m_2 h_2 => ?_)
  obtain ⟨e1, e2⟩ := h_2; have e1 := e1.symm; have e2 := e2.symm; subst e1; subst e2
  refine j_ifb_eq X 17 dX6_shownOf_5 (by decide) (fun c_5 => absurd c_5 (by decide)) (fun c_5 => ?_)
  refine j_aload_n X dX6_shownOf_8 rfl ?_
  refine j_getR X 6 6 (by decide) (by decide) rfl u405 (oP np (by omega)) (kP np _) _ (pP_f np _) dX6_shownOf_9 ?_
  refine j_iload_n X dX6_shownOf_12 rfl ?_
  refine j_nrm _ (by first | (simp only [fa_lit, pk_mul, nI_add]; done) | (simp only [fa_lit, pk_mul, nI_add]; rfl) | rfl) ?_
  refine j_ialdN X (oPf np (by omega)) (kPf np _) (by rw [lPf]; omega) (by rw [lPf]; decide) F hF dX6_shownOf_13 ?_
  refine j_goto X 22 dX6_shownOf_14 (by decide) ?_
  refine s_iret X hE hr dX6_shownOf_22 rfl ?_
  first | exact ⟨rfl, rfl⟩ | (exfalso; clear hE hr hR X; (try simp only [lg_cmp_lt, lg_cmp_gt, lg_cmp_le, lg_cmp_ge] at *); (try simp (disch := omega) only [Int64.le_iff_toInt_le, Int64.lt_iff_toInt_lt, Int32.le_iff_toInt_le, Int32.lt_iff_toInt_lt, fa_eq, fa_lit, fa_litL, nI_toInt, pk_lT, Int32.toInt_toInt64, jadd64, jin, jnoneT] at *); omega)
set_option maxRecDepth 4000 in
set_option maxHeartbeats 1000000 in
theorem c_shownOf13_3 (np : Nat) (mem : jMem) (p : Nat) (F : Nat → Int32) (hp : p < np) (hN : mem (92 + 2 * p) 0 = nI p) (hF : mem (93 + 2 * p) = F) : jPi yX6_shownOf cX6_shownOf 3 .int 3 [.ref (92 + 2 * p), .int 13, .int 3] np mem (fun v c => v = F 3 ∧ c = mem) := by
  refine jPi.of (own := RX6) rfl rfl (Nat.le_of_ble_eq_true rfl) (fun G X hR hr hE => ?_)
  refine j_iload_n X dX6_shownOf_0 rfl ?_
  refine j_iload_n X dX6_shownOf_1 rfl ?_
  refine s_callNi X hR (c_hasBit np _ _ _) rfl u498 (by decide) u497 u1 hyX10_hasBit (by decide) (by decide) (Nat.le_of_ble_eq_true rfl) dX6_shownOf_2 (fun v_2 m_2 h_2 => ?_)
  obtain ⟨e1, e2⟩ := h_2; have e1 := e1.symm; have e2 := e2.symm; subst e1; subst e2
  refine j_ifb_eq X 17 dX6_shownOf_5 (by decide) (fun c_5 => absurd c_5 (by decide)) (fun c_5 => ?_)
  refine j_aload_n X dX6_shownOf_8 rfl ?_
  refine j_getR X 6 6 (by decide) (by decide) rfl u405 (oP np (by omega)) (kP np _) _ (pP_f np _) dX6_shownOf_9 ?_
  refine j_iload_n X dX6_shownOf_12 rfl ?_
  refine j_nrm _ (by first | (simp only [fa_lit, pk_mul, nI_add]; done) | (simp only [fa_lit, pk_mul, nI_add]; rfl) | rfl) ?_
  refine j_ialdN X (oPf np (by omega)) (kPf np _) (by rw [lPf]; omega) (by rw [lPf]; decide) F hF dX6_shownOf_13 ?_
  refine j_goto X 22 dX6_shownOf_14 (by decide) ?_
  refine s_iret X hE hr dX6_shownOf_22 rfl ?_
  first | exact ⟨rfl, rfl⟩ | (exfalso; clear hE hr hR X; (try simp only [lg_cmp_lt, lg_cmp_gt, lg_cmp_le, lg_cmp_ge] at *); (try simp (disch := omega) only [Int64.le_iff_toInt_le, Int64.lt_iff_toInt_lt, Int32.le_iff_toInt_le, Int32.lt_iff_toInt_lt, fa_eq, fa_lit, fa_litL, nI_toInt, pk_lT, Int32.toInt_toInt64, jadd64, jin, jnoneT] at *); omega)
set_option maxRecDepth 4000 in
set_option maxHeartbeats 1000000 in
theorem c_fillShowing13 (np : Nat) (mem : jMem) (p : Nat) (F : Nat → Int32) (hp : p < np) (hN : mem (92 + 2 * p) 0 = nI p) (hF : mem (93 + 2 * p) = F) : jPi yX6_fillShowing cX6_fillShowing 5 .int 4 [.ref (92 + 2 * p), .int 13, .ref 65] np mem (fun v c => v = 4 ∧ c = jup (jup (jup (jup (mem) 65 0 (F 0)) 65 1 (jLeaf (nI p) 1 (F 1))) 65 2 (F 2)) 65 3 (F 3)) := by
  refine jPi.of (own := RX6) rfl rfl (Nat.le_of_ble_eq_true rfl) (fun G X hR hr hE => ?_)
  refine j_iconst X dX6_fillShowing_0 0 (by decide) ?_
  refine j_istore_n X dX6_fillShowing_1 (by decide) ?_
  refine j_iconst X dX6_fillShowing_2 0 (by decide) ?_
  refine j_istore X dX6_fillShowing_3 (by decide) ?_
  refine j_iload X dX6_fillShowing_5 rfl ?_
  refine j_iconst X dX6_fillShowing_7 2 (by decide) ?_
  refine j_icmp_ge X 75 dX6_fillShowing_8 (by decide) (fun c_8 => absurd c_8 (by decide)) (fun c_8 => ?_)
  refine j_iload_n X dX6_fillShowing_11 rfl ?_
  refine j_iload X dX6_fillShowing_12 rfl ?_
  refine s_callSi X hR (c_shows13_0 np _) rfl u491 u489 u490 u14 hyX6_showsOfHalf (by decide) (by decide) (Nat.le_of_ble_eq_true rfl) dX6_fillShowing_14 (fun v_2 m_2 h_2 => ?_)
  obtain ⟨e1, e2⟩ := h_2; have e1 := e1.symm; have e2 := e2.symm; subst e1; subst e2
  refine j_if_eq X 51 dX6_fillShowing_17 (by decide) (fun c_17 => absurd c_17 (by decide)) (fun c_17 => ?_)
  refine j_aload_n X dX6_fillShowing_20 rfl ?_
  refine j_iload_n X dX6_fillShowing_21 rfl ?_
  refine j_aload_n X dX6_fillShowing_22 rfl ?_
  refine j_iload_n X dX6_fillShowing_23 rfl ?_
  refine j_iconst X dX6_fillShowing_24 2 (by decide) ?_
  refine j_iload X dX6_fillShowing_25 rfl ?_
  refine j_imul X dX6_fillShowing_27 ?_
  refine s_callVi X hR (c_shownOf13_0 np _ p F hp (by first | exact hN | (simp only [jup_o (show ¬ 92 + 2 * p = 65 by omega)]; exact hN)) (by first | exact hF | (simp only [jup_o (show ¬ 93 + 2 * p = 65 by omega)]; exact hF))) rfl 6 (by decide) (oP np (by omega)) (kP np _) rfl u495 u492 u494 qp4 u14 hyX6_shownOf (by decide) (by decide) (Nat.le_of_ble_eq_true rfl) dX6_fillShowing_28 (fun v_28 m_28 h_28 => ?_)
  obtain ⟨e1, e2⟩ := h_28; have e1 := e1.symm; have e2 := e2.symm; subst e1; subst e2
  refine j_nrm2 _ (by first | (simp only [fa_lit, pk_mul, nI_add]; done) | (simp only [fa_lit, pk_mul, nI_add]; rfl) | rfl) ?_
  refine j_iastN X (o65 np) (k65 np) (by rw [l65]; omega) (by rw [l65]; decide) dX6_fillShowing_31 ?_
  refine j_aload_n X dX6_fillShowing_32 rfl ?_
  refine j_iload_n X dX6_fillShowing_33 rfl ?_
  refine j_iconst X dX6_fillShowing_34 1 (by decide) ?_
  refine j_iadd X dX6_fillShowing_35 ?_
  refine j_aload_n X dX6_fillShowing_36 rfl ?_
  refine j_iload_n X dX6_fillShowing_37 rfl ?_
  refine j_iconst X dX6_fillShowing_38 2 (by decide) ?_
  refine j_iload X dX6_fillShowing_39 rfl ?_
  refine j_imul X dX6_fillShowing_41 ?_
  refine j_iconst X dX6_fillShowing_42 1 (by decide) ?_
  refine j_iadd X dX6_fillShowing_43 ?_
  refine s_callVi X hR (c_shownOf13_1 np _ p F hp (by first | exact hN | (simp only [jup_o (show ¬ 92 + 2 * p = 65 by omega)]; exact hN)) (by first | exact hF | (simp only [jup_o (show ¬ 93 + 2 * p = 65 by omega)]; exact hF))) rfl 6 (by decide) (oP np (by omega)) (kP np _) rfl u495 u492 u494 qp4 u14 hyX6_shownOf (by decide) (by decide) (Nat.le_of_ble_eq_true rfl) dX6_fillShowing_44 (fun v_44 m_44 h_44 => ?_)
  obtain ⟨e1, e2⟩ := h_44; have e1 := e1.symm; have e2 := e2.symm; subst e1; subst e2
  refine j_nrm2 _ (by first | (simp only [fa_lit, pk_mul, nI_add]; done) | (simp only [fa_lit, pk_mul, nI_add]; rfl) | rfl) ?_
  refine j_iastN X (o65 np) (k65 np) (by rw [l65]; omega) (by rw [l65]; decide) dX6_fillShowing_47 ?_
  refine j_goto X 60 dX6_fillShowing_48 (by decide) ?_
  refine j_iload_n X dX6_fillShowing_60 rfl ?_
  refine j_iload_n X dX6_fillShowing_61 rfl ?_
  refine j_iload X dX6_fillShowing_62 rfl ?_
  refine s_callSi X hR (c_halfSize13_0 np _) rfl u501 u499 u500 u14 hyX6_halfSize (by decide) (by decide) (Nat.le_of_ble_eq_true rfl) dX6_fillShowing_64 (fun v_2 m_2 h_2 => ?_)
  obtain ⟨e1, e2⟩ := h_2; have e1 := e1.symm; have e2 := e2.symm; subst e1; subst e2
  refine j_iadd X dX6_fillShowing_67 ?_
  refine j_istore_n X dX6_fillShowing_68 (by decide) ?_
  refine j_iinc X dX6_fillShowing_69 rfl 1 rfl ?_
  refine j_goto X 5 dX6_fillShowing_72 (by decide) ?_
  refine j_iload X dX6_fillShowing_5 rfl ?_
  refine j_iconst X dX6_fillShowing_7 2 (by decide) ?_
  refine j_icmp_ge X 75 dX6_fillShowing_8 (by decide) (fun c_8 => absurd c_8 (by decide)) (fun c_8 => ?_)
  refine j_iload_n X dX6_fillShowing_11 rfl ?_
  refine j_iload X dX6_fillShowing_12 rfl ?_
  refine s_callSi X hR (c_shows13_1 np _) rfl u491 u489 u490 u14 hyX6_showsOfHalf (by decide) (by decide) (Nat.le_of_ble_eq_true rfl) dX6_fillShowing_14 (fun v_2 m_2 h_2 => ?_)
  obtain ⟨e1, e2⟩ := h_2; have e1 := e1.symm; have e2 := e2.symm; subst e1; subst e2
  refine j_if_eq X 51 dX6_fillShowing_17 (by decide) (fun c_17 => absurd c_17 (by decide)) (fun c_17 => ?_)
  refine j_aload_n X dX6_fillShowing_20 rfl ?_
  refine j_iload_n X dX6_fillShowing_21 rfl ?_
  refine j_aload_n X dX6_fillShowing_22 rfl ?_
  refine j_iload_n X dX6_fillShowing_23 rfl ?_
  refine j_iconst X dX6_fillShowing_24 2 (by decide) ?_
  refine j_iload X dX6_fillShowing_25 rfl ?_
  refine j_imul X dX6_fillShowing_27 ?_
  refine s_callVi X hR (c_shownOf13_2 np _ p F hp (by first | exact hN | (simp only [jup_o (show ¬ 92 + 2 * p = 65 by omega)]; exact hN)) (by first | exact hF | (simp only [jup_o (show ¬ 93 + 2 * p = 65 by omega)]; exact hF))) rfl 6 (by decide) (oP np (by omega)) (kP np _) rfl u495 u492 u494 qp4 u14 hyX6_shownOf (by decide) (by decide) (Nat.le_of_ble_eq_true rfl) dX6_fillShowing_28 (fun v_28 m_28 h_28 => ?_)
  obtain ⟨e1, e2⟩ := h_28; have e1 := e1.symm; have e2 := e2.symm; subst e1; subst e2
  refine j_nrm2 _ (by first | (simp only [fa_lit, pk_mul, nI_add]; done) | (simp only [fa_lit, pk_mul, nI_add]; rfl) | rfl) ?_
  refine j_iastN X (o65 np) (k65 np) (by rw [l65]; omega) (by rw [l65]; decide) dX6_fillShowing_31 ?_
  refine j_aload_n X dX6_fillShowing_32 rfl ?_
  refine j_iload_n X dX6_fillShowing_33 rfl ?_
  refine j_iconst X dX6_fillShowing_34 1 (by decide) ?_
  refine j_iadd X dX6_fillShowing_35 ?_
  refine j_aload_n X dX6_fillShowing_36 rfl ?_
  refine j_iload_n X dX6_fillShowing_37 rfl ?_
  refine j_iconst X dX6_fillShowing_38 2 (by decide) ?_
  refine j_iload X dX6_fillShowing_39 rfl ?_
  refine j_imul X dX6_fillShowing_41 ?_
  refine j_iconst X dX6_fillShowing_42 1 (by decide) ?_
  refine j_iadd X dX6_fillShowing_43 ?_
  refine s_callVi X hR (c_shownOf13_3 np _ p F hp (by first | exact hN | (simp only [jup_o (show ¬ 92 + 2 * p = 65 by omega)]; exact hN)) (by first | exact hF | (simp only [jup_o (show ¬ 93 + 2 * p = 65 by omega)]; exact hF))) rfl 6 (by decide) (oP np (by omega)) (kP np _) rfl u495 u492 u494 qp4 u14 hyX6_shownOf (by decide) (by decide) (Nat.le_of_ble_eq_true rfl) dX6_fillShowing_44 (fun v_44 m_44 h_44 => ?_)
  obtain ⟨e1, e2⟩ := h_44; have e1 := e1.symm; have e2 := e2.symm; subst e1; subst e2
  refine j_nrm2 _ (by first | (simp only [fa_lit, pk_mul, nI_add]; done) | (simp only [fa_lit, pk_mul, nI_add]; rfl) | rfl) ?_
  refine j_iastN X (o65 np) (k65 np) (by rw [l65]; omega) (by rw [l65]; decide) dX6_fillShowing_47 ?_
  refine j_goto X 60 dX6_fillShowing_48 (by decide) ?_
  refine j_iload_n X dX6_fillShowing_60 rfl ?_
  refine j_iload_n X dX6_fillShowing_61 rfl ?_
  refine j_iload X dX6_fillShowing_62 rfl ?_
  refine s_callSi X hR (c_halfSize13_1 np _) rfl u501 u499 u500 u14 hyX6_halfSize (by decide) (by decide) (Nat.le_of_ble_eq_true rfl) dX6_fillShowing_64 (fun v_2 m_2 h_2 => ?_)
  obtain ⟨e1, e2⟩ := h_2; have e1 := e1.symm; have e2 := e2.symm; subst e1; subst e2
  refine j_iadd X dX6_fillShowing_67 ?_
  refine j_istore_n X dX6_fillShowing_68 (by decide) ?_
  refine j_iinc X dX6_fillShowing_69 rfl 1 rfl ?_
  refine j_goto X 5 dX6_fillShowing_72 (by decide) ?_
  refine j_iload X dX6_fillShowing_5 rfl ?_
  refine j_iconst X dX6_fillShowing_7 2 (by decide) ?_
  refine j_icmp_ge X 75 dX6_fillShowing_8 (by decide) (fun c_8 => ?_) (fun c_8 => absurd c_8 (by decide))
  refine j_iload_n X dX6_fillShowing_75 rfl ?_
  refine s_iret X hE hr dX6_fillShowing_76 rfl ?_
  exact ⟨by decide, rfl⟩
set_option maxRecDepth 4000 in
set_option maxHeartbeats 1000000 in
theorem c_shows14_0 (np : Nat) (mem : jMem)   : jPi yX6_showsOfHalf cX6_showsOfHalf 2 .boolean 1 [.int 14, .int 0] np mem (fun v c => v = 1 ∧ c = mem) := by
  refine jPi.of (own := RX6) rfl rfl (Nat.le_of_ble_eq_true rfl) (fun G X hR hr hE => ?_)
  refine j_iload_n X dX6_showsOfHalf_0 rfl ?_
  refine j_iconst X dX6_showsOfHalf_1 2 (by decide) ?_
  refine j_iload_n X dX6_showsOfHalf_2 rfl ?_
  refine j_imul X dX6_showsOfHalf_3 ?_
  refine j_ishr X dX6_showsOfHalf_4 ?_
  refine j_iconst X dX6_showsOfHalf_5 3 (by decide) ?_
  refine j_iand X dX6_showsOfHalf_6 ?_
  refine j_if_eq X 14 dX6_showsOfHalf_7 (by decide) (fun c_7 => absurd c_7 (by decide)) (fun c_7 => ?_)
  refine j_iconst X dX6_showsOfHalf_10 1 (by decide) ?_
  refine j_goto X 15 dX6_showsOfHalf_11 (by decide) ?_
  refine s_iret X hE hr dX6_showsOfHalf_15 (by first | exact jb_nar | rfl) ?_
  first | exact ⟨rfl, rfl⟩ | (exfalso; clear hE hr hR X; (try simp only [lg_cmp_lt, lg_cmp_gt, lg_cmp_le, lg_cmp_ge] at *); (try simp (disch := omega) only [Int64.le_iff_toInt_le, Int64.lt_iff_toInt_lt, Int32.le_iff_toInt_le, Int32.lt_iff_toInt_lt, fa_eq, fa_lit, fa_litL, nI_toInt, pk_lT, Int32.toInt_toInt64, jadd64, jin, jnoneT] at *); omega)
set_option maxRecDepth 4000 in
set_option maxHeartbeats 1000000 in
theorem c_halfSize14_0 (np : Nat) (mem : jMem)   : jPi yX6_halfSize cX6_halfSize 2 .int 2 [.int 14, .int 0] np mem (fun v c => v = 2 ∧ c = mem) := by
  refine jPi.of (own := RX6) rfl rfl (Nat.le_of_ble_eq_true rfl) (fun G X hR hr hE => ?_)
  refine j_iload_n X dX6_halfSize_0 rfl ?_
  refine j_iload_n X dX6_halfSize_1 rfl ?_
  refine s_callSi X hR (c_shows14_0 np _) rfl u491 u489 u490 u14 hyX6_showsOfHalf (by decide) (by decide) (Nat.le_of_ble_eq_true rfl) dX6_halfSize_2 (fun v_2 m_2 h_2 => ?_)
  obtain ⟨e1, e2⟩ := h_2; have e1 := e1.symm; have e2 := e2.symm; subst e1; subst e2
  refine j_if_eq X 12 dX6_halfSize_5 (by decide) (fun c_5 => absurd c_5 (by decide)) (fun c_5 => ?_)
  refine j_iconst X dX6_halfSize_8 2 (by decide) ?_
  refine j_goto X 13 dX6_halfSize_9 (by decide) ?_
  refine s_iret X hE hr dX6_halfSize_13 rfl ?_
  first | exact ⟨rfl, rfl⟩ | (exfalso; clear hE hr hR X; (try simp only [lg_cmp_lt, lg_cmp_gt, lg_cmp_le, lg_cmp_ge] at *); (try simp (disch := omega) only [Int64.le_iff_toInt_le, Int64.lt_iff_toInt_lt, Int32.le_iff_toInt_le, Int32.lt_iff_toInt_lt, fa_eq, fa_lit, fa_litL, nI_toInt, pk_lT, Int32.toInt_toInt64, jadd64, jin, jnoneT] at *); omega)
set_option maxRecDepth 4000 in
set_option maxHeartbeats 1000000 in
theorem c_shows14_1 (np : Nat) (mem : jMem)   : jPi yX6_showsOfHalf cX6_showsOfHalf 2 .boolean 1 [.int 14, .int 1] np mem (fun v c => v = 1 ∧ c = mem) := by
  refine jPi.of (own := RX6) rfl rfl (Nat.le_of_ble_eq_true rfl) (fun G X hR hr hE => ?_)
  refine j_iload_n X dX6_showsOfHalf_0 rfl ?_
  refine j_iconst X dX6_showsOfHalf_1 2 (by decide) ?_
  refine j_iload_n X dX6_showsOfHalf_2 rfl ?_
  refine j_imul X dX6_showsOfHalf_3 ?_
  refine j_ishr X dX6_showsOfHalf_4 ?_
  refine j_iconst X dX6_showsOfHalf_5 3 (by decide) ?_
  refine j_iand X dX6_showsOfHalf_6 ?_
  refine j_if_eq X 14 dX6_showsOfHalf_7 (by decide) (fun c_7 => absurd c_7 (by decide)) (fun c_7 => ?_)
  refine j_iconst X dX6_showsOfHalf_10 1 (by decide) ?_
  refine j_goto X 15 dX6_showsOfHalf_11 (by decide) ?_
  refine s_iret X hE hr dX6_showsOfHalf_15 (by first | exact jb_nar | rfl) ?_
  first | exact ⟨rfl, rfl⟩ | (exfalso; clear hE hr hR X; (try simp only [lg_cmp_lt, lg_cmp_gt, lg_cmp_le, lg_cmp_ge] at *); (try simp (disch := omega) only [Int64.le_iff_toInt_le, Int64.lt_iff_toInt_lt, Int32.le_iff_toInt_le, Int32.lt_iff_toInt_lt, fa_eq, fa_lit, fa_litL, nI_toInt, pk_lT, Int32.toInt_toInt64, jadd64, jin, jnoneT] at *); omega)
set_option maxRecDepth 4000 in
set_option maxHeartbeats 1000000 in
theorem c_halfSize14_1 (np : Nat) (mem : jMem)   : jPi yX6_halfSize cX6_halfSize 2 .int 2 [.int 14, .int 1] np mem (fun v c => v = 2 ∧ c = mem) := by
  refine jPi.of (own := RX6) rfl rfl (Nat.le_of_ble_eq_true rfl) (fun G X hR hr hE => ?_)
  refine j_iload_n X dX6_halfSize_0 rfl ?_
  refine j_iload_n X dX6_halfSize_1 rfl ?_
  refine s_callSi X hR (c_shows14_1 np _) rfl u491 u489 u490 u14 hyX6_showsOfHalf (by decide) (by decide) (Nat.le_of_ble_eq_true rfl) dX6_halfSize_2 (fun v_2 m_2 h_2 => ?_)
  obtain ⟨e1, e2⟩ := h_2; have e1 := e1.symm; have e2 := e2.symm; subst e1; subst e2
  refine j_if_eq X 12 dX6_halfSize_5 (by decide) (fun c_5 => absurd c_5 (by decide)) (fun c_5 => ?_)
  refine j_iconst X dX6_halfSize_8 2 (by decide) ?_
  refine j_goto X 13 dX6_halfSize_9 (by decide) ?_
  refine s_iret X hE hr dX6_halfSize_13 rfl ?_
  first | exact ⟨rfl, rfl⟩ | (exfalso; clear hE hr hR X; (try simp only [lg_cmp_lt, lg_cmp_gt, lg_cmp_le, lg_cmp_ge] at *); (try simp (disch := omega) only [Int64.le_iff_toInt_le, Int64.lt_iff_toInt_lt, Int32.le_iff_toInt_le, Int32.lt_iff_toInt_lt, fa_eq, fa_lit, fa_litL, nI_toInt, pk_lT, Int32.toInt_toInt64, jadd64, jin, jnoneT] at *); omega)
set_option maxRecDepth 4000 in
set_option maxHeartbeats 1000000 in
theorem c_showingSize14 (np : Nat) (mem : jMem)   : jPi yX6_showingSize cX6_showingSize 1 .int 3 [.int 14] np mem (fun v c => v = 4 ∧ c = mem) := by
  refine jPi.of (own := RX6) rfl rfl (Nat.le_of_ble_eq_true rfl) (fun G X hR hr hE => ?_)
  refine j_iload_n X dX6_showingSize_0 rfl ?_
  refine j_iconst X dX6_showingSize_1 0 (by decide) ?_
  refine s_callSi X hR (c_halfSize14_0 np _) rfl u501 u499 u500 u14 hyX6_halfSize (by decide) (by decide) (Nat.le_of_ble_eq_true rfl) dX6_showingSize_2 (fun v_2 m_2 h_2 => ?_)
  obtain ⟨e1, e2⟩ := h_2; have e1 := e1.symm; have e2 := e2.symm; subst e1; subst e2
  refine j_iload_n X dX6_showingSize_5 rfl ?_
  refine j_iconst X dX6_showingSize_6 1 (by decide) ?_
  refine s_callSi X hR (c_halfSize14_1 np _) rfl u501 u499 u500 u14 hyX6_halfSize (by decide) (by decide) (Nat.le_of_ble_eq_true rfl) dX6_showingSize_7 (fun v_2 m_2 h_2 => ?_)
  obtain ⟨e1, e2⟩ := h_2; have e1 := e1.symm; have e2 := e2.symm; subst e1; subst e2
  refine j_iadd X dX6_showingSize_10 ?_
  refine s_iret X hE hr dX6_showingSize_11 rfl ?_
  exact ⟨by decide, rfl⟩
set_option maxRecDepth 4000 in
set_option maxHeartbeats 1000000 in
theorem c_shownOf14_0 (np : Nat) (mem : jMem) (p : Nat) (F : Nat → Int32) (hp : p < np) (hN : mem (92 + 2 * p) 0 = nI p) (hF : mem (93 + 2 * p) = F) : jPi yX6_shownOf cX6_shownOf 3 .int 3 [.ref (92 + 2 * p), .int 14, .int 0] np mem (fun v c => v = (jLeaf (nI p) 0 (F 0)) ∧ c = mem) := by
  refine jPi.of (own := RX6) rfl rfl (Nat.le_of_ble_eq_true rfl) (fun G X hR hr hE => ?_)
  refine j_iload_n X dX6_shownOf_0 rfl ?_
  refine j_iload_n X dX6_shownOf_1 rfl ?_
  refine s_callNi X hR (c_hasBit np _ _ _) rfl u498 (by decide) u497 u1 hyX10_hasBit (by decide) (by decide) (Nat.le_of_ble_eq_true rfl) dX6_shownOf_2 (fun v_2 m_2 h_2 => ?_)
  obtain ⟨e1, e2⟩ := h_2; have e1 := e1.symm; have e2 := e2.symm; subst e1; subst e2
  refine j_ifb_eq X 17 dX6_shownOf_5 (by decide) (fun c_5 => ?_) (fun c_5 => absurd c_5 (by decide))
  refine j_aload_n X dX6_shownOf_17 rfl ?_
  refine j_iload_n X dX6_shownOf_18 rfl ?_
  refine s_callVi X hR (c_leaf0 np _ p F hp hN hF) rfl 6 (by decide) (oP np (by omega)) (kP np _) rfl u456 u453 u454 u455 u14 hyX6_leaf (by decide) (by decide) (Nat.le_of_ble_eq_true rfl) dX6_shownOf_19 (fun v_19 m_19 h_19 => ?_)
  obtain ⟨e1, e2⟩ := h_19; have e1 := e1.symm; have e2 := e2.symm; subst e1; subst e2
  refine s_iret X hE hr dX6_shownOf_22 rfl ?_
  first | exact ⟨rfl, rfl⟩ | (exfalso; clear hE hr hR X; (try simp only [lg_cmp_lt, lg_cmp_gt, lg_cmp_le, lg_cmp_ge] at *); (try simp (disch := omega) only [Int64.le_iff_toInt_le, Int64.lt_iff_toInt_lt, Int32.le_iff_toInt_le, Int32.lt_iff_toInt_lt, fa_eq, fa_lit, fa_litL, nI_toInt, pk_lT, Int32.toInt_toInt64, jadd64, jin, jnoneT] at *); omega)
set_option maxRecDepth 4000 in
set_option maxHeartbeats 1000000 in
theorem c_shownOf14_1 (np : Nat) (mem : jMem) (p : Nat) (F : Nat → Int32) (hp : p < np) (hN : mem (92 + 2 * p) 0 = nI p) (hF : mem (93 + 2 * p) = F) : jPi yX6_shownOf cX6_shownOf 3 .int 3 [.ref (92 + 2 * p), .int 14, .int 1] np mem (fun v c => v = F 1 ∧ c = mem) := by
  refine jPi.of (own := RX6) rfl rfl (Nat.le_of_ble_eq_true rfl) (fun G X hR hr hE => ?_)
  refine j_iload_n X dX6_shownOf_0 rfl ?_
  refine j_iload_n X dX6_shownOf_1 rfl ?_
  refine s_callNi X hR (c_hasBit np _ _ _) rfl u498 (by decide) u497 u1 hyX10_hasBit (by decide) (by decide) (Nat.le_of_ble_eq_true rfl) dX6_shownOf_2 (fun v_2 m_2 h_2 => ?_)
  obtain ⟨e1, e2⟩ := h_2; have e1 := e1.symm; have e2 := e2.symm; subst e1; subst e2
  refine j_ifb_eq X 17 dX6_shownOf_5 (by decide) (fun c_5 => absurd c_5 (by decide)) (fun c_5 => ?_)
  refine j_aload_n X dX6_shownOf_8 rfl ?_
  refine j_getR X 6 6 (by decide) (by decide) rfl u405 (oP np (by omega)) (kP np _) _ (pP_f np _) dX6_shownOf_9 ?_
  refine j_iload_n X dX6_shownOf_12 rfl ?_
  refine j_nrm _ (by first | (simp only [fa_lit, pk_mul, nI_add]; done) | (simp only [fa_lit, pk_mul, nI_add]; rfl) | rfl) ?_
  refine j_ialdN X (oPf np (by omega)) (kPf np _) (by rw [lPf]; omega) (by rw [lPf]; decide) F hF dX6_shownOf_13 ?_
  refine j_goto X 22 dX6_shownOf_14 (by decide) ?_
  refine s_iret X hE hr dX6_shownOf_22 rfl ?_
  first | exact ⟨rfl, rfl⟩ | (exfalso; clear hE hr hR X; (try simp only [lg_cmp_lt, lg_cmp_gt, lg_cmp_le, lg_cmp_ge] at *); (try simp (disch := omega) only [Int64.le_iff_toInt_le, Int64.lt_iff_toInt_lt, Int32.le_iff_toInt_le, Int32.lt_iff_toInt_lt, fa_eq, fa_lit, fa_litL, nI_toInt, pk_lT, Int32.toInt_toInt64, jadd64, jin, jnoneT] at *); omega)
set_option maxRecDepth 4000 in
set_option maxHeartbeats 1000000 in
theorem c_shownOf14_2 (np : Nat) (mem : jMem) (p : Nat) (F : Nat → Int32) (hp : p < np) (hN : mem (92 + 2 * p) 0 = nI p) (hF : mem (93 + 2 * p) = F) : jPi yX6_shownOf cX6_shownOf 3 .int 3 [.ref (92 + 2 * p), .int 14, .int 2] np mem (fun v c => v = F 2 ∧ c = mem) := by
  refine jPi.of (own := RX6) rfl rfl (Nat.le_of_ble_eq_true rfl) (fun G X hR hr hE => ?_)
  refine j_iload_n X dX6_shownOf_0 rfl ?_
  refine j_iload_n X dX6_shownOf_1 rfl ?_
  refine s_callNi X hR (c_hasBit np _ _ _) rfl u498 (by decide) u497 u1 hyX10_hasBit (by decide) (by decide) (Nat.le_of_ble_eq_true rfl) dX6_shownOf_2 (fun v_2 m_2 h_2 => ?_)
  obtain ⟨e1, e2⟩ := h_2; have e1 := e1.symm; have e2 := e2.symm; subst e1; subst e2
  refine j_ifb_eq X 17 dX6_shownOf_5 (by decide) (fun c_5 => absurd c_5 (by decide)) (fun c_5 => ?_)
  refine j_aload_n X dX6_shownOf_8 rfl ?_
  refine j_getR X 6 6 (by decide) (by decide) rfl u405 (oP np (by omega)) (kP np _) _ (pP_f np _) dX6_shownOf_9 ?_
  refine j_iload_n X dX6_shownOf_12 rfl ?_
  refine j_nrm _ (by first | (simp only [fa_lit, pk_mul, nI_add]; done) | (simp only [fa_lit, pk_mul, nI_add]; rfl) | rfl) ?_
  refine j_ialdN X (oPf np (by omega)) (kPf np _) (by rw [lPf]; omega) (by rw [lPf]; decide) F hF dX6_shownOf_13 ?_
  refine j_goto X 22 dX6_shownOf_14 (by decide) ?_
  refine s_iret X hE hr dX6_shownOf_22 rfl ?_
  first | exact ⟨rfl, rfl⟩ | (exfalso; clear hE hr hR X; (try simp only [lg_cmp_lt, lg_cmp_gt, lg_cmp_le, lg_cmp_ge] at *); (try simp (disch := omega) only [Int64.le_iff_toInt_le, Int64.lt_iff_toInt_lt, Int32.le_iff_toInt_le, Int32.lt_iff_toInt_lt, fa_eq, fa_lit, fa_litL, nI_toInt, pk_lT, Int32.toInt_toInt64, jadd64, jin, jnoneT] at *); omega)
set_option maxRecDepth 4000 in
set_option maxHeartbeats 1000000 in
theorem c_shownOf14_3 (np : Nat) (mem : jMem) (p : Nat) (F : Nat → Int32) (hp : p < np) (hN : mem (92 + 2 * p) 0 = nI p) (hF : mem (93 + 2 * p) = F) : jPi yX6_shownOf cX6_shownOf 3 .int 3 [.ref (92 + 2 * p), .int 14, .int 3] np mem (fun v c => v = F 3 ∧ c = mem) := by
  refine jPi.of (own := RX6) rfl rfl (Nat.le_of_ble_eq_true rfl) (fun G X hR hr hE => ?_)
  refine j_iload_n X dX6_shownOf_0 rfl ?_
  refine j_iload_n X dX6_shownOf_1 rfl ?_
  refine s_callNi X hR (c_hasBit np _ _ _) rfl u498 (by decide) u497 u1 hyX10_hasBit (by decide) (by decide) (Nat.le_of_ble_eq_true rfl) dX6_shownOf_2 (fun v_2 m_2 h_2 => ?_)
  obtain ⟨e1, e2⟩ := h_2; have e1 := e1.symm; have e2 := e2.symm; subst e1; subst e2
  refine j_ifb_eq X 17 dX6_shownOf_5 (by decide) (fun c_5 => absurd c_5 (by decide)) (fun c_5 => ?_)
  refine j_aload_n X dX6_shownOf_8 rfl ?_
  refine j_getR X 6 6 (by decide) (by decide) rfl u405 (oP np (by omega)) (kP np _) _ (pP_f np _) dX6_shownOf_9 ?_
  refine j_iload_n X dX6_shownOf_12 rfl ?_
  refine j_nrm _ (by first | (simp only [fa_lit, pk_mul, nI_add]; done) | (simp only [fa_lit, pk_mul, nI_add]; rfl) | rfl) ?_
  refine j_ialdN X (oPf np (by omega)) (kPf np _) (by rw [lPf]; omega) (by rw [lPf]; decide) F hF dX6_shownOf_13 ?_
  refine j_goto X 22 dX6_shownOf_14 (by decide) ?_
  refine s_iret X hE hr dX6_shownOf_22 rfl ?_
  first | exact ⟨rfl, rfl⟩ | (exfalso; clear hE hr hR X; (try simp only [lg_cmp_lt, lg_cmp_gt, lg_cmp_le, lg_cmp_ge] at *); (try simp (disch := omega) only [Int64.le_iff_toInt_le, Int64.lt_iff_toInt_lt, Int32.le_iff_toInt_le, Int32.lt_iff_toInt_lt, fa_eq, fa_lit, fa_litL, nI_toInt, pk_lT, Int32.toInt_toInt64, jadd64, jin, jnoneT] at *); omega)
set_option maxRecDepth 4000 in
set_option maxHeartbeats 1000000 in
theorem c_fillShowing14 (np : Nat) (mem : jMem) (p : Nat) (F : Nat → Int32) (hp : p < np) (hN : mem (92 + 2 * p) 0 = nI p) (hF : mem (93 + 2 * p) = F) : jPi yX6_fillShowing cX6_fillShowing 5 .int 4 [.ref (92 + 2 * p), .int 14, .ref 65] np mem (fun v c => v = 4 ∧ c = jup (jup (jup (jup (mem) 65 0 (jLeaf (nI p) 0 (F 0))) 65 1 (F 1)) 65 2 (F 2)) 65 3 (F 3)) := by
  refine jPi.of (own := RX6) rfl rfl (Nat.le_of_ble_eq_true rfl) (fun G X hR hr hE => ?_)
  refine j_iconst X dX6_fillShowing_0 0 (by decide) ?_
  refine j_istore_n X dX6_fillShowing_1 (by decide) ?_
  refine j_iconst X dX6_fillShowing_2 0 (by decide) ?_
  refine j_istore X dX6_fillShowing_3 (by decide) ?_
  refine j_iload X dX6_fillShowing_5 rfl ?_
  refine j_iconst X dX6_fillShowing_7 2 (by decide) ?_
  refine j_icmp_ge X 75 dX6_fillShowing_8 (by decide) (fun c_8 => absurd c_8 (by decide)) (fun c_8 => ?_)
  refine j_iload_n X dX6_fillShowing_11 rfl ?_
  refine j_iload X dX6_fillShowing_12 rfl ?_
  refine s_callSi X hR (c_shows14_0 np _) rfl u491 u489 u490 u14 hyX6_showsOfHalf (by decide) (by decide) (Nat.le_of_ble_eq_true rfl) dX6_fillShowing_14 (fun v_2 m_2 h_2 => ?_)
  obtain ⟨e1, e2⟩ := h_2; have e1 := e1.symm; have e2 := e2.symm; subst e1; subst e2
  refine j_if_eq X 51 dX6_fillShowing_17 (by decide) (fun c_17 => absurd c_17 (by decide)) (fun c_17 => ?_)
  refine j_aload_n X dX6_fillShowing_20 rfl ?_
  refine j_iload_n X dX6_fillShowing_21 rfl ?_
  refine j_aload_n X dX6_fillShowing_22 rfl ?_
  refine j_iload_n X dX6_fillShowing_23 rfl ?_
  refine j_iconst X dX6_fillShowing_24 2 (by decide) ?_
  refine j_iload X dX6_fillShowing_25 rfl ?_
  refine j_imul X dX6_fillShowing_27 ?_
  refine s_callVi X hR (c_shownOf14_0 np _ p F hp (by first | exact hN | (simp only [jup_o (show ¬ 92 + 2 * p = 65 by omega)]; exact hN)) (by first | exact hF | (simp only [jup_o (show ¬ 93 + 2 * p = 65 by omega)]; exact hF))) rfl 6 (by decide) (oP np (by omega)) (kP np _) rfl u495 u492 u494 qp4 u14 hyX6_shownOf (by decide) (by decide) (Nat.le_of_ble_eq_true rfl) dX6_fillShowing_28 (fun v_28 m_28 h_28 => ?_)
  obtain ⟨e1, e2⟩ := h_28; have e1 := e1.symm; have e2 := e2.symm; subst e1; subst e2
  refine j_nrm2 _ (by first | (simp only [fa_lit, pk_mul, nI_add]; done) | (simp only [fa_lit, pk_mul, nI_add]; rfl) | rfl) ?_
  refine j_iastN X (o65 np) (k65 np) (by rw [l65]; omega) (by rw [l65]; decide) dX6_fillShowing_31 ?_
  refine j_aload_n X dX6_fillShowing_32 rfl ?_
  refine j_iload_n X dX6_fillShowing_33 rfl ?_
  refine j_iconst X dX6_fillShowing_34 1 (by decide) ?_
  refine j_iadd X dX6_fillShowing_35 ?_
  refine j_aload_n X dX6_fillShowing_36 rfl ?_
  refine j_iload_n X dX6_fillShowing_37 rfl ?_
  refine j_iconst X dX6_fillShowing_38 2 (by decide) ?_
  refine j_iload X dX6_fillShowing_39 rfl ?_
  refine j_imul X dX6_fillShowing_41 ?_
  refine j_iconst X dX6_fillShowing_42 1 (by decide) ?_
  refine j_iadd X dX6_fillShowing_43 ?_
  refine s_callVi X hR (c_shownOf14_1 np _ p F hp (by first | exact hN | (simp only [jup_o (show ¬ 92 + 2 * p = 65 by omega)]; exact hN)) (by first | exact hF | (simp only [jup_o (show ¬ 93 + 2 * p = 65 by omega)]; exact hF))) rfl 6 (by decide) (oP np (by omega)) (kP np _) rfl u495 u492 u494 qp4 u14 hyX6_shownOf (by decide) (by decide) (Nat.le_of_ble_eq_true rfl) dX6_fillShowing_44 (fun v_44 m_44 h_44 => ?_)
  obtain ⟨e1, e2⟩ := h_44; have e1 := e1.symm; have e2 := e2.symm; subst e1; subst e2
  refine j_nrm2 _ (by first | (simp only [fa_lit, pk_mul, nI_add]; done) | (simp only [fa_lit, pk_mul, nI_add]; rfl) | rfl) ?_
  refine j_iastN X (o65 np) (k65 np) (by rw [l65]; omega) (by rw [l65]; decide) dX6_fillShowing_47 ?_
  refine j_goto X 60 dX6_fillShowing_48 (by decide) ?_
  refine j_iload_n X dX6_fillShowing_60 rfl ?_
  refine j_iload_n X dX6_fillShowing_61 rfl ?_
  refine j_iload X dX6_fillShowing_62 rfl ?_
  refine s_callSi X hR (c_halfSize14_0 np _) rfl u501 u499 u500 u14 hyX6_halfSize (by decide) (by decide) (Nat.le_of_ble_eq_true rfl) dX6_fillShowing_64 (fun v_2 m_2 h_2 => ?_)
  obtain ⟨e1, e2⟩ := h_2; have e1 := e1.symm; have e2 := e2.symm; subst e1; subst e2
  refine j_iadd X dX6_fillShowing_67 ?_
  refine j_istore_n X dX6_fillShowing_68 (by decide) ?_
  refine j_iinc X dX6_fillShowing_69 rfl 1 rfl ?_
  refine j_goto X 5 dX6_fillShowing_72 (by decide) ?_
  refine j_iload X dX6_fillShowing_5 rfl ?_
  refine j_iconst X dX6_fillShowing_7 2 (by decide) ?_
  refine j_icmp_ge X 75 dX6_fillShowing_8 (by decide) (fun c_8 => absurd c_8 (by decide)) (fun c_8 => ?_)
  refine j_iload_n X dX6_fillShowing_11 rfl ?_
  refine j_iload X dX6_fillShowing_12 rfl ?_
  refine s_callSi X hR (c_shows14_1 np _) rfl u491 u489 u490 u14 hyX6_showsOfHalf (by decide) (by decide) (Nat.le_of_ble_eq_true rfl) dX6_fillShowing_14 (fun v_2 m_2 h_2 => ?_)
  obtain ⟨e1, e2⟩ := h_2; have e1 := e1.symm; have e2 := e2.symm; subst e1; subst e2
  refine j_if_eq X 51 dX6_fillShowing_17 (by decide) (fun c_17 => absurd c_17 (by decide)) (fun c_17 => ?_)
  refine j_aload_n X dX6_fillShowing_20 rfl ?_
  refine j_iload_n X dX6_fillShowing_21 rfl ?_
  refine j_aload_n X dX6_fillShowing_22 rfl ?_
  refine j_iload_n X dX6_fillShowing_23 rfl ?_
  refine j_iconst X dX6_fillShowing_24 2 (by decide) ?_
  refine j_iload X dX6_fillShowing_25 rfl ?_
  refine j_imul X dX6_fillShowing_27 ?_
  refine s_callVi X hR (c_shownOf14_2 np _ p F hp (by first | exact hN | (simp only [jup_o (show ¬ 92 + 2 * p = 65 by omega)]; exact hN)) (by first | exact hF | (simp only [jup_o (show ¬ 93 + 2 * p = 65 by omega)]; exact hF))) rfl 6 (by decide) (oP np (by omega)) (kP np _) rfl u495 u492 u494 qp4 u14 hyX6_shownOf (by decide) (by decide) (Nat.le_of_ble_eq_true rfl) dX6_fillShowing_28 (fun v_28 m_28 h_28 => ?_)
  obtain ⟨e1, e2⟩ := h_28; have e1 := e1.symm; have e2 := e2.symm; subst e1; subst e2
  refine j_nrm2 _ (by first | (simp only [fa_lit, pk_mul, nI_add]; done) | (simp only [fa_lit, pk_mul, nI_add]; rfl) | rfl) ?_
  refine j_iastN X (o65 np) (k65 np) (by rw [l65]; omega) (by rw [l65]; decide) dX6_fillShowing_31 ?_
  refine j_aload_n X dX6_fillShowing_32 rfl ?_
  refine j_iload_n X dX6_fillShowing_33 rfl ?_
  refine j_iconst X dX6_fillShowing_34 1 (by decide) ?_
  refine j_iadd X dX6_fillShowing_35 ?_
  refine j_aload_n X dX6_fillShowing_36 rfl ?_
  refine j_iload_n X dX6_fillShowing_37 rfl ?_
  refine j_iconst X dX6_fillShowing_38 2 (by decide) ?_
  refine j_iload X dX6_fillShowing_39 rfl ?_
  refine j_imul X dX6_fillShowing_41 ?_
  refine j_iconst X dX6_fillShowing_42 1 (by decide) ?_
  refine j_iadd X dX6_fillShowing_43 ?_
  refine s_callVi X hR (c_shownOf14_3 np _ p F hp (by first | exact hN | (simp only [jup_o (show ¬ 92 + 2 * p = 65 by omega)]; exact hN)) (by first | exact hF | (simp only [jup_o (show ¬ 93 + 2 * p = 65 by omega)]; exact hF))) rfl 6 (by decide) (oP np (by omega)) (kP np _) rfl u495 u492 u494 qp4 u14 hyX6_shownOf (by decide) (by decide) (Nat.le_of_ble_eq_true rfl) dX6_fillShowing_44 (fun v_44 m_44 h_44 => ?_)
  obtain ⟨e1, e2⟩ := h_44; have e1 := e1.symm; have e2 := e2.symm; subst e1; subst e2
  refine j_nrm2 _ (by first | (simp only [fa_lit, pk_mul, nI_add]; done) | (simp only [fa_lit, pk_mul, nI_add]; rfl) | rfl) ?_
  refine j_iastN X (o65 np) (k65 np) (by rw [l65]; omega) (by rw [l65]; decide) dX6_fillShowing_47 ?_
  refine j_goto X 60 dX6_fillShowing_48 (by decide) ?_
  refine j_iload_n X dX6_fillShowing_60 rfl ?_
  refine j_iload_n X dX6_fillShowing_61 rfl ?_
  refine j_iload X dX6_fillShowing_62 rfl ?_
  refine s_callSi X hR (c_halfSize14_1 np _) rfl u501 u499 u500 u14 hyX6_halfSize (by decide) (by decide) (Nat.le_of_ble_eq_true rfl) dX6_fillShowing_64 (fun v_2 m_2 h_2 => ?_)
  obtain ⟨e1, e2⟩ := h_2; have e1 := e1.symm; have e2 := e2.symm; subst e1; subst e2
  refine j_iadd X dX6_fillShowing_67 ?_
  refine j_istore_n X dX6_fillShowing_68 (by decide) ?_
  refine j_iinc X dX6_fillShowing_69 rfl 1 rfl ?_
  refine j_goto X 5 dX6_fillShowing_72 (by decide) ?_
  refine j_iload X dX6_fillShowing_5 rfl ?_
  refine j_iconst X dX6_fillShowing_7 2 (by decide) ?_
  refine j_icmp_ge X 75 dX6_fillShowing_8 (by decide) (fun c_8 => ?_) (fun c_8 => absurd c_8 (by decide))
  refine j_iload_n X dX6_fillShowing_75 rfl ?_
  refine s_iret X hE hr dX6_fillShowing_76 rfl ?_
  exact ⟨by decide, rfl⟩
set_option maxRecDepth 4000 in
set_option maxHeartbeats 1000000 in
theorem c_shows15_0 (np : Nat) (mem : jMem)   : jPi yX6_showsOfHalf cX6_showsOfHalf 2 .boolean 1 [.int 15, .int 0] np mem (fun v c => v = 1 ∧ c = mem) := by
  refine jPi.of (own := RX6) rfl rfl (Nat.le_of_ble_eq_true rfl) (fun G X hR hr hE => ?_)
  refine j_iload_n X dX6_showsOfHalf_0 rfl ?_
  refine j_iconst X dX6_showsOfHalf_1 2 (by decide) ?_
  refine j_iload_n X dX6_showsOfHalf_2 rfl ?_
  refine j_imul X dX6_showsOfHalf_3 ?_
  refine j_ishr X dX6_showsOfHalf_4 ?_
  refine j_iconst X dX6_showsOfHalf_5 3 (by decide) ?_
  refine j_iand X dX6_showsOfHalf_6 ?_
  refine j_if_eq X 14 dX6_showsOfHalf_7 (by decide) (fun c_7 => absurd c_7 (by decide)) (fun c_7 => ?_)
  refine j_iconst X dX6_showsOfHalf_10 1 (by decide) ?_
  refine j_goto X 15 dX6_showsOfHalf_11 (by decide) ?_
  refine s_iret X hE hr dX6_showsOfHalf_15 (by first | exact jb_nar | rfl) ?_
  first | exact ⟨rfl, rfl⟩ | (exfalso; clear hE hr hR X; (try simp only [lg_cmp_lt, lg_cmp_gt, lg_cmp_le, lg_cmp_ge] at *); (try simp (disch := omega) only [Int64.le_iff_toInt_le, Int64.lt_iff_toInt_lt, Int32.le_iff_toInt_le, Int32.lt_iff_toInt_lt, fa_eq, fa_lit, fa_litL, nI_toInt, pk_lT, Int32.toInt_toInt64, jadd64, jin, jnoneT] at *); omega)
set_option maxRecDepth 4000 in
set_option maxHeartbeats 1000000 in
theorem c_halfSize15_0 (np : Nat) (mem : jMem)   : jPi yX6_halfSize cX6_halfSize 2 .int 2 [.int 15, .int 0] np mem (fun v c => v = 2 ∧ c = mem) := by
  refine jPi.of (own := RX6) rfl rfl (Nat.le_of_ble_eq_true rfl) (fun G X hR hr hE => ?_)
  refine j_iload_n X dX6_halfSize_0 rfl ?_
  refine j_iload_n X dX6_halfSize_1 rfl ?_
  refine s_callSi X hR (c_shows15_0 np _) rfl u491 u489 u490 u14 hyX6_showsOfHalf (by decide) (by decide) (Nat.le_of_ble_eq_true rfl) dX6_halfSize_2 (fun v_2 m_2 h_2 => ?_)
  obtain ⟨e1, e2⟩ := h_2; have e1 := e1.symm; have e2 := e2.symm; subst e1; subst e2
  refine j_if_eq X 12 dX6_halfSize_5 (by decide) (fun c_5 => absurd c_5 (by decide)) (fun c_5 => ?_)
  refine j_iconst X dX6_halfSize_8 2 (by decide) ?_
  refine j_goto X 13 dX6_halfSize_9 (by decide) ?_
  refine s_iret X hE hr dX6_halfSize_13 rfl ?_
  first | exact ⟨rfl, rfl⟩ | (exfalso; clear hE hr hR X; (try simp only [lg_cmp_lt, lg_cmp_gt, lg_cmp_le, lg_cmp_ge] at *); (try simp (disch := omega) only [Int64.le_iff_toInt_le, Int64.lt_iff_toInt_lt, Int32.le_iff_toInt_le, Int32.lt_iff_toInt_lt, fa_eq, fa_lit, fa_litL, nI_toInt, pk_lT, Int32.toInt_toInt64, jadd64, jin, jnoneT] at *); omega)
set_option maxRecDepth 4000 in
set_option maxHeartbeats 1000000 in
theorem c_shows15_1 (np : Nat) (mem : jMem)   : jPi yX6_showsOfHalf cX6_showsOfHalf 2 .boolean 1 [.int 15, .int 1] np mem (fun v c => v = 1 ∧ c = mem) := by
  refine jPi.of (own := RX6) rfl rfl (Nat.le_of_ble_eq_true rfl) (fun G X hR hr hE => ?_)
  refine j_iload_n X dX6_showsOfHalf_0 rfl ?_
  refine j_iconst X dX6_showsOfHalf_1 2 (by decide) ?_
  refine j_iload_n X dX6_showsOfHalf_2 rfl ?_
  refine j_imul X dX6_showsOfHalf_3 ?_
  refine j_ishr X dX6_showsOfHalf_4 ?_
  refine j_iconst X dX6_showsOfHalf_5 3 (by decide) ?_
  refine j_iand X dX6_showsOfHalf_6 ?_
  refine j_if_eq X 14 dX6_showsOfHalf_7 (by decide) (fun c_7 => absurd c_7 (by decide)) (fun c_7 => ?_)
  refine j_iconst X dX6_showsOfHalf_10 1 (by decide) ?_
  refine j_goto X 15 dX6_showsOfHalf_11 (by decide) ?_
  refine s_iret X hE hr dX6_showsOfHalf_15 (by first | exact jb_nar | rfl) ?_
  first | exact ⟨rfl, rfl⟩ | (exfalso; clear hE hr hR X; (try simp only [lg_cmp_lt, lg_cmp_gt, lg_cmp_le, lg_cmp_ge] at *); (try simp (disch := omega) only [Int64.le_iff_toInt_le, Int64.lt_iff_toInt_lt, Int32.le_iff_toInt_le, Int32.lt_iff_toInt_lt, fa_eq, fa_lit, fa_litL, nI_toInt, pk_lT, Int32.toInt_toInt64, jadd64, jin, jnoneT] at *); omega)
set_option maxRecDepth 4000 in
set_option maxHeartbeats 1000000 in
theorem c_halfSize15_1 (np : Nat) (mem : jMem)   : jPi yX6_halfSize cX6_halfSize 2 .int 2 [.int 15, .int 1] np mem (fun v c => v = 2 ∧ c = mem) := by
  refine jPi.of (own := RX6) rfl rfl (Nat.le_of_ble_eq_true rfl) (fun G X hR hr hE => ?_)
  refine j_iload_n X dX6_halfSize_0 rfl ?_
  refine j_iload_n X dX6_halfSize_1 rfl ?_
  refine s_callSi X hR (c_shows15_1 np _) rfl u491 u489 u490 u14 hyX6_showsOfHalf (by decide) (by decide) (Nat.le_of_ble_eq_true rfl) dX6_halfSize_2 (fun v_2 m_2 h_2 => ?_)
  obtain ⟨e1, e2⟩ := h_2; have e1 := e1.symm; have e2 := e2.symm; subst e1; subst e2
  refine j_if_eq X 12 dX6_halfSize_5 (by decide) (fun c_5 => absurd c_5 (by decide)) (fun c_5 => ?_)
  refine j_iconst X dX6_halfSize_8 2 (by decide) ?_
  refine j_goto X 13 dX6_halfSize_9 (by decide) ?_
  refine s_iret X hE hr dX6_halfSize_13 rfl ?_
  first | exact ⟨rfl, rfl⟩ | (exfalso; clear hE hr hR X; (try simp only [lg_cmp_lt, lg_cmp_gt, lg_cmp_le, lg_cmp_ge] at *); (try simp (disch := omega) only [Int64.le_iff_toInt_le, Int64.lt_iff_toInt_lt, Int32.le_iff_toInt_le, Int32.lt_iff_toInt_lt, fa_eq, fa_lit, fa_litL, nI_toInt, pk_lT, Int32.toInt_toInt64, jadd64, jin, jnoneT] at *); omega)
set_option maxRecDepth 4000 in
set_option maxHeartbeats 1000000 in
theorem c_showingSize15 (np : Nat) (mem : jMem)   : jPi yX6_showingSize cX6_showingSize 1 .int 3 [.int 15] np mem (fun v c => v = 4 ∧ c = mem) := by
  refine jPi.of (own := RX6) rfl rfl (Nat.le_of_ble_eq_true rfl) (fun G X hR hr hE => ?_)
  refine j_iload_n X dX6_showingSize_0 rfl ?_
  refine j_iconst X dX6_showingSize_1 0 (by decide) ?_
  refine s_callSi X hR (c_halfSize15_0 np _) rfl u501 u499 u500 u14 hyX6_halfSize (by decide) (by decide) (Nat.le_of_ble_eq_true rfl) dX6_showingSize_2 (fun v_2 m_2 h_2 => ?_)
  obtain ⟨e1, e2⟩ := h_2; have e1 := e1.symm; have e2 := e2.symm; subst e1; subst e2
  refine j_iload_n X dX6_showingSize_5 rfl ?_
  refine j_iconst X dX6_showingSize_6 1 (by decide) ?_
  refine s_callSi X hR (c_halfSize15_1 np _) rfl u501 u499 u500 u14 hyX6_halfSize (by decide) (by decide) (Nat.le_of_ble_eq_true rfl) dX6_showingSize_7 (fun v_2 m_2 h_2 => ?_)
  obtain ⟨e1, e2⟩ := h_2; have e1 := e1.symm; have e2 := e2.symm; subst e1; subst e2
  refine j_iadd X dX6_showingSize_10 ?_
  refine s_iret X hE hr dX6_showingSize_11 rfl ?_
  exact ⟨by decide, rfl⟩
set_option maxRecDepth 4000 in
set_option maxHeartbeats 1000000 in
theorem c_shownOf15_0 (np : Nat) (mem : jMem) (p : Nat) (F : Nat → Int32) (hp : p < np) (hN : mem (92 + 2 * p) 0 = nI p) (hF : mem (93 + 2 * p) = F) : jPi yX6_shownOf cX6_shownOf 3 .int 3 [.ref (92 + 2 * p), .int 15, .int 0] np mem (fun v c => v = F 0 ∧ c = mem) := by
  refine jPi.of (own := RX6) rfl rfl (Nat.le_of_ble_eq_true rfl) (fun G X hR hr hE => ?_)
  refine j_iload_n X dX6_shownOf_0 rfl ?_
  refine j_iload_n X dX6_shownOf_1 rfl ?_
  refine s_callNi X hR (c_hasBit np _ _ _) rfl u498 (by decide) u497 u1 hyX10_hasBit (by decide) (by decide) (Nat.le_of_ble_eq_true rfl) dX6_shownOf_2 (fun v_2 m_2 h_2 => ?_)
  obtain ⟨e1, e2⟩ := h_2; have e1 := e1.symm; have e2 := e2.symm; subst e1; subst e2
  refine j_ifb_eq X 17 dX6_shownOf_5 (by decide) (fun c_5 => absurd c_5 (by decide)) (fun c_5 => ?_)
  refine j_aload_n X dX6_shownOf_8 rfl ?_
  refine j_getR X 6 6 (by decide) (by decide) rfl u405 (oP np (by omega)) (kP np _) _ (pP_f np _) dX6_shownOf_9 ?_
  refine j_iload_n X dX6_shownOf_12 rfl ?_
  refine j_nrm _ (by first | (simp only [fa_lit, pk_mul, nI_add]; done) | (simp only [fa_lit, pk_mul, nI_add]; rfl) | rfl) ?_
  refine j_ialdN X (oPf np (by omega)) (kPf np _) (by rw [lPf]; omega) (by rw [lPf]; decide) F hF dX6_shownOf_13 ?_
  refine j_goto X 22 dX6_shownOf_14 (by decide) ?_
  refine s_iret X hE hr dX6_shownOf_22 rfl ?_
  first | exact ⟨rfl, rfl⟩ | (exfalso; clear hE hr hR X; (try simp only [lg_cmp_lt, lg_cmp_gt, lg_cmp_le, lg_cmp_ge] at *); (try simp (disch := omega) only [Int64.le_iff_toInt_le, Int64.lt_iff_toInt_lt, Int32.le_iff_toInt_le, Int32.lt_iff_toInt_lt, fa_eq, fa_lit, fa_litL, nI_toInt, pk_lT, Int32.toInt_toInt64, jadd64, jin, jnoneT] at *); omega)
set_option maxRecDepth 4000 in
set_option maxHeartbeats 1000000 in
theorem c_shownOf15_1 (np : Nat) (mem : jMem) (p : Nat) (F : Nat → Int32) (hp : p < np) (hN : mem (92 + 2 * p) 0 = nI p) (hF : mem (93 + 2 * p) = F) : jPi yX6_shownOf cX6_shownOf 3 .int 3 [.ref (92 + 2 * p), .int 15, .int 1] np mem (fun v c => v = F 1 ∧ c = mem) := by
  refine jPi.of (own := RX6) rfl rfl (Nat.le_of_ble_eq_true rfl) (fun G X hR hr hE => ?_)
  refine j_iload_n X dX6_shownOf_0 rfl ?_
  refine j_iload_n X dX6_shownOf_1 rfl ?_
  refine s_callNi X hR (c_hasBit np _ _ _) rfl u498 (by decide) u497 u1 hyX10_hasBit (by decide) (by decide) (Nat.le_of_ble_eq_true rfl) dX6_shownOf_2 (fun v_2 m_2 h_2 => ?_)
  obtain ⟨e1, e2⟩ := h_2; have e1 := e1.symm; have e2 := e2.symm; subst e1; subst e2
  refine j_ifb_eq X 17 dX6_shownOf_5 (by decide) (fun c_5 => absurd c_5 (by decide)) (fun c_5 => ?_)
  refine j_aload_n X dX6_shownOf_8 rfl ?_
  refine j_getR X 6 6 (by decide) (by decide) rfl u405 (oP np (by omega)) (kP np _) _ (pP_f np _) dX6_shownOf_9 ?_
  refine j_iload_n X dX6_shownOf_12 rfl ?_
  refine j_nrm _ (by first | (simp only [fa_lit, pk_mul, nI_add]; done) | (simp only [fa_lit, pk_mul, nI_add]; rfl) | rfl) ?_
  refine j_ialdN X (oPf np (by omega)) (kPf np _) (by rw [lPf]; omega) (by rw [lPf]; decide) F hF dX6_shownOf_13 ?_
  refine j_goto X 22 dX6_shownOf_14 (by decide) ?_
  refine s_iret X hE hr dX6_shownOf_22 rfl ?_
  first | exact ⟨rfl, rfl⟩ | (exfalso; clear hE hr hR X; (try simp only [lg_cmp_lt, lg_cmp_gt, lg_cmp_le, lg_cmp_ge] at *); (try simp (disch := omega) only [Int64.le_iff_toInt_le, Int64.lt_iff_toInt_lt, Int32.le_iff_toInt_le, Int32.lt_iff_toInt_lt, fa_eq, fa_lit, fa_litL, nI_toInt, pk_lT, Int32.toInt_toInt64, jadd64, jin, jnoneT] at *); omega)
set_option maxRecDepth 4000 in
set_option maxHeartbeats 1000000 in
theorem c_shownOf15_2 (np : Nat) (mem : jMem) (p : Nat) (F : Nat → Int32) (hp : p < np) (hN : mem (92 + 2 * p) 0 = nI p) (hF : mem (93 + 2 * p) = F) : jPi yX6_shownOf cX6_shownOf 3 .int 3 [.ref (92 + 2 * p), .int 15, .int 2] np mem (fun v c => v = F 2 ∧ c = mem) := by
  refine jPi.of (own := RX6) rfl rfl (Nat.le_of_ble_eq_true rfl) (fun G X hR hr hE => ?_)
  refine j_iload_n X dX6_shownOf_0 rfl ?_
  refine j_iload_n X dX6_shownOf_1 rfl ?_
  refine s_callNi X hR (c_hasBit np _ _ _) rfl u498 (by decide) u497 u1 hyX10_hasBit (by decide) (by decide) (Nat.le_of_ble_eq_true rfl) dX6_shownOf_2 (fun v_2 m_2 h_2 => ?_)
  obtain ⟨e1, e2⟩ := h_2; have e1 := e1.symm; have e2 := e2.symm; subst e1; subst e2
  refine j_ifb_eq X 17 dX6_shownOf_5 (by decide) (fun c_5 => absurd c_5 (by decide)) (fun c_5 => ?_)
  refine j_aload_n X dX6_shownOf_8 rfl ?_
  refine j_getR X 6 6 (by decide) (by decide) rfl u405 (oP np (by omega)) (kP np _) _ (pP_f np _) dX6_shownOf_9 ?_
  refine j_iload_n X dX6_shownOf_12 rfl ?_
  refine j_nrm _ (by first | (simp only [fa_lit, pk_mul, nI_add]; done) | (simp only [fa_lit, pk_mul, nI_add]; rfl) | rfl) ?_
  refine j_ialdN X (oPf np (by omega)) (kPf np _) (by rw [lPf]; omega) (by rw [lPf]; decide) F hF dX6_shownOf_13 ?_
  refine j_goto X 22 dX6_shownOf_14 (by decide) ?_
  refine s_iret X hE hr dX6_shownOf_22 rfl ?_
  first | exact ⟨rfl, rfl⟩ | (exfalso; clear hE hr hR X; (try simp only [lg_cmp_lt, lg_cmp_gt, lg_cmp_le, lg_cmp_ge] at *); (try simp (disch := omega) only [Int64.le_iff_toInt_le, Int64.lt_iff_toInt_lt, Int32.le_iff_toInt_le, Int32.lt_iff_toInt_lt, fa_eq, fa_lit, fa_litL, nI_toInt, pk_lT, Int32.toInt_toInt64, jadd64, jin, jnoneT] at *); omega)
set_option maxRecDepth 4000 in
set_option maxHeartbeats 1000000 in
theorem c_shownOf15_3 (np : Nat) (mem : jMem) (p : Nat) (F : Nat → Int32) (hp : p < np) (hN : mem (92 + 2 * p) 0 = nI p) (hF : mem (93 + 2 * p) = F) : jPi yX6_shownOf cX6_shownOf 3 .int 3 [.ref (92 + 2 * p), .int 15, .int 3] np mem (fun v c => v = F 3 ∧ c = mem) := by
  refine jPi.of (own := RX6) rfl rfl (Nat.le_of_ble_eq_true rfl) (fun G X hR hr hE => ?_)
  refine j_iload_n X dX6_shownOf_0 rfl ?_
  refine j_iload_n X dX6_shownOf_1 rfl ?_
  refine s_callNi X hR (c_hasBit np _ _ _) rfl u498 (by decide) u497 u1 hyX10_hasBit (by decide) (by decide) (Nat.le_of_ble_eq_true rfl) dX6_shownOf_2 (fun v_2 m_2 h_2 => ?_)
  obtain ⟨e1, e2⟩ := h_2; have e1 := e1.symm; have e2 := e2.symm; subst e1; subst e2
  refine j_ifb_eq X 17 dX6_shownOf_5 (by decide) (fun c_5 => absurd c_5 (by decide)) (fun c_5 => ?_)
  refine j_aload_n X dX6_shownOf_8 rfl ?_
  refine j_getR X 6 6 (by decide) (by decide) rfl u405 (oP np (by omega)) (kP np _) _ (pP_f np _) dX6_shownOf_9 ?_
  refine j_iload_n X dX6_shownOf_12 rfl ?_
  refine j_nrm _ (by first | (simp only [fa_lit, pk_mul, nI_add]; done) | (simp only [fa_lit, pk_mul, nI_add]; rfl) | rfl) ?_
  refine j_ialdN X (oPf np (by omega)) (kPf np _) (by rw [lPf]; omega) (by rw [lPf]; decide) F hF dX6_shownOf_13 ?_
  refine j_goto X 22 dX6_shownOf_14 (by decide) ?_
  refine s_iret X hE hr dX6_shownOf_22 rfl ?_
  first | exact ⟨rfl, rfl⟩ | (exfalso; clear hE hr hR X; (try simp only [lg_cmp_lt, lg_cmp_gt, lg_cmp_le, lg_cmp_ge] at *); (try simp (disch := omega) only [Int64.le_iff_toInt_le, Int64.lt_iff_toInt_lt, Int32.le_iff_toInt_le, Int32.lt_iff_toInt_lt, fa_eq, fa_lit, fa_litL, nI_toInt, pk_lT, Int32.toInt_toInt64, jadd64, jin, jnoneT] at *); omega)
set_option maxRecDepth 4000 in
set_option maxHeartbeats 1000000 in
theorem c_fillShowing15 (np : Nat) (mem : jMem) (p : Nat) (F : Nat → Int32) (hp : p < np) (hN : mem (92 + 2 * p) 0 = nI p) (hF : mem (93 + 2 * p) = F) : jPi yX6_fillShowing cX6_fillShowing 5 .int 4 [.ref (92 + 2 * p), .int 15, .ref 65] np mem (fun v c => v = 4 ∧ c = jup (jup (jup (jup (mem) 65 0 (F 0)) 65 1 (F 1)) 65 2 (F 2)) 65 3 (F 3)) := by
  refine jPi.of (own := RX6) rfl rfl (Nat.le_of_ble_eq_true rfl) (fun G X hR hr hE => ?_)
  refine j_iconst X dX6_fillShowing_0 0 (by decide) ?_
  refine j_istore_n X dX6_fillShowing_1 (by decide) ?_
  refine j_iconst X dX6_fillShowing_2 0 (by decide) ?_
  refine j_istore X dX6_fillShowing_3 (by decide) ?_
  refine j_iload X dX6_fillShowing_5 rfl ?_
  refine j_iconst X dX6_fillShowing_7 2 (by decide) ?_
  refine j_icmp_ge X 75 dX6_fillShowing_8 (by decide) (fun c_8 => absurd c_8 (by decide)) (fun c_8 => ?_)
  refine j_iload_n X dX6_fillShowing_11 rfl ?_
  refine j_iload X dX6_fillShowing_12 rfl ?_
  refine s_callSi X hR (c_shows15_0 np _) rfl u491 u489 u490 u14 hyX6_showsOfHalf (by decide) (by decide) (Nat.le_of_ble_eq_true rfl) dX6_fillShowing_14 (fun v_2 m_2 h_2 => ?_)
  obtain ⟨e1, e2⟩ := h_2; have e1 := e1.symm; have e2 := e2.symm; subst e1; subst e2
  refine j_if_eq X 51 dX6_fillShowing_17 (by decide) (fun c_17 => absurd c_17 (by decide)) (fun c_17 => ?_)
  refine j_aload_n X dX6_fillShowing_20 rfl ?_
  refine j_iload_n X dX6_fillShowing_21 rfl ?_
  refine j_aload_n X dX6_fillShowing_22 rfl ?_
  refine j_iload_n X dX6_fillShowing_23 rfl ?_
  refine j_iconst X dX6_fillShowing_24 2 (by decide) ?_
  refine j_iload X dX6_fillShowing_25 rfl ?_
  refine j_imul X dX6_fillShowing_27 ?_
  refine s_callVi X hR (c_shownOf15_0 np _ p F hp (by first | exact hN | (simp only [jup_o (show ¬ 92 + 2 * p = 65 by omega)]; exact hN)) (by first | exact hF | (simp only [jup_o (show ¬ 93 + 2 * p = 65 by omega)]; exact hF))) rfl 6 (by decide) (oP np (by omega)) (kP np _) rfl u495 u492 u494 qp4 u14 hyX6_shownOf (by decide) (by decide) (Nat.le_of_ble_eq_true rfl) dX6_fillShowing_28 (fun v_28 m_28 h_28 => ?_)
  obtain ⟨e1, e2⟩ := h_28; have e1 := e1.symm; have e2 := e2.symm; subst e1; subst e2
  refine j_nrm2 _ (by first | (simp only [fa_lit, pk_mul, nI_add]; done) | (simp only [fa_lit, pk_mul, nI_add]; rfl) | rfl) ?_
  refine j_iastN X (o65 np) (k65 np) (by rw [l65]; omega) (by rw [l65]; decide) dX6_fillShowing_31 ?_
  refine j_aload_n X dX6_fillShowing_32 rfl ?_
  refine j_iload_n X dX6_fillShowing_33 rfl ?_
  refine j_iconst X dX6_fillShowing_34 1 (by decide) ?_
  refine j_iadd X dX6_fillShowing_35 ?_
  refine j_aload_n X dX6_fillShowing_36 rfl ?_
  refine j_iload_n X dX6_fillShowing_37 rfl ?_
  refine j_iconst X dX6_fillShowing_38 2 (by decide) ?_
  refine j_iload X dX6_fillShowing_39 rfl ?_
  refine j_imul X dX6_fillShowing_41 ?_
  refine j_iconst X dX6_fillShowing_42 1 (by decide) ?_
  refine j_iadd X dX6_fillShowing_43 ?_
  refine s_callVi X hR (c_shownOf15_1 np _ p F hp (by first | exact hN | (simp only [jup_o (show ¬ 92 + 2 * p = 65 by omega)]; exact hN)) (by first | exact hF | (simp only [jup_o (show ¬ 93 + 2 * p = 65 by omega)]; exact hF))) rfl 6 (by decide) (oP np (by omega)) (kP np _) rfl u495 u492 u494 qp4 u14 hyX6_shownOf (by decide) (by decide) (Nat.le_of_ble_eq_true rfl) dX6_fillShowing_44 (fun v_44 m_44 h_44 => ?_)
  obtain ⟨e1, e2⟩ := h_44; have e1 := e1.symm; have e2 := e2.symm; subst e1; subst e2
  refine j_nrm2 _ (by first | (simp only [fa_lit, pk_mul, nI_add]; done) | (simp only [fa_lit, pk_mul, nI_add]; rfl) | rfl) ?_
  refine j_iastN X (o65 np) (k65 np) (by rw [l65]; omega) (by rw [l65]; decide) dX6_fillShowing_47 ?_
  refine j_goto X 60 dX6_fillShowing_48 (by decide) ?_
  refine j_iload_n X dX6_fillShowing_60 rfl ?_
  refine j_iload_n X dX6_fillShowing_61 rfl ?_
  refine j_iload X dX6_fillShowing_62 rfl ?_
  refine s_callSi X hR (c_halfSize15_0 np _) rfl u501 u499 u500 u14 hyX6_halfSize (by decide) (by decide) (Nat.le_of_ble_eq_true rfl) dX6_fillShowing_64 (fun v_2 m_2 h_2 => ?_)
  obtain ⟨e1, e2⟩ := h_2; have e1 := e1.symm; have e2 := e2.symm; subst e1; subst e2
  refine j_iadd X dX6_fillShowing_67 ?_
  refine j_istore_n X dX6_fillShowing_68 (by decide) ?_
  refine j_iinc X dX6_fillShowing_69 rfl 1 rfl ?_
  refine j_goto X 5 dX6_fillShowing_72 (by decide) ?_
  refine j_iload X dX6_fillShowing_5 rfl ?_
  refine j_iconst X dX6_fillShowing_7 2 (by decide) ?_
  refine j_icmp_ge X 75 dX6_fillShowing_8 (by decide) (fun c_8 => absurd c_8 (by decide)) (fun c_8 => ?_)
  refine j_iload_n X dX6_fillShowing_11 rfl ?_
  refine j_iload X dX6_fillShowing_12 rfl ?_
  refine s_callSi X hR (c_shows15_1 np _) rfl u491 u489 u490 u14 hyX6_showsOfHalf (by decide) (by decide) (Nat.le_of_ble_eq_true rfl) dX6_fillShowing_14 (fun v_2 m_2 h_2 => ?_)
  obtain ⟨e1, e2⟩ := h_2; have e1 := e1.symm; have e2 := e2.symm; subst e1; subst e2
  refine j_if_eq X 51 dX6_fillShowing_17 (by decide) (fun c_17 => absurd c_17 (by decide)) (fun c_17 => ?_)
  refine j_aload_n X dX6_fillShowing_20 rfl ?_
  refine j_iload_n X dX6_fillShowing_21 rfl ?_
  refine j_aload_n X dX6_fillShowing_22 rfl ?_
  refine j_iload_n X dX6_fillShowing_23 rfl ?_
  refine j_iconst X dX6_fillShowing_24 2 (by decide) ?_
  refine j_iload X dX6_fillShowing_25 rfl ?_
  refine j_imul X dX6_fillShowing_27 ?_
  refine s_callVi X hR (c_shownOf15_2 np _ p F hp (by first | exact hN | (simp only [jup_o (show ¬ 92 + 2 * p = 65 by omega)]; exact hN)) (by first | exact hF | (simp only [jup_o (show ¬ 93 + 2 * p = 65 by omega)]; exact hF))) rfl 6 (by decide) (oP np (by omega)) (kP np _) rfl u495 u492 u494 qp4 u14 hyX6_shownOf (by decide) (by decide) (Nat.le_of_ble_eq_true rfl) dX6_fillShowing_28 (fun v_28 m_28 h_28 => ?_)
  obtain ⟨e1, e2⟩ := h_28; have e1 := e1.symm; have e2 := e2.symm; subst e1; subst e2
  refine j_nrm2 _ (by first | (simp only [fa_lit, pk_mul, nI_add]; done) | (simp only [fa_lit, pk_mul, nI_add]; rfl) | rfl) ?_
  refine j_iastN X (o65 np) (k65 np) (by rw [l65]; omega) (by rw [l65]; decide) dX6_fillShowing_31 ?_
  refine j_aload_n X dX6_fillShowing_32 rfl ?_
  refine j_iload_n X dX6_fillShowing_33 rfl ?_
  refine j_iconst X dX6_fillShowing_34 1 (by decide) ?_
  refine j_iadd X dX6_fillShowing_35 ?_
  refine j_aload_n X dX6_fillShowing_36 rfl ?_
  refine j_iload_n X dX6_fillShowing_37 rfl ?_
  refine j_iconst X dX6_fillShowing_38 2 (by decide) ?_
  refine j_iload X dX6_fillShowing_39 rfl ?_
  refine j_imul X dX6_fillShowing_41 ?_
  refine j_iconst X dX6_fillShowing_42 1 (by decide) ?_
  refine j_iadd X dX6_fillShowing_43 ?_
  refine s_callVi X hR (c_shownOf15_3 np _ p F hp (by first | exact hN | (simp only [jup_o (show ¬ 92 + 2 * p = 65 by omega)]; exact hN)) (by first | exact hF | (simp only [jup_o (show ¬ 93 + 2 * p = 65 by omega)]; exact hF))) rfl 6 (by decide) (oP np (by omega)) (kP np _) rfl u495 u492 u494 qp4 u14 hyX6_shownOf (by decide) (by decide) (Nat.le_of_ble_eq_true rfl) dX6_fillShowing_44 (fun v_44 m_44 h_44 => ?_)
  obtain ⟨e1, e2⟩ := h_44; have e1 := e1.symm; have e2 := e2.symm; subst e1; subst e2
  refine j_nrm2 _ (by first | (simp only [fa_lit, pk_mul, nI_add]; done) | (simp only [fa_lit, pk_mul, nI_add]; rfl) | rfl) ?_
  refine j_iastN X (o65 np) (k65 np) (by rw [l65]; omega) (by rw [l65]; decide) dX6_fillShowing_47 ?_
  refine j_goto X 60 dX6_fillShowing_48 (by decide) ?_
  refine j_iload_n X dX6_fillShowing_60 rfl ?_
  refine j_iload_n X dX6_fillShowing_61 rfl ?_
  refine j_iload X dX6_fillShowing_62 rfl ?_
  refine s_callSi X hR (c_halfSize15_1 np _) rfl u501 u499 u500 u14 hyX6_halfSize (by decide) (by decide) (Nat.le_of_ble_eq_true rfl) dX6_fillShowing_64 (fun v_2 m_2 h_2 => ?_)
  obtain ⟨e1, e2⟩ := h_2; have e1 := e1.symm; have e2 := e2.symm; subst e1; subst e2
  refine j_iadd X dX6_fillShowing_67 ?_
  refine j_istore_n X dX6_fillShowing_68 (by decide) ?_
  refine j_iinc X dX6_fillShowing_69 rfl 1 rfl ?_
  refine j_goto X 5 dX6_fillShowing_72 (by decide) ?_
  refine j_iload X dX6_fillShowing_5 rfl ?_
  refine j_iconst X dX6_fillShowing_7 2 (by decide) ?_
  refine j_icmp_ge X 75 dX6_fillShowing_8 (by decide) (fun c_8 => ?_) (fun c_8 => absurd c_8 (by decide))
  refine j_iload_n X dX6_fillShowing_75 rfl ?_
  refine s_iret X hE hr dX6_fillShowing_76 rfl ?_
  exact ⟨by decide, rfl⟩
set_option maxRecDepth 4000 in
set_option maxHeartbeats 1000000 in
theorem c_chainBeginning (np : Nat) (mem : jMem) (p : Nat) (i : Int32) (hp : p < np) (hN : mem (92 + 2 * p) 0 = nI p) : jPi yX6_chainBeginning cX6_chainBeginning 2 .int 1 [.ref (92 + 2 * p), .int i] np mem (fun v c => v = 101 * nI p + 17 * i + 1 ∧ c = mem) := by
  refine jPi.of (own := RX6) rfl rfl (Nat.le_of_ble_eq_true rfl) (fun G X hR hr hE => ?_)
  refine j_bipush X dX6_chainBeginning_0 101 (by decide) ?_
  refine j_aload_n X dX6_chainBeginning_2 rfl ?_
  refine j_getF X 6 0 (by decide) (by decide) rfl u391 (oP np (by omega)) (kP np _) (mem (92 + 2 * p)) rfl dX6_chainBeginning_3 ?_
  refine j_nrm (nI p) hN ?_
  refine j_imul X dX6_chainBeginning_6 ?_
  refine j_bipush X dX6_chainBeginning_7 17 (by decide) ?_
  refine j_iload_n X dX6_chainBeginning_9 rfl ?_
  refine j_imul X dX6_chainBeginning_10 ?_
  refine j_iadd X dX6_chainBeginning_11 ?_
  refine j_iconst X dX6_chainBeginning_12 1 (by decide) ?_
  refine j_iadd X dX6_chainBeginning_13 ?_
  refine s_iret X hE hr dX6_chainBeginning_14 rfl ?_
  first | exact ⟨rfl, rfl⟩ | (exfalso; clear hE hr hR X; (try simp only [lg_cmp_lt, lg_cmp_gt, lg_cmp_le, lg_cmp_ge] at *); (try simp (disch := omega) only [Int64.le_iff_toInt_le, Int64.lt_iff_toInt_lt, Int32.le_iff_toInt_le, Int32.lt_iff_toInt_lt, fa_eq, fa_lit, fa_litL, nI_toInt, pk_lT, Int32.toInt_toInt64, jadd64, jin, jnoneT] at *); omega)
set_option maxRecDepth 4000 in
set_option maxHeartbeats 1000000 in
theorem c_steps (np : Nat) (mem : jMem) (x k : Nat) (hx : x ≤ 65520) (hk : k < 2 ^ 31) : jPi yX10_steps cX10_steps 5 .int 1 [.int (nI x), .int (nI k)] np mem (fun v c => v = jSteps (nI x) k ∧ c = mem) := by
  refine jPi.of (own := RX10) rfl rfl (Nat.le_of_ble_eq_true rfl) (fun G X hR hr hE => ?_)
  refine j_iload_n X dX10_steps_0 rfl ?_
  refine j_i2l X dX10_steps_1 ?_
  refine j_lstore_n X dX10_steps_2 (by decide) ?_
  refine j_iconst X dX10_steps_3 0 (by decide) ?_
  refine j_istore X dX10_steps_4 (by decide) ?_
  have lp6 : ∀ (n : Nat) (j : Nat), j ≤ k → k + 1 ≤ j + n → J G RX10 cX10_steps 5 0 0 6 (jlv [some (.int (nI x)), some (.int (nI k)), some (.long (lN (nst x j))), none, some (.int (nI j))]) [] (jS np) (mem) := by
    intro n
    induction n with
    | zero =>
      intro j hj hn
      exact absurd hn (by omega)
    | succ n ih6 =>
      intro j hj hn
      refine j_iload X dX10_steps_6 rfl ?_
      refine j_iload_n X dX10_steps_8 rfl ?_
      refine j_icmp_ge X 30 dX10_steps_9 (by decide) (fun c_9 => ?_) (fun c_9 => ?_)
      · obtain rfl : j = k := by clear hE hr hR X; (try simp only [lg_cmp_lt, lg_cmp_gt, lg_cmp_le, lg_cmp_ge] at *); (try simp (disch := omega) only [Int64.le_iff_toInt_le, Int64.lt_iff_toInt_lt, Int32.le_iff_toInt_le, Int32.lt_iff_toInt_lt, fa_eq, fa_lit, fa_litL, nI_toInt, pk_lT, Int32.toInt_toInt64, jadd64, jin, jnoneT] at *); omega
        refine j_lload_n X dX10_steps_30 rfl ?_
        refine j_l2i X dX10_steps_31 ?_
        refine s_iret X hE hr dX10_steps_32 rfl ?_
        exact ⟨by rw [jSteps_n hx, lN_i], rfl⟩
      · have hj2 : j < k := by clear hE hr hR X; (try simp only [lg_cmp_lt, lg_cmp_gt, lg_cmp_le, lg_cmp_ge] at *); (try simp (disch := omega) only [Int64.le_iff_toInt_le, Int64.lt_iff_toInt_lt, Int32.le_iff_toInt_le, Int32.lt_iff_toInt_lt, fa_eq, fa_lit, fa_litL, nI_toInt, pk_lT, Int32.toInt_toInt64, jadd64, jin, jnoneT] at *); omega
        refine j_lload_n X dX10_steps_12 rfl ?_
        refine j_lload_n X dX10_steps_13 rfl ?_
        refine j_lmul X dX10_steps_14 ?_
        refine j_ldc2 X dX10_steps_15 u447 ?_
        refine j_ladd X dX10_steps_18 ?_
        refine j_ldc2 X dX10_steps_19 u448 ?_
        refine j_lrem X dX10_steps_22 (by decide) ?_
        refine j_lstore_n X dX10_steps_23 (by decide) ?_
        refine j_iinc X dX10_steps_24 rfl 1 rfl ?_
        refine j_goto X 6 dX10_steps_27 (by decide) ?_
        refine j_lv [some (.int (nI x)), some (.int (nI k)), some (.long (lN (nst x (j + 1)))), none, some (.int (nI (j + 1)))] ⟨rfl, rfl, (congrArg (fun z => some (Value.long z)) (jst_l (nst_le hx j))), (congrArg (fun z => some (Value.int z)) (nI_1 _)), trivial⟩ ?_
        exact ih6 (j + 1) (by omega) (by omega)
  refine j_lv [some (.int (nI x)), some (.int (nI k)), some (.long (lN (nst x 0))), none, some (.int (nI 0))] ⟨rfl, rfl, (congrArg (fun z => some (Value.long z)) (nI_l (by omega))), rfl, trivial⟩ ?_
  exact lp6 (k + 1) 0 (by omega) (by omega)
set_option maxRecDepth 4000 in
set_option maxHeartbeats 1000000 in
theorem c_chainEnd0 (np : Nat) (mem : jMem) (p w : Nat) (F : Nat → Int32) (hp : p < np) (hN : mem (92 + 2 * p) 0 = nI p) (hF : mem (93 + 2 * p) = F) (hn : np ≤ 12) (hw : F 0 = nI w) (hw2 : w ≤ 999) : jPi yX6_chainEnd cX6_chainEnd 2 .int 2 [.ref (92 + 2 * p), .int 0] np mem (fun v c => v = jSteps (101 * nI p + 17 * 0 + 1) (w + 1) ∧ c = mem) := by
  refine jPi.of (own := RX6) rfl rfl (Nat.le_of_ble_eq_true rfl) (fun G X hR hr hE => ?_)
  refine j_aload_n X dX6_chainEnd_0 rfl ?_
  refine j_iload_n X dX6_chainEnd_1 rfl ?_
  refine s_callVi X hR (c_chainBeginning np _ p _ hp hN) rfl 6 (by decide) (oP np (by omega)) (kP np _) rfl u443 u440 u441 u442 u14 hyX6_chainBeginning (by decide) (by decide) (Nat.le_of_ble_eq_true rfl) dX6_chainEnd_2 (fun v_2 m_2 h_2 => ?_)
  obtain ⟨e1, e2⟩ := h_2; have e1 := e1.symm; have e2 := e2.symm; subst e1; subst e2
  refine j_nrm (nI (101 * p + 17 * 0 + 1)) (jbeg_n p 0) ?_
  refine j_aload_n X dX6_chainEnd_5 rfl ?_
  refine j_getR X 6 6 (by decide) (by decide) rfl u405 (oP np (by omega)) (kP np _) _ (pP_f np _) dX6_chainEnd_6 ?_
  refine j_iload_n X dX6_chainEnd_9 rfl ?_
  refine j_nrm _ (by first | (simp only [fa_lit, pk_mul, nI_add]; done) | (simp only [fa_lit, pk_mul, nI_add]; rfl) | rfl) ?_
  refine j_ialdN X (oPf np (by omega)) (kPf np _) (by rw [lPf]; omega) (by rw [lPf]; decide) F hF dX6_chainEnd_10 ?_
  refine j_nrm (nI w) hw ?_
  refine j_iconst X dX6_chainEnd_11 1 (by decide) ?_
  refine j_iadd X dX6_chainEnd_12 ?_
  refine j_nrm (nI (w + 1)) (nI_1 w) ?_
  refine s_callNi X hR (c_steps np _ (101 * p + 17 * 0 + 1) (w + 1) (by omega) (by omega)) rfl u446 (by decide) u445 u1 hyX10_steps (by decide) (by decide) (Nat.le_of_ble_eq_true rfl) dX6_chainEnd_13 (fun v_13 m_13 h_13 => ?_)
  obtain ⟨e1, e2⟩ := h_13; have e1 := e1.symm; have e2 := e2.symm; subst e1; subst e2
  refine s_iret X hE hr dX6_chainEnd_16 rfl ?_
  exact ⟨by rw [← jbeg_n p 0]; rfl, rfl⟩
set_option maxRecDepth 4000 in
set_option maxHeartbeats 1000000 in
theorem c_chainEnd1 (np : Nat) (mem : jMem) (p w : Nat) (F : Nat → Int32) (hp : p < np) (hN : mem (92 + 2 * p) 0 = nI p) (hF : mem (93 + 2 * p) = F) (hn : np ≤ 12) (hw : F 1 = nI w) (hw2 : w ≤ 999) : jPi yX6_chainEnd cX6_chainEnd 2 .int 2 [.ref (92 + 2 * p), .int 1] np mem (fun v c => v = jSteps (101 * nI p + 17 * 1 + 1) (w + 1) ∧ c = mem) := by
  refine jPi.of (own := RX6) rfl rfl (Nat.le_of_ble_eq_true rfl) (fun G X hR hr hE => ?_)
  refine j_aload_n X dX6_chainEnd_0 rfl ?_
  refine j_iload_n X dX6_chainEnd_1 rfl ?_
  refine s_callVi X hR (c_chainBeginning np _ p _ hp hN) rfl 6 (by decide) (oP np (by omega)) (kP np _) rfl u443 u440 u441 u442 u14 hyX6_chainBeginning (by decide) (by decide) (Nat.le_of_ble_eq_true rfl) dX6_chainEnd_2 (fun v_2 m_2 h_2 => ?_)
  obtain ⟨e1, e2⟩ := h_2; have e1 := e1.symm; have e2 := e2.symm; subst e1; subst e2
  refine j_nrm (nI (101 * p + 17 * 1 + 1)) (jbeg_n p 1) ?_
  refine j_aload_n X dX6_chainEnd_5 rfl ?_
  refine j_getR X 6 6 (by decide) (by decide) rfl u405 (oP np (by omega)) (kP np _) _ (pP_f np _) dX6_chainEnd_6 ?_
  refine j_iload_n X dX6_chainEnd_9 rfl ?_
  refine j_nrm _ (by first | (simp only [fa_lit, pk_mul, nI_add]; done) | (simp only [fa_lit, pk_mul, nI_add]; rfl) | rfl) ?_
  refine j_ialdN X (oPf np (by omega)) (kPf np _) (by rw [lPf]; omega) (by rw [lPf]; decide) F hF dX6_chainEnd_10 ?_
  refine j_nrm (nI w) hw ?_
  refine j_iconst X dX6_chainEnd_11 1 (by decide) ?_
  refine j_iadd X dX6_chainEnd_12 ?_
  refine j_nrm (nI (w + 1)) (nI_1 w) ?_
  refine s_callNi X hR (c_steps np _ (101 * p + 17 * 1 + 1) (w + 1) (by omega) (by omega)) rfl u446 (by decide) u445 u1 hyX10_steps (by decide) (by decide) (Nat.le_of_ble_eq_true rfl) dX6_chainEnd_13 (fun v_13 m_13 h_13 => ?_)
  obtain ⟨e1, e2⟩ := h_13; have e1 := e1.symm; have e2 := e2.symm; subst e1; subst e2
  refine s_iret X hE hr dX6_chainEnd_16 rfl ?_
  exact ⟨by rw [← jbeg_n p 1]; rfl, rfl⟩
set_option maxRecDepth 4000 in
set_option maxHeartbeats 1000000 in
theorem c_chainEnd2 (np : Nat) (mem : jMem) (p w : Nat) (F : Nat → Int32) (hp : p < np) (hN : mem (92 + 2 * p) 0 = nI p) (hF : mem (93 + 2 * p) = F) (hn : np ≤ 12) (hw : F 2 = nI w) (hw2 : w ≤ 999) : jPi yX6_chainEnd cX6_chainEnd 2 .int 2 [.ref (92 + 2 * p), .int 2] np mem (fun v c => v = jSteps (101 * nI p + 17 * 2 + 1) (w + 1) ∧ c = mem) := by
  refine jPi.of (own := RX6) rfl rfl (Nat.le_of_ble_eq_true rfl) (fun G X hR hr hE => ?_)
  refine j_aload_n X dX6_chainEnd_0 rfl ?_
  refine j_iload_n X dX6_chainEnd_1 rfl ?_
  refine s_callVi X hR (c_chainBeginning np _ p _ hp hN) rfl 6 (by decide) (oP np (by omega)) (kP np _) rfl u443 u440 u441 u442 u14 hyX6_chainBeginning (by decide) (by decide) (Nat.le_of_ble_eq_true rfl) dX6_chainEnd_2 (fun v_2 m_2 h_2 => ?_)
  obtain ⟨e1, e2⟩ := h_2; have e1 := e1.symm; have e2 := e2.symm; subst e1; subst e2
  refine j_nrm (nI (101 * p + 17 * 2 + 1)) (jbeg_n p 2) ?_
  refine j_aload_n X dX6_chainEnd_5 rfl ?_
  refine j_getR X 6 6 (by decide) (by decide) rfl u405 (oP np (by omega)) (kP np _) _ (pP_f np _) dX6_chainEnd_6 ?_
  refine j_iload_n X dX6_chainEnd_9 rfl ?_
  refine j_nrm _ (by first | (simp only [fa_lit, pk_mul, nI_add]; done) | (simp only [fa_lit, pk_mul, nI_add]; rfl) | rfl) ?_
  refine j_ialdN X (oPf np (by omega)) (kPf np _) (by rw [lPf]; omega) (by rw [lPf]; decide) F hF dX6_chainEnd_10 ?_
  refine j_nrm (nI w) hw ?_
  refine j_iconst X dX6_chainEnd_11 1 (by decide) ?_
  refine j_iadd X dX6_chainEnd_12 ?_
  refine j_nrm (nI (w + 1)) (nI_1 w) ?_
  refine s_callNi X hR (c_steps np _ (101 * p + 17 * 2 + 1) (w + 1) (by omega) (by omega)) rfl u446 (by decide) u445 u1 hyX10_steps (by decide) (by decide) (Nat.le_of_ble_eq_true rfl) dX6_chainEnd_13 (fun v_13 m_13 h_13 => ?_)
  obtain ⟨e1, e2⟩ := h_13; have e1 := e1.symm; have e2 := e2.symm; subst e1; subst e2
  refine s_iret X hE hr dX6_chainEnd_16 rfl ?_
  exact ⟨by rw [← jbeg_n p 2]; rfl, rfl⟩
set_option maxRecDepth 4000 in
set_option maxHeartbeats 1000000 in
theorem c_chainEnd3 (np : Nat) (mem : jMem) (p w : Nat) (F : Nat → Int32) (hp : p < np) (hN : mem (92 + 2 * p) 0 = nI p) (hF : mem (93 + 2 * p) = F) (hn : np ≤ 12) (hw : F 3 = nI w) (hw2 : w ≤ 999) : jPi yX6_chainEnd cX6_chainEnd 2 .int 2 [.ref (92 + 2 * p), .int 3] np mem (fun v c => v = jSteps (101 * nI p + 17 * 3 + 1) (w + 1) ∧ c = mem) := by
  refine jPi.of (own := RX6) rfl rfl (Nat.le_of_ble_eq_true rfl) (fun G X hR hr hE => ?_)
  refine j_aload_n X dX6_chainEnd_0 rfl ?_
  refine j_iload_n X dX6_chainEnd_1 rfl ?_
  refine s_callVi X hR (c_chainBeginning np _ p _ hp hN) rfl 6 (by decide) (oP np (by omega)) (kP np _) rfl u443 u440 u441 u442 u14 hyX6_chainBeginning (by decide) (by decide) (Nat.le_of_ble_eq_true rfl) dX6_chainEnd_2 (fun v_2 m_2 h_2 => ?_)
  obtain ⟨e1, e2⟩ := h_2; have e1 := e1.symm; have e2 := e2.symm; subst e1; subst e2
  refine j_nrm (nI (101 * p + 17 * 3 + 1)) (jbeg_n p 3) ?_
  refine j_aload_n X dX6_chainEnd_5 rfl ?_
  refine j_getR X 6 6 (by decide) (by decide) rfl u405 (oP np (by omega)) (kP np _) _ (pP_f np _) dX6_chainEnd_6 ?_
  refine j_iload_n X dX6_chainEnd_9 rfl ?_
  refine j_nrm _ (by first | (simp only [fa_lit, pk_mul, nI_add]; done) | (simp only [fa_lit, pk_mul, nI_add]; rfl) | rfl) ?_
  refine j_ialdN X (oPf np (by omega)) (kPf np _) (by rw [lPf]; omega) (by rw [lPf]; decide) F hF dX6_chainEnd_10 ?_
  refine j_nrm (nI w) hw ?_
  refine j_iconst X dX6_chainEnd_11 1 (by decide) ?_
  refine j_iadd X dX6_chainEnd_12 ?_
  refine j_nrm (nI (w + 1)) (nI_1 w) ?_
  refine s_callNi X hR (c_steps np _ (101 * p + 17 * 3 + 1) (w + 1) (by omega) (by omega)) rfl u446 (by decide) u445 u1 hyX10_steps (by decide) (by decide) (Nat.le_of_ble_eq_true rfl) dX6_chainEnd_13 (fun v_13 m_13 h_13 => ?_)
  obtain ⟨e1, e2⟩ := h_13; have e1 := e1.symm; have e2 := e2.symm; subst e1; subst e2
  refine s_iret X hE hr dX6_chainEnd_16 rfl ?_
  exact ⟨by rw [← jbeg_n p 3]; rfl, rfl⟩
set_option maxRecDepth 4000 in
set_option maxHeartbeats 1000000 in
theorem c_kindOn (np : Nat) (mem : jMem) (p : Nat) (d : Int32) (hp : p < np) : jPi yX6_kindOn cX6_kindOn 2 .int 1 [.ref (92 + 2 * p), .int d] np mem (fun v c => v = (if mem (92 + 2 * p) 7 ≤ d then 5 else mem (92 + 2 * p) 3) ∧ c = mem) := by
  refine jPi.of (own := RX6) rfl rfl (Nat.le_of_ble_eq_true rfl) (fun G X hR hr hE => ?_)
  refine j_aload_n X dX6_kindOn_0 rfl ?_
  refine j_getF X 6 7 (by decide) (by decide) rfl u409 (oP np (by omega)) (kP np _) (mem (92 + 2 * p)) rfl dX6_kindOn_1 ?_
  refine j_iload_n X dX6_kindOn_4 rfl ?_
  refine j_icmp_gt X 12 dX6_kindOn_5 (by decide) (fun c_5 => ?_) (fun c_5 => ?_)
  · refine j_aload_n X dX6_kindOn_12 rfl ?_
    refine j_getF X 6 3 (by decide) (by decide) rfl u398 (oP np (by omega)) (kP np _) (mem (92 + 2 * p)) rfl dX6_kindOn_13 ?_
    refine s_iret X hE hr dX6_kindOn_16 rfl ?_
    first | exact ⟨(if_pos (Int32.not_lt.mp c_5)).symm, rfl⟩ | exact ⟨(if_neg (Int32.not_le.mpr c_5)).symm, rfl⟩
  · refine j_iconst X dX6_kindOn_8 5 (by decide) ?_
    refine j_goto X 16 dX6_kindOn_9 (by decide) ?_
    refine s_iret X hE hr dX6_kindOn_16 rfl ?_
    first | exact ⟨(if_pos (Int32.not_lt.mp c_5)).symm, rfl⟩ | exact ⟨(if_neg (Int32.not_le.mpr c_5)).symm, rfl⟩
