/-- a body begins, in the class -/
def jBegC (mem : jMem) (t : Nat) (x : Int32) : jMem := jup (jup mem 64 t x) 63 1 (nI (t + 1))
theorem jBegC_p {mem : jMem} {t p : Nat} {x : Int32} : jBegC mem t x (92 + 2 * p) = mem (92 + 2 * p) := by
  unfold jBegC
  rw [jup_o (by omega), jup_o (by omega)]
theorem jBegC_f {mem : jMem} {t p : Nat} {x : Int32} : jBegC mem t x (93 + 2 * p) = mem (93 + 2 * p) := by
  unfold jBegC
  rw [jup_o (by omega), jup_o (by omega)]
theorem jAny_mono {g : Nat → Bool} {k : Nat} (h : jAny g k = true) : ∀ q, k ≤ q → jAny g q = true
  | 0, hq => by
    obtain rfl : k = 0 := by omega
    exact h
  | q + 1, hq => by
    rcases Nat.lt_or_ge q k with z | z
    · obtain rfl : k = q + 1 := by omega
      exact h
    · exact jAny_t1 (jAny_mono h q z)
theorem jBits_f0 {g : Nat → Bool} {b : Nat → Int32} {k : Nat} (h : ¬ g k = true) : jBits g b k = jBits g b (k + 1) := (if_neg h).symm
theorem jTog_63 {g : Nat → Bool} {w : Nat → Int32} : ∀ k, jTog g w k &&& 63 = jTog g w k
  | 0 => (by decide : (63 : Int32) &&& 63 = 63)
  | k + 1 => by
    show (jTog g w k &&& _) &&& 63 = jTog g w k &&& _
    rw [Int32.and_assoc, Int32.and_comm (b := 63), ← Int32.and_assoc, jTog_63 k]
theorem jTog_t {g : Nat → Bool} {w : Nat → Int32} {k : Nat} {x : Int32} (h : g k = true) (hx : x = w k) : jTog g w k &&& x = jTog g w (k + 1) := by
  show _ = jTog g w k &&& _
  rw [if_pos h, hx]
theorem jTog_f {g : Nat → Bool} {w : Nat → Int32} {k : Nat} (h : ¬ g k = true) : jTog g w k = jTog g w (k + 1) := by
  show _ = jTog g w k &&& _
  rw [if_neg h, jTog_63]
/-- the byte of w that the class lays at its place i -/
def jByC (w : Int64) (i : Nat) : Int32 := vp_nar .byte ((w >>> ((8 * nI i).toInt64 &&& 63)).toInt32.toInt8.toInt32)
def jFdC (mem : jMem) (w : Int64) (t q j : Nat) : jMem := va_up (jup mem 51 1 (nI (t + j))) 52 (fun i => if t ≤ i ∧ i < t + j then jByC w (q - 1 - (i - t)) else mem 52 i)
theorem jFdC_0 {mem : jMem} {w : Int64} {t q : Nat} (ht : mem 51 1 = nI t) : mem = jFdC mem w t q 0 := by
  funext i j
  unfold jFdC va_up
  by_cases h1 : i = 52
  · rw [if_pos h1, if_neg (by omega), h1]
  · rw [if_neg h1]
    unfold jup va_up
    by_cases h2 : i = 51
    · subst h2
      simp only [if_true]
      by_cases h3 : j = 1
      · subst h3; simp [ht]
      · simp [h3]
    · simp [h2]
theorem jFdC_s {mem : jMem} {w : Int64} {t q j : Nat} (hj : j < q) : jup (jup (jFdC mem w t q j) 52 (t + j) (jByC w (q - 1 - j))) 51 1 (nI (t + j) + 1) = jFdC mem w t q (j + 1) := by
  funext a b
  unfold jFdC jup va_up
  by_cases h1 : a = 52
  · subst h1
    simp only [show ¬ (52 : Nat) = 51 by decide, if_false, if_true]
    by_cases h2 : b = t + j
    · subst h2
      rw [if_pos rfl, if_pos (by omega), Nat.add_sub_cancel_left]
    · rw [if_neg h2]
      by_cases h3 : t ≤ b ∧ b < t + j
      · rw [if_pos h3, if_pos (by omega)]
      · rw [if_neg h3, if_neg (by omega)]
  · by_cases h2 : a = 51
    · subst h2
      simp only [if_true, show ¬ (51 : Nat) = 52 by decide, if_false]
      by_cases h3 : b = 1
      · rw [if_pos h3, if_pos h3, nI_1, Nat.add_assoc]
      · rw [if_neg h3, if_neg h3, if_neg h3]
    · simp [h1, h2]
set_option maxRecDepth 4000 in
set_option maxHeartbeats 1000000 in
theorem c_begin (np : Nat) (mem : jMem) (x : Int32) (t : Nat) (ht : mem 63 1 = nI t) (ht2 : t < 16) : jPv yX0_begin cX0_begin 2 1 [.ref 63, .int x] np mem (fun c => c = jBegC mem t x) := by
  refine jPv.of (own := RX0) rfl rfl (Nat.le_of_ble_eq_true rfl) (fun G X hR hr hE => ?_)
  refine j_aload_n X dX0_begin_0 rfl ?_
  refine j_getF X 0 1 (by decide) (by decide) rfl u231 (o63 np) (k63 np) (mem 63) rfl dX0_begin_1 ?_
  refine j_nrm (nI t) ht ?_
  refine j_bipush X dX0_begin_4 16 (by decide) ?_
  refine j_icmp_ge X 29 dX0_begin_6 (by decide) (fun c_6 => absurd c_6 (by rw [fa_lit, nI_leI (by omega) (by omega)]; omega)) (fun c_6 => ?_)
  refine j_aload_n X dX0_begin_9 rfl ?_
  refine j_getR X 0 0 (by decide) (by decide) rfl u229 (o63 np) (k63 np) _ (p63_0 np) dX0_begin_10 ?_
  refine j_aload_n X dX0_begin_13 rfl ?_
  refine j_getF X 0 1 (by decide) (by decide) rfl u231 (o63 np) (k63 np) (mem 63) rfl dX0_begin_14 ?_
  refine j_nrm (nI t) ht ?_
  refine j_iload_n X dX0_begin_17 rfl ?_
  refine j_nrm2 _ (by first | (simp only [fa_lit, pk_mul, nI_add]; done) | (simp only [fa_lit, pk_mul, nI_add]; rfl) | rfl) ?_
  refine j_iastN X (o64 np) (k64 np) (by rw [l64]; omega) (by rw [l64]; decide) dX0_begin_18 ?_
  refine j_aload_n X dX0_begin_19 rfl ?_
  refine j_dup X dX0_begin_20 rfl ?_
  refine j_getF X 0 1 (by decide) (by decide) rfl u231 (o63 np) (k63 np) (mem 63) rfl dX0_begin_21 ?_
  refine j_nrm (nI t) ht ?_
  refine j_iconst X dX0_begin_24 1 (by decide) ?_
  refine j_iadd X dX0_begin_25 ?_
  refine j_nrm _ (nI_1 t) ?_
  refine j_putI X 0 1 (by decide) (by decide) rfl rfl rfl rfl u231 (o63 np) (k63 np) dX0_begin_26 ?_
  refine s_vret X hE hr dX0_begin_29 ?_
  first | exact rfl | (exfalso; clear hE hr hR X; (try simp only [lg_cmp_lt, lg_cmp_gt, lg_cmp_le, lg_cmp_ge] at *); (try simp (disch := omega) only [Int64.le_iff_toInt_le, Int64.lt_iff_toInt_lt, Int32.le_iff_toInt_le, Int32.lt_iff_toInt_lt, fa_eq, fa_lit, fa_litL, nI_toInt, pk_lT, Int32.toInt_toInt64, jadd64, jin, jnoneT] at *); omega)
set_option maxRecDepth 4000 in
set_option maxHeartbeats 1000000 in
theorem c_lentSize (np : Nat) (mem : jMem) (p t : Nat) (hp2 : p < np) (hN : mem (92 + 2 * p) 0 = nI p) (ht : mem 63 1 = nI t) (ht2 : t + 1 ≤ 16) : jPi yX0_lentSize cX0_lentSize 2 .int 2 [.ref 63, .ref (92 + 2 * p)] np mem (fun v c => v = (mem (92 + 2 * p) 5 - mem (92 + 2 * p) 4 + 1) ∧ c = jBegC (mem) t 10) := by
  refine jPi.of (own := RX0) rfl rfl (Nat.le_of_ble_eq_true rfl) (fun G X hR hr hE => ?_)
  refine j_aload_n X dX0_lentSize_0 rfl ?_
  refine j_bipush X dX0_lentSize_1 10 (by decide) ?_
  refine s_callVv X hR (c_begin np _ _ t ht (by omega)) rfl 0 (by decide) (o63 np) (k63 np) rfl u881 u878 u880 qp26 u11 hyX0_begin (by decide) (by decide) (Nat.le_of_ble_eq_true rfl) dX0_lentSize_3 (fun m_3 h_3 => ?_)
  have h_3 := h_3.symm; subst h_3
  refine j_aload_n X dX0_lentSize_6 rfl ?_
  refine j_getF X 6 5 (by decide) (by decide) rfl u403 (oP np (by omega)) (kP np _) (mem (92 + 2 * p)) (by first | rfl | (simp only [jBegC_p])) dX0_lentSize_7 ?_
  refine j_aload_n X dX0_lentSize_10 rfl ?_
  refine j_getF X 6 4 (by decide) (by decide) rfl u400 (oP np (by omega)) (kP np _) (mem (92 + 2 * p)) (by first | rfl | (simp only [jBegC_p])) dX0_lentSize_11 ?_
  refine j_isub X dX0_lentSize_14 ?_
  refine j_iconst X dX0_lentSize_15 1 (by decide) ?_
  refine j_iadd X dX0_lentSize_16 ?_
  refine s_iret X hE hr dX0_lentSize_17 rfl ?_
  refine ⟨?_, rfl⟩
  first | rfl | (simp only [jBegC_p, jBegC_f]; rfl) | simp only [jBegC_p, jBegC_f]
set_option maxRecDepth 4000 in
set_option maxHeartbeats 1000000 in
theorem c_stampSize (np : Nat) (mem : jMem) (p t : Nat) (hp2 : p < np) (hN : mem (92 + 2 * p) 0 = nI p) (ht : mem 63 1 = nI t) (ht2 : t + 2 ≤ 16) : jPi yX0_stampSize cX0_stampSize 2 .int 3 [.ref 63, .ref (92 + 2 * p)] np mem (fun v c => v = ((mem (92 + 2 * p) 5 - mem (92 + 2 * p) 4 + 1) + mem (93 + 2 * p) 0) ∧ c = jBegC (jBegC (mem) t 11) (t + 1) 10) := by
  refine jPi.of (own := RX0) rfl rfl (Nat.le_of_ble_eq_true rfl) (fun G X hR hr hE => ?_)
  refine j_aload_n X dX0_stampSize_0 rfl ?_
  refine j_bipush X dX0_stampSize_1 11 (by decide) ?_
  refine s_callVv X hR (c_begin np _ _ t ht (by omega)) rfl 0 (by decide) (o63 np) (k63 np) rfl u881 u878 u880 qp26 u11 hyX0_begin (by decide) (by decide) (Nat.le_of_ble_eq_true rfl) dX0_stampSize_3 (fun m_3 h_3 => ?_)
  have h_3 := h_3.symm; subst h_3
  refine j_aload_n X dX0_stampSize_6 rfl ?_
  refine j_aload_n X dX0_stampSize_7 rfl ?_
  refine s_callVi X hR (c_lentSize np _ p (t + 1) hp2 (by simp only [jBegC_p]; exact hN) rfl (by omega)) rfl 0 (by decide) (o63 np) (k63 np) rfl u885 u882 u884 qp27 u11 hyX0_lentSize (by decide) (by decide) (Nat.le_of_ble_eq_true rfl) dX0_stampSize_8 (fun v_8 m_8 h_8 => ?_)
  obtain ⟨e1, e2⟩ := h_8; have e1 := e1.symm; have e2 := e2.symm; subst e1; subst e2
  refine j_aload_n X dX0_stampSize_11 rfl ?_
  refine j_getR X 6 6 (by decide) (by decide) rfl u407 (oP np (by omega)) (kP np _) _ (pP_f np _) dX0_stampSize_12 ?_
  refine j_iconst X dX0_stampSize_15 0 (by decide) ?_
  refine j_nrm _ (by first | (simp only [fa_lit, pk_mul, nI_add]; done) | (simp only [fa_lit, pk_mul, nI_add]; rfl) | rfl) ?_
  refine j_ialdN X (oPf np (by omega)) (kPf np _) (by rw [lPf]; omega) (by rw [lPf]; decide) (mem (93 + 2 * p)) (by first | rfl | (simp only [jBegC_f])) dX0_stampSize_16 ?_
  refine j_iadd X dX0_stampSize_17 ?_
  refine s_iret X hE hr dX0_stampSize_18 rfl ?_
  refine ⟨?_, rfl⟩
  first | rfl | (simp only [jBegC_p, jBegC_f]; rfl) | simp only [jBegC_p, jBegC_f]
set_option maxRecDepth 4000 in
set_option maxHeartbeats 1000000 in
theorem c_shortSize (np : Nat) (mem : jMem) (p t : Nat) (hp2 : p < np) (hN : mem (92 + 2 * p) 0 = nI p) (ht : mem 63 1 = nI t) (ht2 : t + 3 ≤ 16) : jPi yX0_shortSize cX0_shortSize 2 .int 4 [.ref 63, .ref (92 + 2 * p)] np mem (fun v c => v = (2 * ((mem (92 + 2 * p) 5 - mem (92 + 2 * p) 4 + 1) + mem (93 + 2 * p) 0)) ∧ c = jBegC (jBegC (jBegC (mem) t 12) (t + 1) 11) (t + 2) 10) := by
  refine jPi.of (own := RX0) rfl rfl (Nat.le_of_ble_eq_true rfl) (fun G X hR hr hE => ?_)
  refine j_aload_n X dX0_shortSize_0 rfl ?_
  refine j_bipush X dX0_shortSize_1 12 (by decide) ?_
  refine s_callVv X hR (c_begin np _ _ t ht (by omega)) rfl 0 (by decide) (o63 np) (k63 np) rfl u881 u878 u880 qp26 u11 hyX0_begin (by decide) (by decide) (Nat.le_of_ble_eq_true rfl) dX0_shortSize_3 (fun m_3 h_3 => ?_)
  have h_3 := h_3.symm; subst h_3
  refine j_iconst X dX0_shortSize_6 2 (by decide) ?_
  refine j_aload_n X dX0_shortSize_7 rfl ?_
  refine j_aload_n X dX0_shortSize_8 rfl ?_
  refine s_callVi X hR (c_stampSize np _ p (t + 1) hp2 (by simp only [jBegC_p]; exact hN) rfl (by omega)) rfl 0 (by decide) (o63 np) (k63 np) rfl u877 u874 u876 qp25 u11 hyX0_stampSize (by decide) (by decide) (Nat.le_of_ble_eq_true rfl) dX0_shortSize_9 (fun v_9 m_9 h_9 => ?_)
  obtain ⟨e1, e2⟩ := h_9; have e1 := e1.symm; have e2 := e2.symm; subst e1; subst e2
  refine j_imul X dX0_shortSize_12 ?_
  refine s_iret X hE hr dX0_shortSize_13 rfl ?_
  refine ⟨?_, rfl⟩
  first | rfl | (simp only [jBegC_p, jBegC_f]; rfl) | simp only [jBegC_p, jBegC_f]
set_option maxRecDepth 4000 in
set_option maxHeartbeats 1000000 in
theorem c_lentMark (np : Nat) (mem : jMem) (p t : Nat) (hp2 : p < np) (hN : mem (92 + 2 * p) 0 = nI p) (ht : mem 63 1 = nI t) (ht2 : t + 1 ≤ 16) : jPi yX0_lentMark cX0_lentMark 2 .int 2 [.ref 63, .ref (92 + 2 * p)] np mem (fun v c => v = nI p ∧ c = jBegC (mem) t 20) := by
  refine jPi.of (own := RX0) rfl rfl (Nat.le_of_ble_eq_true rfl) (fun G X hR hr hE => ?_)
  refine j_aload_n X dX0_lentMark_0 rfl ?_
  refine j_bipush X dX0_lentMark_1 20 (by decide) ?_
  refine s_callVv X hR (c_begin np _ _ t ht (by omega)) rfl 0 (by decide) (o63 np) (k63 np) rfl u881 u878 u880 qp26 u11 hyX0_begin (by decide) (by decide) (Nat.le_of_ble_eq_true rfl) dX0_lentMark_3 (fun m_3 h_3 => ?_)
  have h_3 := h_3.symm; subst h_3
  refine j_aload_n X dX0_lentMark_6 rfl ?_
  refine j_getF X 6 0 (by decide) (by decide) rfl u392 (oP np (by omega)) (kP np _) (mem (92 + 2 * p)) (by first | rfl | (simp only [jBegC_p])) dX0_lentMark_7 ?_
  refine j_nrm (nI p) hN ?_
  refine s_iret X hE hr dX0_lentMark_10 rfl ?_
  refine ⟨?_, rfl⟩
  first | rfl | (simp only [jBegC_p, jBegC_f]; rfl) | simp only [jBegC_p, jBegC_f]
set_option maxRecDepth 4000 in
set_option maxHeartbeats 1000000 in
theorem c_gradeMark (np : Nat) (mem : jMem) (p t : Nat) (hp2 : p < np) (hN : mem (92 + 2 * p) 0 = nI p) (ht : mem 63 1 = nI t) (ht2 : t + 2 ≤ 16) : jPi yX0_gradeMark cX0_gradeMark 4 .int 3 [.ref 63, .ref (92 + 2 * p)] np mem (fun v c => v = (nI p + jmx (jmx (mem (93 + 2 * p) 0) (mem (93 + 2 * p) 1)) (jmx (mem (93 + 2 * p) 2) (mem (93 + 2 * p) 3))) ∧ c = jBegC (jBegC (mem) t 22) (t + 1) 20) := by
  refine jPi.of (own := RX0) rfl rfl (Nat.le_of_ble_eq_true rfl) (fun G X hR hr hE => ?_)
  refine j_aload_n X dX0_gradeMark_0 rfl ?_
  refine j_bipush X dX0_gradeMark_1 22 (by decide) ?_
  refine s_callVv X hR (c_begin np _ _ t ht (by omega)) rfl 0 (by decide) (o63 np) (k63 np) rfl u881 u878 u880 qp26 u11 hyX0_begin (by decide) (by decide) (Nat.le_of_ble_eq_true rfl) dX0_gradeMark_3 (fun m_3 h_3 => ?_)
  have h_3 := h_3.symm; subst h_3
  refine j_aload_n X dX0_gradeMark_6 rfl ?_
  refine j_getR X 6 6 (by decide) (by decide) rfl u407 (oP np (by omega)) (kP np _) _ (pP_f np _) dX0_gradeMark_7 ?_
  refine j_astore_n X dX0_gradeMark_10 (by decide) ?_
  refine j_aload_n X dX0_gradeMark_11 rfl ?_
  refine j_iconst X dX0_gradeMark_12 0 (by decide) ?_
  refine j_nrm _ (by first | (simp only [fa_lit, pk_mul, nI_add]; done) | (simp only [fa_lit, pk_mul, nI_add]; rfl) | rfl) ?_
  refine j_ialdN X (oPf np (by omega)) (kPf np _) (by rw [lPf]; omega) (by rw [lPf]; decide) (mem (93 + 2 * p)) (by first | rfl | (simp only [jBegC_f])) dX0_gradeMark_13 ?_
  refine j_aload_n X dX0_gradeMark_14 rfl ?_
  refine j_iconst X dX0_gradeMark_15 1 (by decide) ?_
  refine j_nrm _ (by first | (simp only [fa_lit, pk_mul, nI_add]; done) | (simp only [fa_lit, pk_mul, nI_add]; rfl) | rfl) ?_
  refine j_ialdN X (oPf np (by omega)) (kPf np _) (by rw [lPf]; omega) (by rw [lPf]; decide) (mem (93 + 2 * p)) (by first | rfl | (simp only [jBegC_f])) dX0_gradeMark_16 ?_
  refine j_mmax X hR (by decide) u898 (Nat.le_of_ble_eq_true rfl) ⟨Nat.le_refl _, Nat.le_refl _⟩ dX0_gradeMark_17 ?_
  refine j_aload_n X dX0_gradeMark_20 rfl ?_
  refine j_iconst X dX0_gradeMark_21 2 (by decide) ?_
  refine j_nrm _ (by first | (simp only [fa_lit, pk_mul, nI_add]; done) | (simp only [fa_lit, pk_mul, nI_add]; rfl) | rfl) ?_
  refine j_ialdN X (oPf np (by omega)) (kPf np _) (by rw [lPf]; omega) (by rw [lPf]; decide) (mem (93 + 2 * p)) (by first | rfl | (simp only [jBegC_f])) dX0_gradeMark_22 ?_
  refine j_aload_n X dX0_gradeMark_23 rfl ?_
  refine j_iconst X dX0_gradeMark_24 3 (by decide) ?_
  refine j_nrm _ (by first | (simp only [fa_lit, pk_mul, nI_add]; done) | (simp only [fa_lit, pk_mul, nI_add]; rfl) | rfl) ?_
  refine j_ialdN X (oPf np (by omega)) (kPf np _) (by rw [lPf]; omega) (by rw [lPf]; decide) (mem (93 + 2 * p)) (by first | rfl | (simp only [jBegC_f])) dX0_gradeMark_25 ?_
  refine j_mmax X hR (by decide) u898 (Nat.le_of_ble_eq_true rfl) ⟨Nat.le_refl _, Nat.le_refl _⟩ dX0_gradeMark_26 ?_
  refine j_mmax X hR (by decide) u898 (Nat.le_of_ble_eq_true rfl) ⟨Nat.le_refl _, Nat.le_refl _⟩ dX0_gradeMark_29 ?_
  refine j_istore_n X dX0_gradeMark_32 (by decide) ?_
  refine j_aload_n X dX0_gradeMark_33 rfl ?_
  refine j_aload_n X dX0_gradeMark_34 rfl ?_
  refine s_callVi X hR (c_lentMark np _ p (t + 1) hp2 (by simp only [jBegC_p]; exact hN) rfl (by omega)) rfl 0 (by decide) (o63 np) (k63 np) rfl u902 u899 u901 qp31 u11 hyX0_lentMark (by decide) (by decide) (Nat.le_of_ble_eq_true rfl) dX0_gradeMark_35 (fun v_35 m_35 h_35 => ?_)
  obtain ⟨e1, e2⟩ := h_35; have e1 := e1.symm; have e2 := e2.symm; subst e1; subst e2
  refine j_iload_n X dX0_gradeMark_38 rfl ?_
  refine j_iadd X dX0_gradeMark_39 ?_
  refine s_iret X hE hr dX0_gradeMark_40 rfl ?_
  refine ⟨?_, rfl⟩
  first | rfl | (simp only [jBegC_p, jBegC_f]; rfl) | simp only [jBegC_p, jBegC_f]
set_option maxRecDepth 4000 in
set_option maxHeartbeats 1000000 in
theorem c_gradeSize (np : Nat) (mem : jMem) (p t : Nat) (hp2 : p < np) (hN : mem (92 + 2 * p) 0 = nI p) (ht : mem 63 1 = nI t) (ht2 : t + 4 ≤ 16) : jPi yX0_gradeSize cX0_gradeSize 2 .int 4 [.ref 63, .ref (92 + 2 * p)] np mem (fun v c => v = ((mem (92 + 2 * p) 5 - mem (92 + 2 * p) 4 + 1) + (nI p + jmx (jmx (mem (93 + 2 * p) 0) (mem (93 + 2 * p) 1)) (jmx (mem (93 + 2 * p) 2) (mem (93 + 2 * p) 3)))) ∧ c = jBegC (jBegC (jBegC (jBegC (mem) t 13) (t + 1) 10) (t + 2) 22) (t + 3) 20) := by
  refine jPi.of (own := RX0) rfl rfl (Nat.le_of_ble_eq_true rfl) (fun G X hR hr hE => ?_)
  refine j_aload_n X dX0_gradeSize_0 rfl ?_
  refine j_bipush X dX0_gradeSize_1 13 (by decide) ?_
  refine s_callVv X hR (c_begin np _ _ t ht (by omega)) rfl 0 (by decide) (o63 np) (k63 np) rfl u881 u878 u880 qp26 u11 hyX0_begin (by decide) (by decide) (Nat.le_of_ble_eq_true rfl) dX0_gradeSize_3 (fun m_3 h_3 => ?_)
  have h_3 := h_3.symm; subst h_3
  refine j_aload_n X dX0_gradeSize_6 rfl ?_
  refine j_aload_n X dX0_gradeSize_7 rfl ?_
  refine s_callVi X hR (c_lentSize np _ p (t + 1) hp2 (by simp only [jBegC_p]; exact hN) rfl (by omega)) rfl 0 (by decide) (o63 np) (k63 np) rfl u885 u882 u884 qp27 u11 hyX0_lentSize (by decide) (by decide) (Nat.le_of_ble_eq_true rfl) dX0_gradeSize_8 (fun v_8 m_8 h_8 => ?_)
  obtain ⟨e1, e2⟩ := h_8; have e1 := e1.symm; have e2 := e2.symm; subst e1; subst e2
  refine j_aload_n X dX0_gradeSize_11 rfl ?_
  refine j_aload_n X dX0_gradeSize_12 rfl ?_
  refine s_callVi X hR (c_gradeMark np _ p (t + 2) hp2 (by simp only [jBegC_p]; exact hN) rfl (by omega)) rfl 0 (by decide) (o63 np) (k63 np) rfl u897 u894 u896 qp30 u11 hyX0_gradeMark (by decide) (by decide) (Nat.le_of_ble_eq_true rfl) dX0_gradeSize_13 (fun v_13 m_13 h_13 => ?_)
  obtain ⟨e1, e2⟩ := h_13; have e1 := e1.symm; have e2 := e2.symm; subst e1; subst e2
  refine j_iadd X dX0_gradeSize_16 ?_
  refine s_iret X hE hr dX0_gradeSize_17 rfl ?_
  refine ⟨?_, rfl⟩
  first | rfl | (simp only [jBegC_p, jBegC_f]; rfl) | simp only [jBegC_p, jBegC_f]
set_option maxRecDepth 4000 in
set_option maxHeartbeats 1000000 in
theorem c_goneSize (np : Nat) (mem : jMem) (p t : Nat) (hp2 : p < np) (hN : mem (92 + 2 * p) 0 = nI p) (ht : mem 63 1 = nI t) (ht2 : t + 2 ≤ 16) : jPi yX0_goneSize cX0_goneSize 2 .int 3 [.ref 63, .ref (92 + 2 * p)] np mem (fun v c => v = (-(mem (92 + 2 * p) 5 - mem (92 + 2 * p) 4 + 1)) ∧ c = jBegC (jBegC (mem) t 14) (t + 1) 10) := by
  refine jPi.of (own := RX0) rfl rfl (Nat.le_of_ble_eq_true rfl) (fun G X hR hr hE => ?_)
  refine j_aload_n X dX0_goneSize_0 rfl ?_
  refine j_bipush X dX0_goneSize_1 14 (by decide) ?_
  refine s_callVv X hR (c_begin np _ _ t ht (by omega)) rfl 0 (by decide) (o63 np) (k63 np) rfl u881 u878 u880 qp26 u11 hyX0_begin (by decide) (by decide) (Nat.le_of_ble_eq_true rfl) dX0_goneSize_3 (fun m_3 h_3 => ?_)
  have h_3 := h_3.symm; subst h_3
  refine j_aload_n X dX0_goneSize_6 rfl ?_
  refine j_aload_n X dX0_goneSize_7 rfl ?_
  refine s_callVi X hR (c_lentSize np _ p (t + 1) hp2 (by simp only [jBegC_p]; exact hN) rfl (by omega)) rfl 0 (by decide) (o63 np) (k63 np) rfl u885 u882 u884 qp27 u11 hyX0_lentSize (by decide) (by decide) (Nat.le_of_ble_eq_true rfl) dX0_goneSize_8 (fun v_8 m_8 h_8 => ?_)
  obtain ⟨e1, e2⟩ := h_8; have e1 := e1.symm; have e2 := e2.symm; subst e1; subst e2
  refine j_ineg X dX0_goneSize_11 ?_
  refine s_iret X hE hr dX0_goneSize_12 rfl ?_
  refine ⟨?_, rfl⟩
  first | rfl | (simp only [jBegC_p, jBegC_f]; rfl) | simp only [jBegC_p, jBegC_f]
set_option maxRecDepth 4000 in
set_option maxHeartbeats 1000000 in
theorem c_shortMark (np : Nat) (mem : jMem) (p t : Nat) (hp2 : p < np) (hN : mem (92 + 2 * p) 0 = nI p) (ht : mem 63 1 = nI t) (ht2 : t + 5 ≤ 16) : jPi yX0_shortMark cX0_shortMark 2 .int 5 [.ref 63, .ref (92 + 2 * p)] np mem (fun v c => v = (nI p + (2 * ((mem (92 + 2 * p) 5 - mem (92 + 2 * p) 4 + 1) + mem (93 + 2 * p) 0))) ∧ c = jBegC (jBegC (jBegC (jBegC (jBegC (mem) t 21) (t + 1) 20) (t + 2) 12) (t + 3) 11) (t + 4) 10) := by
  refine jPi.of (own := RX0) rfl rfl (Nat.le_of_ble_eq_true rfl) (fun G X hR hr hE => ?_)
  refine j_aload_n X dX0_shortMark_0 rfl ?_
  refine j_bipush X dX0_shortMark_1 21 (by decide) ?_
  refine s_callVv X hR (c_begin np _ _ t ht (by omega)) rfl 0 (by decide) (o63 np) (k63 np) rfl u881 u878 u880 qp26 u11 hyX0_begin (by decide) (by decide) (Nat.le_of_ble_eq_true rfl) dX0_shortMark_3 (fun m_3 h_3 => ?_)
  have h_3 := h_3.symm; subst h_3
  refine j_aload_n X dX0_shortMark_6 rfl ?_
  refine j_aload_n X dX0_shortMark_7 rfl ?_
  refine s_callVi X hR (c_lentMark np _ p (t + 1) hp2 (by simp only [jBegC_p]; exact hN) rfl (by omega)) rfl 0 (by decide) (o63 np) (k63 np) rfl u902 u899 u901 qp31 u11 hyX0_lentMark (by decide) (by decide) (Nat.le_of_ble_eq_true rfl) dX0_shortMark_8 (fun v_8 m_8 h_8 => ?_)
  obtain ⟨e1, e2⟩ := h_8; have e1 := e1.symm; have e2 := e2.symm; subst e1; subst e2
  refine j_aload_n X dX0_shortMark_11 rfl ?_
  refine j_aload_n X dX0_shortMark_12 rfl ?_
  refine s_callVi X hR (c_shortSize np _ p (t + 2) hp2 (by simp only [jBegC_p]; exact hN) rfl (by omega)) rfl 0 (by decide) (o63 np) (k63 np) rfl u889 u886 u888 qp28 u11 hyX0_shortSize (by decide) (by decide) (Nat.le_of_ble_eq_true rfl) dX0_shortMark_13 (fun v_13 m_13 h_13 => ?_)
  obtain ⟨e1, e2⟩ := h_13; have e1 := e1.symm; have e2 := e2.symm; subst e1; subst e2
  refine j_iadd X dX0_shortMark_16 ?_
  refine s_iret X hE hr dX0_shortMark_17 rfl ?_
  refine ⟨?_, rfl⟩
  first | rfl | (simp only [jBegC_p, jBegC_f]; rfl) | simp only [jBegC_p, jBegC_f]
set_option maxRecDepth 4000 in
set_option maxHeartbeats 1000000 in
theorem c_lentOnesMark (np : Nat) (mem : jMem) (p t : Nat) (hp2 : p < np) (hN : mem (92 + 2 * p) 0 = nI p) (ht : mem 63 1 = nI t) (ht2 : t + 2 ≤ 16) : jPi yX0_lentOnesMark cX0_lentOnesMark 2 .int 3 [.ref 63, .ref (92 + 2 * p)] np mem (fun v c => v = (nI p + 1000) ∧ c = jBegC (jBegC (mem) t 23) (t + 1) 20) := by
  refine jPi.of (own := RX0) rfl rfl (Nat.le_of_ble_eq_true rfl) (fun G X hR hr hE => ?_)
  refine j_aload_n X dX0_lentOnesMark_0 rfl ?_
  refine j_bipush X dX0_lentOnesMark_1 23 (by decide) ?_
  refine s_callVv X hR (c_begin np _ _ t ht (by omega)) rfl 0 (by decide) (o63 np) (k63 np) rfl u881 u878 u880 qp26 u11 hyX0_begin (by decide) (by decide) (Nat.le_of_ble_eq_true rfl) dX0_lentOnesMark_3 (fun m_3 h_3 => ?_)
  have h_3 := h_3.symm; subst h_3
  refine j_aload_n X dX0_lentOnesMark_6 rfl ?_
  refine j_aload_n X dX0_lentOnesMark_7 rfl ?_
  refine s_callVi X hR (c_lentMark np _ p (t + 1) hp2 (by simp only [jBegC_p]; exact hN) rfl (by omega)) rfl 0 (by decide) (o63 np) (k63 np) rfl u902 u899 u901 qp31 u11 hyX0_lentMark (by decide) (by decide) (Nat.le_of_ble_eq_true rfl) dX0_lentOnesMark_8 (fun v_8 m_8 h_8 => ?_)
  obtain ⟨e1, e2⟩ := h_8; have e1 := e1.symm; have e2 := e2.symm; subst e1; subst e2
  refine j_sipush X dX0_lentOnesMark_11 1000 (by decide) ?_
  refine j_iadd X dX0_lentOnesMark_14 ?_
  refine s_iret X hE hr dX0_lentOnesMark_15 rfl ?_
  refine ⟨?_, rfl⟩
  first | rfl | (simp only [jBegC_p, jBegC_f]; rfl) | simp only [jBegC_p, jBegC_f]
set_option maxRecDepth 4000 in
set_option maxHeartbeats 1000000 in
theorem c_sizeOf0 (np : Nat) (mem : jMem) (p t : Nat) (hp2 : p < np) (hN : mem (92 + 2 * p) 0 = nI p) (ht : mem 63 1 = nI t) (ht2 : t + 1 ≤ 16) : jPi yX0_sizeOf cX0_sizeOf 3 .int 5 [.ref 63, .ref (92 + 2 * p), .int 0] np mem (fun v c => v = (mem (92 + 2 * p) 5 - mem (92 + 2 * p) 4 + 1) ∧ c = jBegC (mem) t 10) := by
  refine jPi.of (own := RX0) rfl rfl (Nat.le_of_ble_eq_true rfl) (fun G X hR hr hE => ?_)
  refine j_iload_n X dX0_sizeOf_0 rfl ?_
  refine j_tabOut X 60 dX0_sizeOf_1 (by decide) (by decide) ?_
  refine j_aload_n X dX0_sizeOf_60 rfl ?_
  refine j_aload_n X dX0_sizeOf_61 rfl ?_
  refine s_callVi X hR (c_lentSize np _ p t hp2 hN ht ht2) rfl 0 (by decide) (o63 np) (k63 np) rfl u885 u882 u884 qp27 u11 hyX0_lentSize (by decide) (by decide) (Nat.le_of_ble_eq_true rfl) dX0_sizeOf_62 (fun v_62 m_62 h_62 => ?_)
  obtain ⟨e1, e2⟩ := h_62; have e1 := e1.symm; have e2 := e2.symm; subst e1; subst e2
  refine s_iret X hE hr dX0_sizeOf_65 rfl ?_
  exact ⟨rfl, rfl⟩
set_option maxRecDepth 4000 in
set_option maxHeartbeats 1000000 in
theorem c_markOf0 (np : Nat) (mem : jMem) (p t : Nat) (hp2 : p < np) (hN : mem (92 + 2 * p) 0 = nI p) (ht : mem 63 1 = nI t) (ht2 : t + 1 ≤ 16) : jPi yX0_markOf cX0_markOf 3 .int 6 [.ref 63, .ref (92 + 2 * p), .int 0] np mem (fun v c => v = nI p ∧ c = jBegC (mem) t 20) := by
  refine jPi.of (own := RX0) rfl rfl (Nat.le_of_ble_eq_true rfl) (fun G X hR hr hE => ?_)
  refine j_iload_n X dX0_markOf_0 rfl ?_
  refine j_tabOut X 46 dX0_markOf_1 (by decide) (by decide) ?_
  refine j_aload_n X dX0_markOf_46 rfl ?_
  refine j_aload_n X dX0_markOf_47 rfl ?_
  refine s_callVi X hR (c_lentMark np _ p t hp2 hN ht ht2) rfl 0 (by decide) (o63 np) (k63 np) rfl u902 u899 u901 qp31 u11 hyX0_lentMark (by decide) (by decide) (Nat.le_of_ble_eq_true rfl) dX0_markOf_48 (fun v_48 m_48 h_48 => ?_)
  obtain ⟨e1, e2⟩ := h_48; have e1 := e1.symm; have e2 := e2.symm; subst e1; subst e2
  refine s_iret X hE hr dX0_markOf_51 rfl ?_
  exact ⟨rfl, rfl⟩
set_option maxRecDepth 4000 in
set_option maxHeartbeats 1000000 in
theorem c_sizeOf1 (np : Nat) (mem : jMem) (p t : Nat) (hp2 : p < np) (hN : mem (92 + 2 * p) 0 = nI p) (ht : mem 63 1 = nI t) (ht2 : t + 2 ≤ 16) : jPi yX0_sizeOf cX0_sizeOf 3 .int 5 [.ref 63, .ref (92 + 2 * p), .int 1] np mem (fun v c => v = ((mem (92 + 2 * p) 5 - mem (92 + 2 * p) 4 + 1) + mem (93 + 2 * p) 0) ∧ c = jBegC (jBegC (mem) t 11) (t + 1) 10) := by
  refine jPi.of (own := RX0) rfl rfl (Nat.le_of_ble_eq_true rfl) (fun G X hR hr hE => ?_)
  refine j_iload_n X dX0_sizeOf_0 rfl ?_
  refine j_tabIn X (off := 35) 36 dX0_sizeOf_1 (by decide) (by decide) (by decide) (by decide) ?_
  refine j_aload_n X dX0_sizeOf_36 rfl ?_
  refine j_aload_n X dX0_sizeOf_37 rfl ?_
  refine s_callVi X hR (c_stampSize np _ p t hp2 hN ht ht2) rfl 0 (by decide) (o63 np) (k63 np) rfl u877 u874 u876 qp25 u11 hyX0_stampSize (by decide) (by decide) (Nat.le_of_ble_eq_true rfl) dX0_sizeOf_38 (fun v_38 m_38 h_38 => ?_)
  obtain ⟨e1, e2⟩ := h_38; have e1 := e1.symm; have e2 := e2.symm; subst e1; subst e2
  refine s_iret X hE hr dX0_sizeOf_41 rfl ?_
  exact ⟨rfl, rfl⟩
set_option maxRecDepth 4000 in
set_option maxHeartbeats 1000000 in
theorem c_markOf1 (np : Nat) (mem : jMem) (p t : Nat) (hp2 : p < np) (hN : mem (92 + 2 * p) 0 = nI p) (ht : mem 63 1 = nI t) (ht2 : t + 1 ≤ 16) : jPi yX0_markOf cX0_markOf 3 .int 6 [.ref 63, .ref (92 + 2 * p), .int 1] np mem (fun v c => v = nI p ∧ c = jBegC (mem) t 20) := by
  refine jPi.of (own := RX0) rfl rfl (Nat.le_of_ble_eq_true rfl) (fun G X hR hr hE => ?_)
  refine j_iload_n X dX0_markOf_0 rfl ?_
  refine j_tabOut X 46 dX0_markOf_1 (by decide) (by decide) ?_
  refine j_aload_n X dX0_markOf_46 rfl ?_
  refine j_aload_n X dX0_markOf_47 rfl ?_
  refine s_callVi X hR (c_lentMark np _ p t hp2 hN ht ht2) rfl 0 (by decide) (o63 np) (k63 np) rfl u902 u899 u901 qp31 u11 hyX0_lentMark (by decide) (by decide) (Nat.le_of_ble_eq_true rfl) dX0_markOf_48 (fun v_48 m_48 h_48 => ?_)
  obtain ⟨e1, e2⟩ := h_48; have e1 := e1.symm; have e2 := e2.symm; subst e1; subst e2
  refine s_iret X hE hr dX0_markOf_51 rfl ?_
  exact ⟨rfl, rfl⟩
set_option maxRecDepth 4000 in
set_option maxHeartbeats 1000000 in
theorem c_sizeOf2 (np : Nat) (mem : jMem) (p t : Nat) (hp2 : p < np) (hN : mem (92 + 2 * p) 0 = nI p) (ht : mem 63 1 = nI t) (ht2 : t + 3 ≤ 16) : jPi yX0_sizeOf cX0_sizeOf 3 .int 5 [.ref 63, .ref (92 + 2 * p), .int 2] np mem (fun v c => v = (2 * ((mem (92 + 2 * p) 5 - mem (92 + 2 * p) 4 + 1) + mem (93 + 2 * p) 0)) ∧ c = jBegC (jBegC (jBegC (mem) t 12) (t + 1) 11) (t + 2) 10) := by
  refine jPi.of (own := RX0) rfl rfl (Nat.le_of_ble_eq_true rfl) (fun G X hR hr hE => ?_)
  refine j_iload_n X dX0_sizeOf_0 rfl ?_
  refine j_tabIn X (off := 41) 42 dX0_sizeOf_1 (by decide) (by decide) (by decide) (by decide) ?_
  refine j_aload_n X dX0_sizeOf_42 rfl ?_
  refine j_aload_n X dX0_sizeOf_43 rfl ?_
  refine s_callVi X hR (c_shortSize np _ p t hp2 hN ht ht2) rfl 0 (by decide) (o63 np) (k63 np) rfl u889 u886 u888 qp28 u11 hyX0_shortSize (by decide) (by decide) (Nat.le_of_ble_eq_true rfl) dX0_sizeOf_44 (fun v_44 m_44 h_44 => ?_)
  obtain ⟨e1, e2⟩ := h_44; have e1 := e1.symm; have e2 := e2.symm; subst e1; subst e2
  refine s_iret X hE hr dX0_sizeOf_47 rfl ?_
  exact ⟨rfl, rfl⟩
set_option maxRecDepth 4000 in
set_option maxHeartbeats 1000000 in
theorem c_markOf2 (np : Nat) (mem : jMem) (p t : Nat) (hp2 : p < np) (hN : mem (92 + 2 * p) 0 = nI p) (ht : mem 63 1 = nI t) (ht2 : t + 5 ≤ 16) : jPi yX0_markOf cX0_markOf 3 .int 6 [.ref 63, .ref (92 + 2 * p), .int 2] np mem (fun v c => v = (nI p + (2 * ((mem (92 + 2 * p) 5 - mem (92 + 2 * p) 4 + 1) + mem (93 + 2 * p) 0))) ∧ c = jBegC (jBegC (jBegC (jBegC (jBegC (mem) t 21) (t + 1) 20) (t + 2) 12) (t + 3) 11) (t + 4) 10) := by
  refine jPi.of (own := RX0) rfl rfl (Nat.le_of_ble_eq_true rfl) (fun G X hR hr hE => ?_)
  refine j_iload_n X dX0_markOf_0 rfl ?_
  refine j_tabIn X (off := 27) 28 dX0_markOf_1 (by decide) (by decide) (by decide) (by decide) ?_
  refine j_aload_n X dX0_markOf_28 rfl ?_
  refine j_aload_n X dX0_markOf_29 rfl ?_
  refine s_callVi X hR (c_shortMark np _ p t hp2 hN ht ht2) rfl 0 (by decide) (o63 np) (k63 np) rfl u914 u911 u913 qp33 u11 hyX0_shortMark (by decide) (by decide) (Nat.le_of_ble_eq_true rfl) dX0_markOf_30 (fun v_30 m_30 h_30 => ?_)
  obtain ⟨e1, e2⟩ := h_30; have e1 := e1.symm; have e2 := e2.symm; subst e1; subst e2
  refine s_iret X hE hr dX0_markOf_33 rfl ?_
  exact ⟨rfl, rfl⟩
set_option maxRecDepth 4000 in
set_option maxHeartbeats 1000000 in
theorem c_sizeOf3 (np : Nat) (mem : jMem) (p t : Nat) (hp2 : p < np) (hN : mem (92 + 2 * p) 0 = nI p) (ht : mem 63 1 = nI t) (ht2 : t + 4 ≤ 16) : jPi yX0_sizeOf cX0_sizeOf 3 .int 5 [.ref 63, .ref (92 + 2 * p), .int 3] np mem (fun v c => v = ((mem (92 + 2 * p) 5 - mem (92 + 2 * p) 4 + 1) + (nI p + jmx (jmx (mem (93 + 2 * p) 0) (mem (93 + 2 * p) 1)) (jmx (mem (93 + 2 * p) 2) (mem (93 + 2 * p) 3)))) ∧ c = jBegC (jBegC (jBegC (jBegC (mem) t 13) (t + 1) 10) (t + 2) 22) (t + 3) 20) := by
  refine jPi.of (own := RX0) rfl rfl (Nat.le_of_ble_eq_true rfl) (fun G X hR hr hE => ?_)
  refine j_iload_n X dX0_sizeOf_0 rfl ?_
  refine j_tabIn X (off := 47) 48 dX0_sizeOf_1 (by decide) (by decide) (by decide) (by decide) ?_
  refine j_aload_n X dX0_sizeOf_48 rfl ?_
  refine j_aload_n X dX0_sizeOf_49 rfl ?_
  refine s_callVi X hR (c_gradeSize np _ p t hp2 hN ht ht2) rfl 0 (by decide) (o63 np) (k63 np) rfl u893 u890 u892 qp29 u11 hyX0_gradeSize (by decide) (by decide) (Nat.le_of_ble_eq_true rfl) dX0_sizeOf_50 (fun v_50 m_50 h_50 => ?_)
  obtain ⟨e1, e2⟩ := h_50; have e1 := e1.symm; have e2 := e2.symm; subst e1; subst e2
  refine s_iret X hE hr dX0_sizeOf_53 rfl ?_
  exact ⟨rfl, rfl⟩
set_option maxRecDepth 4000 in
set_option maxHeartbeats 1000000 in
theorem c_markOf3 (np : Nat) (mem : jMem) (p t : Nat) (hp2 : p < np) (hN : mem (92 + 2 * p) 0 = nI p) (ht : mem 63 1 = nI t) (ht2 : t + 2 ≤ 16) : jPi yX0_markOf cX0_markOf 3 .int 6 [.ref 63, .ref (92 + 2 * p), .int 3] np mem (fun v c => v = (nI p + jmx (jmx (mem (93 + 2 * p) 0) (mem (93 + 2 * p) 1)) (jmx (mem (93 + 2 * p) 2) (mem (93 + 2 * p) 3))) ∧ c = jBegC (jBegC (mem) t 22) (t + 1) 20) := by
  refine jPi.of (own := RX0) rfl rfl (Nat.le_of_ble_eq_true rfl) (fun G X hR hr hE => ?_)
  refine j_iload_n X dX0_markOf_0 rfl ?_
  refine j_tabIn X (off := 33) 34 dX0_markOf_1 (by decide) (by decide) (by decide) (by decide) ?_
  refine j_aload_n X dX0_markOf_34 rfl ?_
  refine j_aload_n X dX0_markOf_35 rfl ?_
  refine s_callVi X hR (c_gradeMark np _ p t hp2 hN ht ht2) rfl 0 (by decide) (o63 np) (k63 np) rfl u897 u894 u896 qp30 u11 hyX0_gradeMark (by decide) (by decide) (Nat.le_of_ble_eq_true rfl) dX0_markOf_36 (fun v_36 m_36 h_36 => ?_)
  obtain ⟨e1, e2⟩ := h_36; have e1 := e1.symm; have e2 := e2.symm; subst e1; subst e2
  refine s_iret X hE hr dX0_markOf_39 rfl ?_
  exact ⟨rfl, rfl⟩
set_option maxRecDepth 4000 in
set_option maxHeartbeats 1000000 in
theorem c_sizeOf4 (np : Nat) (mem : jMem) (p t : Nat) (hp2 : p < np) (hN : mem (92 + 2 * p) 0 = nI p) (ht : mem 63 1 = nI t) (ht2 : t + 1 ≤ 16) : jPi yX0_sizeOf cX0_sizeOf 3 .int 5 [.ref 63, .ref (92 + 2 * p), .int 4] np mem (fun v c => v = (mem (92 + 2 * p) 5 - mem (92 + 2 * p) 4 + 1) ∧ c = jBegC (mem) t 10) := by
  refine jPi.of (own := RX0) rfl rfl (Nat.le_of_ble_eq_true rfl) (fun G X hR hr hE => ?_)
  refine j_iload_n X dX0_sizeOf_0 rfl ?_
  refine j_tabIn X (off := 59) 60 dX0_sizeOf_1 (by decide) (by decide) (by decide) (by decide) ?_
  refine j_aload_n X dX0_sizeOf_60 rfl ?_
  refine j_aload_n X dX0_sizeOf_61 rfl ?_
  refine s_callVi X hR (c_lentSize np _ p t hp2 hN ht ht2) rfl 0 (by decide) (o63 np) (k63 np) rfl u885 u882 u884 qp27 u11 hyX0_lentSize (by decide) (by decide) (Nat.le_of_ble_eq_true rfl) dX0_sizeOf_62 (fun v_62 m_62 h_62 => ?_)
  obtain ⟨e1, e2⟩ := h_62; have e1 := e1.symm; have e2 := e2.symm; subst e1; subst e2
  refine s_iret X hE hr dX0_sizeOf_65 rfl ?_
  exact ⟨rfl, rfl⟩
set_option maxRecDepth 4000 in
set_option maxHeartbeats 1000000 in
theorem c_markOf4 (np : Nat) (mem : jMem) (p t : Nat) (hp2 : p < np) (hN : mem (92 + 2 * p) 0 = nI p) (ht : mem 63 1 = nI t) (ht2 : t + 2 ≤ 16) : jPi yX0_markOf cX0_markOf 3 .int 6 [.ref 63, .ref (92 + 2 * p), .int 4] np mem (fun v c => v = (nI p + 1000) ∧ c = jBegC (jBegC (mem) t 23) (t + 1) 20) := by
  refine jPi.of (own := RX0) rfl rfl (Nat.le_of_ble_eq_true rfl) (fun G X hR hr hE => ?_)
  refine j_iload_n X dX0_markOf_0 rfl ?_
  refine j_tabIn X (off := 39) 40 dX0_markOf_1 (by decide) (by decide) (by decide) (by decide) ?_
  refine j_aload_n X dX0_markOf_40 rfl ?_
  refine j_aload_n X dX0_markOf_41 rfl ?_
  refine s_callVi X hR (c_lentOnesMark np _ p t hp2 hN ht ht2) rfl 0 (by decide) (o63 np) (k63 np) rfl u918 u915 u917 qp34 u11 hyX0_lentOnesMark (by decide) (by decide) (Nat.le_of_ble_eq_true rfl) dX0_markOf_42 (fun v_42 m_42 h_42 => ?_)
  obtain ⟨e1, e2⟩ := h_42; have e1 := e1.symm; have e2 := e2.symm; subst e1; subst e2
  refine s_iret X hE hr dX0_markOf_45 rfl ?_
  exact ⟨rfl, rfl⟩
set_option maxRecDepth 4000 in
set_option maxHeartbeats 1000000 in
theorem c_sizeOf5 (np : Nat) (mem : jMem) (p t : Nat) (hp2 : p < np) (hN : mem (92 + 2 * p) 0 = nI p) (ht : mem 63 1 = nI t) (ht2 : t + 2 ≤ 16) : jPi yX0_sizeOf cX0_sizeOf 3 .int 5 [.ref 63, .ref (92 + 2 * p), .int 5] np mem (fun v c => v = (-(mem (92 + 2 * p) 5 - mem (92 + 2 * p) 4 + 1)) ∧ c = jBegC (jBegC (mem) t 14) (t + 1) 10) := by
  refine jPi.of (own := RX0) rfl rfl (Nat.le_of_ble_eq_true rfl) (fun G X hR hr hE => ?_)
  refine j_iload_n X dX0_sizeOf_0 rfl ?_
  refine j_tabIn X (off := 53) 54 dX0_sizeOf_1 (by decide) (by decide) (by decide) (by decide) ?_
  refine j_aload_n X dX0_sizeOf_54 rfl ?_
  refine j_aload_n X dX0_sizeOf_55 rfl ?_
  refine s_callVi X hR (c_goneSize np _ p t hp2 hN ht ht2) rfl 0 (by decide) (o63 np) (k63 np) rfl u906 u903 u905 qp32 u11 hyX0_goneSize (by decide) (by decide) (Nat.le_of_ble_eq_true rfl) dX0_sizeOf_56 (fun v_56 m_56 h_56 => ?_)
  obtain ⟨e1, e2⟩ := h_56; have e1 := e1.symm; have e2 := e2.symm; subst e1; subst e2
  refine s_iret X hE hr dX0_sizeOf_59 rfl ?_
  exact ⟨rfl, rfl⟩
set_option maxRecDepth 4000 in
set_option maxHeartbeats 1000000 in
theorem c_markOf5 (np : Nat) (mem : jMem) (p t : Nat) (hp2 : p < np) (hN : mem (92 + 2 * p) 0 = nI p) (ht : mem 63 1 = nI t) (ht2 : t + 1 ≤ 16) : jPi yX0_markOf cX0_markOf 3 .int 6 [.ref 63, .ref (92 + 2 * p), .int 5] np mem (fun v c => v = nI p ∧ c = jBegC (mem) t 20) := by
  refine jPi.of (own := RX0) rfl rfl (Nat.le_of_ble_eq_true rfl) (fun G X hR hr hE => ?_)
  refine j_iload_n X dX0_markOf_0 rfl ?_
  refine j_tabOut X 46 dX0_markOf_1 (by decide) (by decide) ?_
  refine j_aload_n X dX0_markOf_46 rfl ?_
  refine j_aload_n X dX0_markOf_47 rfl ?_
  refine s_callVi X hR (c_lentMark np _ p t hp2 hN ht ht2) rfl 0 (by decide) (o63 np) (k63 np) rfl u902 u899 u901 qp31 u11 hyX0_lentMark (by decide) (by decide) (Nat.le_of_ble_eq_true rfl) dX0_markOf_48 (fun v_48 m_48 h_48 => ?_)
  obtain ⟨e1, e2⟩ := h_48; have e1 := e1.symm; have e2 := e2.symm; subst e1; subst e2
  refine s_iret X hE hr dX0_markOf_51 rfl ?_
  exact ⟨rfl, rfl⟩
set_option maxRecDepth 4000 in
set_option maxHeartbeats 1000000 in
theorem c_ask_p (np : Nat) (mem : jMem) (p w : Int32) (hn : np ≤ 12) (hp : mem 0 12 = nI np) (h : ¬ jin p 0 ((np : Int) - 1)) : jPi yX10_ask cX10_ask 5 .int 7 [.ref 0, .int p, .int w] np mem (fun v c => v = -1000001 ∧ c = mem) := by
  refine jPi.of (own := RX10) rfl rfl (Nat.le_of_ble_eq_true rfl) (fun G X hR hr hE => ?_)
  refine j_aload_n X dX10_ask_0 rfl ?_
  refine j_iload_n X dX10_ask_1 rfl ?_
  refine s_callVa X hR (c_paperAt_null np _ p hn hp h) rfl 10 (by decide) (o0 np) (k0 np) rfl u435 u432 u434 qp2 u1 hyX10_paperAt (by decide) (by decide) (Nat.le_of_ble_eq_true rfl) dX10_ask_2 (fun v_2 m_2 h_2 => ?_)
  obtain ⟨e1, e2⟩ := h_2; have e1 := e1.symm; have e2 := e2.symm; subst e1; subst e2
  refine j_astore_nN X dX10_ask_5 (by decide) ?_
  refine j_aload_nN X dX10_ask_6 rfl ?_
  refine j_ifnullN X 19 dX10_ask_7 (by decide) ?_
  refine j_ldc X dX10_ask_19 u295 ?_
  refine s_iret X hE hr dX10_ask_21 rfl ?_
  first | exact ⟨rfl, rfl⟩ | (exfalso; clear hE hr hR X; (try simp only [lg_cmp_lt, lg_cmp_gt, lg_cmp_le, lg_cmp_ge] at *); (try simp (disch := omega) only [Int64.le_iff_toInt_le, Int64.lt_iff_toInt_lt, Int32.le_iff_toInt_le, Int32.lt_iff_toInt_lt, fa_eq, fa_lit, fa_litL, nI_toInt, pk_lT, Int32.toInt_toInt64, jadd64, jin, jnoneT] at *); omega)
set_option maxRecDepth 4000 in
set_option maxHeartbeats 1000000 in
theorem c_ask_bad (np : Nat) (mem : jMem) (p : Nat) (w : Int32) (hn : np ≤ 12) (hp : mem 0 12 = nI np) (hp2 : p < np) (h : ¬ jin w 0 1) : jPi yX10_ask cX10_ask 5 .int 7 [.ref 0, .int (nI p), .int w] np mem (fun v c => v = -1000001 ∧ c = mem) := by
  refine jPi.of (own := RX10) rfl rfl (Nat.le_of_ble_eq_true rfl) (fun G X hR hr hE => ?_)
  refine j_aload_n X dX10_ask_0 rfl ?_
  refine j_iload_n X dX10_ask_1 rfl ?_
  refine s_callVa X hR (c_paperAt np _ p hn hp hp2) rfl 10 (by decide) (o0 np) (k0 np) rfl u435 u432 u434 qp2 u1 hyX10_paperAt (by decide) (by decide) (Nat.le_of_ble_eq_true rfl) dX10_ask_2 (fun v_2 m_2 h_2 => ?_)
  obtain ⟨e1, e2⟩ := h_2; have e1 := e1.symm; have e2 := e2.symm; subst e1; subst e2
  refine j_astore_n X dX10_ask_5 (by decide) ?_
  refine j_aload_n X dX10_ask_6 rfl ?_
  refine j_ifnullR X 19 dX10_ask_7 (by decide) ?_
  refine j_iload_n X dX10_ask_10 rfl ?_
  refine j_iconst X dX10_ask_11 0 (by decide) ?_
  refine j_iconst X dX10_ask_12 1 (by decide) ?_
  refine s_callSi X hR (c_withinI np _ _ _ _ (0) (1) rfl rfl) rfl u293 u294 u292 u1 hyX10_within (by decide) (by decide) (Nat.le_of_ble_eq_true rfl) dX10_ask_13 (fun v_13 m_13 h_13 => ?_)
  obtain ⟨e1, e2⟩ := h_13; have e1 := e1.symm; have e2 := e2.symm; subst e1; subst e2
  refine j_ifb_ne X 22 dX10_ask_16 (by decide) (fun c_16 => ?_) (fun c_16 => ?_)
  · exfalso
    clear hE hr hR X
    (try simp only [lg_cmp_lt, lg_cmp_gt, lg_cmp_le, lg_cmp_ge] at *); (try simp (disch := omega) only [Int64.le_iff_toInt_le, Int64.lt_iff_toInt_lt, Int32.le_iff_toInt_le, Int32.lt_iff_toInt_lt, fa_eq, fa_lit, fa_litL, nI_toInt, pk_lT, Int32.toInt_toInt64, jadd64, jin, jnoneT] at *); omega
  · refine j_ldc X dX10_ask_19 u295 ?_
    refine s_iret X hE hr dX10_ask_21 rfl ?_
    first | exact ⟨rfl, rfl⟩ | (exfalso; clear hE hr hR X; (try simp only [lg_cmp_lt, lg_cmp_gt, lg_cmp_le, lg_cmp_ge] at *); (try simp (disch := omega) only [Int64.le_iff_toInt_le, Int64.lt_iff_toInt_lt, Int32.le_iff_toInt_le, Int32.lt_iff_toInt_lt, fa_eq, fa_lit, fa_litL, nI_toInt, pk_lT, Int32.toInt_toInt64, jadd64, jin, jnoneT] at *); omega)
set_option maxRecDepth 4000 in
set_option maxHeartbeats 1000000 in
theorem c_ask0_0 (np : Nat) (mem : jMem) (p : Nat) (hn : np ≤ 12) (hp : mem 0 12 = nI np) (hp2 : p < np) (hN : mem (92 + 2 * p) 0 = nI p) (hk : jKindC (mem (92 + 2 * p) 7) (mem 0 13) (mem (92 + 2 * p) 3) = 0) : jPi yX10_ask cX10_ask 5 .int 7 [.ref 0, .int (nI p), .int 0] np mem (fun v c => v = (mem (92 + 2 * p) 5 - mem (92 + 2 * p) 4 + 1) ∧ c = (jBegC (jup mem 63 1 0) 0 10)) := by
  refine jPi.of (own := RX10) rfl rfl (Nat.le_of_ble_eq_true rfl) (fun G X hR hr hE => ?_)
  refine j_aload_n X dX10_ask_0 rfl ?_
  refine j_iload_n X dX10_ask_1 rfl ?_
  refine s_callVa X hR (c_paperAt np _ p hn hp hp2) rfl 10 (by decide) (o0 np) (k0 np) rfl u435 u432 u434 qp2 u1 hyX10_paperAt (by decide) (by decide) (Nat.le_of_ble_eq_true rfl) dX10_ask_2 (fun v_2 m_2 h_2 => ?_)
  obtain ⟨e1, e2⟩ := h_2; have e1 := e1.symm; have e2 := e2.symm; subst e1; subst e2
  refine j_astore_n X dX10_ask_5 (by decide) ?_
  refine j_aload_n X dX10_ask_6 rfl ?_
  refine j_ifnullR X 19 dX10_ask_7 (by decide) ?_
  refine j_iload_n X dX10_ask_10 rfl ?_
  refine j_iconst X dX10_ask_11 0 (by decide) ?_
  refine j_iconst X dX10_ask_12 1 (by decide) ?_
  refine s_callSi X hR (c_withinI np _ _ _ _ (0) (1) rfl rfl) rfl u293 u294 u292 u1 hyX10_within (by decide) (by decide) (Nat.le_of_ble_eq_true rfl) dX10_ask_13 (fun v_13 m_13 h_13 => ?_)
  obtain ⟨e1, e2⟩ := h_13; have e1 := e1.symm; have e2 := e2.symm; subst e1; subst e2
  refine j_ifb_ne X 22 dX10_ask_16 (by decide) (fun c_16 => ?_) (fun c_16 => ?_)
  · refine j_aload_n X dX10_ask_22 rfl ?_
    refine j_getR X 10 10 (by decide) (by decide) rfl u248 (o0 np) (k0 np) _ (p0_10 np) dX10_ask_23 ?_
    refine j_iconst X dX10_ask_26 0 (by decide) ?_
    refine j_putI X 0 1 (by decide) (by decide) rfl rfl rfl rfl u232 (o63 np) (k63 np) dX10_ask_27 ?_
    refine j_aload_n X dX10_ask_30 rfl ?_
    refine j_aload_n X dX10_ask_31 rfl ?_
    refine j_getF X 10 13 (by decide) (by decide) rfl u251 (o0 np) (k0 np) (mem 0) rfl dX10_ask_32 ?_
    refine s_callVi X hR (c_kindOn np _ p _ hp2) rfl 6 (by decide) (oP np (by omega)) (kP np _) rfl u861 u858 u859 u860 u14 hyX6_kindOn (by decide) (by decide) (Nat.le_of_ble_eq_true rfl) dX10_ask_35 (fun v_35 m_35 h_35 => ?_)
    obtain ⟨e1, e2⟩ := h_35; have e2 := e2.symm; subst e2
    have e3 : v_35 = 0 := by rw [e1, jup_o (show ¬ 92 + 2 * p = 63 by omega)]; exact hk
    clear e1; subst e3
    refine j_istore X dX10_ask_38 (by decide) ?_
    refine j_iload_n X dX10_ask_40 rfl ?_
    refine j_if_ne X 57 dX10_ask_41 (by decide) (fun c_41 => absurd c_41 (by decide)) (fun c_41 => ?_)
    refine j_aload_n X dX10_ask_44 rfl ?_
    refine j_getR X 10 10 (by decide) (by decide) rfl u248 (o0 np) (k0 np) _ (p0_10 np) dX10_ask_45 ?_
    refine j_aload_n X dX10_ask_48 rfl ?_
    refine j_iload X dX10_ask_49 rfl ?_
    refine s_callVi X hR (c_sizeOf0 np _ p 0 hp2 (by rw [jup_o (by omega)]; exact hN) rfl (by omega)) rfl 0 (by decide) (o63 np) (k63 np) rfl u873 u870 u871 u872 u11 hyX0_sizeOf (by decide) (by decide) (Nat.le_of_ble_eq_true rfl) dX10_ask_51 (fun v_51 m_51 h_51 => ?_)
    obtain ⟨e1, e2⟩ := h_51; have e1 := e1.symm; have e2 := e2.symm; subst e1; subst e2
    refine j_goto X 67 dX10_ask_54 (by decide) ?_
    refine s_iret X hE hr dX10_ask_67 rfl ?_
    first | exact ⟨by simp only [jup_o (show ¬ 92 + 2 * p = 63 by omega), jup_o (show ¬ 93 + 2 * p = 63 by omega)], rfl⟩ | exact ⟨rfl, rfl⟩
  · exfalso
    clear hE hr hR X
    (try simp only [lg_cmp_lt, lg_cmp_gt, lg_cmp_le, lg_cmp_ge] at *); (try simp (disch := omega) only [Int64.le_iff_toInt_le, Int64.lt_iff_toInt_lt, Int32.le_iff_toInt_le, Int32.lt_iff_toInt_lt, fa_eq, fa_lit, fa_litL, nI_toInt, pk_lT, Int32.toInt_toInt64, jadd64, jin, jnoneT] at *); omega
set_option maxRecDepth 4000 in
set_option maxHeartbeats 1000000 in
theorem c_ask0_1 (np : Nat) (mem : jMem) (p : Nat) (hn : np ≤ 12) (hp : mem 0 12 = nI np) (hp2 : p < np) (hN : mem (92 + 2 * p) 0 = nI p) (hk : jKindC (mem (92 + 2 * p) 7) (mem 0 13) (mem (92 + 2 * p) 3) = 0) : jPi yX10_ask cX10_ask 5 .int 7 [.ref 0, .int (nI p), .int 1] np mem (fun v c => v = nI p ∧ c = (jBegC (jup mem 63 1 0) 0 20)) := by
  refine jPi.of (own := RX10) rfl rfl (Nat.le_of_ble_eq_true rfl) (fun G X hR hr hE => ?_)
  refine j_aload_n X dX10_ask_0 rfl ?_
  refine j_iload_n X dX10_ask_1 rfl ?_
  refine s_callVa X hR (c_paperAt np _ p hn hp hp2) rfl 10 (by decide) (o0 np) (k0 np) rfl u435 u432 u434 qp2 u1 hyX10_paperAt (by decide) (by decide) (Nat.le_of_ble_eq_true rfl) dX10_ask_2 (fun v_2 m_2 h_2 => ?_)
  obtain ⟨e1, e2⟩ := h_2; have e1 := e1.symm; have e2 := e2.symm; subst e1; subst e2
  refine j_astore_n X dX10_ask_5 (by decide) ?_
  refine j_aload_n X dX10_ask_6 rfl ?_
  refine j_ifnullR X 19 dX10_ask_7 (by decide) ?_
  refine j_iload_n X dX10_ask_10 rfl ?_
  refine j_iconst X dX10_ask_11 0 (by decide) ?_
  refine j_iconst X dX10_ask_12 1 (by decide) ?_
  refine s_callSi X hR (c_withinI np _ _ _ _ (0) (1) rfl rfl) rfl u293 u294 u292 u1 hyX10_within (by decide) (by decide) (Nat.le_of_ble_eq_true rfl) dX10_ask_13 (fun v_13 m_13 h_13 => ?_)
  obtain ⟨e1, e2⟩ := h_13; have e1 := e1.symm; have e2 := e2.symm; subst e1; subst e2
  refine j_ifb_ne X 22 dX10_ask_16 (by decide) (fun c_16 => ?_) (fun c_16 => ?_)
  · refine j_aload_n X dX10_ask_22 rfl ?_
    refine j_getR X 10 10 (by decide) (by decide) rfl u248 (o0 np) (k0 np) _ (p0_10 np) dX10_ask_23 ?_
    refine j_iconst X dX10_ask_26 0 (by decide) ?_
    refine j_putI X 0 1 (by decide) (by decide) rfl rfl rfl rfl u232 (o63 np) (k63 np) dX10_ask_27 ?_
    refine j_aload_n X dX10_ask_30 rfl ?_
    refine j_aload_n X dX10_ask_31 rfl ?_
    refine j_getF X 10 13 (by decide) (by decide) rfl u251 (o0 np) (k0 np) (mem 0) rfl dX10_ask_32 ?_
    refine s_callVi X hR (c_kindOn np _ p _ hp2) rfl 6 (by decide) (oP np (by omega)) (kP np _) rfl u861 u858 u859 u860 u14 hyX6_kindOn (by decide) (by decide) (Nat.le_of_ble_eq_true rfl) dX10_ask_35 (fun v_35 m_35 h_35 => ?_)
    obtain ⟨e1, e2⟩ := h_35; have e2 := e2.symm; subst e2
    have e3 : v_35 = 0 := by rw [e1, jup_o (show ¬ 92 + 2 * p = 63 by omega)]; exact hk
    clear e1; subst e3
    refine j_istore X dX10_ask_38 (by decide) ?_
    refine j_iload_n X dX10_ask_40 rfl ?_
    refine j_if_ne X 57 dX10_ask_41 (by decide) (fun c_41 => ?_) (fun c_41 => absurd c_41 (by decide))
    refine j_aload_n X dX10_ask_57 rfl ?_
    refine j_getR X 10 10 (by decide) (by decide) rfl u248 (o0 np) (k0 np) _ (p0_10 np) dX10_ask_58 ?_
    refine j_aload_n X dX10_ask_61 rfl ?_
    refine j_iload X dX10_ask_62 rfl ?_
    refine s_callVi X hR (c_markOf0 np _ p 0 hp2 (by rw [jup_o (by omega)]; exact hN) rfl (by omega)) rfl 0 (by decide) (o63 np) (k63 np) rfl u910 u907 u908 u909 u11 hyX0_markOf (by decide) (by decide) (Nat.le_of_ble_eq_true rfl) dX10_ask_64 (fun v_64 m_64 h_64 => ?_)
    obtain ⟨e1, e2⟩ := h_64; have e1 := e1.symm; have e2 := e2.symm; subst e1; subst e2
    refine s_iret X hE hr dX10_ask_67 rfl ?_
    first | exact ⟨by simp only [jup_o (show ¬ 92 + 2 * p = 63 by omega), jup_o (show ¬ 93 + 2 * p = 63 by omega)], rfl⟩ | exact ⟨rfl, rfl⟩
  · exfalso
    clear hE hr hR X
    (try simp only [lg_cmp_lt, lg_cmp_gt, lg_cmp_le, lg_cmp_ge] at *); (try simp (disch := omega) only [Int64.le_iff_toInt_le, Int64.lt_iff_toInt_lt, Int32.le_iff_toInt_le, Int32.lt_iff_toInt_lt, fa_eq, fa_lit, fa_litL, nI_toInt, pk_lT, Int32.toInt_toInt64, jadd64, jin, jnoneT] at *); omega
set_option maxRecDepth 4000 in
set_option maxHeartbeats 1000000 in
theorem c_ask1_0 (np : Nat) (mem : jMem) (p : Nat) (hn : np ≤ 12) (hp : mem 0 12 = nI np) (hp2 : p < np) (hN : mem (92 + 2 * p) 0 = nI p) (hk : jKindC (mem (92 + 2 * p) 7) (mem 0 13) (mem (92 + 2 * p) 3) = 1) : jPi yX10_ask cX10_ask 5 .int 7 [.ref 0, .int (nI p), .int 0] np mem (fun v c => v = ((mem (92 + 2 * p) 5 - mem (92 + 2 * p) 4 + 1) + mem (93 + 2 * p) 0) ∧ c = (jBegC (jBegC (jup mem 63 1 0) 0 11) 1 10)) := by
  refine jPi.of (own := RX10) rfl rfl (Nat.le_of_ble_eq_true rfl) (fun G X hR hr hE => ?_)
  refine j_aload_n X dX10_ask_0 rfl ?_
  refine j_iload_n X dX10_ask_1 rfl ?_
  refine s_callVa X hR (c_paperAt np _ p hn hp hp2) rfl 10 (by decide) (o0 np) (k0 np) rfl u435 u432 u434 qp2 u1 hyX10_paperAt (by decide) (by decide) (Nat.le_of_ble_eq_true rfl) dX10_ask_2 (fun v_2 m_2 h_2 => ?_)
  obtain ⟨e1, e2⟩ := h_2; have e1 := e1.symm; have e2 := e2.symm; subst e1; subst e2
  refine j_astore_n X dX10_ask_5 (by decide) ?_
  refine j_aload_n X dX10_ask_6 rfl ?_
  refine j_ifnullR X 19 dX10_ask_7 (by decide) ?_
  refine j_iload_n X dX10_ask_10 rfl ?_
  refine j_iconst X dX10_ask_11 0 (by decide) ?_
  refine j_iconst X dX10_ask_12 1 (by decide) ?_
  refine s_callSi X hR (c_withinI np _ _ _ _ (0) (1) rfl rfl) rfl u293 u294 u292 u1 hyX10_within (by decide) (by decide) (Nat.le_of_ble_eq_true rfl) dX10_ask_13 (fun v_13 m_13 h_13 => ?_)
  obtain ⟨e1, e2⟩ := h_13; have e1 := e1.symm; have e2 := e2.symm; subst e1; subst e2
  refine j_ifb_ne X 22 dX10_ask_16 (by decide) (fun c_16 => ?_) (fun c_16 => ?_)
  · refine j_aload_n X dX10_ask_22 rfl ?_
    refine j_getR X 10 10 (by decide) (by decide) rfl u248 (o0 np) (k0 np) _ (p0_10 np) dX10_ask_23 ?_
    refine j_iconst X dX10_ask_26 0 (by decide) ?_
    refine j_putI X 0 1 (by decide) (by decide) rfl rfl rfl rfl u232 (o63 np) (k63 np) dX10_ask_27 ?_
    refine j_aload_n X dX10_ask_30 rfl ?_
    refine j_aload_n X dX10_ask_31 rfl ?_
    refine j_getF X 10 13 (by decide) (by decide) rfl u251 (o0 np) (k0 np) (mem 0) rfl dX10_ask_32 ?_
    refine s_callVi X hR (c_kindOn np _ p _ hp2) rfl 6 (by decide) (oP np (by omega)) (kP np _) rfl u861 u858 u859 u860 u14 hyX6_kindOn (by decide) (by decide) (Nat.le_of_ble_eq_true rfl) dX10_ask_35 (fun v_35 m_35 h_35 => ?_)
    obtain ⟨e1, e2⟩ := h_35; have e2 := e2.symm; subst e2
    have e3 : v_35 = 1 := by rw [e1, jup_o (show ¬ 92 + 2 * p = 63 by omega)]; exact hk
    clear e1; subst e3
    refine j_istore X dX10_ask_38 (by decide) ?_
    refine j_iload_n X dX10_ask_40 rfl ?_
    refine j_if_ne X 57 dX10_ask_41 (by decide) (fun c_41 => absurd c_41 (by decide)) (fun c_41 => ?_)
    refine j_aload_n X dX10_ask_44 rfl ?_
    refine j_getR X 10 10 (by decide) (by decide) rfl u248 (o0 np) (k0 np) _ (p0_10 np) dX10_ask_45 ?_
    refine j_aload_n X dX10_ask_48 rfl ?_
    refine j_iload X dX10_ask_49 rfl ?_
    refine s_callVi X hR (c_sizeOf1 np _ p 0 hp2 (by rw [jup_o (by omega)]; exact hN) rfl (by omega)) rfl 0 (by decide) (o63 np) (k63 np) rfl u873 u870 u871 u872 u11 hyX0_sizeOf (by decide) (by decide) (Nat.le_of_ble_eq_true rfl) dX10_ask_51 (fun v_51 m_51 h_51 => ?_)
    obtain ⟨e1, e2⟩ := h_51; have e1 := e1.symm; have e2 := e2.symm; subst e1; subst e2
    refine j_goto X 67 dX10_ask_54 (by decide) ?_
    refine s_iret X hE hr dX10_ask_67 rfl ?_
    first | exact ⟨by simp only [jup_o (show ¬ 92 + 2 * p = 63 by omega), jup_o (show ¬ 93 + 2 * p = 63 by omega)], rfl⟩ | exact ⟨rfl, rfl⟩
  · exfalso
    clear hE hr hR X
    (try simp only [lg_cmp_lt, lg_cmp_gt, lg_cmp_le, lg_cmp_ge] at *); (try simp (disch := omega) only [Int64.le_iff_toInt_le, Int64.lt_iff_toInt_lt, Int32.le_iff_toInt_le, Int32.lt_iff_toInt_lt, fa_eq, fa_lit, fa_litL, nI_toInt, pk_lT, Int32.toInt_toInt64, jadd64, jin, jnoneT] at *); omega
set_option maxRecDepth 4000 in
set_option maxHeartbeats 1000000 in
theorem c_ask1_1 (np : Nat) (mem : jMem) (p : Nat) (hn : np ≤ 12) (hp : mem 0 12 = nI np) (hp2 : p < np) (hN : mem (92 + 2 * p) 0 = nI p) (hk : jKindC (mem (92 + 2 * p) 7) (mem 0 13) (mem (92 + 2 * p) 3) = 1) : jPi yX10_ask cX10_ask 5 .int 7 [.ref 0, .int (nI p), .int 1] np mem (fun v c => v = nI p ∧ c = (jBegC (jup mem 63 1 0) 0 20)) := by
  refine jPi.of (own := RX10) rfl rfl (Nat.le_of_ble_eq_true rfl) (fun G X hR hr hE => ?_)
  refine j_aload_n X dX10_ask_0 rfl ?_
  refine j_iload_n X dX10_ask_1 rfl ?_
  refine s_callVa X hR (c_paperAt np _ p hn hp hp2) rfl 10 (by decide) (o0 np) (k0 np) rfl u435 u432 u434 qp2 u1 hyX10_paperAt (by decide) (by decide) (Nat.le_of_ble_eq_true rfl) dX10_ask_2 (fun v_2 m_2 h_2 => ?_)
  obtain ⟨e1, e2⟩ := h_2; have e1 := e1.symm; have e2 := e2.symm; subst e1; subst e2
  refine j_astore_n X dX10_ask_5 (by decide) ?_
  refine j_aload_n X dX10_ask_6 rfl ?_
  refine j_ifnullR X 19 dX10_ask_7 (by decide) ?_
  refine j_iload_n X dX10_ask_10 rfl ?_
  refine j_iconst X dX10_ask_11 0 (by decide) ?_
  refine j_iconst X dX10_ask_12 1 (by decide) ?_
  refine s_callSi X hR (c_withinI np _ _ _ _ (0) (1) rfl rfl) rfl u293 u294 u292 u1 hyX10_within (by decide) (by decide) (Nat.le_of_ble_eq_true rfl) dX10_ask_13 (fun v_13 m_13 h_13 => ?_)
  obtain ⟨e1, e2⟩ := h_13; have e1 := e1.symm; have e2 := e2.symm; subst e1; subst e2
  refine j_ifb_ne X 22 dX10_ask_16 (by decide) (fun c_16 => ?_) (fun c_16 => ?_)
  · refine j_aload_n X dX10_ask_22 rfl ?_
    refine j_getR X 10 10 (by decide) (by decide) rfl u248 (o0 np) (k0 np) _ (p0_10 np) dX10_ask_23 ?_
    refine j_iconst X dX10_ask_26 0 (by decide) ?_
    refine j_putI X 0 1 (by decide) (by decide) rfl rfl rfl rfl u232 (o63 np) (k63 np) dX10_ask_27 ?_
    refine j_aload_n X dX10_ask_30 rfl ?_
    refine j_aload_n X dX10_ask_31 rfl ?_
    refine j_getF X 10 13 (by decide) (by decide) rfl u251 (o0 np) (k0 np) (mem 0) rfl dX10_ask_32 ?_
    refine s_callVi X hR (c_kindOn np _ p _ hp2) rfl 6 (by decide) (oP np (by omega)) (kP np _) rfl u861 u858 u859 u860 u14 hyX6_kindOn (by decide) (by decide) (Nat.le_of_ble_eq_true rfl) dX10_ask_35 (fun v_35 m_35 h_35 => ?_)
    obtain ⟨e1, e2⟩ := h_35; have e2 := e2.symm; subst e2
    have e3 : v_35 = 1 := by rw [e1, jup_o (show ¬ 92 + 2 * p = 63 by omega)]; exact hk
    clear e1; subst e3
    refine j_istore X dX10_ask_38 (by decide) ?_
    refine j_iload_n X dX10_ask_40 rfl ?_
    refine j_if_ne X 57 dX10_ask_41 (by decide) (fun c_41 => ?_) (fun c_41 => absurd c_41 (by decide))
    refine j_aload_n X dX10_ask_57 rfl ?_
    refine j_getR X 10 10 (by decide) (by decide) rfl u248 (o0 np) (k0 np) _ (p0_10 np) dX10_ask_58 ?_
    refine j_aload_n X dX10_ask_61 rfl ?_
    refine j_iload X dX10_ask_62 rfl ?_
    refine s_callVi X hR (c_markOf1 np _ p 0 hp2 (by rw [jup_o (by omega)]; exact hN) rfl (by omega)) rfl 0 (by decide) (o63 np) (k63 np) rfl u910 u907 u908 u909 u11 hyX0_markOf (by decide) (by decide) (Nat.le_of_ble_eq_true rfl) dX10_ask_64 (fun v_64 m_64 h_64 => ?_)
    obtain ⟨e1, e2⟩ := h_64; have e1 := e1.symm; have e2 := e2.symm; subst e1; subst e2
    refine s_iret X hE hr dX10_ask_67 rfl ?_
    first | exact ⟨by simp only [jup_o (show ¬ 92 + 2 * p = 63 by omega), jup_o (show ¬ 93 + 2 * p = 63 by omega)], rfl⟩ | exact ⟨rfl, rfl⟩
  · exfalso
    clear hE hr hR X
    (try simp only [lg_cmp_lt, lg_cmp_gt, lg_cmp_le, lg_cmp_ge] at *); (try simp (disch := omega) only [Int64.le_iff_toInt_le, Int64.lt_iff_toInt_lt, Int32.le_iff_toInt_le, Int32.lt_iff_toInt_lt, fa_eq, fa_lit, fa_litL, nI_toInt, pk_lT, Int32.toInt_toInt64, jadd64, jin, jnoneT] at *); omega
set_option maxRecDepth 4000 in
set_option maxHeartbeats 1000000 in
theorem c_ask2_0 (np : Nat) (mem : jMem) (p : Nat) (hn : np ≤ 12) (hp : mem 0 12 = nI np) (hp2 : p < np) (hN : mem (92 + 2 * p) 0 = nI p) (hk : jKindC (mem (92 + 2 * p) 7) (mem 0 13) (mem (92 + 2 * p) 3) = 2) : jPi yX10_ask cX10_ask 5 .int 7 [.ref 0, .int (nI p), .int 0] np mem (fun v c => v = (2 * ((mem (92 + 2 * p) 5 - mem (92 + 2 * p) 4 + 1) + mem (93 + 2 * p) 0)) ∧ c = (jBegC (jBegC (jBegC (jup mem 63 1 0) 0 12) 1 11) 2 10)) := by
  refine jPi.of (own := RX10) rfl rfl (Nat.le_of_ble_eq_true rfl) (fun G X hR hr hE => ?_)
  refine j_aload_n X dX10_ask_0 rfl ?_
  refine j_iload_n X dX10_ask_1 rfl ?_
  refine s_callVa X hR (c_paperAt np _ p hn hp hp2) rfl 10 (by decide) (o0 np) (k0 np) rfl u435 u432 u434 qp2 u1 hyX10_paperAt (by decide) (by decide) (Nat.le_of_ble_eq_true rfl) dX10_ask_2 (fun v_2 m_2 h_2 => ?_)
  obtain ⟨e1, e2⟩ := h_2; have e1 := e1.symm; have e2 := e2.symm; subst e1; subst e2
  refine j_astore_n X dX10_ask_5 (by decide) ?_
  refine j_aload_n X dX10_ask_6 rfl ?_
  refine j_ifnullR X 19 dX10_ask_7 (by decide) ?_
  refine j_iload_n X dX10_ask_10 rfl ?_
  refine j_iconst X dX10_ask_11 0 (by decide) ?_
  refine j_iconst X dX10_ask_12 1 (by decide) ?_
  refine s_callSi X hR (c_withinI np _ _ _ _ (0) (1) rfl rfl) rfl u293 u294 u292 u1 hyX10_within (by decide) (by decide) (Nat.le_of_ble_eq_true rfl) dX10_ask_13 (fun v_13 m_13 h_13 => ?_)
  obtain ⟨e1, e2⟩ := h_13; have e1 := e1.symm; have e2 := e2.symm; subst e1; subst e2
  refine j_ifb_ne X 22 dX10_ask_16 (by decide) (fun c_16 => ?_) (fun c_16 => ?_)
  · refine j_aload_n X dX10_ask_22 rfl ?_
    refine j_getR X 10 10 (by decide) (by decide) rfl u248 (o0 np) (k0 np) _ (p0_10 np) dX10_ask_23 ?_
    refine j_iconst X dX10_ask_26 0 (by decide) ?_
    refine j_putI X 0 1 (by decide) (by decide) rfl rfl rfl rfl u232 (o63 np) (k63 np) dX10_ask_27 ?_
    refine j_aload_n X dX10_ask_30 rfl ?_
    refine j_aload_n X dX10_ask_31 rfl ?_
    refine j_getF X 10 13 (by decide) (by decide) rfl u251 (o0 np) (k0 np) (mem 0) rfl dX10_ask_32 ?_
    refine s_callVi X hR (c_kindOn np _ p _ hp2) rfl 6 (by decide) (oP np (by omega)) (kP np _) rfl u861 u858 u859 u860 u14 hyX6_kindOn (by decide) (by decide) (Nat.le_of_ble_eq_true rfl) dX10_ask_35 (fun v_35 m_35 h_35 => ?_)
    obtain ⟨e1, e2⟩ := h_35; have e2 := e2.symm; subst e2
    have e3 : v_35 = 2 := by rw [e1, jup_o (show ¬ 92 + 2 * p = 63 by omega)]; exact hk
    clear e1; subst e3
    refine j_istore X dX10_ask_38 (by decide) ?_
    refine j_iload_n X dX10_ask_40 rfl ?_
    refine j_if_ne X 57 dX10_ask_41 (by decide) (fun c_41 => absurd c_41 (by decide)) (fun c_41 => ?_)
    refine j_aload_n X dX10_ask_44 rfl ?_
    refine j_getR X 10 10 (by decide) (by decide) rfl u248 (o0 np) (k0 np) _ (p0_10 np) dX10_ask_45 ?_
    refine j_aload_n X dX10_ask_48 rfl ?_
    refine j_iload X dX10_ask_49 rfl ?_
    refine s_callVi X hR (c_sizeOf2 np _ p 0 hp2 (by rw [jup_o (by omega)]; exact hN) rfl (by omega)) rfl 0 (by decide) (o63 np) (k63 np) rfl u873 u870 u871 u872 u11 hyX0_sizeOf (by decide) (by decide) (Nat.le_of_ble_eq_true rfl) dX10_ask_51 (fun v_51 m_51 h_51 => ?_)
    obtain ⟨e1, e2⟩ := h_51; have e1 := e1.symm; have e2 := e2.symm; subst e1; subst e2
    refine j_goto X 67 dX10_ask_54 (by decide) ?_
    refine s_iret X hE hr dX10_ask_67 rfl ?_
    first | exact ⟨by simp only [jup_o (show ¬ 92 + 2 * p = 63 by omega), jup_o (show ¬ 93 + 2 * p = 63 by omega)], rfl⟩ | exact ⟨rfl, rfl⟩
  · exfalso
    clear hE hr hR X
    (try simp only [lg_cmp_lt, lg_cmp_gt, lg_cmp_le, lg_cmp_ge] at *); (try simp (disch := omega) only [Int64.le_iff_toInt_le, Int64.lt_iff_toInt_lt, Int32.le_iff_toInt_le, Int32.lt_iff_toInt_lt, fa_eq, fa_lit, fa_litL, nI_toInt, pk_lT, Int32.toInt_toInt64, jadd64, jin, jnoneT] at *); omega
set_option maxRecDepth 4000 in
set_option maxHeartbeats 1000000 in
theorem c_ask2_1 (np : Nat) (mem : jMem) (p : Nat) (hn : np ≤ 12) (hp : mem 0 12 = nI np) (hp2 : p < np) (hN : mem (92 + 2 * p) 0 = nI p) (hk : jKindC (mem (92 + 2 * p) 7) (mem 0 13) (mem (92 + 2 * p) 3) = 2) : jPi yX10_ask cX10_ask 5 .int 7 [.ref 0, .int (nI p), .int 1] np mem (fun v c => v = (nI p + (2 * ((mem (92 + 2 * p) 5 - mem (92 + 2 * p) 4 + 1) + mem (93 + 2 * p) 0))) ∧ c = (jBegC (jBegC (jBegC (jBegC (jBegC (jup mem 63 1 0) 0 21) 1 20) 2 12) 3 11) 4 10)) := by
  refine jPi.of (own := RX10) rfl rfl (Nat.le_of_ble_eq_true rfl) (fun G X hR hr hE => ?_)
  refine j_aload_n X dX10_ask_0 rfl ?_
  refine j_iload_n X dX10_ask_1 rfl ?_
  refine s_callVa X hR (c_paperAt np _ p hn hp hp2) rfl 10 (by decide) (o0 np) (k0 np) rfl u435 u432 u434 qp2 u1 hyX10_paperAt (by decide) (by decide) (Nat.le_of_ble_eq_true rfl) dX10_ask_2 (fun v_2 m_2 h_2 => ?_)
  obtain ⟨e1, e2⟩ := h_2; have e1 := e1.symm; have e2 := e2.symm; subst e1; subst e2
  refine j_astore_n X dX10_ask_5 (by decide) ?_
  refine j_aload_n X dX10_ask_6 rfl ?_
  refine j_ifnullR X 19 dX10_ask_7 (by decide) ?_
  refine j_iload_n X dX10_ask_10 rfl ?_
  refine j_iconst X dX10_ask_11 0 (by decide) ?_
  refine j_iconst X dX10_ask_12 1 (by decide) ?_
  refine s_callSi X hR (c_withinI np _ _ _ _ (0) (1) rfl rfl) rfl u293 u294 u292 u1 hyX10_within (by decide) (by decide) (Nat.le_of_ble_eq_true rfl) dX10_ask_13 (fun v_13 m_13 h_13 => ?_)
  obtain ⟨e1, e2⟩ := h_13; have e1 := e1.symm; have e2 := e2.symm; subst e1; subst e2
  refine j_ifb_ne X 22 dX10_ask_16 (by decide) (fun c_16 => ?_) (fun c_16 => ?_)
  · refine j_aload_n X dX10_ask_22 rfl ?_
    refine j_getR X 10 10 (by decide) (by decide) rfl u248 (o0 np) (k0 np) _ (p0_10 np) dX10_ask_23 ?_
    refine j_iconst X dX10_ask_26 0 (by decide) ?_
    refine j_putI X 0 1 (by decide) (by decide) rfl rfl rfl rfl u232 (o63 np) (k63 np) dX10_ask_27 ?_
    refine j_aload_n X dX10_ask_30 rfl ?_
    refine j_aload_n X dX10_ask_31 rfl ?_
    refine j_getF X 10 13 (by decide) (by decide) rfl u251 (o0 np) (k0 np) (mem 0) rfl dX10_ask_32 ?_
    refine s_callVi X hR (c_kindOn np _ p _ hp2) rfl 6 (by decide) (oP np (by omega)) (kP np _) rfl u861 u858 u859 u860 u14 hyX6_kindOn (by decide) (by decide) (Nat.le_of_ble_eq_true rfl) dX10_ask_35 (fun v_35 m_35 h_35 => ?_)
    obtain ⟨e1, e2⟩ := h_35; have e2 := e2.symm; subst e2
    have e3 : v_35 = 2 := by rw [e1, jup_o (show ¬ 92 + 2 * p = 63 by omega)]; exact hk
    clear e1; subst e3
    refine j_istore X dX10_ask_38 (by decide) ?_
    refine j_iload_n X dX10_ask_40 rfl ?_
    refine j_if_ne X 57 dX10_ask_41 (by decide) (fun c_41 => ?_) (fun c_41 => absurd c_41 (by decide))
    refine j_aload_n X dX10_ask_57 rfl ?_
    refine j_getR X 10 10 (by decide) (by decide) rfl u248 (o0 np) (k0 np) _ (p0_10 np) dX10_ask_58 ?_
    refine j_aload_n X dX10_ask_61 rfl ?_
    refine j_iload X dX10_ask_62 rfl ?_
    refine s_callVi X hR (c_markOf2 np _ p 0 hp2 (by rw [jup_o (by omega)]; exact hN) rfl (by omega)) rfl 0 (by decide) (o63 np) (k63 np) rfl u910 u907 u908 u909 u11 hyX0_markOf (by decide) (by decide) (Nat.le_of_ble_eq_true rfl) dX10_ask_64 (fun v_64 m_64 h_64 => ?_)
    obtain ⟨e1, e2⟩ := h_64; have e1 := e1.symm; have e2 := e2.symm; subst e1; subst e2
    refine s_iret X hE hr dX10_ask_67 rfl ?_
    first | exact ⟨by simp only [jup_o (show ¬ 92 + 2 * p = 63 by omega), jup_o (show ¬ 93 + 2 * p = 63 by omega)], rfl⟩ | exact ⟨rfl, rfl⟩
  · exfalso
    clear hE hr hR X
    (try simp only [lg_cmp_lt, lg_cmp_gt, lg_cmp_le, lg_cmp_ge] at *); (try simp (disch := omega) only [Int64.le_iff_toInt_le, Int64.lt_iff_toInt_lt, Int32.le_iff_toInt_le, Int32.lt_iff_toInt_lt, fa_eq, fa_lit, fa_litL, nI_toInt, pk_lT, Int32.toInt_toInt64, jadd64, jin, jnoneT] at *); omega
set_option maxRecDepth 4000 in
set_option maxHeartbeats 1000000 in
theorem c_ask3_0 (np : Nat) (mem : jMem) (p : Nat) (hn : np ≤ 12) (hp : mem 0 12 = nI np) (hp2 : p < np) (hN : mem (92 + 2 * p) 0 = nI p) (hk : jKindC (mem (92 + 2 * p) 7) (mem 0 13) (mem (92 + 2 * p) 3) = 3) : jPi yX10_ask cX10_ask 5 .int 7 [.ref 0, .int (nI p), .int 0] np mem (fun v c => v = ((mem (92 + 2 * p) 5 - mem (92 + 2 * p) 4 + 1) + (nI p + jmx (jmx (mem (93 + 2 * p) 0) (mem (93 + 2 * p) 1)) (jmx (mem (93 + 2 * p) 2) (mem (93 + 2 * p) 3)))) ∧ c = (jBegC (jBegC (jBegC (jBegC (jup mem 63 1 0) 0 13) 1 10) 2 22) 3 20)) := by
  refine jPi.of (own := RX10) rfl rfl (Nat.le_of_ble_eq_true rfl) (fun G X hR hr hE => ?_)
  refine j_aload_n X dX10_ask_0 rfl ?_
  refine j_iload_n X dX10_ask_1 rfl ?_
  refine s_callVa X hR (c_paperAt np _ p hn hp hp2) rfl 10 (by decide) (o0 np) (k0 np) rfl u435 u432 u434 qp2 u1 hyX10_paperAt (by decide) (by decide) (Nat.le_of_ble_eq_true rfl) dX10_ask_2 (fun v_2 m_2 h_2 => ?_)
  obtain ⟨e1, e2⟩ := h_2; have e1 := e1.symm; have e2 := e2.symm; subst e1; subst e2
  refine j_astore_n X dX10_ask_5 (by decide) ?_
  refine j_aload_n X dX10_ask_6 rfl ?_
  refine j_ifnullR X 19 dX10_ask_7 (by decide) ?_
  refine j_iload_n X dX10_ask_10 rfl ?_
  refine j_iconst X dX10_ask_11 0 (by decide) ?_
  refine j_iconst X dX10_ask_12 1 (by decide) ?_
  refine s_callSi X hR (c_withinI np _ _ _ _ (0) (1) rfl rfl) rfl u293 u294 u292 u1 hyX10_within (by decide) (by decide) (Nat.le_of_ble_eq_true rfl) dX10_ask_13 (fun v_13 m_13 h_13 => ?_)
  obtain ⟨e1, e2⟩ := h_13; have e1 := e1.symm; have e2 := e2.symm; subst e1; subst e2
  refine j_ifb_ne X 22 dX10_ask_16 (by decide) (fun c_16 => ?_) (fun c_16 => ?_)
  · refine j_aload_n X dX10_ask_22 rfl ?_
    refine j_getR X 10 10 (by decide) (by decide) rfl u248 (o0 np) (k0 np) _ (p0_10 np) dX10_ask_23 ?_
    refine j_iconst X dX10_ask_26 0 (by decide) ?_
    refine j_putI X 0 1 (by decide) (by decide) rfl rfl rfl rfl u232 (o63 np) (k63 np) dX10_ask_27 ?_
    refine j_aload_n X dX10_ask_30 rfl ?_
    refine j_aload_n X dX10_ask_31 rfl ?_
    refine j_getF X 10 13 (by decide) (by decide) rfl u251 (o0 np) (k0 np) (mem 0) rfl dX10_ask_32 ?_
    refine s_callVi X hR (c_kindOn np _ p _ hp2) rfl 6 (by decide) (oP np (by omega)) (kP np _) rfl u861 u858 u859 u860 u14 hyX6_kindOn (by decide) (by decide) (Nat.le_of_ble_eq_true rfl) dX10_ask_35 (fun v_35 m_35 h_35 => ?_)
    obtain ⟨e1, e2⟩ := h_35; have e2 := e2.symm; subst e2
    have e3 : v_35 = 3 := by rw [e1, jup_o (show ¬ 92 + 2 * p = 63 by omega)]; exact hk
    clear e1; subst e3
    refine j_istore X dX10_ask_38 (by decide) ?_
    refine j_iload_n X dX10_ask_40 rfl ?_
    refine j_if_ne X 57 dX10_ask_41 (by decide) (fun c_41 => absurd c_41 (by decide)) (fun c_41 => ?_)
    refine j_aload_n X dX10_ask_44 rfl ?_
    refine j_getR X 10 10 (by decide) (by decide) rfl u248 (o0 np) (k0 np) _ (p0_10 np) dX10_ask_45 ?_
    refine j_aload_n X dX10_ask_48 rfl ?_
    refine j_iload X dX10_ask_49 rfl ?_
    refine s_callVi X hR (c_sizeOf3 np _ p 0 hp2 (by rw [jup_o (by omega)]; exact hN) rfl (by omega)) rfl 0 (by decide) (o63 np) (k63 np) rfl u873 u870 u871 u872 u11 hyX0_sizeOf (by decide) (by decide) (Nat.le_of_ble_eq_true rfl) dX10_ask_51 (fun v_51 m_51 h_51 => ?_)
    obtain ⟨e1, e2⟩ := h_51; have e1 := e1.symm; have e2 := e2.symm; subst e1; subst e2
    refine j_goto X 67 dX10_ask_54 (by decide) ?_
    refine s_iret X hE hr dX10_ask_67 rfl ?_
    first | exact ⟨by simp only [jup_o (show ¬ 92 + 2 * p = 63 by omega), jup_o (show ¬ 93 + 2 * p = 63 by omega)], rfl⟩ | exact ⟨rfl, rfl⟩
  · exfalso
    clear hE hr hR X
    (try simp only [lg_cmp_lt, lg_cmp_gt, lg_cmp_le, lg_cmp_ge] at *); (try simp (disch := omega) only [Int64.le_iff_toInt_le, Int64.lt_iff_toInt_lt, Int32.le_iff_toInt_le, Int32.lt_iff_toInt_lt, fa_eq, fa_lit, fa_litL, nI_toInt, pk_lT, Int32.toInt_toInt64, jadd64, jin, jnoneT] at *); omega
set_option maxRecDepth 4000 in
set_option maxHeartbeats 1000000 in
theorem c_ask3_1 (np : Nat) (mem : jMem) (p : Nat) (hn : np ≤ 12) (hp : mem 0 12 = nI np) (hp2 : p < np) (hN : mem (92 + 2 * p) 0 = nI p) (hk : jKindC (mem (92 + 2 * p) 7) (mem 0 13) (mem (92 + 2 * p) 3) = 3) : jPi yX10_ask cX10_ask 5 .int 7 [.ref 0, .int (nI p), .int 1] np mem (fun v c => v = (nI p + jmx (jmx (mem (93 + 2 * p) 0) (mem (93 + 2 * p) 1)) (jmx (mem (93 + 2 * p) 2) (mem (93 + 2 * p) 3))) ∧ c = (jBegC (jBegC (jup mem 63 1 0) 0 22) 1 20)) := by
  refine jPi.of (own := RX10) rfl rfl (Nat.le_of_ble_eq_true rfl) (fun G X hR hr hE => ?_)
  refine j_aload_n X dX10_ask_0 rfl ?_
  refine j_iload_n X dX10_ask_1 rfl ?_
  refine s_callVa X hR (c_paperAt np _ p hn hp hp2) rfl 10 (by decide) (o0 np) (k0 np) rfl u435 u432 u434 qp2 u1 hyX10_paperAt (by decide) (by decide) (Nat.le_of_ble_eq_true rfl) dX10_ask_2 (fun v_2 m_2 h_2 => ?_)
  obtain ⟨e1, e2⟩ := h_2; have e1 := e1.symm; have e2 := e2.symm; subst e1; subst e2
  refine j_astore_n X dX10_ask_5 (by decide) ?_
  refine j_aload_n X dX10_ask_6 rfl ?_
  refine j_ifnullR X 19 dX10_ask_7 (by decide) ?_
  refine j_iload_n X dX10_ask_10 rfl ?_
  refine j_iconst X dX10_ask_11 0 (by decide) ?_
  refine j_iconst X dX10_ask_12 1 (by decide) ?_
  refine s_callSi X hR (c_withinI np _ _ _ _ (0) (1) rfl rfl) rfl u293 u294 u292 u1 hyX10_within (by decide) (by decide) (Nat.le_of_ble_eq_true rfl) dX10_ask_13 (fun v_13 m_13 h_13 => ?_)
  obtain ⟨e1, e2⟩ := h_13; have e1 := e1.symm; have e2 := e2.symm; subst e1; subst e2
  refine j_ifb_ne X 22 dX10_ask_16 (by decide) (fun c_16 => ?_) (fun c_16 => ?_)
  · refine j_aload_n X dX10_ask_22 rfl ?_
    refine j_getR X 10 10 (by decide) (by decide) rfl u248 (o0 np) (k0 np) _ (p0_10 np) dX10_ask_23 ?_
    refine j_iconst X dX10_ask_26 0 (by decide) ?_
    refine j_putI X 0 1 (by decide) (by decide) rfl rfl rfl rfl u232 (o63 np) (k63 np) dX10_ask_27 ?_
    refine j_aload_n X dX10_ask_30 rfl ?_
    refine j_aload_n X dX10_ask_31 rfl ?_
    refine j_getF X 10 13 (by decide) (by decide) rfl u251 (o0 np) (k0 np) (mem 0) rfl dX10_ask_32 ?_
    refine s_callVi X hR (c_kindOn np _ p _ hp2) rfl 6 (by decide) (oP np (by omega)) (kP np _) rfl u861 u858 u859 u860 u14 hyX6_kindOn (by decide) (by decide) (Nat.le_of_ble_eq_true rfl) dX10_ask_35 (fun v_35 m_35 h_35 => ?_)
    obtain ⟨e1, e2⟩ := h_35; have e2 := e2.symm; subst e2
    have e3 : v_35 = 3 := by rw [e1, jup_o (show ¬ 92 + 2 * p = 63 by omega)]; exact hk
    clear e1; subst e3
    refine j_istore X dX10_ask_38 (by decide) ?_
    refine j_iload_n X dX10_ask_40 rfl ?_
    refine j_if_ne X 57 dX10_ask_41 (by decide) (fun c_41 => ?_) (fun c_41 => absurd c_41 (by decide))
    refine j_aload_n X dX10_ask_57 rfl ?_
    refine j_getR X 10 10 (by decide) (by decide) rfl u248 (o0 np) (k0 np) _ (p0_10 np) dX10_ask_58 ?_
    refine j_aload_n X dX10_ask_61 rfl ?_
    refine j_iload X dX10_ask_62 rfl ?_
    refine s_callVi X hR (c_markOf3 np _ p 0 hp2 (by rw [jup_o (by omega)]; exact hN) rfl (by omega)) rfl 0 (by decide) (o63 np) (k63 np) rfl u910 u907 u908 u909 u11 hyX0_markOf (by decide) (by decide) (Nat.le_of_ble_eq_true rfl) dX10_ask_64 (fun v_64 m_64 h_64 => ?_)
    obtain ⟨e1, e2⟩ := h_64; have e1 := e1.symm; have e2 := e2.symm; subst e1; subst e2
    refine s_iret X hE hr dX10_ask_67 rfl ?_
    first | exact ⟨by simp only [jup_o (show ¬ 92 + 2 * p = 63 by omega), jup_o (show ¬ 93 + 2 * p = 63 by omega)], rfl⟩ | exact ⟨rfl, rfl⟩
  · exfalso
    clear hE hr hR X
    (try simp only [lg_cmp_lt, lg_cmp_gt, lg_cmp_le, lg_cmp_ge] at *); (try simp (disch := omega) only [Int64.le_iff_toInt_le, Int64.lt_iff_toInt_lt, Int32.le_iff_toInt_le, Int32.lt_iff_toInt_lt, fa_eq, fa_lit, fa_litL, nI_toInt, pk_lT, Int32.toInt_toInt64, jadd64, jin, jnoneT] at *); omega
set_option maxRecDepth 4000 in
set_option maxHeartbeats 1000000 in
theorem c_ask4_0 (np : Nat) (mem : jMem) (p : Nat) (hn : np ≤ 12) (hp : mem 0 12 = nI np) (hp2 : p < np) (hN : mem (92 + 2 * p) 0 = nI p) (hk : jKindC (mem (92 + 2 * p) 7) (mem 0 13) (mem (92 + 2 * p) 3) = 4) : jPi yX10_ask cX10_ask 5 .int 7 [.ref 0, .int (nI p), .int 0] np mem (fun v c => v = (mem (92 + 2 * p) 5 - mem (92 + 2 * p) 4 + 1) ∧ c = (jBegC (jup mem 63 1 0) 0 10)) := by
  refine jPi.of (own := RX10) rfl rfl (Nat.le_of_ble_eq_true rfl) (fun G X hR hr hE => ?_)
  refine j_aload_n X dX10_ask_0 rfl ?_
  refine j_iload_n X dX10_ask_1 rfl ?_
  refine s_callVa X hR (c_paperAt np _ p hn hp hp2) rfl 10 (by decide) (o0 np) (k0 np) rfl u435 u432 u434 qp2 u1 hyX10_paperAt (by decide) (by decide) (Nat.le_of_ble_eq_true rfl) dX10_ask_2 (fun v_2 m_2 h_2 => ?_)
  obtain ⟨e1, e2⟩ := h_2; have e1 := e1.symm; have e2 := e2.symm; subst e1; subst e2
  refine j_astore_n X dX10_ask_5 (by decide) ?_
  refine j_aload_n X dX10_ask_6 rfl ?_
  refine j_ifnullR X 19 dX10_ask_7 (by decide) ?_
  refine j_iload_n X dX10_ask_10 rfl ?_
  refine j_iconst X dX10_ask_11 0 (by decide) ?_
  refine j_iconst X dX10_ask_12 1 (by decide) ?_
  refine s_callSi X hR (c_withinI np _ _ _ _ (0) (1) rfl rfl) rfl u293 u294 u292 u1 hyX10_within (by decide) (by decide) (Nat.le_of_ble_eq_true rfl) dX10_ask_13 (fun v_13 m_13 h_13 => ?_)
  obtain ⟨e1, e2⟩ := h_13; have e1 := e1.symm; have e2 := e2.symm; subst e1; subst e2
  refine j_ifb_ne X 22 dX10_ask_16 (by decide) (fun c_16 => ?_) (fun c_16 => ?_)
  · refine j_aload_n X dX10_ask_22 rfl ?_
    refine j_getR X 10 10 (by decide) (by decide) rfl u248 (o0 np) (k0 np) _ (p0_10 np) dX10_ask_23 ?_
    refine j_iconst X dX10_ask_26 0 (by decide) ?_
    refine j_putI X 0 1 (by decide) (by decide) rfl rfl rfl rfl u232 (o63 np) (k63 np) dX10_ask_27 ?_
    refine j_aload_n X dX10_ask_30 rfl ?_
    refine j_aload_n X dX10_ask_31 rfl ?_
    refine j_getF X 10 13 (by decide) (by decide) rfl u251 (o0 np) (k0 np) (mem 0) rfl dX10_ask_32 ?_
    refine s_callVi X hR (c_kindOn np _ p _ hp2) rfl 6 (by decide) (oP np (by omega)) (kP np _) rfl u861 u858 u859 u860 u14 hyX6_kindOn (by decide) (by decide) (Nat.le_of_ble_eq_true rfl) dX10_ask_35 (fun v_35 m_35 h_35 => ?_)
    obtain ⟨e1, e2⟩ := h_35; have e2 := e2.symm; subst e2
    have e3 : v_35 = 4 := by rw [e1, jup_o (show ¬ 92 + 2 * p = 63 by omega)]; exact hk
    clear e1; subst e3
    refine j_istore X dX10_ask_38 (by decide) ?_
    refine j_iload_n X dX10_ask_40 rfl ?_
    refine j_if_ne X 57 dX10_ask_41 (by decide) (fun c_41 => absurd c_41 (by decide)) (fun c_41 => ?_)
    refine j_aload_n X dX10_ask_44 rfl ?_
    refine j_getR X 10 10 (by decide) (by decide) rfl u248 (o0 np) (k0 np) _ (p0_10 np) dX10_ask_45 ?_
    refine j_aload_n X dX10_ask_48 rfl ?_
    refine j_iload X dX10_ask_49 rfl ?_
    refine s_callVi X hR (c_sizeOf4 np _ p 0 hp2 (by rw [jup_o (by omega)]; exact hN) rfl (by omega)) rfl 0 (by decide) (o63 np) (k63 np) rfl u873 u870 u871 u872 u11 hyX0_sizeOf (by decide) (by decide) (Nat.le_of_ble_eq_true rfl) dX10_ask_51 (fun v_51 m_51 h_51 => ?_)
    obtain ⟨e1, e2⟩ := h_51; have e1 := e1.symm; have e2 := e2.symm; subst e1; subst e2
    refine j_goto X 67 dX10_ask_54 (by decide) ?_
    refine s_iret X hE hr dX10_ask_67 rfl ?_
    first | exact ⟨by simp only [jup_o (show ¬ 92 + 2 * p = 63 by omega), jup_o (show ¬ 93 + 2 * p = 63 by omega)], rfl⟩ | exact ⟨rfl, rfl⟩
  · exfalso
    clear hE hr hR X
    (try simp only [lg_cmp_lt, lg_cmp_gt, lg_cmp_le, lg_cmp_ge] at *); (try simp (disch := omega) only [Int64.le_iff_toInt_le, Int64.lt_iff_toInt_lt, Int32.le_iff_toInt_le, Int32.lt_iff_toInt_lt, fa_eq, fa_lit, fa_litL, nI_toInt, pk_lT, Int32.toInt_toInt64, jadd64, jin, jnoneT] at *); omega
set_option maxRecDepth 4000 in
set_option maxHeartbeats 1000000 in
theorem c_ask4_1 (np : Nat) (mem : jMem) (p : Nat) (hn : np ≤ 12) (hp : mem 0 12 = nI np) (hp2 : p < np) (hN : mem (92 + 2 * p) 0 = nI p) (hk : jKindC (mem (92 + 2 * p) 7) (mem 0 13) (mem (92 + 2 * p) 3) = 4) : jPi yX10_ask cX10_ask 5 .int 7 [.ref 0, .int (nI p), .int 1] np mem (fun v c => v = (nI p + 1000) ∧ c = (jBegC (jBegC (jup mem 63 1 0) 0 23) 1 20)) := by
  refine jPi.of (own := RX10) rfl rfl (Nat.le_of_ble_eq_true rfl) (fun G X hR hr hE => ?_)
  refine j_aload_n X dX10_ask_0 rfl ?_
  refine j_iload_n X dX10_ask_1 rfl ?_
  refine s_callVa X hR (c_paperAt np _ p hn hp hp2) rfl 10 (by decide) (o0 np) (k0 np) rfl u435 u432 u434 qp2 u1 hyX10_paperAt (by decide) (by decide) (Nat.le_of_ble_eq_true rfl) dX10_ask_2 (fun v_2 m_2 h_2 => ?_)
  obtain ⟨e1, e2⟩ := h_2; have e1 := e1.symm; have e2 := e2.symm; subst e1; subst e2
  refine j_astore_n X dX10_ask_5 (by decide) ?_
  refine j_aload_n X dX10_ask_6 rfl ?_
  refine j_ifnullR X 19 dX10_ask_7 (by decide) ?_
  refine j_iload_n X dX10_ask_10 rfl ?_
  refine j_iconst X dX10_ask_11 0 (by decide) ?_
  refine j_iconst X dX10_ask_12 1 (by decide) ?_
  refine s_callSi X hR (c_withinI np _ _ _ _ (0) (1) rfl rfl) rfl u293 u294 u292 u1 hyX10_within (by decide) (by decide) (Nat.le_of_ble_eq_true rfl) dX10_ask_13 (fun v_13 m_13 h_13 => ?_)
  obtain ⟨e1, e2⟩ := h_13; have e1 := e1.symm; have e2 := e2.symm; subst e1; subst e2
  refine j_ifb_ne X 22 dX10_ask_16 (by decide) (fun c_16 => ?_) (fun c_16 => ?_)
  · refine j_aload_n X dX10_ask_22 rfl ?_
    refine j_getR X 10 10 (by decide) (by decide) rfl u248 (o0 np) (k0 np) _ (p0_10 np) dX10_ask_23 ?_
    refine j_iconst X dX10_ask_26 0 (by decide) ?_
    refine j_putI X 0 1 (by decide) (by decide) rfl rfl rfl rfl u232 (o63 np) (k63 np) dX10_ask_27 ?_
    refine j_aload_n X dX10_ask_30 rfl ?_
    refine j_aload_n X dX10_ask_31 rfl ?_
    refine j_getF X 10 13 (by decide) (by decide) rfl u251 (o0 np) (k0 np) (mem 0) rfl dX10_ask_32 ?_
    refine s_callVi X hR (c_kindOn np _ p _ hp2) rfl 6 (by decide) (oP np (by omega)) (kP np _) rfl u861 u858 u859 u860 u14 hyX6_kindOn (by decide) (by decide) (Nat.le_of_ble_eq_true rfl) dX10_ask_35 (fun v_35 m_35 h_35 => ?_)
    obtain ⟨e1, e2⟩ := h_35; have e2 := e2.symm; subst e2
    have e3 : v_35 = 4 := by rw [e1, jup_o (show ¬ 92 + 2 * p = 63 by omega)]; exact hk
    clear e1; subst e3
    refine j_istore X dX10_ask_38 (by decide) ?_
    refine j_iload_n X dX10_ask_40 rfl ?_
    refine j_if_ne X 57 dX10_ask_41 (by decide) (fun c_41 => ?_) (fun c_41 => absurd c_41 (by decide))
    refine j_aload_n X dX10_ask_57 rfl ?_
    refine j_getR X 10 10 (by decide) (by decide) rfl u248 (o0 np) (k0 np) _ (p0_10 np) dX10_ask_58 ?_
    refine j_aload_n X dX10_ask_61 rfl ?_
    refine j_iload X dX10_ask_62 rfl ?_
    refine s_callVi X hR (c_markOf4 np _ p 0 hp2 (by rw [jup_o (by omega)]; exact hN) rfl (by omega)) rfl 0 (by decide) (o63 np) (k63 np) rfl u910 u907 u908 u909 u11 hyX0_markOf (by decide) (by decide) (Nat.le_of_ble_eq_true rfl) dX10_ask_64 (fun v_64 m_64 h_64 => ?_)
    obtain ⟨e1, e2⟩ := h_64; have e1 := e1.symm; have e2 := e2.symm; subst e1; subst e2
    refine s_iret X hE hr dX10_ask_67 rfl ?_
    first | exact ⟨by simp only [jup_o (show ¬ 92 + 2 * p = 63 by omega), jup_o (show ¬ 93 + 2 * p = 63 by omega)], rfl⟩ | exact ⟨rfl, rfl⟩
  · exfalso
    clear hE hr hR X
    (try simp only [lg_cmp_lt, lg_cmp_gt, lg_cmp_le, lg_cmp_ge] at *); (try simp (disch := omega) only [Int64.le_iff_toInt_le, Int64.lt_iff_toInt_lt, Int32.le_iff_toInt_le, Int32.lt_iff_toInt_lt, fa_eq, fa_lit, fa_litL, nI_toInt, pk_lT, Int32.toInt_toInt64, jadd64, jin, jnoneT] at *); omega
set_option maxRecDepth 4000 in
set_option maxHeartbeats 1000000 in
theorem c_ask5_0 (np : Nat) (mem : jMem) (p : Nat) (hn : np ≤ 12) (hp : mem 0 12 = nI np) (hp2 : p < np) (hN : mem (92 + 2 * p) 0 = nI p) (hk : jKindC (mem (92 + 2 * p) 7) (mem 0 13) (mem (92 + 2 * p) 3) = 5) : jPi yX10_ask cX10_ask 5 .int 7 [.ref 0, .int (nI p), .int 0] np mem (fun v c => v = (-(mem (92 + 2 * p) 5 - mem (92 + 2 * p) 4 + 1)) ∧ c = (jBegC (jBegC (jup mem 63 1 0) 0 14) 1 10)) := by
  refine jPi.of (own := RX10) rfl rfl (Nat.le_of_ble_eq_true rfl) (fun G X hR hr hE => ?_)
  refine j_aload_n X dX10_ask_0 rfl ?_
  refine j_iload_n X dX10_ask_1 rfl ?_
  refine s_callVa X hR (c_paperAt np _ p hn hp hp2) rfl 10 (by decide) (o0 np) (k0 np) rfl u435 u432 u434 qp2 u1 hyX10_paperAt (by decide) (by decide) (Nat.le_of_ble_eq_true rfl) dX10_ask_2 (fun v_2 m_2 h_2 => ?_)
  obtain ⟨e1, e2⟩ := h_2; have e1 := e1.symm; have e2 := e2.symm; subst e1; subst e2
  refine j_astore_n X dX10_ask_5 (by decide) ?_
  refine j_aload_n X dX10_ask_6 rfl ?_
  refine j_ifnullR X 19 dX10_ask_7 (by decide) ?_
  refine j_iload_n X dX10_ask_10 rfl ?_
  refine j_iconst X dX10_ask_11 0 (by decide) ?_
  refine j_iconst X dX10_ask_12 1 (by decide) ?_
  refine s_callSi X hR (c_withinI np _ _ _ _ (0) (1) rfl rfl) rfl u293 u294 u292 u1 hyX10_within (by decide) (by decide) (Nat.le_of_ble_eq_true rfl) dX10_ask_13 (fun v_13 m_13 h_13 => ?_)
  obtain ⟨e1, e2⟩ := h_13; have e1 := e1.symm; have e2 := e2.symm; subst e1; subst e2
  refine j_ifb_ne X 22 dX10_ask_16 (by decide) (fun c_16 => ?_) (fun c_16 => ?_)
  · refine j_aload_n X dX10_ask_22 rfl ?_
    refine j_getR X 10 10 (by decide) (by decide) rfl u248 (o0 np) (k0 np) _ (p0_10 np) dX10_ask_23 ?_
    refine j_iconst X dX10_ask_26 0 (by decide) ?_
    refine j_putI X 0 1 (by decide) (by decide) rfl rfl rfl rfl u232 (o63 np) (k63 np) dX10_ask_27 ?_
    refine j_aload_n X dX10_ask_30 rfl ?_
    refine j_aload_n X dX10_ask_31 rfl ?_
    refine j_getF X 10 13 (by decide) (by decide) rfl u251 (o0 np) (k0 np) (mem 0) rfl dX10_ask_32 ?_
    refine s_callVi X hR (c_kindOn np _ p _ hp2) rfl 6 (by decide) (oP np (by omega)) (kP np _) rfl u861 u858 u859 u860 u14 hyX6_kindOn (by decide) (by decide) (Nat.le_of_ble_eq_true rfl) dX10_ask_35 (fun v_35 m_35 h_35 => ?_)
    obtain ⟨e1, e2⟩ := h_35; have e2 := e2.symm; subst e2
    have e3 : v_35 = 5 := by rw [e1, jup_o (show ¬ 92 + 2 * p = 63 by omega)]; exact hk
    clear e1; subst e3
    refine j_istore X dX10_ask_38 (by decide) ?_
    refine j_iload_n X dX10_ask_40 rfl ?_
    refine j_if_ne X 57 dX10_ask_41 (by decide) (fun c_41 => absurd c_41 (by decide)) (fun c_41 => ?_)
    refine j_aload_n X dX10_ask_44 rfl ?_
    refine j_getR X 10 10 (by decide) (by decide) rfl u248 (o0 np) (k0 np) _ (p0_10 np) dX10_ask_45 ?_
    refine j_aload_n X dX10_ask_48 rfl ?_
    refine j_iload X dX10_ask_49 rfl ?_
    refine s_callVi X hR (c_sizeOf5 np _ p 0 hp2 (by rw [jup_o (by omega)]; exact hN) rfl (by omega)) rfl 0 (by decide) (o63 np) (k63 np) rfl u873 u870 u871 u872 u11 hyX0_sizeOf (by decide) (by decide) (Nat.le_of_ble_eq_true rfl) dX10_ask_51 (fun v_51 m_51 h_51 => ?_)
    obtain ⟨e1, e2⟩ := h_51; have e1 := e1.symm; have e2 := e2.symm; subst e1; subst e2
    refine j_goto X 67 dX10_ask_54 (by decide) ?_
    refine s_iret X hE hr dX10_ask_67 rfl ?_
    first | exact ⟨by simp only [jup_o (show ¬ 92 + 2 * p = 63 by omega), jup_o (show ¬ 93 + 2 * p = 63 by omega)], rfl⟩ | exact ⟨rfl, rfl⟩
  · exfalso
    clear hE hr hR X
    (try simp only [lg_cmp_lt, lg_cmp_gt, lg_cmp_le, lg_cmp_ge] at *); (try simp (disch := omega) only [Int64.le_iff_toInt_le, Int64.lt_iff_toInt_lt, Int32.le_iff_toInt_le, Int32.lt_iff_toInt_lt, fa_eq, fa_lit, fa_litL, nI_toInt, pk_lT, Int32.toInt_toInt64, jadd64, jin, jnoneT] at *); omega
set_option maxRecDepth 4000 in
set_option maxHeartbeats 1000000 in
theorem c_ask5_1 (np : Nat) (mem : jMem) (p : Nat) (hn : np ≤ 12) (hp : mem 0 12 = nI np) (hp2 : p < np) (hN : mem (92 + 2 * p) 0 = nI p) (hk : jKindC (mem (92 + 2 * p) 7) (mem 0 13) (mem (92 + 2 * p) 3) = 5) : jPi yX10_ask cX10_ask 5 .int 7 [.ref 0, .int (nI p), .int 1] np mem (fun v c => v = nI p ∧ c = (jBegC (jup mem 63 1 0) 0 20)) := by
  refine jPi.of (own := RX10) rfl rfl (Nat.le_of_ble_eq_true rfl) (fun G X hR hr hE => ?_)
  refine j_aload_n X dX10_ask_0 rfl ?_
  refine j_iload_n X dX10_ask_1 rfl ?_
  refine s_callVa X hR (c_paperAt np _ p hn hp hp2) rfl 10 (by decide) (o0 np) (k0 np) rfl u435 u432 u434 qp2 u1 hyX10_paperAt (by decide) (by decide) (Nat.le_of_ble_eq_true rfl) dX10_ask_2 (fun v_2 m_2 h_2 => ?_)
  obtain ⟨e1, e2⟩ := h_2; have e1 := e1.symm; have e2 := e2.symm; subst e1; subst e2
  refine j_astore_n X dX10_ask_5 (by decide) ?_
  refine j_aload_n X dX10_ask_6 rfl ?_
  refine j_ifnullR X 19 dX10_ask_7 (by decide) ?_
  refine j_iload_n X dX10_ask_10 rfl ?_
  refine j_iconst X dX10_ask_11 0 (by decide) ?_
  refine j_iconst X dX10_ask_12 1 (by decide) ?_
  refine s_callSi X hR (c_withinI np _ _ _ _ (0) (1) rfl rfl) rfl u293 u294 u292 u1 hyX10_within (by decide) (by decide) (Nat.le_of_ble_eq_true rfl) dX10_ask_13 (fun v_13 m_13 h_13 => ?_)
  obtain ⟨e1, e2⟩ := h_13; have e1 := e1.symm; have e2 := e2.symm; subst e1; subst e2
  refine j_ifb_ne X 22 dX10_ask_16 (by decide) (fun c_16 => ?_) (fun c_16 => ?_)
  · refine j_aload_n X dX10_ask_22 rfl ?_
    refine j_getR X 10 10 (by decide) (by decide) rfl u248 (o0 np) (k0 np) _ (p0_10 np) dX10_ask_23 ?_
    refine j_iconst X dX10_ask_26 0 (by decide) ?_
    refine j_putI X 0 1 (by decide) (by decide) rfl rfl rfl rfl u232 (o63 np) (k63 np) dX10_ask_27 ?_
    refine j_aload_n X dX10_ask_30 rfl ?_
    refine j_aload_n X dX10_ask_31 rfl ?_
    refine j_getF X 10 13 (by decide) (by decide) rfl u251 (o0 np) (k0 np) (mem 0) rfl dX10_ask_32 ?_
    refine s_callVi X hR (c_kindOn np _ p _ hp2) rfl 6 (by decide) (oP np (by omega)) (kP np _) rfl u861 u858 u859 u860 u14 hyX6_kindOn (by decide) (by decide) (Nat.le_of_ble_eq_true rfl) dX10_ask_35 (fun v_35 m_35 h_35 => ?_)
    obtain ⟨e1, e2⟩ := h_35; have e2 := e2.symm; subst e2
    have e3 : v_35 = 5 := by rw [e1, jup_o (show ¬ 92 + 2 * p = 63 by omega)]; exact hk
    clear e1; subst e3
    refine j_istore X dX10_ask_38 (by decide) ?_
    refine j_iload_n X dX10_ask_40 rfl ?_
    refine j_if_ne X 57 dX10_ask_41 (by decide) (fun c_41 => ?_) (fun c_41 => absurd c_41 (by decide))
    refine j_aload_n X dX10_ask_57 rfl ?_
    refine j_getR X 10 10 (by decide) (by decide) rfl u248 (o0 np) (k0 np) _ (p0_10 np) dX10_ask_58 ?_
    refine j_aload_n X dX10_ask_61 rfl ?_
    refine j_iload X dX10_ask_62 rfl ?_
    refine s_callVi X hR (c_markOf5 np _ p 0 hp2 (by rw [jup_o (by omega)]; exact hN) rfl (by omega)) rfl 0 (by decide) (o63 np) (k63 np) rfl u910 u907 u908 u909 u11 hyX0_markOf (by decide) (by decide) (Nat.le_of_ble_eq_true rfl) dX10_ask_64 (fun v_64 m_64 h_64 => ?_)
    obtain ⟨e1, e2⟩ := h_64; have e1 := e1.symm; have e2 := e2.symm; subst e1; subst e2
    refine s_iret X hE hr dX10_ask_67 rfl ?_
    first | exact ⟨by simp only [jup_o (show ¬ 92 + 2 * p = 63 by omega), jup_o (show ¬ 93 + 2 * p = 63 by omega)], rfl⟩ | exact ⟨rfl, rfl⟩
  · exfalso
    clear hE hr hR X
    (try simp only [lg_cmp_lt, lg_cmp_gt, lg_cmp_le, lg_cmp_ge] at *); (try simp (disch := omega) only [Int64.le_iff_toInt_le, Int64.lt_iff_toInt_lt, Int32.le_iff_toInt_le, Int32.lt_iff_toInt_lt, fa_eq, fa_lit, fa_litL, nI_toInt, pk_lT, Int32.toInt_toInt64, jadd64, jin, jnoneT] at *); omega
set_option maxRecDepth 4000 in
set_option maxHeartbeats 1000000 in
theorem c_trace_none (np : Nat) (mem : jMem) (i : Int32) (t : Nat) (ht : mem 63 1 = nI t) (ht2 : t ≤ 16) (h : ¬ jin i 0 ((t : Int) - 1)) : jPi yX10_trace cX10_trace 2 .int 1 [.ref 0, .int i] np mem (fun v c => v = -1000000 ∧ c = mem) := by
  refine jPi.of (own := RX10) rfl rfl (Nat.le_of_ble_eq_true rfl) (fun G X hR hr hE => ?_)
  refine j_iload_n X dX10_trace_0 rfl ?_
  refine j_if_lt X 27 dX10_trace_1 (by decide) (fun c_1 => ?_) (fun c_1 => ?_)
  · refine j_ldc X dX10_trace_27 u502 ?_
    refine s_iret X hE hr dX10_trace_29 rfl ?_
    first | exact ⟨rfl, rfl⟩ | (exfalso; clear hE hr hR X; (try simp only [lg_cmp_lt, lg_cmp_gt, lg_cmp_le, lg_cmp_ge] at *); (try simp (disch := omega) only [Int64.le_iff_toInt_le, Int64.lt_iff_toInt_lt, Int32.le_iff_toInt_le, Int32.lt_iff_toInt_lt, fa_eq, fa_lit, fa_litL, nI_toInt, pk_lT, Int32.toInt_toInt64, jadd64, jin, jnoneT] at *); omega)
  · refine j_iload_n X dX10_trace_4 rfl ?_
    refine j_aload_n X dX10_trace_5 rfl ?_
    refine j_getR X 10 10 (by decide) (by decide) rfl u248 (o0 np) (k0 np) _ (p0_10 np) dX10_trace_6 ?_
    refine j_getF X 0 1 (by decide) (by decide) rfl u232 (o63 np) (k63 np) (mem 63) rfl dX10_trace_9 ?_
    refine j_nrm (nI t) ht ?_
    refine j_icmp_ge X 27 dX10_trace_12 (by decide) (fun c_12 => ?_) (fun c_12 => ?_)
    · refine j_ldc X dX10_trace_27 u502 ?_
      refine s_iret X hE hr dX10_trace_29 rfl ?_
      first | exact ⟨rfl, rfl⟩ | (exfalso; clear hE hr hR X; (try simp only [lg_cmp_lt, lg_cmp_gt, lg_cmp_le, lg_cmp_ge] at *); (try simp (disch := omega) only [Int64.le_iff_toInt_le, Int64.lt_iff_toInt_lt, Int32.le_iff_toInt_le, Int32.lt_iff_toInt_lt, fa_eq, fa_lit, fa_litL, nI_toInt, pk_lT, Int32.toInt_toInt64, jadd64, jin, jnoneT] at *); omega)
    · exfalso
      clear hE hr hR X
      (try simp only [lg_cmp_lt, lg_cmp_gt, lg_cmp_le, lg_cmp_ge] at *); (try simp (disch := omega) only [Int64.le_iff_toInt_le, Int64.lt_iff_toInt_lt, Int32.le_iff_toInt_le, Int32.lt_iff_toInt_lt, fa_eq, fa_lit, fa_litL, nI_toInt, pk_lT, Int32.toInt_toInt64, jadd64, jin, jnoneT] at *); omega
set_option maxRecDepth 4000 in
set_option maxHeartbeats 1000000 in
theorem c_trace (np : Nat) (mem : jMem) (i t : Nat) (ht : mem 63 1 = nI t) (ht2 : t ≤ 16) (h : i < t) : jPi yX10_trace cX10_trace 2 .int 1 [.ref 0, .int (nI i)] np mem (fun v c => v = mem 64 i ∧ c = mem) := by
  refine jPi.of (own := RX10) rfl rfl (Nat.le_of_ble_eq_true rfl) (fun G X hR hr hE => ?_)
  refine j_iload_n X dX10_trace_0 rfl ?_
  refine j_if_lt X 27 dX10_trace_1 (by decide) (fun c_1 => ?_) (fun c_1 => ?_)
  · exfalso
    clear hE hr hR X
    (try simp only [lg_cmp_lt, lg_cmp_gt, lg_cmp_le, lg_cmp_ge] at *); (try simp (disch := omega) only [Int64.le_iff_toInt_le, Int64.lt_iff_toInt_lt, Int32.le_iff_toInt_le, Int32.lt_iff_toInt_lt, fa_eq, fa_lit, fa_litL, nI_toInt, pk_lT, Int32.toInt_toInt64, jadd64, jin, jnoneT] at *); omega
  · refine j_iload_n X dX10_trace_4 rfl ?_
    refine j_aload_n X dX10_trace_5 rfl ?_
    refine j_getR X 10 10 (by decide) (by decide) rfl u248 (o0 np) (k0 np) _ (p0_10 np) dX10_trace_6 ?_
    refine j_getF X 0 1 (by decide) (by decide) rfl u232 (o63 np) (k63 np) (mem 63) rfl dX10_trace_9 ?_
    refine j_nrm (nI t) ht ?_
    refine j_icmp_ge X 27 dX10_trace_12 (by decide) (fun c_12 => ?_) (fun c_12 => ?_)
    · exfalso
      clear hE hr hR X
      (try simp only [lg_cmp_lt, lg_cmp_gt, lg_cmp_le, lg_cmp_ge] at *); (try simp (disch := omega) only [Int64.le_iff_toInt_le, Int64.lt_iff_toInt_lt, Int32.le_iff_toInt_le, Int32.lt_iff_toInt_lt, fa_eq, fa_lit, fa_litL, nI_toInt, pk_lT, Int32.toInt_toInt64, jadd64, jin, jnoneT] at *); omega
    · refine j_aload_n X dX10_trace_15 rfl ?_
      refine j_getR X 10 10 (by decide) (by decide) rfl u248 (o0 np) (k0 np) _ (p0_10 np) dX10_trace_16 ?_
      refine j_getR X 0 0 (by decide) (by decide) rfl u230 (o63 np) (k63 np) _ (p63_0 np) dX10_trace_19 ?_
      refine j_iload_n X dX10_trace_22 rfl ?_
      refine j_nrm _ (by first | (simp only [fa_lit, pk_mul, nI_add]; done) | (simp only [fa_lit, pk_mul, nI_add]; rfl) | rfl) ?_
      refine j_ialdN X (o64 np) (k64 np) (by rw [l64]; omega) (by rw [l64]; decide) (mem 64) rfl dX10_trace_23 ?_
      refine j_goto X 29 dX10_trace_24 (by decide) ?_
      refine s_iret X hE hr dX10_trace_29 rfl ?_
      first | exact ⟨rfl, rfl⟩ | (exfalso; clear hE hr hR X; (try simp only [lg_cmp_lt, lg_cmp_gt, lg_cmp_le, lg_cmp_ge] at *); (try simp (disch := omega) only [Int64.le_iff_toInt_le, Int64.lt_iff_toInt_lt, Int32.le_iff_toInt_le, Int32.lt_iff_toInt_lt, fa_eq, fa_lit, fa_litL, nI_toInt, pk_lT, Int32.toInt_toInt64, jadd64, jin, jnoneT] at *); omega)
set_option maxRecDepth 4000 in
set_option maxHeartbeats 1000000 in
theorem c_status (np : Nat) (mem : jMem)   : jPi yX10_status cX10_status 1 .int 1 [.ref 0] np mem (fun v c => v = mem 0 14 ∧ c = mem) := by
  refine jPi.of (own := RX10) rfl rfl (Nat.le_of_ble_eq_true rfl) (fun G X hR hr hE => ?_)
  refine j_aload_n X dX10_status_0 rfl ?_
  refine j_getF X 10 14 (by decide) (by decide) rfl u252 (o0 np) (k0 np) (mem 0) rfl dX10_status_1 ?_
  refine s_iret X hE hr dX10_status_4 rfl ?_
  first | exact ⟨rfl, rfl⟩ | (exfalso; clear hE hr hR X; (try simp only [lg_cmp_lt, lg_cmp_gt, lg_cmp_le, lg_cmp_ge] at *); (try simp (disch := omega) only [Int64.le_iff_toInt_le, Int64.lt_iff_toInt_lt, Int32.le_iff_toInt_le, Int32.lt_iff_toInt_lt, fa_eq, fa_lit, fa_litL, nI_toInt, pk_lT, Int32.toInt_toInt64, jadd64, jin, jnoneT] at *); omega)
set_option maxRecDepth 4000 in
set_option maxHeartbeats 1000000 in
theorem c_fault (np : Nat) (mem : jMem)   : jPi yX10_fault cX10_fault 1 .int 1 [.ref 0] np mem (fun v c => v = mem 51 2 ∧ c = mem) := by
  refine jPi.of (own := RX10) rfl rfl (Nat.le_of_ble_eq_true rfl) (fun G X hR hr hE => ?_)
  refine j_aload_n X dX10_fault_0 rfl ?_
  refine j_getR X 10 6 (by decide) (by decide) rfl u244 (o0 np) (k0 np) _ (p0_6 np) dX10_fault_1 ?_
  refine j_getF X 9 2 (by decide) (by decide) rfl u137 (o51 np) (k51 np) (mem 51) rfl dX10_fault_4 ?_
  refine s_iret X hE hr dX10_fault_7 rfl ?_
  first | exact ⟨rfl, rfl⟩ | (exfalso; clear hE hr hR X; (try simp only [lg_cmp_lt, lg_cmp_gt, lg_cmp_le, lg_cmp_ge] at *); (try simp (disch := omega) only [Int64.le_iff_toInt_le, Int64.lt_iff_toInt_lt, Int32.le_iff_toInt_le, Int32.lt_iff_toInt_lt, fa_eq, fa_lit, fa_litL, nI_toInt, pk_lT, Int32.toInt_toInt64, jadd64, jin, jnoneT] at *); omega)
set_option maxRecDepth 4000 in
set_option maxHeartbeats 1000000 in
theorem c_goneCount (np : Nat) (mem : jMem)  (hn : np ≤ 12) (hp : mem 0 12 = nI np) : jPi yX10_goneCount cX10_goneCount 4 .int 2 [.ref 0] np mem (fun v c => v = nI (jCnt (fun p => jKindC (mem (92 + 2 * p) 7) (mem 0 13) (mem (92 + 2 * p) 3) = 5) np) ∧ c = mem) := by
  refine jPi.of (own := RX10) rfl rfl (Nat.le_of_ble_eq_true rfl) (fun G X hR hr hE => ?_)
  refine j_iconst X dX10_goneCount_0 0 (by decide) ?_
  refine j_istore_n X dX10_goneCount_1 (by decide) ?_
  refine j_iconst X dX10_goneCount_2 0 (by decide) ?_
  refine j_istore_n X dX10_goneCount_3 (by decide) ?_
  have lp4 : ∀ (n : Nat) (k : Nat), k ≤ np → np + 1 ≤ k + n → J G RX10 cX10_goneCount 4 0 0 4 (jlv [some (.ref 0), some (.int (nI (jCnt (fun p => jKindC (mem (92 + 2 * p) 7) (mem 0 13) (mem (92 + 2 * p) 3) = 5) k))), some (.int (nI k))]) [] (jS np) (mem) := by
    intro n
    induction n with
    | zero =>
      intro k hk hn3
      exact absurd hn3 (by omega)
    | succ n ih4 =>
      intro k hk hn3
      refine j_iload_n X dX10_goneCount_4 rfl ?_
      refine j_aload_n X dX10_goneCount_5 rfl ?_
      refine j_getF X 10 12 (by decide) (by decide) rfl u250 (o0 np) (k0 np) (mem 0) rfl dX10_goneCount_6 ?_
      refine j_nrm (nI np) hp ?_
      refine j_icmp_ge X 43 dX10_goneCount_9 (by decide) (fun c_9 => ?_) (fun c_9 => ?_)
      · obtain rfl : k = np := by clear hE hr hR X; (try simp only [lg_cmp_lt, lg_cmp_gt, lg_cmp_le, lg_cmp_ge] at *); (try simp (disch := omega) only [Int64.le_iff_toInt_le, Int64.lt_iff_toInt_lt, Int32.le_iff_toInt_le, Int32.lt_iff_toInt_lt, fa_eq, fa_lit, fa_litL, nI_toInt, pk_lT, Int32.toInt_toInt64, jadd64, jin, jnoneT] at *); omega
        refine j_iload_n X dX10_goneCount_43 rfl ?_
        refine s_iret X hE hr dX10_goneCount_44 rfl ?_
        first | exact ⟨rfl, rfl⟩ | (exfalso; clear hE hr hR X; (try simp only [lg_cmp_lt, lg_cmp_gt, lg_cmp_le, lg_cmp_ge] at *); (try simp (disch := omega) only [Int64.le_iff_toInt_le, Int64.lt_iff_toInt_lt, Int32.le_iff_toInt_le, Int32.lt_iff_toInt_lt, fa_eq, fa_lit, fa_litL, nI_toInt, pk_lT, Int32.toInt_toInt64, jadd64, jin, jnoneT] at *); omega)
      · have hk2 : k < np := by clear hE hr hR X; (try simp only [lg_cmp_lt, lg_cmp_gt, lg_cmp_le, lg_cmp_ge] at *); (try simp (disch := omega) only [Int64.le_iff_toInt_le, Int64.lt_iff_toInt_lt, Int32.le_iff_toInt_le, Int32.lt_iff_toInt_lt, fa_eq, fa_lit, fa_litL, nI_toInt, pk_lT, Int32.toInt_toInt64, jadd64, jin, jnoneT] at *); omega
        refine j_aload_n X dX10_goneCount_12 rfl ?_
        refine j_iload_n X dX10_goneCount_13 rfl ?_
        refine s_callVa X hR (c_paperAt np _ k hn hp hk2) rfl 10 (by decide) (o0 np) (k0 np) rfl u435 u432 u434 qp2 u1 hyX10_paperAt (by decide) (by decide) (Nat.le_of_ble_eq_true rfl) dX10_goneCount_14 (fun v_14 m_14 h_14 => ?_)
        obtain ⟨e1, e2⟩ := h_14; have e1 := e1.symm; have e2 := e2.symm; subst e1; subst e2
        refine j_astore_n X dX10_goneCount_17 (by decide) ?_
        refine j_aload_n X dX10_goneCount_18 rfl ?_
        refine j_ifnullR X 37 dX10_goneCount_19 (by decide) ?_
        refine j_aload_n X dX10_goneCount_22 rfl ?_
        refine j_aload_n X dX10_goneCount_23 rfl ?_
        refine j_getF X 10 13 (by decide) (by decide) rfl u251 (o0 np) (k0 np) (mem 0) rfl dX10_goneCount_24 ?_
        refine s_callVi X hR (c_kindOn np _ k _ hk2) rfl 6 (by decide) (oP np (by omega)) (kP np _) rfl u861 u858 u859 u860 u14 hyX6_kindOn (by decide) (by decide) (Nat.le_of_ble_eq_true rfl) dX10_goneCount_27 (fun v_27 m_27 h_27 => ?_)
        obtain ⟨e1, e2⟩ := h_27; have e1 := e1.symm; have e2 := e2.symm; subst e1; subst e2
        refine j_iconst X dX10_goneCount_30 5 (by decide) ?_
        refine j_icmp_ne X 37 dX10_goneCount_31 (by decide) (fun c_31 => ?_) (fun c_31 => ?_)
        · refine j_iinc X dX10_goneCount_37 rfl 1 rfl ?_
          refine j_goto X 4 dX10_goneCount_40 (by decide) ?_
          refine j_lv [some (.ref 0), some (.int (nI (jCnt (fun p => jKindC (mem (92 + 2 * p) 7) (mem 0 13) (mem (92 + 2 * p) 3) = 5) (k + 1)))), some (.int (nI (k + 1)))] ⟨rfl, (congrArg (fun z => some (Value.int z)) (by first | exact jCnt_t (g := (fun p => jKindC (mem (92 + 2 * p) 7) (mem 0 13) (mem (92 + 2 * p) 3) = 5)) c_31 | exact jCnt_f0 (g := (fun p => jKindC (mem (92 + 2 * p) 7) (mem 0 13) (mem (92 + 2 * p) 3) = 5)) c_31)), (congrArg (fun z => some (Value.int z)) (nI_1 _)), trivial⟩ ?_
          exact ih4 (k + 1) (by omega) (by omega)
        · refine j_iinc X dX10_goneCount_34 rfl 1 rfl ?_
          refine j_iinc X dX10_goneCount_37 rfl 1 rfl ?_
          refine j_goto X 4 dX10_goneCount_40 (by decide) ?_
          refine j_lv [some (.ref 0), some (.int (nI (jCnt (fun p => jKindC (mem (92 + 2 * p) 7) (mem 0 13) (mem (92 + 2 * p) 3) = 5) (k + 1)))), some (.int (nI (k + 1)))] ⟨rfl, (congrArg (fun z => some (Value.int z)) (by first | exact jCnt_t (g := (fun p => jKindC (mem (92 + 2 * p) 7) (mem 0 13) (mem (92 + 2 * p) 3) = 5)) c_31 | exact jCnt_f0 (g := (fun p => jKindC (mem (92 + 2 * p) 7) (mem 0 13) (mem (92 + 2 * p) 3) = 5)) c_31)), (congrArg (fun z => some (Value.int z)) (nI_1 _)), trivial⟩ ?_
          exact ih4 (k + 1) (by omega) (by omega)
  refine j_lv [some (.ref 0), some (.int (nI (jCnt (fun p => jKindC (mem (92 + 2 * p) 7) (mem 0 13) (mem (92 + 2 * p) 3) = 5) 0))), some (.int (nI 0))] ⟨rfl, rfl, rfl, trivial⟩ ?_
  exact lp4 (np + 1) 0 (by omega) (by omega)
set_option maxRecDepth 4000 in
set_option maxHeartbeats 1000000 in
theorem c_count0 (np : Nat) (mem : jMem)   : jPi yX10_count cX10_count 2 .int 3 [.ref 0, .int 0] np mem (fun v c => v = nI (jCnt (fun s => ¬ mem 12 s = -1) 8) ∧ c = mem) := by
  refine jPi.of (own := RX10) rfl rfl (Nat.le_of_ble_eq_true rfl) (fun G X hR hr hE => ?_)
  refine j_iload_n X dX10_count_0 rfl ?_
  refine j_tabIn X (off := 39) 40 dX10_count_1 (by decide) (by decide) (by decide) (by decide) ?_
  refine j_aload_n X dX10_count_40 rfl ?_
  refine j_getR X 10 0 (by decide) (by decide) rfl u238 (o0 np) (k0 np) _ (p0_0 np) dX10_count_41 ?_
  refine s_callVi X hR (c_present np _) rfl 7 (by decide) (o1 np) (k1 np) rfl u930 u927 u928 u929 u2 hyX7_present (by decide) (by decide) (Nat.le_of_ble_eq_true rfl) dX10_count_44 (fun v_44 m_44 h_44 => ?_)
  obtain ⟨e1, e2⟩ := h_44; have e1 := e1.symm; have e2 := e2.symm; subst e1; subst e2
  refine s_iret X hE hr dX10_count_47 rfl ?_
  first | exact ⟨rfl, rfl⟩ | (exfalso; clear hE hr hR X; (try simp only [lg_cmp_lt, lg_cmp_gt, lg_cmp_le, lg_cmp_ge] at *); (try simp (disch := omega) only [Int64.le_iff_toInt_le, Int64.lt_iff_toInt_lt, Int32.le_iff_toInt_le, Int32.lt_iff_toInt_lt, fa_eq, fa_lit, fa_litL, nI_toInt, pk_lT, Int32.toInt_toInt64, jadd64, jin, jnoneT] at *); omega)
set_option maxRecDepth 4000 in
set_option maxHeartbeats 1000000 in
theorem c_count1 (np : Nat) (mem : jMem)   : jPi yX10_count cX10_count 2 .int 3 [.ref 0, .int 1] np mem (fun v c => v = mem 0 12 ∧ c = mem) := by
  refine jPi.of (own := RX10) rfl rfl (Nat.le_of_ble_eq_true rfl) (fun G X hR hr hE => ?_)
  refine j_iload_n X dX10_count_0 rfl ?_
  refine j_tabIn X (off := 47) 48 dX10_count_1 (by decide) (by decide) (by decide) (by decide) ?_
  refine j_aload_n X dX10_count_48 rfl ?_
  refine j_getF X 10 12 (by decide) (by decide) rfl u250 (o0 np) (k0 np) (mem 0) rfl dX10_count_49 ?_
  refine s_iret X hE hr dX10_count_52 rfl ?_
  first | exact ⟨rfl, rfl⟩ | (exfalso; clear hE hr hR X; (try simp only [lg_cmp_lt, lg_cmp_gt, lg_cmp_le, lg_cmp_ge] at *); (try simp (disch := omega) only [Int64.le_iff_toInt_le, Int64.lt_iff_toInt_lt, Int32.le_iff_toInt_le, Int32.lt_iff_toInt_lt, fa_eq, fa_lit, fa_litL, nI_toInt, pk_lT, Int32.toInt_toInt64, jadd64, jin, jnoneT] at *); omega)
set_option maxRecDepth 4000 in
set_option maxHeartbeats 1000000 in
theorem c_count2 (np : Nat) (mem : jMem)  (hn : np ≤ 12) (hp : mem 0 12 = nI np) : jPi yX10_count cX10_count 2 .int 3 [.ref 0, .int 2] np mem (fun v c => v = nI (jCnt (fun p => jKindC (mem (92 + 2 * p) 7) (mem 0 13) (mem (92 + 2 * p) 3) = 5) np) ∧ c = mem) := by
  refine jPi.of (own := RX10) rfl rfl (Nat.le_of_ble_eq_true rfl) (fun G X hR hr hE => ?_)
  refine j_iload_n X dX10_count_0 rfl ?_
  refine j_tabIn X (off := 52) 53 dX10_count_1 (by decide) (by decide) (by decide) (by decide) ?_
  refine j_aload_n X dX10_count_53 rfl ?_
  refine s_callVi X hR (c_goneCount np _ hn hp) rfl 10 (by decide) (o0 np) (k0 np) rfl u934 u931 u933 qp35 u1 hyX10_goneCount (by decide) (by decide) (Nat.le_of_ble_eq_true rfl) dX10_count_54 (fun v_54 m_54 h_54 => ?_)
  obtain ⟨e1, e2⟩ := h_54; have e1 := e1.symm; have e2 := e2.symm; subst e1; subst e2
  refine s_iret X hE hr dX10_count_57 rfl ?_
  first | exact ⟨rfl, rfl⟩ | (exfalso; clear hE hr hR X; (try simp only [lg_cmp_lt, lg_cmp_gt, lg_cmp_le, lg_cmp_ge] at *); (try simp (disch := omega) only [Int64.le_iff_toInt_le, Int64.lt_iff_toInt_lt, Int32.le_iff_toInt_le, Int32.lt_iff_toInt_lt, fa_eq, fa_lit, fa_litL, nI_toInt, pk_lT, Int32.toInt_toInt64, jadd64, jin, jnoneT] at *); omega)
set_option maxRecDepth 4000 in
set_option maxHeartbeats 1000000 in
theorem c_count3 (np : Nat) (mem : jMem)   : jPi yX10_count cX10_count 2 .int 3 [.ref 0, .int 3] np mem (fun v c => v = 0 + mem 24 0 + mem 24 1 + mem 24 2 + mem 24 3 ∧ c = mem) := by
  refine jPi.of (own := RX10) rfl rfl (Nat.le_of_ble_eq_true rfl) (fun G X hR hr hE => ?_)
  refine j_iload_n X dX10_count_0 rfl ?_
  refine j_tabIn X (off := 57) 58 dX10_count_1 (by decide) (by decide) (by decide) (by decide) ?_
  refine j_aload_n X dX10_count_58 rfl ?_
  refine j_getR X 10 1 (by decide) (by decide) rfl u239 (o0 np) (k0 np) _ (p0_1 np) dX10_count_59 ?_
  refine s_callVi X hR (c_allKeys np _) rfl 5 (by decide) (o13 np) (k13 np) rfl u938 u935 u936 u937 u4 hyX5_allKeys (by decide) (by decide) (Nat.le_of_ble_eq_true rfl) dX10_count_62 (fun v_62 m_62 h_62 => ?_)
  obtain ⟨e1, e2⟩ := h_62; have e1 := e1.symm; have e2 := e2.symm; subst e1; subst e2
  refine s_iret X hE hr dX10_count_65 rfl ?_
  exact ⟨rfl, rfl⟩
set_option maxRecDepth 4000 in
set_option maxHeartbeats 1000000 in
theorem c_count4 (np : Nat) (mem : jMem)   : jPi yX10_count cX10_count 2 .int 3 [.ref 0, .int 4] np mem (fun v c => v = mem 55 2 ∧ c = mem) := by
  refine jPi.of (own := RX10) rfl rfl (Nat.le_of_ble_eq_true rfl) (fun G X hR hr hE => ?_)
  refine j_iload_n X dX10_count_0 rfl ?_
  refine j_tabIn X (off := 65) 66 dX10_count_1 (by decide) (by decide) (by decide) (by decide) ?_
  refine j_aload_n X dX10_count_66 rfl ?_
  refine j_getR X 10 8 (by decide) (by decide) rfl u246 (o0 np) (k0 np) _ (p0_8 np) dX10_count_67 ?_
  refine j_getF X 8 2 (by decide) (by decide) rfl u188 (o55 np) (k55 np) (mem 55) rfl dX10_count_70 ?_
  refine s_iret X hE hr dX10_count_73 rfl ?_
  first | exact ⟨rfl, rfl⟩ | (exfalso; clear hE hr hR X; (try simp only [lg_cmp_lt, lg_cmp_gt, lg_cmp_le, lg_cmp_ge] at *); (try simp (disch := omega) only [Int64.le_iff_toInt_le, Int64.lt_iff_toInt_lt, Int32.le_iff_toInt_le, Int32.lt_iff_toInt_lt, fa_eq, fa_lit, fa_litL, nI_toInt, pk_lT, Int32.toInt_toInt64, jadd64, jin, jnoneT] at *); omega)
set_option maxRecDepth 4000 in
set_option maxHeartbeats 1000000 in
theorem c_count5 (np : Nat) (mem : jMem)   : jPi yX10_count cX10_count 2 .int 3 [.ref 0, .int 5] np mem (fun v c => v = mem 51 1 ∧ c = mem) := by
  refine jPi.of (own := RX10) rfl rfl (Nat.le_of_ble_eq_true rfl) (fun G X hR hr hE => ?_)
  refine j_iload_n X dX10_count_0 rfl ?_
  refine j_tabIn X (off := 73) 74 dX10_count_1 (by decide) (by decide) (by decide) (by decide) ?_
  refine j_aload_n X dX10_count_74 rfl ?_
  refine j_getR X 10 6 (by decide) (by decide) rfl u244 (o0 np) (k0 np) _ (p0_6 np) dX10_count_75 ?_
  refine j_getF X 9 1 (by decide) (by decide) rfl u135 (o51 np) (k51 np) (mem 51) rfl dX10_count_78 ?_
  refine s_iret X hE hr dX10_count_81 rfl ?_
  first | exact ⟨rfl, rfl⟩ | (exfalso; clear hE hr hR X; (try simp only [lg_cmp_lt, lg_cmp_gt, lg_cmp_le, lg_cmp_ge] at *); (try simp (disch := omega) only [Int64.le_iff_toInt_le, Int64.lt_iff_toInt_lt, Int32.le_iff_toInt_le, Int32.lt_iff_toInt_lt, fa_eq, fa_lit, fa_litL, nI_toInt, pk_lT, Int32.toInt_toInt64, jadd64, jin, jnoneT] at *); omega)
set_option maxRecDepth 4000 in
set_option maxHeartbeats 1000000 in
theorem c_count_bad (np : Nat) (mem : jMem) (w : Int32) (h : ¬ jin w 0 5) : jPi yX10_count cX10_count 2 .int 3 [.ref 0, .int w] np mem (fun v c => v = -1000001 ∧ c = mem) := by
  refine jPi.of (own := RX10) rfl rfl (Nat.le_of_ble_eq_true rfl) (fun G X hR hr hE => ?_)
  unfold jin at h
  refine j_iload_n X dX10_count_0 rfl ?_
  refine j_tabOut X 82 dX10_count_1 (by omega) (by decide) ?_
  refine j_ldc X dX10_count_82 u295 ?_
  exact s_iret X hE hr dX10_count_84 rfl ⟨rfl, rfl⟩
set_option maxRecDepth 4000 in
set_option maxHeartbeats 1000000 in
theorem c_asksTooMuch (np : Nat) (mem : jMem) (d q : Nat) (hd : d < 4) (hq : q ≤ 8) (hc : mem 35 d = nI q) : jPi yX3_asksTooMuch cX3_asksTooMuch 3 .boolean 2 [.ref 32, .int (nI d)] np mem (fun v c => v = jb (jAny (fun i => decide (¬ mem (37 + d) i = 0 ∧ ¬ (mem 34 d >>> (mem (42 + d) i &&& 31)) &&& 1 = 1)) q = true) ∧ c = mem) := by
  refine jPi.of (own := RX3) rfl rfl (Nat.le_of_ble_eq_true rfl) (fun G X hR hr hE => ?_)
  refine j_iconst X dX3_asksTooMuch_0 0 (by decide) ?_
  refine j_istore_n X dX3_asksTooMuch_1 (by decide) ?_
  have lp2 : ∀ (n : Nat) (k : Nat), k ≤ q → q + 1 ≤ k + n → ¬ jAny (fun i => decide (¬ mem (37 + d) i = 0 ∧ ¬ (mem 34 d >>> (mem (42 + d) i &&& 31)) &&& 1 = 1)) k = true → J G RX3 cX3_asksTooMuch 3 0 0 2 (jlv [some (.ref 32), some (.int (nI d)), some (.int (nI k))]) [] (jS np) (mem) := by
    intro n
    induction n with
    | zero =>
      intro k hk hn hA
      exact absurd hn (by omega)
    | succ n ih2 =>
      intro k hk hn hA
      refine j_iload_n X dX3_asksTooMuch_2 rfl ?_
      refine j_aload_n X dX3_asksTooMuch_3 rfl ?_
      refine j_getR X 3 2 (by decide) (by decide) rfl u108 (o32 np) (k32 np) _ (p32_2 np) dX3_asksTooMuch_4 ?_
      refine j_iload_n X dX3_asksTooMuch_7 rfl ?_
      refine j_nrm _ (by first | (simp only [fa_lit, pk_mul, nI_add]; done) | (simp only [fa_lit, pk_mul, nI_add]; rfl) | rfl) ?_
      refine j_ialdN X (o35 np) (k35 np) (by rw [l35]; omega) (by rw [l35]; decide) (mem 35) rfl dX3_asksTooMuch_8 ?_
      refine j_nrm (nI q) hc ?_
      refine j_icmp_ge X 51 dX3_asksTooMuch_9 (by decide) (fun c_9 => ?_) (fun c_9 => ?_)
      · obtain rfl : k = q := by clear hE hr hR X; (try simp only [lg_cmp_lt, lg_cmp_gt, lg_cmp_le, lg_cmp_ge] at *); (try simp (disch := omega) only [Int64.le_iff_toInt_le, Int64.lt_iff_toInt_lt, Int32.le_iff_toInt_le, Int32.lt_iff_toInt_lt, fa_eq, fa_lit, fa_litL, nI_toInt, pk_lT, Int32.toInt_toInt64, jadd64, jin, jnoneT] at *); omega
        refine j_iconst X dX3_asksTooMuch_51 0 (by decide) ?_
        refine s_iret X hE hr dX3_asksTooMuch_52 (by first | exact jb_nar | rfl) ?_
        exact ⟨(jb_f hA).symm, rfl⟩
      · have hk2 : k < q := by clear hE hr hR X; (try simp only [lg_cmp_lt, lg_cmp_gt, lg_cmp_le, lg_cmp_ge] at *); (try simp (disch := omega) only [Int64.le_iff_toInt_le, Int64.lt_iff_toInt_lt, Int32.le_iff_toInt_le, Int32.lt_iff_toInt_lt, fa_eq, fa_lit, fa_litL, nI_toInt, pk_lT, Int32.toInt_toInt64, jadd64, jin, jnoneT] at *); omega
        refine j_aload_n X dX3_asksTooMuch_12 rfl ?_
        refine j_getR X 3 3 (by decide) (by decide) rfl u111 (o32 np) (k32 np) _ (p32_3 np) dX3_asksTooMuch_13 ?_
        refine j_iload_n X dX3_asksTooMuch_16 rfl ?_
        refine j_nrm _ (by first | (simp only [fa_lit, pk_mul, nI_add]; done) | (simp only [fa_lit, pk_mul, nI_add]; rfl) | rfl) ?_
        refine j_aaldIN X (o36 np) (k36 np) (by rw [l36]; omega) (by rw [l36]; decide) (p36_r np (by omega)) dX3_asksTooMuch_17 ?_
        refine j_iload_n X dX3_asksTooMuch_18 rfl ?_
        refine j_nrm _ (by first | (simp only [fa_lit, pk_mul, nI_add]; done) | (simp only [fa_lit, pk_mul, nI_add]; rfl) | rfl) ?_
        refine j_ialdN X (o36_r np (by omega)) (k36_r np (by omega)) (by rw [l36_r np (by omega)]; omega) (by rw [l36_r np (by omega)]; decide) (mem (37 + d)) rfl dX3_asksTooMuch_19 ?_
        refine j_if_eq X 45 dX3_asksTooMuch_20 (by decide) (fun c_20 => ?_) (fun c_20 => ?_)
        · refine j_iinc X dX3_asksTooMuch_45 rfl 1 rfl ?_
          refine j_goto X 2 dX3_asksTooMuch_48 (by decide) ?_
          refine j_lv [some (.ref 32), some (.int (nI d)), some (.int (nI (k + 1)))] ⟨rfl, rfl, (congrArg (fun z => some (Value.int z)) (nI_1 _)), trivial⟩ ?_
          exact ih2 (k + 1) (by omega) (by omega) (jAny_f hA (by first | exact fun z => (of_decide_eq_true z).1 c_20 | exact fun z => (of_decide_eq_true z).2 c_40))
        · refine j_aload_n X dX3_asksTooMuch_23 rfl ?_
          refine j_getR X 3 1 (by decide) (by decide) rfl u105 (o32 np) (k32 np) _ (p32_1 np) dX3_asksTooMuch_24 ?_
          refine j_iload_n X dX3_asksTooMuch_27 rfl ?_
          refine j_nrm _ (by first | (simp only [fa_lit, pk_mul, nI_add]; done) | (simp only [fa_lit, pk_mul, nI_add]; rfl) | rfl) ?_
          refine j_ialdN X (o34 np) (k34 np) (by rw [l34]; omega) (by rw [l34]; decide) (mem 34) rfl dX3_asksTooMuch_28 ?_
          refine j_aload_n X dX3_asksTooMuch_29 rfl ?_
          refine j_getR X 3 4 (by decide) (by decide) rfl u112 (o32 np) (k32 np) _ (p32_4 np) dX3_asksTooMuch_30 ?_
          refine j_iload_n X dX3_asksTooMuch_33 rfl ?_
          refine j_nrm _ (by first | (simp only [fa_lit, pk_mul, nI_add]; done) | (simp only [fa_lit, pk_mul, nI_add]; rfl) | rfl) ?_
          refine j_aaldIN X (o41 np) (k41 np) (by rw [l41]; omega) (by rw [l41]; decide) (p41_r np (by omega)) dX3_asksTooMuch_34 ?_
          refine j_iload_n X dX3_asksTooMuch_35 rfl ?_
          refine j_nrm _ (by first | (simp only [fa_lit, pk_mul, nI_add]; done) | (simp only [fa_lit, pk_mul, nI_add]; rfl) | rfl) ?_
          refine j_ialdN X (o41_r np (by omega)) (k41_r np (by omega)) (by rw [l41_r np (by omega)]; omega) (by rw [l41_r np (by omega)]; decide) (mem (42 + d)) rfl dX3_asksTooMuch_36 ?_
          refine s_callNi X hR (c_hasBit np _ _ _) rfl u498 (by decide) u497 u1 hyX10_hasBit (by decide) (by decide) (Nat.le_of_ble_eq_true rfl) dX3_asksTooMuch_37 (fun v_37 m_37 h_37 => ?_)
          obtain ⟨e1, e2⟩ := h_37; have e1 := e1.symm; have e2 := e2.symm; subst e1; subst e2
          refine j_ifb_ne X 45 dX3_asksTooMuch_40 (by decide) (fun c_40 => ?_) (fun c_40 => ?_)
          · refine j_iinc X dX3_asksTooMuch_45 rfl 1 rfl ?_
            refine j_goto X 2 dX3_asksTooMuch_48 (by decide) ?_
            refine j_lv [some (.ref 32), some (.int (nI d)), some (.int (nI (k + 1)))] ⟨rfl, rfl, (congrArg (fun z => some (Value.int z)) (nI_1 _)), trivial⟩ ?_
            exact ih2 (k + 1) (by omega) (by omega) (jAny_f hA (by first | exact fun z => (of_decide_eq_true z).1 c_20 | exact fun z => (of_decide_eq_true z).2 c_40))
          · refine j_iconst X dX3_asksTooMuch_43 1 (by decide) ?_
            refine s_iret X hE hr dX3_asksTooMuch_44 (by first | exact jb_nar | rfl) ?_
            refine ⟨(jb_t (P := jAny (fun i => decide (¬ mem (37 + d) i = 0 ∧ ¬ (mem 34 d >>> (mem (42 + d) i &&& 31)) &&& 1 = 1)) q = true) (jAny_mono (k := k + 1) (jAny_t2 (decide_eq_true ⟨c_20, c_40⟩)) q (by omega))).symm, rfl⟩
  refine j_lv [some (.ref 32), some (.int (nI d)), some (.int (nI 0))] ⟨rfl, rfl, rfl, trivial⟩ ?_
  exact lp2 (q + 1) 0 (by omega) (by omega) (by intro z; cases z)
set_option maxRecDepth 4000 in
set_option maxHeartbeats 1000000 in
theorem c_door_bad (np : Nat) (mem : jMem) (d w : Int32) (h : ¬ (jin d 0 3 ∧ jin w 0 2)) : jPi yX10_door cX10_door 3 .int 3 [.ref 0, .int d, .int w] np mem (fun v c => v = -1000001 ∧ c = mem) := by
  refine jPi.of (own := RX10) rfl rfl (Nat.le_of_ble_eq_true rfl) (fun G X hR hr hE => ?_)
  refine j_iload_n X dX10_door_0 rfl ?_
  refine s_callSi X hR (c_isDoor np _ _) rfl u612 u610 u611 u1 hyX10_isDoor (by decide) (by decide) (Nat.le_of_ble_eq_true rfl) dX10_door_1 (fun v_1 m_1 h_1 => ?_)
  obtain ⟨e1, e2⟩ := h_1; have e1 := e1.symm; have e2 := e2.symm; subst e1; subst e2
  refine j_ifb_eq X 16 dX10_door_4 (by decide) (fun c_4 => ?_) (fun c_4 => ?_)
  · refine j_ldc X dX10_door_16 u295 ?_
    refine s_iret X hE hr dX10_door_18 rfl ?_
    first | exact ⟨rfl, rfl⟩ | (exfalso; clear hE hr hR X; (try simp only [lg_cmp_lt, lg_cmp_gt, lg_cmp_le, lg_cmp_ge] at *); (try simp (disch := omega) only [Int64.le_iff_toInt_le, Int64.lt_iff_toInt_lt, Int32.le_iff_toInt_le, Int32.lt_iff_toInt_lt, fa_eq, fa_lit, fa_litL, nI_toInt, pk_lT, Int32.toInt_toInt64, jadd64, jin, jnoneT] at *); omega)
  · refine j_iload_n X dX10_door_7 rfl ?_
    refine j_iconst X dX10_door_8 0 (by decide) ?_
    refine j_iconst X dX10_door_9 2 (by decide) ?_
    refine s_callSi X hR (c_withinI np _ _ _ _ (0) (2) rfl rfl) rfl u293 u294 u292 u1 hyX10_within (by decide) (by decide) (Nat.le_of_ble_eq_true rfl) dX10_door_10 (fun v_10 m_10 h_10 => ?_)
    obtain ⟨e1, e2⟩ := h_10; have e1 := e1.symm; have e2 := e2.symm; subst e1; subst e2
    refine j_ifb_ne X 19 dX10_door_13 (by decide) (fun c_13 => ?_) (fun c_13 => ?_)
    · exfalso
      clear hE hr hR X
      (try simp only [lg_cmp_lt, lg_cmp_gt, lg_cmp_le, lg_cmp_ge] at *); (try simp (disch := omega) only [Int64.le_iff_toInt_le, Int64.lt_iff_toInt_lt, Int32.le_iff_toInt_le, Int32.lt_iff_toInt_lt, fa_eq, fa_lit, fa_litL, nI_toInt, pk_lT, Int32.toInt_toInt64, jadd64, jin, jnoneT] at *); omega
    · refine j_ldc X dX10_door_16 u295 ?_
      refine s_iret X hE hr dX10_door_18 rfl ?_
      first | exact ⟨rfl, rfl⟩ | (exfalso; clear hE hr hR X; (try simp only [lg_cmp_lt, lg_cmp_gt, lg_cmp_le, lg_cmp_ge] at *); (try simp (disch := omega) only [Int64.le_iff_toInt_le, Int64.lt_iff_toInt_lt, Int32.le_iff_toInt_le, Int32.lt_iff_toInt_lt, fa_eq, fa_lit, fa_litL, nI_toInt, pk_lT, Int32.toInt_toInt64, jadd64, jin, jnoneT] at *); omega)
set_option maxRecDepth 4000 in
set_option maxHeartbeats 1000000 in
theorem c_door0 (np : Nat) (mem : jMem) (d : Nat) (hd : d < 4) : jPi yX10_door cX10_door 3 .int 3 [.ref 0, .int (nI d), .int 0] np mem (fun v c => v = mem 35 d ∧ c = mem) := by
  refine jPi.of (own := RX10) rfl rfl (Nat.le_of_ble_eq_true rfl) (fun G X hR hr hE => ?_)
  refine j_iload_n X dX10_door_0 rfl ?_
  refine s_callSi X hR (c_isDoor np _ _) rfl u612 u610 u611 u1 hyX10_isDoor (by decide) (by decide) (Nat.le_of_ble_eq_true rfl) dX10_door_1 (fun v_1 m_1 h_1 => ?_)
  obtain ⟨e1, e2⟩ := h_1; have e1 := e1.symm; have e2 := e2.symm; subst e1; subst e2
  refine j_ifb_eq X 16 dX10_door_4 (by decide) (fun c_4 => ?_) (fun c_4 => ?_)
  · exfalso
    clear hE hr hR X
    (try simp only [lg_cmp_lt, lg_cmp_gt, lg_cmp_le, lg_cmp_ge] at *); (try simp (disch := omega) only [Int64.le_iff_toInt_le, Int64.lt_iff_toInt_lt, Int32.le_iff_toInt_le, Int32.lt_iff_toInt_lt, fa_eq, fa_lit, fa_litL, nI_toInt, pk_lT, Int32.toInt_toInt64, jadd64, jin, jnoneT] at *); omega
  · refine j_iload_n X dX10_door_7 rfl ?_
    refine j_iconst X dX10_door_8 0 (by decide) ?_
    refine j_iconst X dX10_door_9 2 (by decide) ?_
    refine s_callSi X hR (c_withinI np _ _ _ _ (0) (2) rfl rfl) rfl u293 u294 u292 u1 hyX10_within (by decide) (by decide) (Nat.le_of_ble_eq_true rfl) dX10_door_10 (fun v_10 m_10 h_10 => ?_)
    obtain ⟨e1, e2⟩ := h_10; have e1 := e1.symm; have e2 := e2.symm; subst e1; subst e2
    refine j_ifb_ne X 19 dX10_door_13 (by decide) (fun c_13 => ?_) (fun c_13 => ?_)
    · refine j_iload_n X dX10_door_19 rfl ?_
      refine j_if_ne X 33 dX10_door_20 (by decide) (fun c_20 => absurd c_20 (by decide)) (fun c_20 => ?_)
      refine j_aload_n X dX10_door_23 rfl ?_
      refine j_getR X 10 5 (by decide) (by decide) rfl u243 (o0 np) (k0 np) _ (p0_5 np) dX10_door_24 ?_
      refine j_getR X 3 2 (by decide) (by decide) rfl u110 (o32 np) (k32 np) _ (p32_2 np) dX10_door_27 ?_
      refine j_iload_n X dX10_door_30 rfl ?_
      refine j_nrm _ (by first | (simp only [fa_lit, pk_mul, nI_add]; done) | (simp only [fa_lit, pk_mul, nI_add]; rfl) | rfl) ?_
      refine j_ialdN X (o35 np) (k35 np) (by rw [l35]; omega) (by rw [l35]; decide) (mem 35) rfl dX10_door_31 ?_
      refine s_iret X hE hr dX10_door_32 rfl ?_
      first | exact ⟨rfl, rfl⟩ | (exfalso; clear hE hr hR X; (try simp only [lg_cmp_lt, lg_cmp_gt, lg_cmp_le, lg_cmp_ge] at *); (try simp (disch := omega) only [Int64.le_iff_toInt_le, Int64.lt_iff_toInt_lt, Int32.le_iff_toInt_le, Int32.lt_iff_toInt_lt, fa_eq, fa_lit, fa_litL, nI_toInt, pk_lT, Int32.toInt_toInt64, jadd64, jin, jnoneT] at *); omega)
    · exfalso
      clear hE hr hR X
      (try simp only [lg_cmp_lt, lg_cmp_gt, lg_cmp_le, lg_cmp_ge] at *); (try simp (disch := omega) only [Int64.le_iff_toInt_le, Int64.lt_iff_toInt_lt, Int32.le_iff_toInt_le, Int32.lt_iff_toInt_lt, fa_eq, fa_lit, fa_litL, nI_toInt, pk_lT, Int32.toInt_toInt64, jadd64, jin, jnoneT] at *); omega
set_option maxRecDepth 4000 in
set_option maxHeartbeats 1000000 in
theorem c_door1 (np : Nat) (mem : jMem) (d : Nat) (hd : d < 4) : jPi yX10_door cX10_door 3 .int 3 [.ref 0, .int (nI d), .int 1] np mem (fun v c => v = mem 34 d ∧ c = mem) := by
  refine jPi.of (own := RX10) rfl rfl (Nat.le_of_ble_eq_true rfl) (fun G X hR hr hE => ?_)
  refine j_iload_n X dX10_door_0 rfl ?_
  refine s_callSi X hR (c_isDoor np _ _) rfl u612 u610 u611 u1 hyX10_isDoor (by decide) (by decide) (Nat.le_of_ble_eq_true rfl) dX10_door_1 (fun v_1 m_1 h_1 => ?_)
  obtain ⟨e1, e2⟩ := h_1; have e1 := e1.symm; have e2 := e2.symm; subst e1; subst e2
  refine j_ifb_eq X 16 dX10_door_4 (by decide) (fun c_4 => ?_) (fun c_4 => ?_)
  · exfalso
    clear hE hr hR X
    (try simp only [lg_cmp_lt, lg_cmp_gt, lg_cmp_le, lg_cmp_ge] at *); (try simp (disch := omega) only [Int64.le_iff_toInt_le, Int64.lt_iff_toInt_lt, Int32.le_iff_toInt_le, Int32.lt_iff_toInt_lt, fa_eq, fa_lit, fa_litL, nI_toInt, pk_lT, Int32.toInt_toInt64, jadd64, jin, jnoneT] at *); omega
  · refine j_iload_n X dX10_door_7 rfl ?_
    refine j_iconst X dX10_door_8 0 (by decide) ?_
    refine j_iconst X dX10_door_9 2 (by decide) ?_
    refine s_callSi X hR (c_withinI np _ _ _ _ (0) (2) rfl rfl) rfl u293 u294 u292 u1 hyX10_within (by decide) (by decide) (Nat.le_of_ble_eq_true rfl) dX10_door_10 (fun v_10 m_10 h_10 => ?_)
    obtain ⟨e1, e2⟩ := h_10; have e1 := e1.symm; have e2 := e2.symm; subst e1; subst e2
    refine j_ifb_ne X 19 dX10_door_13 (by decide) (fun c_13 => ?_) (fun c_13 => ?_)
    · refine j_iload_n X dX10_door_19 rfl ?_
      refine j_if_ne X 33 dX10_door_20 (by decide) (fun c_20 => ?_) (fun c_20 => absurd c_20 (by decide))
      refine j_iload_n X dX10_door_33 rfl ?_
      refine j_iconst X dX10_door_34 1 (by decide) ?_
      refine j_icmp_ne X 50 dX10_door_35 (by decide) (fun c_35 => absurd c_35 (by decide)) (fun c_35 => ?_)
      refine j_aload_n X dX10_door_38 rfl ?_
      refine j_getR X 10 5 (by decide) (by decide) rfl u243 (o0 np) (k0 np) _ (p0_5 np) dX10_door_39 ?_
      refine j_getR X 3 1 (by decide) (by decide) rfl u107 (o32 np) (k32 np) _ (p32_1 np) dX10_door_42 ?_
      refine j_iload_n X dX10_door_45 rfl ?_
      refine j_nrm _ (by first | (simp only [fa_lit, pk_mul, nI_add]; done) | (simp only [fa_lit, pk_mul, nI_add]; rfl) | rfl) ?_
      refine j_ialdN X (o34 np) (k34 np) (by rw [l34]; omega) (by rw [l34]; decide) (mem 34) rfl dX10_door_46 ?_
      refine j_goto X 66 dX10_door_47 (by decide) ?_
      refine s_iret X hE hr dX10_door_66 rfl ?_
      first | exact ⟨rfl, rfl⟩ | (exfalso; clear hE hr hR X; (try simp only [lg_cmp_lt, lg_cmp_gt, lg_cmp_le, lg_cmp_ge] at *); (try simp (disch := omega) only [Int64.le_iff_toInt_le, Int64.lt_iff_toInt_lt, Int32.le_iff_toInt_le, Int32.lt_iff_toInt_lt, fa_eq, fa_lit, fa_litL, nI_toInt, pk_lT, Int32.toInt_toInt64, jadd64, jin, jnoneT] at *); omega)
    · exfalso
      clear hE hr hR X
      (try simp only [lg_cmp_lt, lg_cmp_gt, lg_cmp_le, lg_cmp_ge] at *); (try simp (disch := omega) only [Int64.le_iff_toInt_le, Int64.lt_iff_toInt_lt, Int32.le_iff_toInt_le, Int32.lt_iff_toInt_lt, fa_eq, fa_lit, fa_litL, nI_toInt, pk_lT, Int32.toInt_toInt64, jadd64, jin, jnoneT] at *); omega
set_option maxRecDepth 4000 in
set_option maxHeartbeats 1000000 in
theorem c_door2 (np : Nat) (mem : jMem) (d q : Nat) (hd : d < 4) (hq : q ≤ 8) (hc : mem 35 d = nI q) : jPi yX10_door cX10_door 3 .int 3 [.ref 0, .int (nI d), .int 2] np mem (fun v c => v = jb (jAny (fun i => decide (¬ mem (37 + d) i = 0 ∧ ¬ (mem 34 d >>> (mem (42 + d) i &&& 31)) &&& 1 = 1)) q = true) ∧ c = mem) := by
  refine jPi.of (own := RX10) rfl rfl (Nat.le_of_ble_eq_true rfl) (fun G X hR hr hE => ?_)
  refine j_iload_n X dX10_door_0 rfl ?_
  refine s_callSi X hR (c_isDoor np _ _) rfl u612 u610 u611 u1 hyX10_isDoor (by decide) (by decide) (Nat.le_of_ble_eq_true rfl) dX10_door_1 (fun v_1 m_1 h_1 => ?_)
  obtain ⟨e1, e2⟩ := h_1; have e1 := e1.symm; have e2 := e2.symm; subst e1; subst e2
  refine j_ifb_eq X 16 dX10_door_4 (by decide) (fun c_4 => ?_) (fun c_4 => ?_)
  · exfalso
    clear hE hr hR X
    (try simp only [lg_cmp_lt, lg_cmp_gt, lg_cmp_le, lg_cmp_ge] at *); (try simp (disch := omega) only [Int64.le_iff_toInt_le, Int64.lt_iff_toInt_lt, Int32.le_iff_toInt_le, Int32.lt_iff_toInt_lt, fa_eq, fa_lit, fa_litL, nI_toInt, pk_lT, Int32.toInt_toInt64, jadd64, jin, jnoneT] at *); omega
  · refine j_iload_n X dX10_door_7 rfl ?_
    refine j_iconst X dX10_door_8 0 (by decide) ?_
    refine j_iconst X dX10_door_9 2 (by decide) ?_
    refine s_callSi X hR (c_withinI np _ _ _ _ (0) (2) rfl rfl) rfl u293 u294 u292 u1 hyX10_within (by decide) (by decide) (Nat.le_of_ble_eq_true rfl) dX10_door_10 (fun v_10 m_10 h_10 => ?_)
    obtain ⟨e1, e2⟩ := h_10; have e1 := e1.symm; have e2 := e2.symm; subst e1; subst e2
    refine j_ifb_ne X 19 dX10_door_13 (by decide) (fun c_13 => ?_) (fun c_13 => ?_)
    · refine j_iload_n X dX10_door_19 rfl ?_
      refine j_if_ne X 33 dX10_door_20 (by decide) (fun c_20 => ?_) (fun c_20 => absurd c_20 (by decide))
      refine j_iload_n X dX10_door_33 rfl ?_
      refine j_iconst X dX10_door_34 1 (by decide) ?_
      refine j_icmp_ne X 50 dX10_door_35 (by decide) (fun c_35 => ?_) (fun c_35 => absurd c_35 (by decide))
      refine j_aload_n X dX10_door_50 rfl ?_
      refine j_getR X 10 5 (by decide) (by decide) rfl u243 (o0 np) (k0 np) _ (p0_5 np) dX10_door_51 ?_
      refine j_iload_n X dX10_door_54 rfl ?_
      refine s_callVi X hR (c_asksTooMuch np _ d q hd hq hc) rfl 3 (by decide) (o32 np) (k32 np) rfl u764 u761 u762 u763 u6 hyX3_asksTooMuch (by decide) (by decide) (Nat.le_of_ble_eq_true rfl) dX10_door_55 (fun v_55 m_55 h_55 => ?_)
      obtain ⟨e1, e2⟩ := h_55; have e1 := e1.symm; have e2 := e2.symm; subst e1; subst e2
      refine j_ifb_eq X 65 dX10_door_58 (by decide) (fun c_58 => ?_) (fun c_58 => ?_)
      · refine j_iconst X dX10_door_65 0 (by decide) ?_
        refine s_iret X hE hr dX10_door_66 rfl ?_
        first | exact ⟨(jb_t c_58).symm, rfl⟩ | exact ⟨(jb_f c_58).symm, rfl⟩ | (exfalso; clear hE hr hR X; (try simp only [lg_cmp_lt, lg_cmp_gt, lg_cmp_le, lg_cmp_ge] at *); (try simp (disch := omega) only [Int64.le_iff_toInt_le, Int64.lt_iff_toInt_lt, Int32.le_iff_toInt_le, Int32.lt_iff_toInt_lt, fa_eq, fa_lit, fa_litL, nI_toInt, pk_lT, Int32.toInt_toInt64, jadd64, jin, jnoneT] at *); omega)
      · refine j_iconst X dX10_door_61 1 (by decide) ?_
        refine j_goto X 66 dX10_door_62 (by decide) ?_
        refine s_iret X hE hr dX10_door_66 rfl ?_
        first | exact ⟨(jb_t c_58).symm, rfl⟩ | exact ⟨(jb_f c_58).symm, rfl⟩ | (exfalso; clear hE hr hR X; (try simp only [lg_cmp_lt, lg_cmp_gt, lg_cmp_le, lg_cmp_ge] at *); (try simp (disch := omega) only [Int64.le_iff_toInt_le, Int64.lt_iff_toInt_lt, Int32.le_iff_toInt_le, Int32.lt_iff_toInt_lt, fa_eq, fa_lit, fa_litL, nI_toInt, pk_lT, Int32.toInt_toInt64, jadd64, jin, jnoneT] at *); omega)
    · exfalso
      clear hE hr hR X
      (try simp only [lg_cmp_lt, lg_cmp_gt, lg_cmp_le, lg_cmp_ge] at *); (try simp (disch := omega) only [Int64.le_iff_toInt_le, Int64.lt_iff_toInt_lt, Int32.le_iff_toInt_le, Int32.lt_iff_toInt_lt, fa_eq, fa_lit, fa_litL, nI_toInt, pk_lT, Int32.toInt_toInt64, jadd64, jin, jnoneT] at *); omega
set_option maxRecDepth 4000 in
set_option maxHeartbeats 1000000 in
theorem c_isFitted (np : Nat) (mem : jMem) (p w : Nat) (a b : Int32) (hp2 : p < np) (hw : w < 4) : jPi yX3_isFitted cX3_isFitted 4 .boolean 1 [.ref (92 + 2 * p), .int a, .int (nI w), .int b] np mem (fun v c => v = jb (if a = 0 then mem (92 + 2 * p) 1 = nI w else (a = 1 ∨ b ≤ mem (93 + 2 * p) (nI w).toNatClampNeg)) ∧ c = mem) := by
  refine jPi.of (own := RX3) rfl rfl (Nat.le_of_ble_eq_true rfl) (fun G X hR hr hE => ?_)
  refine j_iload_n X dX3_isFitted_0 rfl ?_
  refine j_if_ne X 18 dX3_isFitted_1 (by decide) (fun c_1 => ?_) (fun c_1 => ?_)
  · refine j_iload_n X dX3_isFitted_18 rfl ?_
    refine j_iconst X dX3_isFitted_19 1 (by decide) ?_
    refine j_icmp_eq X 33 dX3_isFitted_20 (by decide) (fun c_20 => ?_) (fun c_20 => ?_)
    · refine j_iconst X dX3_isFitted_33 1 (by decide) ?_
      refine j_goto X 38 dX3_isFitted_34 (by decide) ?_
      refine s_iret X hE hr dX3_isFitted_38 (by first | exact jb_nar | rfl) ?_
      refine ⟨?_, rfl⟩
      first | exact (jb_t (by rw [if_pos c_1]; exact c_9)).symm | exact (jb_f (by rw [if_pos c_1]; exact c_9)).symm | exact (jb_t (by rw [if_neg c_1]; exact Or.inl c_20)).symm | exact (jb_t (by rw [if_neg c_1]; exact Or.inr (Int32.not_lt.mp c_30))).symm | exact (jb_f (by rw [if_neg c_1]; exact fun z => z.elim c_20 (fun z => absurd c_30 (Int32.not_lt.mpr z)))).symm
    · refine j_aload_n X dX3_isFitted_23 rfl ?_
      refine j_getR X 6 6 (by decide) (by decide) rfl u406 (oP np (by omega)) (kP np _) _ (pP_f np _) dX3_isFitted_24 ?_
      refine j_iload_n X dX3_isFitted_27 rfl ?_
      refine j_nrm _ (by first | (simp only [fa_lit, pk_mul, nI_add]; done) | (simp only [fa_lit, pk_mul, nI_add]; rfl) | rfl) ?_
      refine j_ialdN X (oPf np (by omega)) (kPf np _) (by rw [lPf]; omega) (by rw [lPf]; decide) (mem (93 + 2 * p)) rfl dX3_isFitted_28 ?_
      refine j_nrm (mem (93 + 2 * p) (nI w).toNatClampNeg) (by rw [nI_clamp (by omega)]) ?_
      refine j_iload_n X dX3_isFitted_29 rfl ?_
      refine j_icmp_lt X 37 dX3_isFitted_30 (by decide) (fun c_30 => ?_) (fun c_30 => ?_)
      · refine j_iconst X dX3_isFitted_37 0 (by decide) ?_
        refine s_iret X hE hr dX3_isFitted_38 (by first | exact jb_nar | rfl) ?_
        refine ⟨?_, rfl⟩
        first | exact (jb_t (by rw [if_pos c_1]; exact c_9)).symm | exact (jb_f (by rw [if_pos c_1]; exact c_9)).symm | exact (jb_t (by rw [if_neg c_1]; exact Or.inl c_20)).symm | exact (jb_t (by rw [if_neg c_1]; exact Or.inr (Int32.not_lt.mp c_30))).symm | exact (jb_f (by rw [if_neg c_1]; exact fun z => z.elim c_20 (fun z => absurd c_30 (Int32.not_lt.mpr z)))).symm
      · refine j_iconst X dX3_isFitted_33 1 (by decide) ?_
        refine j_goto X 38 dX3_isFitted_34 (by decide) ?_
        refine s_iret X hE hr dX3_isFitted_38 (by first | exact jb_nar | rfl) ?_
        refine ⟨?_, rfl⟩
        first | exact (jb_t (by rw [if_pos c_1]; exact c_9)).symm | exact (jb_f (by rw [if_pos c_1]; exact c_9)).symm | exact (jb_t (by rw [if_neg c_1]; exact Or.inl c_20)).symm | exact (jb_t (by rw [if_neg c_1]; exact Or.inr (Int32.not_lt.mp c_30))).symm | exact (jb_f (by rw [if_neg c_1]; exact fun z => z.elim c_20 (fun z => absurd c_30 (Int32.not_lt.mpr z)))).symm
  · refine j_aload_n X dX3_isFitted_4 rfl ?_
    refine j_getF X 6 1 (by decide) (by decide) rfl u394 (oP np (by omega)) (kP np _) (mem (92 + 2 * p)) rfl dX3_isFitted_5 ?_
    refine j_iload_n X dX3_isFitted_8 rfl ?_
    refine j_icmp_ne X 16 dX3_isFitted_9 (by decide) (fun c_9 => ?_) (fun c_9 => ?_)
    · refine j_iconst X dX3_isFitted_16 0 (by decide) ?_
      refine s_iret X hE hr dX3_isFitted_17 (by first | exact jb_nar | rfl) ?_
      refine ⟨?_, rfl⟩
      first | exact (jb_t (by rw [if_pos c_1]; exact c_9)).symm | exact (jb_f (by rw [if_pos c_1]; exact c_9)).symm | exact (jb_t (by rw [if_neg c_1]; exact Or.inl c_20)).symm | exact (jb_t (by rw [if_neg c_1]; exact Or.inr (Int32.not_lt.mp c_30))).symm | exact (jb_f (by rw [if_neg c_1]; exact fun z => z.elim c_20 (fun z => absurd c_30 (Int32.not_lt.mpr z)))).symm
    · refine j_iconst X dX3_isFitted_12 1 (by decide) ?_
      refine j_goto X 17 dX3_isFitted_13 (by decide) ?_
      refine s_iret X hE hr dX3_isFitted_17 (by first | exact jb_nar | rfl) ?_
      refine ⟨?_, rfl⟩
      first | exact (jb_t (by rw [if_pos c_1]; exact c_9)).symm | exact (jb_f (by rw [if_pos c_1]; exact c_9)).symm | exact (jb_t (by rw [if_neg c_1]; exact Or.inl c_20)).symm | exact (jb_t (by rw [if_neg c_1]; exact Or.inr (Int32.not_lt.mp c_30))).symm | exact (jb_f (by rw [if_neg c_1]; exact fun z => z.elim c_20 (fun z => absurd c_30 (Int32.not_lt.mpr z)))).symm
set_option maxRecDepth 4000 in
set_option maxHeartbeats 1000000 in
theorem c_fittedBy (np : Nat) (mem : jMem) (p d q : Nat) (hp2 : p < np) (hd : d < 4) (hq : q ≤ 8) (hc : mem 35 d = nI q) (hof : ∀ k, k < q → ∃ w, w < 4 ∧ mem (42 + d) k = nI w) : jPi yX3_fittedBy cX3_fittedBy 5 .int 2 [.ref 32, .ref (92 + 2 * p), .int (nI d)] np mem (fun v c => v = jBits (fun k => decide (if mem (37 + d) k = 0 then mem (92 + 2 * p) 1 = mem (42 + d) k else (mem (37 + d) k = 1 ∨ mem (47 + d) k ≤ mem (93 + 2 * p) (mem (42 + d) k).toNatClampNeg))) nI q ∧ c = mem) := by
  refine jPi.of (own := RX3) rfl rfl (Nat.le_of_ble_eq_true rfl) (fun G X hR hr hE => ?_)
  refine j_iconst X dX3_fittedBy_0 0 (by decide) ?_
  refine j_istore_n X dX3_fittedBy_1 (by decide) ?_
  refine j_iconst X dX3_fittedBy_2 0 (by decide) ?_
  refine j_istore X dX3_fittedBy_3 (by decide) ?_
  have lp5 : ∀ (n : Nat) (k : Nat), k ≤ q → q + 1 ≤ k + n → J G RX3 cX3_fittedBy 5 0 0 5 (jlv [some (.ref 32), some (.ref (92 + 2 * p)), some (.int (nI d)), some (.int (jBits (fun k => decide (if mem (37 + d) k = 0 then mem (92 + 2 * p) 1 = mem (42 + d) k else (mem (37 + d) k = 1 ∨ mem (47 + d) k ≤ mem (93 + 2 * p) (mem (42 + d) k).toNatClampNeg))) nI k)), some (.int (nI k))]) [] (jS np) (mem) := by
    intro n
    induction n with
    | zero =>
      intro k hk hn
      exact absurd hn (by omega)
    | succ n ih5 =>
      intro k hk hn
      refine j_iload X dX3_fittedBy_5 rfl ?_
      refine j_aload_n X dX3_fittedBy_7 rfl ?_
      refine j_getR X 3 2 (by decide) (by decide) rfl u108 (o32 np) (k32 np) _ (p32_2 np) dX3_fittedBy_8 ?_
      refine j_iload_n X dX3_fittedBy_11 rfl ?_
      refine j_nrm _ (by first | (simp only [fa_lit, pk_mul, nI_add]; done) | (simp only [fa_lit, pk_mul, nI_add]; rfl) | rfl) ?_
      refine j_ialdN X (o35 np) (k35 np) (by rw [l35]; omega) (by rw [l35]; decide) (mem 35) rfl dX3_fittedBy_12 ?_
      refine j_nrm (nI q) hc ?_
      refine j_icmp_ge X 63 dX3_fittedBy_13 (by decide) (fun c_13 => ?_) (fun c_13 => ?_)
      · obtain rfl : k = q := by clear hE hr hR X; (try simp only [lg_cmp_lt, lg_cmp_gt, lg_cmp_le, lg_cmp_ge] at *); (try simp (disch := omega) only [Int64.le_iff_toInt_le, Int64.lt_iff_toInt_lt, Int32.le_iff_toInt_le, Int32.lt_iff_toInt_lt, fa_eq, fa_lit, fa_litL, nI_toInt, pk_lT, Int32.toInt_toInt64, jadd64, jin, jnoneT] at *); omega
        refine j_iload_n X dX3_fittedBy_63 rfl ?_
        refine s_iret X hE hr dX3_fittedBy_64 rfl ?_
        first | exact ⟨rfl, rfl⟩ | (exfalso; clear hE hr hR X; (try simp only [lg_cmp_lt, lg_cmp_gt, lg_cmp_le, lg_cmp_ge] at *); (try simp (disch := omega) only [Int64.le_iff_toInt_le, Int64.lt_iff_toInt_lt, Int32.le_iff_toInt_le, Int32.lt_iff_toInt_lt, fa_eq, fa_lit, fa_litL, nI_toInt, pk_lT, Int32.toInt_toInt64, jadd64, jin, jnoneT] at *); omega)
      · have hk2 : k < q := by clear hE hr hR X; (try simp only [lg_cmp_lt, lg_cmp_gt, lg_cmp_le, lg_cmp_ge] at *); (try simp (disch := omega) only [Int64.le_iff_toInt_le, Int64.lt_iff_toInt_lt, Int32.le_iff_toInt_le, Int32.lt_iff_toInt_lt, fa_eq, fa_lit, fa_litL, nI_toInt, pk_lT, Int32.toInt_toInt64, jadd64, jin, jnoneT] at *); omega
        obtain ⟨w, hw1, hw2⟩ := hof k hk2
        refine j_aload_n X dX3_fittedBy_16 rfl ?_
        refine j_aload_n X dX3_fittedBy_17 rfl ?_
        refine j_getR X 3 3 (by decide) (by decide) rfl u111 (o32 np) (k32 np) _ (p32_3 np) dX3_fittedBy_18 ?_
        refine j_iload_n X dX3_fittedBy_21 rfl ?_
        refine j_nrm _ (by first | (simp only [fa_lit, pk_mul, nI_add]; done) | (simp only [fa_lit, pk_mul, nI_add]; rfl) | rfl) ?_
        refine j_aaldIN X (o36 np) (k36 np) (by rw [l36]; omega) (by rw [l36]; decide) (p36_r np (by omega)) dX3_fittedBy_22 ?_
        refine j_iload X dX3_fittedBy_23 rfl ?_
        refine j_nrm _ (by first | (simp only [fa_lit, pk_mul, nI_add]; done) | (simp only [fa_lit, pk_mul, nI_add]; rfl) | rfl) ?_
        refine j_ialdN X (o36_r np (by omega)) (k36_r np (by omega)) (by rw [l36_r np (by omega)]; omega) (by rw [l36_r np (by omega)]; decide) (mem (37 + d)) rfl dX3_fittedBy_25 ?_
        refine j_aload_n X dX3_fittedBy_26 rfl ?_
        refine j_getR X 3 4 (by decide) (by decide) rfl u112 (o32 np) (k32 np) _ (p32_4 np) dX3_fittedBy_27 ?_
        refine j_iload_n X dX3_fittedBy_30 rfl ?_
        refine j_nrm _ (by first | (simp only [fa_lit, pk_mul, nI_add]; done) | (simp only [fa_lit, pk_mul, nI_add]; rfl) | rfl) ?_
        refine j_aaldIN X (o41 np) (k41 np) (by rw [l41]; omega) (by rw [l41]; decide) (p41_r np (by omega)) dX3_fittedBy_31 ?_
        refine j_iload X dX3_fittedBy_32 rfl ?_
        refine j_nrm _ (by first | (simp only [fa_lit, pk_mul, nI_add]; done) | (simp only [fa_lit, pk_mul, nI_add]; rfl) | rfl) ?_
        refine j_ialdN X (o41_r np (by omega)) (k41_r np (by omega)) (by rw [l41_r np (by omega)]; omega) (by rw [l41_r np (by omega)]; decide) (mem (42 + d)) rfl dX3_fittedBy_34 ?_
        refine j_nrm (nI w) hw2 ?_
        refine j_aload_n X dX3_fittedBy_35 rfl ?_
        refine j_getR X 3 5 (by decide) (by decide) rfl u113 (o32 np) (k32 np) _ (p32_5 np) dX3_fittedBy_36 ?_
        refine j_iload_n X dX3_fittedBy_39 rfl ?_
        refine j_nrm _ (by first | (simp only [fa_lit, pk_mul, nI_add]; done) | (simp only [fa_lit, pk_mul, nI_add]; rfl) | rfl) ?_
        refine j_aaldIN X (o46 np) (k46 np) (by rw [l46]; omega) (by rw [l46]; decide) (p46_r np (by omega)) dX3_fittedBy_40 ?_
        refine j_iload X dX3_fittedBy_41 rfl ?_
        refine j_nrm _ (by first | (simp only [fa_lit, pk_mul, nI_add]; done) | (simp only [fa_lit, pk_mul, nI_add]; rfl) | rfl) ?_
        refine j_ialdN X (o46_r np (by omega)) (k46_r np (by omega)) (by rw [l46_r np (by omega)]; omega) (by rw [l46_r np (by omega)]; decide) (mem (47 + d)) rfl dX3_fittedBy_43 ?_
        refine s_callSi X hR (c_isFitted np _ p w _ _ hp2 hw1) rfl u787 u785 u786 u6 hyX3_isFitted (by decide) (by decide) (Nat.le_of_ble_eq_true rfl) dX3_fittedBy_44 (fun v_44 m_44 h_44 => ?_)
        obtain ⟨e1, e2⟩ := h_44; have e1 := e1.symm; have e2 := e2.symm; subst e1; subst e2
        refine j_ifb_eq X 57 dX3_fittedBy_47 (by decide) (fun c_47 => ?_) (fun c_47 => ?_)
        · refine j_iinc X dX3_fittedBy_57 rfl 1 rfl ?_
          refine j_goto X 5 dX3_fittedBy_60 (by decide) ?_
          refine j_lv [some (.ref 32), some (.ref (92 + 2 * p)), some (.int (nI d)), some (.int (jBits (fun k => decide (if mem (37 + d) k = 0 then mem (92 + 2 * p) 1 = mem (42 + d) k else (mem (37 + d) k = 1 ∨ mem (47 + d) k ≤ mem (93 + 2 * p) (mem (42 + d) k).toNatClampNeg))) nI (k + 1))), some (.int (nI (k + 1)))] ⟨rfl, rfl, rfl, (congrArg (fun z => some (Value.int z)) (by first | exact jBits_t (g := (fun k => decide (if mem (37 + d) k = 0 then mem (92 + 2 * p) 1 = mem (42 + d) k else (mem (37 + d) k = 1 ∨ mem (47 + d) k ≤ mem (93 + 2 * p) (mem (42 + d) k).toNatClampNeg)))) (decide_eq_true (by rw [hw2]; exact c_47)) | exact jBits_f0 (g := (fun k => decide (if mem (37 + d) k = 0 then mem (92 + 2 * p) 1 = mem (42 + d) k else (mem (37 + d) k = 1 ∨ mem (47 + d) k ≤ mem (93 + 2 * p) (mem (42 + d) k).toNatClampNeg)))) (fun z => c_47 (by have z := of_decide_eq_true z; rw [hw2] at z; exact z)))), (congrArg (fun z => some (Value.int z)) (nI_1 _)), trivial⟩ ?_
          exact ih5 (k + 1) (by omega) (by omega)
        · refine j_iload_n X dX3_fittedBy_50 rfl ?_
          refine j_iconst X dX3_fittedBy_51 1 (by decide) ?_
          refine j_iload X dX3_fittedBy_52 rfl ?_
          refine j_ishl X dX3_fittedBy_54 ?_
          refine j_ior X dX3_fittedBy_55 ?_
          refine j_istore_n X dX3_fittedBy_56 (by decide) ?_
          refine j_iinc X dX3_fittedBy_57 rfl 1 rfl ?_
          refine j_goto X 5 dX3_fittedBy_60 (by decide) ?_
          refine j_lv [some (.ref 32), some (.ref (92 + 2 * p)), some (.int (nI d)), some (.int (jBits (fun k => decide (if mem (37 + d) k = 0 then mem (92 + 2 * p) 1 = mem (42 + d) k else (mem (37 + d) k = 1 ∨ mem (47 + d) k ≤ mem (93 + 2 * p) (mem (42 + d) k).toNatClampNeg))) nI (k + 1))), some (.int (nI (k + 1)))] ⟨rfl, rfl, rfl, (congrArg (fun z => some (Value.int z)) (by first | exact jBits_t (g := (fun k => decide (if mem (37 + d) k = 0 then mem (92 + 2 * p) 1 = mem (42 + d) k else (mem (37 + d) k = 1 ∨ mem (47 + d) k ≤ mem (93 + 2 * p) (mem (42 + d) k).toNatClampNeg)))) (decide_eq_true (by rw [hw2]; exact c_47)) | exact jBits_f0 (g := (fun k => decide (if mem (37 + d) k = 0 then mem (92 + 2 * p) 1 = mem (42 + d) k else (mem (37 + d) k = 1 ∨ mem (47 + d) k ≤ mem (93 + 2 * p) (mem (42 + d) k).toNatClampNeg)))) (fun z => c_47 (by have z := of_decide_eq_true z; rw [hw2] at z; exact z)))), (congrArg (fun z => some (Value.int z)) (nI_1 _)), trivial⟩ ?_
          exact ih5 (k + 1) (by omega) (by omega)
  refine j_lv [some (.ref 32), some (.ref (92 + 2 * p)), some (.int (nI d)), some (.int (jBits (fun k => decide (if mem (37 + d) k = 0 then mem (92 + 2 * p) 1 = mem (42 + d) k else (mem (37 + d) k = 1 ∨ mem (47 + d) k ≤ mem (93 + 2 * p) (mem (42 + d) k).toNatClampNeg))) nI 0)), some (.int (nI 0))] ⟨rfl, rfl, rfl, rfl, rfl, trivial⟩ ?_
  exact lp5 (q + 1) 0 (by omega) (by omega)
set_option maxRecDepth 4000 in
set_option maxHeartbeats 1000000 in
theorem c_addAsk (np : Nat) (mem : jMem) (d q : Nat) (a w b : Int32) (hd : d < 4) (hq : q < 8) (hc : mem 35 d = nI q) : jPv yX3_addAsk cX3_addAsk 6 1 [.ref 32, .int (nI d), .int a, .int w, .int b] np mem (fun c => c = jup (jup (jup (jup mem (37 + d) q a) (42 + d) q w) (47 + d) q b) 35 d (nI (q + 1))) := by
  refine jPv.of (own := RX3) rfl rfl (Nat.le_of_ble_eq_true rfl) (fun G X hR hr hE => ?_)
  refine j_aload_n X dX3_addAsk_0 rfl ?_
  refine j_getR X 3 2 (by decide) (by decide) rfl u108 (o32 np) (k32 np) _ (p32_2 np) dX3_addAsk_1 ?_
  refine j_iload_n X dX3_addAsk_4 rfl ?_
  refine j_nrm _ (by first | (simp only [fa_lit, pk_mul, nI_add]; done) | (simp only [fa_lit, pk_mul, nI_add]; rfl) | rfl) ?_
  refine j_ialdN X (o35 np) (k35 np) (by rw [l35]; omega) (by rw [l35]; decide) (mem 35) rfl dX3_addAsk_5 ?_
  refine j_nrm (nI q) hc ?_
  refine j_istore X dX3_addAsk_6 (by decide) ?_
  refine j_iload X dX3_addAsk_8 rfl ?_
  refine j_bipush X dX3_addAsk_10 8 (by decide) ?_
  refine j_icmp_ge X 56 dX3_addAsk_12 (by decide) (fun c_12 => absurd c_12 (by rw [fa_lit, nI_leI (by omega) (by omega)]; omega)) (fun c_12 => ?_)
  refine j_aload_n X dX3_addAsk_15 rfl ?_
  refine j_getR X 3 3 (by decide) (by decide) rfl u111 (o32 np) (k32 np) _ (p32_3 np) dX3_addAsk_16 ?_
  refine j_iload_n X dX3_addAsk_19 rfl ?_
  refine j_nrm _ (by first | (simp only [fa_lit, pk_mul, nI_add]; done) | (simp only [fa_lit, pk_mul, nI_add]; rfl) | rfl) ?_
  refine j_aaldIN X (o36 np) (k36 np) (by rw [l36]; omega) (by rw [l36]; decide) (p36_r np (by omega)) dX3_addAsk_20 ?_
  refine j_iload X dX3_addAsk_21 rfl ?_
  refine j_iload_n X dX3_addAsk_23 rfl ?_
  refine j_nrm2 _ (by first | (simp only [fa_lit, pk_mul, nI_add]; done) | (simp only [fa_lit, pk_mul, nI_add]; rfl) | rfl) ?_
  refine j_iastN X (o36_r np (by omega)) (k36_r np (by omega)) (by rw [l36_r np (by omega)]; omega) (by rw [l36_r np (by omega)]; decide) dX3_addAsk_24 ?_
  refine j_aload_n X dX3_addAsk_25 rfl ?_
  refine j_getR X 3 4 (by decide) (by decide) rfl u112 (o32 np) (k32 np) _ (p32_4 np) dX3_addAsk_26 ?_
  refine j_iload_n X dX3_addAsk_29 rfl ?_
  refine j_nrm _ (by first | (simp only [fa_lit, pk_mul, nI_add]; done) | (simp only [fa_lit, pk_mul, nI_add]; rfl) | rfl) ?_
  refine j_aaldIN X (o41 np) (k41 np) (by rw [l41]; omega) (by rw [l41]; decide) (p41_r np (by omega)) dX3_addAsk_30 ?_
  refine j_iload X dX3_addAsk_31 rfl ?_
  refine j_iload_n X dX3_addAsk_33 rfl ?_
  refine j_nrm2 _ (by first | (simp only [fa_lit, pk_mul, nI_add]; done) | (simp only [fa_lit, pk_mul, nI_add]; rfl) | rfl) ?_
  refine j_iastN X (o41_r np (by omega)) (k41_r np (by omega)) (by rw [l41_r np (by omega)]; omega) (by rw [l41_r np (by omega)]; decide) dX3_addAsk_34 ?_
  refine j_aload_n X dX3_addAsk_35 rfl ?_
  refine j_getR X 3 5 (by decide) (by decide) rfl u113 (o32 np) (k32 np) _ (p32_5 np) dX3_addAsk_36 ?_
  refine j_iload_n X dX3_addAsk_39 rfl ?_
  refine j_nrm _ (by first | (simp only [fa_lit, pk_mul, nI_add]; done) | (simp only [fa_lit, pk_mul, nI_add]; rfl) | rfl) ?_
  refine j_aaldIN X (o46 np) (k46 np) (by rw [l46]; omega) (by rw [l46]; decide) (p46_r np (by omega)) dX3_addAsk_40 ?_
  refine j_iload X dX3_addAsk_41 rfl ?_
  refine j_iload X dX3_addAsk_43 rfl ?_
  refine j_nrm2 _ (by first | (simp only [fa_lit, pk_mul, nI_add]; done) | (simp only [fa_lit, pk_mul, nI_add]; rfl) | rfl) ?_
  refine j_iastN X (o46_r np (by omega)) (k46_r np (by omega)) (by rw [l46_r np (by omega)]; omega) (by rw [l46_r np (by omega)]; decide) dX3_addAsk_45 ?_
  refine j_aload_n X dX3_addAsk_46 rfl ?_
  refine j_getR X 3 2 (by decide) (by decide) rfl u108 (o32 np) (k32 np) _ (p32_2 np) dX3_addAsk_47 ?_
  refine j_iload_n X dX3_addAsk_50 rfl ?_
  refine j_iload X dX3_addAsk_51 rfl ?_
  refine j_iconst X dX3_addAsk_53 1 (by decide) ?_
  refine j_iadd X dX3_addAsk_54 ?_
  refine j_nrm _ (nI_1 q) ?_
  refine j_nrm2 _ (by first | (simp only [fa_lit, pk_mul, nI_add]; done) | (simp only [fa_lit, pk_mul, nI_add]; rfl) | rfl) ?_
  refine j_iastN X (o35 np) (k35 np) (by rw [l35]; omega) (by rw [l35]; decide) dX3_addAsk_55 ?_
  refine s_vret X hE hr dX3_addAsk_56 ?_
  first | exact rfl | (exfalso; clear hE hr hR X; (try simp only [lg_cmp_lt, lg_cmp_gt, lg_cmp_le, lg_cmp_ge] at *); (try simp (disch := omega) only [Int64.le_iff_toInt_le, Int64.lt_iff_toInt_lt, Int32.le_iff_toInt_le, Int32.lt_iff_toInt_lt, fa_eq, fa_lit, fa_litL, nI_toInt, pk_lT, Int32.toInt_toInt64, jadd64, jin, jnoneT] at *); omega)
set_option maxRecDepth 4000 in
set_option maxHeartbeats 1000000 in
theorem c_add_full (np : Nat) (mem : jMem) (p s : Int32) (hc : mem 55 2 = nI 30) : jPi yX8_add cX8_add 3 .boolean 1 [.ref 55, .int p, .int s] np mem (fun v c => v = 0 ∧ c = mem) := by
  refine jPi.of (own := RX8) rfl rfl (Nat.le_of_ble_eq_true rfl) (fun G X hR hr hE => ?_)
  refine j_aload_n X dX8_add_0 rfl ?_
  refine j_getF X 8 2 (by decide) (by decide) rfl u187 (o55 np) (k55 np) (mem 55) rfl dX8_add_1 ?_
  refine j_nrm (nI 30) hc ?_
  refine j_bipush X dX8_add_4 30 (by decide) ?_
  refine j_icmp_lt X 11 dX8_add_6 (by decide) (fun c_6 => ?_) (fun c_6 => ?_)
  · exact absurd c_6 (by decide)
  · refine j_iconst X dX8_add_9 0 (by decide) ?_
    refine s_iret X hE hr dX8_add_10 (by first | exact jb_nar | rfl) ?_
    first | exact ⟨rfl, rfl⟩ | (exfalso; clear hE hr hR X; (try simp only [lg_cmp_lt, lg_cmp_gt, lg_cmp_le, lg_cmp_ge] at *); (try simp (disch := omega) only [Int64.le_iff_toInt_le, Int64.lt_iff_toInt_lt, Int32.le_iff_toInt_le, Int32.lt_iff_toInt_lt, fa_eq, fa_lit, fa_litL, nI_toInt, pk_lT, Int32.toInt_toInt64, jadd64, jin, jnoneT] at *); omega)
set_option maxRecDepth 4000 in
set_option maxHeartbeats 1000000 in
theorem c_add (np : Nat) (mem : jMem) (p s : Int32) (q : Nat) (hc : mem 55 2 = nI q) (hq : q < 30) : jPi yX8_add cX8_add 3 .boolean 1 [.ref 55, .int p, .int s] np mem (fun v c => v = 1 ∧ c = jup (jup (jup mem 56 q p) 57 q s) 55 2 (nI (q + 1))) := by
  refine jPi.of (own := RX8) rfl rfl (Nat.le_of_ble_eq_true rfl) (fun G X hR hr hE => ?_)
  refine j_aload_n X dX8_add_0 rfl ?_
  refine j_getF X 8 2 (by decide) (by decide) rfl u187 (o55 np) (k55 np) (mem 55) rfl dX8_add_1 ?_
  refine j_nrm (nI q) hc ?_
  refine j_bipush X dX8_add_4 30 (by decide) ?_
  refine j_icmp_lt X 11 dX8_add_6 (by decide) (fun c_6 => ?_) (fun c_6 => ?_)
  · refine j_aload_n X dX8_add_11 rfl ?_
    refine j_getR X 8 0 (by decide) (by decide) rfl u183 (o55 np) (k55 np) _ (p55_0 np) dX8_add_12 ?_
    refine j_aload_n X dX8_add_15 rfl ?_
    refine j_getF X 8 2 (by decide) (by decide) rfl u187 (o55 np) (k55 np) (mem 55) rfl dX8_add_16 ?_
    refine j_nrm (nI q) hc ?_
    refine j_iload_n X dX8_add_19 rfl ?_
    refine j_nrm2 _ (by first | (simp only [fa_lit, pk_mul, nI_add]; done) | (simp only [fa_lit, pk_mul, nI_add]; rfl) | rfl) ?_
    refine j_iastN X (o56 np) (k56 np) (by rw [l56]; omega) (by rw [l56]; decide) dX8_add_20 ?_
    refine j_aload_n X dX8_add_21 rfl ?_
    refine j_getR X 8 1 (by decide) (by decide) rfl u185 (o55 np) (k55 np) _ (p55_1 np) dX8_add_22 ?_
    refine j_aload_n X dX8_add_25 rfl ?_
    refine j_getF X 8 2 (by decide) (by decide) rfl u187 (o55 np) (k55 np) (mem 55) rfl dX8_add_26 ?_
    refine j_nrm (nI q) hc ?_
    refine j_iload_n X dX8_add_29 rfl ?_
    refine j_nrm2 _ (by first | (simp only [fa_lit, pk_mul, nI_add]; done) | (simp only [fa_lit, pk_mul, nI_add]; rfl) | rfl) ?_
    refine j_iastN X (o57 np) (k57 np) (by rw [l57]; omega) (by rw [l57]; decide) dX8_add_30 ?_
    refine j_aload_n X dX8_add_31 rfl ?_
    refine j_dup X dX8_add_32 rfl ?_
    refine j_getF X 8 2 (by decide) (by decide) rfl u187 (o55 np) (k55 np) (mem 55) rfl dX8_add_33 ?_
    refine j_nrm (nI q) hc ?_
    refine j_iconst X dX8_add_36 1 (by decide) ?_
    refine j_iadd X dX8_add_37 ?_
    refine j_nrm _ (nI_1 q) ?_
    refine j_putI X 8 2 (by decide) (by decide) rfl rfl rfl rfl u187 (o55 np) (k55 np) dX8_add_38 ?_
    refine j_iconst X dX8_add_41 1 (by decide) ?_
    refine s_iret X hE hr dX8_add_42 (by first | exact jb_nar | rfl) ?_
    first | exact ⟨rfl, rfl⟩ | (exfalso; clear hE hr hR X; (try simp only [lg_cmp_lt, lg_cmp_gt, lg_cmp_le, lg_cmp_ge] at *); (try simp (disch := omega) only [Int64.le_iff_toInt_le, Int64.lt_iff_toInt_lt, Int32.le_iff_toInt_le, Int32.lt_iff_toInt_lt, fa_eq, fa_lit, fa_litL, nI_toInt, pk_lT, Int32.toInt_toInt64, jadd64, jin, jnoneT] at *); omega)
  · exfalso
    clear hE hr hR X
    (try simp only [lg_cmp_lt, lg_cmp_gt, lg_cmp_le, lg_cmp_ge] at *); (try simp (disch := omega) only [Int64.le_iff_toInt_le, Int64.lt_iff_toInt_lt, Int32.le_iff_toInt_le, Int32.lt_iff_toInt_lt, fa_eq, fa_lit, fa_litL, nI_toInt, pk_lT, Int32.toInt_toInt64, jadd64, jin, jnoneT] at *); omega
set_option maxRecDepth 4000 in
set_option maxHeartbeats 1000000 in
theorem c_seen_d (np : Nat) (mem : jMem) (d p s : Int32) (h : ¬ jin d 0 3) : jPi yX10_seen cX10_seen 4 .int 3 [.ref 0, .int d, .int p, .int s] np mem (fun v c => v = -1000001 ∧ c = mem) := by
  refine jPi.of (own := RX10) rfl rfl (Nat.le_of_ble_eq_true rfl) (fun G X hR hr hE => ?_)
  refine j_iload_n X dX10_seen_0 rfl ?_
  refine s_callSi X hR (c_isDoor np _ _) rfl u612 u610 u611 u1 hyX10_isDoor (by decide) (by decide) (Nat.le_of_ble_eq_true rfl) dX10_seen_1 (fun v_1 m_1 h_1 => ?_)
  obtain ⟨e1, e2⟩ := h_1; have e1 := e1.symm; have e2 := e2.symm; subst e1; subst e2
  refine j_ifb_eq X 22 dX10_seen_4 (by decide) (fun c_4 => ?_) (fun c_4 => ?_)
  · refine j_ldc X dX10_seen_22 u295 ?_
    refine s_iret X hE hr dX10_seen_24 rfl ?_
    first | exact ⟨rfl, rfl⟩ | (exfalso; clear hE hr hR X; (try simp only [lg_cmp_lt, lg_cmp_gt, lg_cmp_le, lg_cmp_ge] at *); (try simp (disch := omega) only [Int64.le_iff_toInt_le, Int64.lt_iff_toInt_lt, Int32.le_iff_toInt_le, Int32.lt_iff_toInt_lt, fa_eq, fa_lit, fa_litL, nI_toInt, pk_lT, Int32.toInt_toInt64, jadd64, jin, jnoneT] at *); omega)
  · exfalso
    clear hE hr hR X
    (try simp only [lg_cmp_lt, lg_cmp_gt, lg_cmp_le, lg_cmp_ge] at *); (try simp (disch := omega) only [Int64.le_iff_toInt_le, Int64.lt_iff_toInt_lt, Int32.le_iff_toInt_le, Int32.lt_iff_toInt_lt, fa_eq, fa_lit, fa_litL, nI_toInt, pk_lT, Int32.toInt_toInt64, jadd64, jin, jnoneT] at *); omega
set_option maxRecDepth 4000 in
set_option maxHeartbeats 1000000 in
theorem c_seen_p (np : Nat) (mem : jMem) (d p s : Int32) (hn : np ≤ 12) (hp : mem 0 12 = nI np) (hd : jin d 0 3) (h : ¬ jin p 0 ((np : Int) - 1)) : jPi yX10_seen cX10_seen 4 .int 3 [.ref 0, .int d, .int p, .int s] np mem (fun v c => v = -1000001 ∧ c = mem) := by
  refine jPi.of (own := RX10) rfl rfl (Nat.le_of_ble_eq_true rfl) (fun G X hR hr hE => ?_)
  refine j_iload_n X dX10_seen_0 rfl ?_
  refine s_callSi X hR (c_isDoor np _ _) rfl u612 u610 u611 u1 hyX10_isDoor (by decide) (by decide) (Nat.le_of_ble_eq_true rfl) dX10_seen_1 (fun v_1 m_1 h_1 => ?_)
  obtain ⟨e1, e2⟩ := h_1; have e1 := e1.symm; have e2 := e2.symm; subst e1; subst e2
  refine j_ifb_eq X 22 dX10_seen_4 (by decide) (fun c_4 => ?_) (fun c_4 => ?_)
  · refine j_ldc X dX10_seen_22 u295 ?_
    refine s_iret X hE hr dX10_seen_24 rfl ?_
    first | exact ⟨rfl, rfl⟩ | (exfalso; clear hE hr hR X; (try simp only [lg_cmp_lt, lg_cmp_gt, lg_cmp_le, lg_cmp_ge] at *); (try simp (disch := omega) only [Int64.le_iff_toInt_le, Int64.lt_iff_toInt_lt, Int32.le_iff_toInt_le, Int32.lt_iff_toInt_lt, fa_eq, fa_lit, fa_litL, nI_toInt, pk_lT, Int32.toInt_toInt64, jadd64, jin, jnoneT] at *); omega)
  · refine j_aload_n X dX10_seen_7 rfl ?_
    refine j_iload_n X dX10_seen_8 rfl ?_
    refine s_callVa X hR (c_paperAt_null np _ p hn hp h) rfl 10 (by decide) (o0 np) (k0 np) rfl u435 u432 u434 qp2 u1 hyX10_paperAt (by decide) (by decide) (Nat.le_of_ble_eq_true rfl) dX10_seen_9 (fun v_9 m_9 h_9 => ?_)
    obtain ⟨e1, e2⟩ := h_9; have e1 := e1.symm; have e2 := e2.symm; subst e1; subst e2
    refine j_ifnullN X 22 dX10_seen_12 (by decide) ?_
    refine j_ldc X dX10_seen_22 u295 ?_
    refine s_iret X hE hr dX10_seen_24 rfl ?_
    first | exact ⟨rfl, rfl⟩ | (exfalso; clear hE hr hR X; (try simp only [lg_cmp_lt, lg_cmp_gt, lg_cmp_le, lg_cmp_ge] at *); (try simp (disch := omega) only [Int64.le_iff_toInt_le, Int64.lt_iff_toInt_lt, Int32.le_iff_toInt_le, Int32.lt_iff_toInt_lt, fa_eq, fa_lit, fa_litL, nI_toInt, pk_lT, Int32.toInt_toInt64, jadd64, jin, jnoneT] at *); omega)
set_option maxRecDepth 4000 in
set_option maxHeartbeats 1000000 in
theorem c_seen_s (np : Nat) (mem : jMem) (p : Nat) (d s : Int32) (hn : np ≤ 12) (hp : mem 0 12 = nI np) (hp2 : p < np) (hd : jin d 0 3) (h : ¬ jin s 0 15) : jPi yX10_seen cX10_seen 4 .int 3 [.ref 0, .int d, .int (nI p), .int s] np mem (fun v c => v = -1000001 ∧ c = mem) := by
  refine jPi.of (own := RX10) rfl rfl (Nat.le_of_ble_eq_true rfl) (fun G X hR hr hE => ?_)
  refine j_iload_n X dX10_seen_0 rfl ?_
  refine s_callSi X hR (c_isDoor np _ _) rfl u612 u610 u611 u1 hyX10_isDoor (by decide) (by decide) (Nat.le_of_ble_eq_true rfl) dX10_seen_1 (fun v_1 m_1 h_1 => ?_)
  obtain ⟨e1, e2⟩ := h_1; have e1 := e1.symm; have e2 := e2.symm; subst e1; subst e2
  refine j_ifb_eq X 22 dX10_seen_4 (by decide) (fun c_4 => ?_) (fun c_4 => ?_)
  · refine j_ldc X dX10_seen_22 u295 ?_
    refine s_iret X hE hr dX10_seen_24 rfl ?_
    first | exact ⟨rfl, rfl⟩ | (exfalso; clear hE hr hR X; (try simp only [lg_cmp_lt, lg_cmp_gt, lg_cmp_le, lg_cmp_ge] at *); (try simp (disch := omega) only [Int64.le_iff_toInt_le, Int64.lt_iff_toInt_lt, Int32.le_iff_toInt_le, Int32.lt_iff_toInt_lt, fa_eq, fa_lit, fa_litL, nI_toInt, pk_lT, Int32.toInt_toInt64, jadd64, jin, jnoneT] at *); omega)
  · refine j_aload_n X dX10_seen_7 rfl ?_
    refine j_iload_n X dX10_seen_8 rfl ?_
    refine s_callVa X hR (c_paperAt np _ p hn hp hp2) rfl 10 (by decide) (o0 np) (k0 np) rfl u435 u432 u434 qp2 u1 hyX10_paperAt (by decide) (by decide) (Nat.le_of_ble_eq_true rfl) dX10_seen_9 (fun v_9 m_9 h_9 => ?_)
    obtain ⟨e1, e2⟩ := h_9; have e1 := e1.symm; have e2 := e2.symm; subst e1; subst e2
    refine j_ifnullR X 22 dX10_seen_12 (by decide) ?_
    refine j_iload_n X dX10_seen_15 rfl ?_
    refine s_callSi X hR (c_isSet np _ _) rfl u484 u482 u483 u1 hyX10_isSet (by decide) (by decide) (Nat.le_of_ble_eq_true rfl) dX10_seen_16 (fun v_16 m_16 h_16 => ?_)
    obtain ⟨e1, e2⟩ := h_16; have e1 := e1.symm; have e2 := e2.symm; subst e1; subst e2
    refine j_ifb_ne X 25 dX10_seen_19 (by decide) (fun c_19 => ?_) (fun c_19 => ?_)
    · exfalso
      clear hE hr hR X
      (try simp only [lg_cmp_lt, lg_cmp_gt, lg_cmp_le, lg_cmp_ge] at *); (try simp (disch := omega) only [Int64.le_iff_toInt_le, Int64.lt_iff_toInt_lt, Int32.le_iff_toInt_le, Int32.lt_iff_toInt_lt, fa_eq, fa_lit, fa_litL, nI_toInt, pk_lT, Int32.toInt_toInt64, jadd64, jin, jnoneT] at *); omega
    · refine j_ldc X dX10_seen_22 u295 ?_
      refine s_iret X hE hr dX10_seen_24 rfl ?_
      first | exact ⟨rfl, rfl⟩ | (exfalso; clear hE hr hR X; (try simp only [lg_cmp_lt, lg_cmp_gt, lg_cmp_le, lg_cmp_ge] at *); (try simp (disch := omega) only [Int64.le_iff_toInt_le, Int64.lt_iff_toInt_lt, Int32.le_iff_toInt_le, Int32.lt_iff_toInt_lt, fa_eq, fa_lit, fa_litL, nI_toInt, pk_lT, Int32.toInt_toInt64, jadd64, jin, jnoneT] at *); omega)
set_option maxRecDepth 4000 in
set_option maxHeartbeats 1000000 in
theorem c_seen_full (np : Nat) (mem : jMem) (p : Nat) (d s : Int32) (hn : np ≤ 12) (hp : mem 0 12 = nI np) (hp2 : p < np) (hd : jin d 0 3) (hs : jin s 0 15) (hc : mem 55 2 = nI 30) : jPi yX10_seen cX10_seen 4 .int 3 [.ref 0, .int d, .int (nI p), .int s] np mem (fun v c => v = -1000003 ∧ c = mem) := by
  refine jPi.of (own := RX10) rfl rfl (Nat.le_of_ble_eq_true rfl) (fun G X hR hr hE => ?_)
  refine j_iload_n X dX10_seen_0 rfl ?_
  refine s_callSi X hR (c_isDoor np _ _) rfl u612 u610 u611 u1 hyX10_isDoor (by decide) (by decide) (Nat.le_of_ble_eq_true rfl) dX10_seen_1 (fun v_1 m_1 h_1 => ?_)
  obtain ⟨e1, e2⟩ := h_1; have e1 := e1.symm; have e2 := e2.symm; subst e1; subst e2
  refine j_ifb_eq X 22 dX10_seen_4 (by decide) (fun c_4 => ?_) (fun c_4 => ?_)
  · exfalso
    clear hE hr hR X
    (try simp only [lg_cmp_lt, lg_cmp_gt, lg_cmp_le, lg_cmp_ge] at *); (try simp (disch := omega) only [Int64.le_iff_toInt_le, Int64.lt_iff_toInt_lt, Int32.le_iff_toInt_le, Int32.lt_iff_toInt_lt, fa_eq, fa_lit, fa_litL, nI_toInt, pk_lT, Int32.toInt_toInt64, jadd64, jin, jnoneT] at *); omega
  · refine j_aload_n X dX10_seen_7 rfl ?_
    refine j_iload_n X dX10_seen_8 rfl ?_
    refine s_callVa X hR (c_paperAt np _ p hn hp hp2) rfl 10 (by decide) (o0 np) (k0 np) rfl u435 u432 u434 qp2 u1 hyX10_paperAt (by decide) (by decide) (Nat.le_of_ble_eq_true rfl) dX10_seen_9 (fun v_9 m_9 h_9 => ?_)
    obtain ⟨e1, e2⟩ := h_9; have e1 := e1.symm; have e2 := e2.symm; subst e1; subst e2
    refine j_ifnullR X 22 dX10_seen_12 (by decide) ?_
    refine j_iload_n X dX10_seen_15 rfl ?_
    refine s_callSi X hR (c_isSet np _ _) rfl u484 u482 u483 u1 hyX10_isSet (by decide) (by decide) (Nat.le_of_ble_eq_true rfl) dX10_seen_16 (fun v_16 m_16 h_16 => ?_)
    obtain ⟨e1, e2⟩ := h_16; have e1 := e1.symm; have e2 := e2.symm; subst e1; subst e2
    refine j_ifb_ne X 25 dX10_seen_19 (by decide) (fun c_19 => ?_) (fun c_19 => ?_)
    · refine j_aload_n X dX10_seen_25 rfl ?_
      refine j_getR X 10 8 (by decide) (by decide) rfl u246 (o0 np) (k0 np) _ (p0_8 np) dX10_seen_26 ?_
      refine j_iload_n X dX10_seen_29 rfl ?_
      refine j_iload_n X dX10_seen_30 rfl ?_
      refine s_callVi X hR (c_add_full np _ _ _ hc) rfl 8 (by decide) (o55 np) (k55 np) rfl u809 u806 u807 u808 u9 hyX8_add (by decide) (by decide) (Nat.le_of_ble_eq_true rfl) dX10_seen_31 (fun v_31 m_31 h_31 => ?_)
      obtain ⟨e1, e2⟩ := h_31; have e1 := e1.symm; have e2 := e2.symm; subst e1; subst e2
      refine j_if_eq X 47 dX10_seen_34 (by decide) (fun c_34 => ?_) (fun c_34 => absurd c_34 (by decide))
      refine j_ldc X dX10_seen_47 u361 ?_
      refine s_iret X hE hr dX10_seen_49 rfl ?_
      first | exact ⟨rfl, rfl⟩ | (exfalso; clear hE hr hR X; (try simp only [lg_cmp_lt, lg_cmp_gt, lg_cmp_le, lg_cmp_ge] at *); (try simp (disch := omega) only [Int64.le_iff_toInt_le, Int64.lt_iff_toInt_lt, Int32.le_iff_toInt_le, Int32.lt_iff_toInt_lt, fa_eq, fa_lit, fa_litL, nI_toInt, pk_lT, Int32.toInt_toInt64, jadd64, jin, jnoneT] at *); omega)
    · exfalso
      clear hE hr hR X
      (try simp only [lg_cmp_lt, lg_cmp_gt, lg_cmp_le, lg_cmp_ge] at *); (try simp (disch := omega) only [Int64.le_iff_toInt_le, Int64.lt_iff_toInt_lt, Int32.le_iff_toInt_le, Int32.lt_iff_toInt_lt, fa_eq, fa_lit, fa_litL, nI_toInt, pk_lT, Int32.toInt_toInt64, jadd64, jin, jnoneT] at *); omega
set_option maxRecDepth 4000 in
set_option maxHeartbeats 1000000 in
theorem c_seen (np : Nat) (mem : jMem) (p q : Nat) (d s : Int32) (hn : np ≤ 12) (hp : mem 0 12 = nI np) (hp2 : p < np) (hd : jin d 0 3) (hs : jin s 0 15) (hc : mem 55 2 = nI q) (hq : q < 30) : jPi yX10_seen cX10_seen 4 .int 3 [.ref 0, .int d, .int (nI p), .int s] np mem (fun v c => v = nI (q + 1) ∧ c = jup (jup (jup mem 56 q (nI p)) 57 q s) 55 2 (nI (q + 1))) := by
  refine jPi.of (own := RX10) rfl rfl (Nat.le_of_ble_eq_true rfl) (fun G X hR hr hE => ?_)
  refine j_iload_n X dX10_seen_0 rfl ?_
  refine s_callSi X hR (c_isDoor np _ _) rfl u612 u610 u611 u1 hyX10_isDoor (by decide) (by decide) (Nat.le_of_ble_eq_true rfl) dX10_seen_1 (fun v_1 m_1 h_1 => ?_)
  obtain ⟨e1, e2⟩ := h_1; have e1 := e1.symm; have e2 := e2.symm; subst e1; subst e2
  refine j_ifb_eq X 22 dX10_seen_4 (by decide) (fun c_4 => ?_) (fun c_4 => ?_)
  · exfalso
    clear hE hr hR X
    (try simp only [lg_cmp_lt, lg_cmp_gt, lg_cmp_le, lg_cmp_ge] at *); (try simp (disch := omega) only [Int64.le_iff_toInt_le, Int64.lt_iff_toInt_lt, Int32.le_iff_toInt_le, Int32.lt_iff_toInt_lt, fa_eq, fa_lit, fa_litL, nI_toInt, pk_lT, Int32.toInt_toInt64, jadd64, jin, jnoneT] at *); omega
  · refine j_aload_n X dX10_seen_7 rfl ?_
    refine j_iload_n X dX10_seen_8 rfl ?_
    refine s_callVa X hR (c_paperAt np _ p hn hp hp2) rfl 10 (by decide) (o0 np) (k0 np) rfl u435 u432 u434 qp2 u1 hyX10_paperAt (by decide) (by decide) (Nat.le_of_ble_eq_true rfl) dX10_seen_9 (fun v_9 m_9 h_9 => ?_)
    obtain ⟨e1, e2⟩ := h_9; have e1 := e1.symm; have e2 := e2.symm; subst e1; subst e2
    refine j_ifnullR X 22 dX10_seen_12 (by decide) ?_
    refine j_iload_n X dX10_seen_15 rfl ?_
    refine s_callSi X hR (c_isSet np _ _) rfl u484 u482 u483 u1 hyX10_isSet (by decide) (by decide) (Nat.le_of_ble_eq_true rfl) dX10_seen_16 (fun v_16 m_16 h_16 => ?_)
    obtain ⟨e1, e2⟩ := h_16; have e1 := e1.symm; have e2 := e2.symm; subst e1; subst e2
    refine j_ifb_ne X 25 dX10_seen_19 (by decide) (fun c_19 => ?_) (fun c_19 => ?_)
    · refine j_aload_n X dX10_seen_25 rfl ?_
      refine j_getR X 10 8 (by decide) (by decide) rfl u246 (o0 np) (k0 np) _ (p0_8 np) dX10_seen_26 ?_
      refine j_iload_n X dX10_seen_29 rfl ?_
      refine j_iload_n X dX10_seen_30 rfl ?_
      refine s_callVi X hR (c_add np _ _ _ q hc hq) rfl 8 (by decide) (o55 np) (k55 np) rfl u809 u806 u807 u808 u9 hyX8_add (by decide) (by decide) (Nat.le_of_ble_eq_true rfl) dX10_seen_31 (fun v_31 m_31 h_31 => ?_)
      obtain ⟨e1, e2⟩ := h_31; have e1 := e1.symm; have e2 := e2.symm; subst e1; subst e2
      refine j_if_eq X 47 dX10_seen_34 (by decide) (fun c_34 => absurd c_34 (by decide)) (fun c_34 => ?_)
      refine j_aload_n X dX10_seen_37 rfl ?_
      refine j_getR X 10 8 (by decide) (by decide) rfl u246 (o0 np) (k0 np) _ (p0_8 np) dX10_seen_38 ?_
      refine j_getF X 8 2 (by decide) (by decide) rfl u188 (o55 np) (k55 np) _ rfl dX10_seen_41 ?_
      refine j_goto X 49 dX10_seen_44 (by decide) ?_
      refine s_iret X hE hr dX10_seen_49 rfl ?_
      exact ⟨rfl, rfl⟩
    · exfalso
      clear hE hr hR X
      (try simp only [lg_cmp_lt, lg_cmp_gt, lg_cmp_le, lg_cmp_ge] at *); (try simp (disch := omega) only [Int64.le_iff_toInt_le, Int64.lt_iff_toInt_lt, Int32.le_iff_toInt_le, Int32.lt_iff_toInt_lt, fa_eq, fa_lit, fa_litL, nI_toInt, pk_lT, Int32.toInt_toInt64, jadd64, jin, jnoneT] at *); omega
set_option maxRecDepth 4000 in
set_option maxHeartbeats 1000000 in
theorem c_looksLike (np : Nat) (mem : jMem) (p sp : Nat) (set : Int32) (hp2 : p < np) (hs2 : sp < np) : jPi yX6_looksLike cX6_looksLike 4 .boolean 2 [.ref (92 + 2 * p), .ref (92 + 2 * sp), .int set] np mem (fun v c => v = jb (mem (92 + 2 * p) 1 = mem (92 + 2 * sp) 1 ∧ (¬ (set >>> (0 &&& 31)) &&& 1 = 1 ∨ mem (93 + 2 * p) 0 = mem (93 + 2 * sp) 0) ∧ (¬ (set >>> (1 &&& 31)) &&& 1 = 1 ∨ mem (93 + 2 * p) 1 = mem (93 + 2 * sp) 1) ∧ (¬ (set >>> (2 &&& 31)) &&& 1 = 1 ∨ mem (93 + 2 * p) 2 = mem (93 + 2 * sp) 2) ∧ (¬ (set >>> (3 &&& 31)) &&& 1 = 1 ∨ mem (93 + 2 * p) 3 = mem (93 + 2 * sp) 3)) ∧ c = mem) := by
  refine jPi.of (own := RX6) rfl rfl (Nat.le_of_ble_eq_true rfl) (fun G X hR hr hE => ?_)
  refine j_aload_n X dX6_looksLike_0 rfl ?_
  refine j_getF X 6 1 (by decide) (by decide) rfl u393 (oP np (by omega)) (kP np _) (mem (92 + 2 * p)) rfl dX6_looksLike_1 ?_
  refine j_aload_n X dX6_looksLike_4 rfl ?_
  refine j_getF X 6 1 (by decide) (by decide) rfl u393 (oP np (by omega)) (kP np _) (mem (92 + 2 * sp)) rfl dX6_looksLike_5 ?_
  refine j_icmp_eq X 13 dX6_looksLike_8 (by decide) (fun c_8 => ?_) (fun c_8 => ?_)
  · refine j_iconst X dX6_looksLike_13 0 (by decide) ?_
    refine j_istore_n X dX6_looksLike_14 (by decide) ?_
    refine j_iload_n X dX6_looksLike_15 rfl ?_
    refine j_iconst X dX6_looksLike_16 4 (by decide) ?_
    refine j_icmp_ge X 51 dX6_looksLike_17 (by decide) (fun c_17 => absurd c_17 (by decide)) (fun c_17 => ?_)
    refine j_iload_n X dX6_looksLike_20 rfl ?_
    refine j_iload_n X dX6_looksLike_21 rfl ?_
    refine s_callNi X hR (c_hasBit np _ _ _) rfl u498 (by decide) u497 u1 hyX10_hasBit (by decide) (by decide) (Nat.le_of_ble_eq_true rfl) dX6_looksLike_22 (fun v_22 m_22 h_22 => ?_)
    obtain ⟨e1, e2⟩ := h_22; have e1 := e1.symm; have e2 := e2.symm; subst e1; subst e2
    refine j_ifb_eq X 45 dX6_looksLike_25 (by decide) (fun c_25 => ?_) (fun c_25 => ?_)
    · refine j_iinc X dX6_looksLike_45 rfl 1 rfl ?_
      refine j_goto X 15 dX6_looksLike_48 (by decide) ?_
      refine j_iload_n X dX6_looksLike_15 rfl ?_
      refine j_iconst X dX6_looksLike_16 4 (by decide) ?_
      refine j_icmp_ge X 51 dX6_looksLike_17 (by decide) (fun c_17 => absurd c_17 (by decide)) (fun c_17 => ?_)
      refine j_iload_n X dX6_looksLike_20 rfl ?_
      refine j_iload_n X dX6_looksLike_21 rfl ?_
      refine s_callNi X hR (c_hasBit np _ _ _) rfl u498 (by decide) u497 u1 hyX10_hasBit (by decide) (by decide) (Nat.le_of_ble_eq_true rfl) dX6_looksLike_22 (fun v_22 m_22 h_22 => ?_)
      obtain ⟨e1, e2⟩ := h_22; have e1 := e1.symm; have e2 := e2.symm; subst e1; subst e2
      refine j_ifb_eq X 45 dX6_looksLike_25 (by decide) (fun c_25 => ?_) (fun c_25 => ?_)
      · refine j_iinc X dX6_looksLike_45 rfl 1 rfl ?_
        refine j_goto X 15 dX6_looksLike_48 (by decide) ?_
        refine j_iload_n X dX6_looksLike_15 rfl ?_
        refine j_iconst X dX6_looksLike_16 4 (by decide) ?_
        refine j_icmp_ge X 51 dX6_looksLike_17 (by decide) (fun c_17 => absurd c_17 (by decide)) (fun c_17 => ?_)
        refine j_iload_n X dX6_looksLike_20 rfl ?_
        refine j_iload_n X dX6_looksLike_21 rfl ?_
        refine s_callNi X hR (c_hasBit np _ _ _) rfl u498 (by decide) u497 u1 hyX10_hasBit (by decide) (by decide) (Nat.le_of_ble_eq_true rfl) dX6_looksLike_22 (fun v_22 m_22 h_22 => ?_)
        obtain ⟨e1, e2⟩ := h_22; have e1 := e1.symm; have e2 := e2.symm; subst e1; subst e2
        refine j_ifb_eq X 45 dX6_looksLike_25 (by decide) (fun c_25 => ?_) (fun c_25 => ?_)
        · refine j_iinc X dX6_looksLike_45 rfl 1 rfl ?_
          refine j_goto X 15 dX6_looksLike_48 (by decide) ?_
          refine j_iload_n X dX6_looksLike_15 rfl ?_
          refine j_iconst X dX6_looksLike_16 4 (by decide) ?_
          refine j_icmp_ge X 51 dX6_looksLike_17 (by decide) (fun c_17 => absurd c_17 (by decide)) (fun c_17 => ?_)
          refine j_iload_n X dX6_looksLike_20 rfl ?_
          refine j_iload_n X dX6_looksLike_21 rfl ?_
          refine s_callNi X hR (c_hasBit np _ _ _) rfl u498 (by decide) u497 u1 hyX10_hasBit (by decide) (by decide) (Nat.le_of_ble_eq_true rfl) dX6_looksLike_22 (fun v_22 m_22 h_22 => ?_)
          obtain ⟨e1, e2⟩ := h_22; have e1 := e1.symm; have e2 := e2.symm; subst e1; subst e2
          refine j_ifb_eq X 45 dX6_looksLike_25 (by decide) (fun c_25 => ?_) (fun c_25 => ?_)
          · refine j_iinc X dX6_looksLike_45 rfl 1 rfl ?_
            refine j_goto X 15 dX6_looksLike_48 (by decide) ?_
            refine j_iload_n X dX6_looksLike_15 rfl ?_
            refine j_iconst X dX6_looksLike_16 4 (by decide) ?_
            refine j_icmp_ge X 51 dX6_looksLike_17 (by decide) (fun c_17 => ?_) (fun c_17 => absurd c_17 (by decide))
            refine j_iconst X dX6_looksLike_51 1 (by decide) ?_
            refine s_iret X hE hr dX6_looksLike_52 (by first | exact jb_nar | rfl) ?_
            refine ⟨?_, rfl⟩
            first | exact (jb_t (by refine ⟨by assumption, ?_, ?_, ?_, ?_⟩ <;> first | exact Or.inl (by assumption) | exact Or.inr (by assumption))).symm | exact (jb_f (fun z => by rcases z with ⟨z0, z1, z2, z3, z4⟩; first | contradiction | (rcases z1 with y | y <;> contradiction) | (rcases z2 with y | y <;> contradiction) | (rcases z3 with y | y <;> contradiction) | (rcases z4 with y | y <;> contradiction))).symm
          · refine j_aload_n X dX6_looksLike_28 rfl ?_
            refine j_getR X 6 6 (by decide) (by decide) rfl u405 (oP np (by omega)) (kP np _) _ (pP_f np _) dX6_looksLike_29 ?_
            refine j_iload_n X dX6_looksLike_32 rfl ?_
            refine j_nrm _ (by first | (simp only [fa_lit, pk_mul, nI_add]; done) | (simp only [fa_lit, pk_mul, nI_add]; rfl) | rfl) ?_
            refine j_ialdN X (oPf np (by omega)) (kPf np _) (by rw [lPf]; omega) (by rw [lPf]; decide) (mem (93 + 2 * p)) rfl dX6_looksLike_33 ?_
            refine j_aload_n X dX6_looksLike_34 rfl ?_
            refine j_getR X 6 6 (by decide) (by decide) rfl u405 (oP np (by omega)) (kP np _) _ (pP_f np _) dX6_looksLike_35 ?_
            refine j_iload_n X dX6_looksLike_38 rfl ?_
            refine j_nrm _ (by first | (simp only [fa_lit, pk_mul, nI_add]; done) | (simp only [fa_lit, pk_mul, nI_add]; rfl) | rfl) ?_
            refine j_ialdN X (oPf np (by omega)) (kPf np _) (by rw [lPf]; omega) (by rw [lPf]; decide) (mem (93 + 2 * sp)) rfl dX6_looksLike_39 ?_
            refine j_icmp_eq X 45 dX6_looksLike_40 (by decide) (fun c_40 => ?_) (fun c_40 => ?_)
            · refine j_iinc X dX6_looksLike_45 rfl 1 rfl ?_
              refine j_goto X 15 dX6_looksLike_48 (by decide) ?_
              refine j_iload_n X dX6_looksLike_15 rfl ?_
              refine j_iconst X dX6_looksLike_16 4 (by decide) ?_
              refine j_icmp_ge X 51 dX6_looksLike_17 (by decide) (fun c_17 => ?_) (fun c_17 => absurd c_17 (by decide))
              refine j_iconst X dX6_looksLike_51 1 (by decide) ?_
              refine s_iret X hE hr dX6_looksLike_52 (by first | exact jb_nar | rfl) ?_
              refine ⟨?_, rfl⟩
              first | exact (jb_t (by refine ⟨by assumption, ?_, ?_, ?_, ?_⟩ <;> first | exact Or.inl (by assumption) | exact Or.inr (by assumption))).symm | exact (jb_f (fun z => by rcases z with ⟨z0, z1, z2, z3, z4⟩; first | contradiction | (rcases z1 with y | y <;> contradiction) | (rcases z2 with y | y <;> contradiction) | (rcases z3 with y | y <;> contradiction) | (rcases z4 with y | y <;> contradiction))).symm
            · refine j_iconst X dX6_looksLike_43 0 (by decide) ?_
              refine s_iret X hE hr dX6_looksLike_44 (by first | exact jb_nar | rfl) ?_
              refine ⟨?_, rfl⟩
              first | exact (jb_t (by refine ⟨by assumption, ?_, ?_, ?_, ?_⟩ <;> first | exact Or.inl (by assumption) | exact Or.inr (by assumption))).symm | exact (jb_f (fun z => by rcases z with ⟨z0, z1, z2, z3, z4⟩; first | contradiction | (rcases z1 with y | y <;> contradiction) | (rcases z2 with y | y <;> contradiction) | (rcases z3 with y | y <;> contradiction) | (rcases z4 with y | y <;> contradiction))).symm
        · refine j_aload_n X dX6_looksLike_28 rfl ?_
          refine j_getR X 6 6 (by decide) (by decide) rfl u405 (oP np (by omega)) (kP np _) _ (pP_f np _) dX6_looksLike_29 ?_
          refine j_iload_n X dX6_looksLike_32 rfl ?_
          refine j_nrm _ (by first | (simp only [fa_lit, pk_mul, nI_add]; done) | (simp only [fa_lit, pk_mul, nI_add]; rfl) | rfl) ?_
          refine j_ialdN X (oPf np (by omega)) (kPf np _) (by rw [lPf]; omega) (by rw [lPf]; decide) (mem (93 + 2 * p)) rfl dX6_looksLike_33 ?_
          refine j_aload_n X dX6_looksLike_34 rfl ?_
          refine j_getR X 6 6 (by decide) (by decide) rfl u405 (oP np (by omega)) (kP np _) _ (pP_f np _) dX6_looksLike_35 ?_
          refine j_iload_n X dX6_looksLike_38 rfl ?_
          refine j_nrm _ (by first | (simp only [fa_lit, pk_mul, nI_add]; done) | (simp only [fa_lit, pk_mul, nI_add]; rfl) | rfl) ?_
          refine j_ialdN X (oPf np (by omega)) (kPf np _) (by rw [lPf]; omega) (by rw [lPf]; decide) (mem (93 + 2 * sp)) rfl dX6_looksLike_39 ?_
          refine j_icmp_eq X 45 dX6_looksLike_40 (by decide) (fun c_40 => ?_) (fun c_40 => ?_)
          · refine j_iinc X dX6_looksLike_45 rfl 1 rfl ?_
            refine j_goto X 15 dX6_looksLike_48 (by decide) ?_
            refine j_iload_n X dX6_looksLike_15 rfl ?_
            refine j_iconst X dX6_looksLike_16 4 (by decide) ?_
            refine j_icmp_ge X 51 dX6_looksLike_17 (by decide) (fun c_17 => absurd c_17 (by decide)) (fun c_17 => ?_)
            refine j_iload_n X dX6_looksLike_20 rfl ?_
            refine j_iload_n X dX6_looksLike_21 rfl ?_
            refine s_callNi X hR (c_hasBit np _ _ _) rfl u498 (by decide) u497 u1 hyX10_hasBit (by decide) (by decide) (Nat.le_of_ble_eq_true rfl) dX6_looksLike_22 (fun v_22 m_22 h_22 => ?_)
            obtain ⟨e1, e2⟩ := h_22; have e1 := e1.symm; have e2 := e2.symm; subst e1; subst e2
            refine j_ifb_eq X 45 dX6_looksLike_25 (by decide) (fun c_25 => ?_) (fun c_25 => ?_)
            · refine j_iinc X dX6_looksLike_45 rfl 1 rfl ?_
              refine j_goto X 15 dX6_looksLike_48 (by decide) ?_
              refine j_iload_n X dX6_looksLike_15 rfl ?_
              refine j_iconst X dX6_looksLike_16 4 (by decide) ?_
              refine j_icmp_ge X 51 dX6_looksLike_17 (by decide) (fun c_17 => ?_) (fun c_17 => absurd c_17 (by decide))
              refine j_iconst X dX6_looksLike_51 1 (by decide) ?_
              refine s_iret X hE hr dX6_looksLike_52 (by first | exact jb_nar | rfl) ?_
              refine ⟨?_, rfl⟩
              first | exact (jb_t (by refine ⟨by assumption, ?_, ?_, ?_, ?_⟩ <;> first | exact Or.inl (by assumption) | exact Or.inr (by assumption))).symm | exact (jb_f (fun z => by rcases z with ⟨z0, z1, z2, z3, z4⟩; first | contradiction | (rcases z1 with y | y <;> contradiction) | (rcases z2 with y | y <;> contradiction) | (rcases z3 with y | y <;> contradiction) | (rcases z4 with y | y <;> contradiction))).symm
            · refine j_aload_n X dX6_looksLike_28 rfl ?_
              refine j_getR X 6 6 (by decide) (by decide) rfl u405 (oP np (by omega)) (kP np _) _ (pP_f np _) dX6_looksLike_29 ?_
              refine j_iload_n X dX6_looksLike_32 rfl ?_
              refine j_nrm _ (by first | (simp only [fa_lit, pk_mul, nI_add]; done) | (simp only [fa_lit, pk_mul, nI_add]; rfl) | rfl) ?_
              refine j_ialdN X (oPf np (by omega)) (kPf np _) (by rw [lPf]; omega) (by rw [lPf]; decide) (mem (93 + 2 * p)) rfl dX6_looksLike_33 ?_
              refine j_aload_n X dX6_looksLike_34 rfl ?_
              refine j_getR X 6 6 (by decide) (by decide) rfl u405 (oP np (by omega)) (kP np _) _ (pP_f np _) dX6_looksLike_35 ?_
              refine j_iload_n X dX6_looksLike_38 rfl ?_
              refine j_nrm _ (by first | (simp only [fa_lit, pk_mul, nI_add]; done) | (simp only [fa_lit, pk_mul, nI_add]; rfl) | rfl) ?_
              refine j_ialdN X (oPf np (by omega)) (kPf np _) (by rw [lPf]; omega) (by rw [lPf]; decide) (mem (93 + 2 * sp)) rfl dX6_looksLike_39 ?_
              refine j_icmp_eq X 45 dX6_looksLike_40 (by decide) (fun c_40 => ?_) (fun c_40 => ?_)
              · refine j_iinc X dX6_looksLike_45 rfl 1 rfl ?_
                refine j_goto X 15 dX6_looksLike_48 (by decide) ?_
                refine j_iload_n X dX6_looksLike_15 rfl ?_
                refine j_iconst X dX6_looksLike_16 4 (by decide) ?_
                refine j_icmp_ge X 51 dX6_looksLike_17 (by decide) (fun c_17 => ?_) (fun c_17 => absurd c_17 (by decide))
                refine j_iconst X dX6_looksLike_51 1 (by decide) ?_
                refine s_iret X hE hr dX6_looksLike_52 (by first | exact jb_nar | rfl) ?_
                refine ⟨?_, rfl⟩
                first | exact (jb_t (by refine ⟨by assumption, ?_, ?_, ?_, ?_⟩ <;> first | exact Or.inl (by assumption) | exact Or.inr (by assumption))).symm | exact (jb_f (fun z => by rcases z with ⟨z0, z1, z2, z3, z4⟩; first | contradiction | (rcases z1 with y | y <;> contradiction) | (rcases z2 with y | y <;> contradiction) | (rcases z3 with y | y <;> contradiction) | (rcases z4 with y | y <;> contradiction))).symm
              · refine j_iconst X dX6_looksLike_43 0 (by decide) ?_
                refine s_iret X hE hr dX6_looksLike_44 (by first | exact jb_nar | rfl) ?_
                refine ⟨?_, rfl⟩
                first | exact (jb_t (by refine ⟨by assumption, ?_, ?_, ?_, ?_⟩ <;> first | exact Or.inl (by assumption) | exact Or.inr (by assumption))).symm | exact (jb_f (fun z => by rcases z with ⟨z0, z1, z2, z3, z4⟩; first | contradiction | (rcases z1 with y | y <;> contradiction) | (rcases z2 with y | y <;> contradiction) | (rcases z3 with y | y <;> contradiction) | (rcases z4 with y | y <;> contradiction))).symm
          · refine j_iconst X dX6_looksLike_43 0 (by decide) ?_
            refine s_iret X hE hr dX6_looksLike_44 (by first | exact jb_nar | rfl) ?_
            refine ⟨?_, rfl⟩
            first | exact (jb_t (by refine ⟨by assumption, ?_, ?_, ?_, ?_⟩ <;> first | exact Or.inl (by assumption) | exact Or.inr (by assumption))).symm | exact (jb_f (fun z => by rcases z with ⟨z0, z1, z2, z3, z4⟩; first | contradiction | (rcases z1 with y | y <;> contradiction) | (rcases z2 with y | y <;> contradiction) | (rcases z3 with y | y <;> contradiction) | (rcases z4 with y | y <;> contradiction))).symm
      · refine j_aload_n X dX6_looksLike_28 rfl ?_
        refine j_getR X 6 6 (by decide) (by decide) rfl u405 (oP np (by omega)) (kP np _) _ (pP_f np _) dX6_looksLike_29 ?_
        refine j_iload_n X dX6_looksLike_32 rfl ?_
        refine j_nrm _ (by first | (simp only [fa_lit, pk_mul, nI_add]; done) | (simp only [fa_lit, pk_mul, nI_add]; rfl) | rfl) ?_
        refine j_ialdN X (oPf np (by omega)) (kPf np _) (by rw [lPf]; omega) (by rw [lPf]; decide) (mem (93 + 2 * p)) rfl dX6_looksLike_33 ?_
        refine j_aload_n X dX6_looksLike_34 rfl ?_
        refine j_getR X 6 6 (by decide) (by decide) rfl u405 (oP np (by omega)) (kP np _) _ (pP_f np _) dX6_looksLike_35 ?_
        refine j_iload_n X dX6_looksLike_38 rfl ?_
        refine j_nrm _ (by first | (simp only [fa_lit, pk_mul, nI_add]; done) | (simp only [fa_lit, pk_mul, nI_add]; rfl) | rfl) ?_
        refine j_ialdN X (oPf np (by omega)) (kPf np _) (by rw [lPf]; omega) (by rw [lPf]; decide) (mem (93 + 2 * sp)) rfl dX6_looksLike_39 ?_
        refine j_icmp_eq X 45 dX6_looksLike_40 (by decide) (fun c_40 => ?_) (fun c_40 => ?_)
        · refine j_iinc X dX6_looksLike_45 rfl 1 rfl ?_
          refine j_goto X 15 dX6_looksLike_48 (by decide) ?_
          refine j_iload_n X dX6_looksLike_15 rfl ?_
          refine j_iconst X dX6_looksLike_16 4 (by decide) ?_
          refine j_icmp_ge X 51 dX6_looksLike_17 (by decide) (fun c_17 => absurd c_17 (by decide)) (fun c_17 => ?_)
          refine j_iload_n X dX6_looksLike_20 rfl ?_
          refine j_iload_n X dX6_looksLike_21 rfl ?_
          refine s_callNi X hR (c_hasBit np _ _ _) rfl u498 (by decide) u497 u1 hyX10_hasBit (by decide) (by decide) (Nat.le_of_ble_eq_true rfl) dX6_looksLike_22 (fun v_22 m_22 h_22 => ?_)
          obtain ⟨e1, e2⟩ := h_22; have e1 := e1.symm; have e2 := e2.symm; subst e1; subst e2
          refine j_ifb_eq X 45 dX6_looksLike_25 (by decide) (fun c_25 => ?_) (fun c_25 => ?_)
          · refine j_iinc X dX6_looksLike_45 rfl 1 rfl ?_
            refine j_goto X 15 dX6_looksLike_48 (by decide) ?_
            refine j_iload_n X dX6_looksLike_15 rfl ?_
            refine j_iconst X dX6_looksLike_16 4 (by decide) ?_
            refine j_icmp_ge X 51 dX6_looksLike_17 (by decide) (fun c_17 => absurd c_17 (by decide)) (fun c_17 => ?_)
            refine j_iload_n X dX6_looksLike_20 rfl ?_
            refine j_iload_n X dX6_looksLike_21 rfl ?_
            refine s_callNi X hR (c_hasBit np _ _ _) rfl u498 (by decide) u497 u1 hyX10_hasBit (by decide) (by decide) (Nat.le_of_ble_eq_true rfl) dX6_looksLike_22 (fun v_22 m_22 h_22 => ?_)
            obtain ⟨e1, e2⟩ := h_22; have e1 := e1.symm; have e2 := e2.symm; subst e1; subst e2
            refine j_ifb_eq X 45 dX6_looksLike_25 (by decide) (fun c_25 => ?_) (fun c_25 => ?_)
            · refine j_iinc X dX6_looksLike_45 rfl 1 rfl ?_
              refine j_goto X 15 dX6_looksLike_48 (by decide) ?_
              refine j_iload_n X dX6_looksLike_15 rfl ?_
              refine j_iconst X dX6_looksLike_16 4 (by decide) ?_
              refine j_icmp_ge X 51 dX6_looksLike_17 (by decide) (fun c_17 => ?_) (fun c_17 => absurd c_17 (by decide))
              refine j_iconst X dX6_looksLike_51 1 (by decide) ?_
              refine s_iret X hE hr dX6_looksLike_52 (by first | exact jb_nar | rfl) ?_
              refine ⟨?_, rfl⟩
              first | exact (jb_t (by refine ⟨by assumption, ?_, ?_, ?_, ?_⟩ <;> first | exact Or.inl (by assumption) | exact Or.inr (by assumption))).symm | exact (jb_f (fun z => by rcases z with ⟨z0, z1, z2, z3, z4⟩; first | contradiction | (rcases z1 with y | y <;> contradiction) | (rcases z2 with y | y <;> contradiction) | (rcases z3 with y | y <;> contradiction) | (rcases z4 with y | y <;> contradiction))).symm
            · refine j_aload_n X dX6_looksLike_28 rfl ?_
              refine j_getR X 6 6 (by decide) (by decide) rfl u405 (oP np (by omega)) (kP np _) _ (pP_f np _) dX6_looksLike_29 ?_
              refine j_iload_n X dX6_looksLike_32 rfl ?_
              refine j_nrm _ (by first | (simp only [fa_lit, pk_mul, nI_add]; done) | (simp only [fa_lit, pk_mul, nI_add]; rfl) | rfl) ?_
              refine j_ialdN X (oPf np (by omega)) (kPf np _) (by rw [lPf]; omega) (by rw [lPf]; decide) (mem (93 + 2 * p)) rfl dX6_looksLike_33 ?_
              refine j_aload_n X dX6_looksLike_34 rfl ?_
              refine j_getR X 6 6 (by decide) (by decide) rfl u405 (oP np (by omega)) (kP np _) _ (pP_f np _) dX6_looksLike_35 ?_
              refine j_iload_n X dX6_looksLike_38 rfl ?_
              refine j_nrm _ (by first | (simp only [fa_lit, pk_mul, nI_add]; done) | (simp only [fa_lit, pk_mul, nI_add]; rfl) | rfl) ?_
              refine j_ialdN X (oPf np (by omega)) (kPf np _) (by rw [lPf]; omega) (by rw [lPf]; decide) (mem (93 + 2 * sp)) rfl dX6_looksLike_39 ?_
              refine j_icmp_eq X 45 dX6_looksLike_40 (by decide) (fun c_40 => ?_) (fun c_40 => ?_)
              · refine j_iinc X dX6_looksLike_45 rfl 1 rfl ?_
                refine j_goto X 15 dX6_looksLike_48 (by decide) ?_
                refine j_iload_n X dX6_looksLike_15 rfl ?_
                refine j_iconst X dX6_looksLike_16 4 (by decide) ?_
                refine j_icmp_ge X 51 dX6_looksLike_17 (by decide) (fun c_17 => ?_) (fun c_17 => absurd c_17 (by decide))
                refine j_iconst X dX6_looksLike_51 1 (by decide) ?_
                refine s_iret X hE hr dX6_looksLike_52 (by first | exact jb_nar | rfl) ?_
                refine ⟨?_, rfl⟩
                first | exact (jb_t (by refine ⟨by assumption, ?_, ?_, ?_, ?_⟩ <;> first | exact Or.inl (by assumption) | exact Or.inr (by assumption))).symm | exact (jb_f (fun z => by rcases z with ⟨z0, z1, z2, z3, z4⟩; first | contradiction | (rcases z1 with y | y <;> contradiction) | (rcases z2 with y | y <;> contradiction) | (rcases z3 with y | y <;> contradiction) | (rcases z4 with y | y <;> contradiction))).symm
              · refine j_iconst X dX6_looksLike_43 0 (by decide) ?_
                refine s_iret X hE hr dX6_looksLike_44 (by first | exact jb_nar | rfl) ?_
                refine ⟨?_, rfl⟩
                first | exact (jb_t (by refine ⟨by assumption, ?_, ?_, ?_, ?_⟩ <;> first | exact Or.inl (by assumption) | exact Or.inr (by assumption))).symm | exact (jb_f (fun z => by rcases z with ⟨z0, z1, z2, z3, z4⟩; first | contradiction | (rcases z1 with y | y <;> contradiction) | (rcases z2 with y | y <;> contradiction) | (rcases z3 with y | y <;> contradiction) | (rcases z4 with y | y <;> contradiction))).symm
          · refine j_aload_n X dX6_looksLike_28 rfl ?_
            refine j_getR X 6 6 (by decide) (by decide) rfl u405 (oP np (by omega)) (kP np _) _ (pP_f np _) dX6_looksLike_29 ?_
            refine j_iload_n X dX6_looksLike_32 rfl ?_
            refine j_nrm _ (by first | (simp only [fa_lit, pk_mul, nI_add]; done) | (simp only [fa_lit, pk_mul, nI_add]; rfl) | rfl) ?_
            refine j_ialdN X (oPf np (by omega)) (kPf np _) (by rw [lPf]; omega) (by rw [lPf]; decide) (mem (93 + 2 * p)) rfl dX6_looksLike_33 ?_
            refine j_aload_n X dX6_looksLike_34 rfl ?_
            refine j_getR X 6 6 (by decide) (by decide) rfl u405 (oP np (by omega)) (kP np _) _ (pP_f np _) dX6_looksLike_35 ?_
            refine j_iload_n X dX6_looksLike_38 rfl ?_
            refine j_nrm _ (by first | (simp only [fa_lit, pk_mul, nI_add]; done) | (simp only [fa_lit, pk_mul, nI_add]; rfl) | rfl) ?_
            refine j_ialdN X (oPf np (by omega)) (kPf np _) (by rw [lPf]; omega) (by rw [lPf]; decide) (mem (93 + 2 * sp)) rfl dX6_looksLike_39 ?_
            refine j_icmp_eq X 45 dX6_looksLike_40 (by decide) (fun c_40 => ?_) (fun c_40 => ?_)
            · refine j_iinc X dX6_looksLike_45 rfl 1 rfl ?_
              refine j_goto X 15 dX6_looksLike_48 (by decide) ?_
              refine j_iload_n X dX6_looksLike_15 rfl ?_
              refine j_iconst X dX6_looksLike_16 4 (by decide) ?_
              refine j_icmp_ge X 51 dX6_looksLike_17 (by decide) (fun c_17 => absurd c_17 (by decide)) (fun c_17 => ?_)
              refine j_iload_n X dX6_looksLike_20 rfl ?_
              refine j_iload_n X dX6_looksLike_21 rfl ?_
              refine s_callNi X hR (c_hasBit np _ _ _) rfl u498 (by decide) u497 u1 hyX10_hasBit (by decide) (by decide) (Nat.le_of_ble_eq_true rfl) dX6_looksLike_22 (fun v_22 m_22 h_22 => ?_)
              obtain ⟨e1, e2⟩ := h_22; have e1 := e1.symm; have e2 := e2.symm; subst e1; subst e2
              refine j_ifb_eq X 45 dX6_looksLike_25 (by decide) (fun c_25 => ?_) (fun c_25 => ?_)
              · refine j_iinc X dX6_looksLike_45 rfl 1 rfl ?_
                refine j_goto X 15 dX6_looksLike_48 (by decide) ?_
                refine j_iload_n X dX6_looksLike_15 rfl ?_
                refine j_iconst X dX6_looksLike_16 4 (by decide) ?_
                refine j_icmp_ge X 51 dX6_looksLike_17 (by decide) (fun c_17 => ?_) (fun c_17 => absurd c_17 (by decide))
                refine j_iconst X dX6_looksLike_51 1 (by decide) ?_
                refine s_iret X hE hr dX6_looksLike_52 (by first | exact jb_nar | rfl) ?_
                refine ⟨?_, rfl⟩
                first | exact (jb_t (by refine ⟨by assumption, ?_, ?_, ?_, ?_⟩ <;> first | exact Or.inl (by assumption) | exact Or.inr (by assumption))).symm | exact (jb_f (fun z => by rcases z with ⟨z0, z1, z2, z3, z4⟩; first | contradiction | (rcases z1 with y | y <;> contradiction) | (rcases z2 with y | y <;> contradiction) | (rcases z3 with y | y <;> contradiction) | (rcases z4 with y | y <;> contradiction))).symm
              · refine j_aload_n X dX6_looksLike_28 rfl ?_
                refine j_getR X 6 6 (by decide) (by decide) rfl u405 (oP np (by omega)) (kP np _) _ (pP_f np _) dX6_looksLike_29 ?_
                refine j_iload_n X dX6_looksLike_32 rfl ?_
                refine j_nrm _ (by first | (simp only [fa_lit, pk_mul, nI_add]; done) | (simp only [fa_lit, pk_mul, nI_add]; rfl) | rfl) ?_
                refine j_ialdN X (oPf np (by omega)) (kPf np _) (by rw [lPf]; omega) (by rw [lPf]; decide) (mem (93 + 2 * p)) rfl dX6_looksLike_33 ?_
                refine j_aload_n X dX6_looksLike_34 rfl ?_
                refine j_getR X 6 6 (by decide) (by decide) rfl u405 (oP np (by omega)) (kP np _) _ (pP_f np _) dX6_looksLike_35 ?_
                refine j_iload_n X dX6_looksLike_38 rfl ?_
                refine j_nrm _ (by first | (simp only [fa_lit, pk_mul, nI_add]; done) | (simp only [fa_lit, pk_mul, nI_add]; rfl) | rfl) ?_
                refine j_ialdN X (oPf np (by omega)) (kPf np _) (by rw [lPf]; omega) (by rw [lPf]; decide) (mem (93 + 2 * sp)) rfl dX6_looksLike_39 ?_
                refine j_icmp_eq X 45 dX6_looksLike_40 (by decide) (fun c_40 => ?_) (fun c_40 => ?_)
                · refine j_iinc X dX6_looksLike_45 rfl 1 rfl ?_
                  refine j_goto X 15 dX6_looksLike_48 (by decide) ?_
                  refine j_iload_n X dX6_looksLike_15 rfl ?_
                  refine j_iconst X dX6_looksLike_16 4 (by decide) ?_
                  refine j_icmp_ge X 51 dX6_looksLike_17 (by decide) (fun c_17 => ?_) (fun c_17 => absurd c_17 (by decide))
                  refine j_iconst X dX6_looksLike_51 1 (by decide) ?_
                  refine s_iret X hE hr dX6_looksLike_52 (by first | exact jb_nar | rfl) ?_
                  refine ⟨?_, rfl⟩
                  first | exact (jb_t (by refine ⟨by assumption, ?_, ?_, ?_, ?_⟩ <;> first | exact Or.inl (by assumption) | exact Or.inr (by assumption))).symm | exact (jb_f (fun z => by rcases z with ⟨z0, z1, z2, z3, z4⟩; first | contradiction | (rcases z1 with y | y <;> contradiction) | (rcases z2 with y | y <;> contradiction) | (rcases z3 with y | y <;> contradiction) | (rcases z4 with y | y <;> contradiction))).symm
                · refine j_iconst X dX6_looksLike_43 0 (by decide) ?_
                  refine s_iret X hE hr dX6_looksLike_44 (by first | exact jb_nar | rfl) ?_
                  refine ⟨?_, rfl⟩
                  first | exact (jb_t (by refine ⟨by assumption, ?_, ?_, ?_, ?_⟩ <;> first | exact Or.inl (by assumption) | exact Or.inr (by assumption))).symm | exact (jb_f (fun z => by rcases z with ⟨z0, z1, z2, z3, z4⟩; first | contradiction | (rcases z1 with y | y <;> contradiction) | (rcases z2 with y | y <;> contradiction) | (rcases z3 with y | y <;> contradiction) | (rcases z4 with y | y <;> contradiction))).symm
            · refine j_iconst X dX6_looksLike_43 0 (by decide) ?_
              refine s_iret X hE hr dX6_looksLike_44 (by first | exact jb_nar | rfl) ?_
              refine ⟨?_, rfl⟩
              first | exact (jb_t (by refine ⟨by assumption, ?_, ?_, ?_, ?_⟩ <;> first | exact Or.inl (by assumption) | exact Or.inr (by assumption))).symm | exact (jb_f (fun z => by rcases z with ⟨z0, z1, z2, z3, z4⟩; first | contradiction | (rcases z1 with y | y <;> contradiction) | (rcases z2 with y | y <;> contradiction) | (rcases z3 with y | y <;> contradiction) | (rcases z4 with y | y <;> contradiction))).symm
        · refine j_iconst X dX6_looksLike_43 0 (by decide) ?_
          refine s_iret X hE hr dX6_looksLike_44 (by first | exact jb_nar | rfl) ?_
          refine ⟨?_, rfl⟩
          first | exact (jb_t (by refine ⟨by assumption, ?_, ?_, ?_, ?_⟩ <;> first | exact Or.inl (by assumption) | exact Or.inr (by assumption))).symm | exact (jb_f (fun z => by rcases z with ⟨z0, z1, z2, z3, z4⟩; first | contradiction | (rcases z1 with y | y <;> contradiction) | (rcases z2 with y | y <;> contradiction) | (rcases z3 with y | y <;> contradiction) | (rcases z4 with y | y <;> contradiction))).symm
    · refine j_aload_n X dX6_looksLike_28 rfl ?_
      refine j_getR X 6 6 (by decide) (by decide) rfl u405 (oP np (by omega)) (kP np _) _ (pP_f np _) dX6_looksLike_29 ?_
      refine j_iload_n X dX6_looksLike_32 rfl ?_
      refine j_nrm _ (by first | (simp only [fa_lit, pk_mul, nI_add]; done) | (simp only [fa_lit, pk_mul, nI_add]; rfl) | rfl) ?_
      refine j_ialdN X (oPf np (by omega)) (kPf np _) (by rw [lPf]; omega) (by rw [lPf]; decide) (mem (93 + 2 * p)) rfl dX6_looksLike_33 ?_
      refine j_aload_n X dX6_looksLike_34 rfl ?_
      refine j_getR X 6 6 (by decide) (by decide) rfl u405 (oP np (by omega)) (kP np _) _ (pP_f np _) dX6_looksLike_35 ?_
      refine j_iload_n X dX6_looksLike_38 rfl ?_
      refine j_nrm _ (by first | (simp only [fa_lit, pk_mul, nI_add]; done) | (simp only [fa_lit, pk_mul, nI_add]; rfl) | rfl) ?_
      refine j_ialdN X (oPf np (by omega)) (kPf np _) (by rw [lPf]; omega) (by rw [lPf]; decide) (mem (93 + 2 * sp)) rfl dX6_looksLike_39 ?_
      refine j_icmp_eq X 45 dX6_looksLike_40 (by decide) (fun c_40 => ?_) (fun c_40 => ?_)
      · refine j_iinc X dX6_looksLike_45 rfl 1 rfl ?_
        refine j_goto X 15 dX6_looksLike_48 (by decide) ?_
        refine j_iload_n X dX6_looksLike_15 rfl ?_
        refine j_iconst X dX6_looksLike_16 4 (by decide) ?_
        refine j_icmp_ge X 51 dX6_looksLike_17 (by decide) (fun c_17 => absurd c_17 (by decide)) (fun c_17 => ?_)
        refine j_iload_n X dX6_looksLike_20 rfl ?_
        refine j_iload_n X dX6_looksLike_21 rfl ?_
        refine s_callNi X hR (c_hasBit np _ _ _) rfl u498 (by decide) u497 u1 hyX10_hasBit (by decide) (by decide) (Nat.le_of_ble_eq_true rfl) dX6_looksLike_22 (fun v_22 m_22 h_22 => ?_)
        obtain ⟨e1, e2⟩ := h_22; have e1 := e1.symm; have e2 := e2.symm; subst e1; subst e2
        refine j_ifb_eq X 45 dX6_looksLike_25 (by decide) (fun c_25 => ?_) (fun c_25 => ?_)
        · refine j_iinc X dX6_looksLike_45 rfl 1 rfl ?_
          refine j_goto X 15 dX6_looksLike_48 (by decide) ?_
          refine j_iload_n X dX6_looksLike_15 rfl ?_
          refine j_iconst X dX6_looksLike_16 4 (by decide) ?_
          refine j_icmp_ge X 51 dX6_looksLike_17 (by decide) (fun c_17 => absurd c_17 (by decide)) (fun c_17 => ?_)
          refine j_iload_n X dX6_looksLike_20 rfl ?_
          refine j_iload_n X dX6_looksLike_21 rfl ?_
          refine s_callNi X hR (c_hasBit np _ _ _) rfl u498 (by decide) u497 u1 hyX10_hasBit (by decide) (by decide) (Nat.le_of_ble_eq_true rfl) dX6_looksLike_22 (fun v_22 m_22 h_22 => ?_)
          obtain ⟨e1, e2⟩ := h_22; have e1 := e1.symm; have e2 := e2.symm; subst e1; subst e2
          refine j_ifb_eq X 45 dX6_looksLike_25 (by decide) (fun c_25 => ?_) (fun c_25 => ?_)
          · refine j_iinc X dX6_looksLike_45 rfl 1 rfl ?_
            refine j_goto X 15 dX6_looksLike_48 (by decide) ?_
            refine j_iload_n X dX6_looksLike_15 rfl ?_
            refine j_iconst X dX6_looksLike_16 4 (by decide) ?_
            refine j_icmp_ge X 51 dX6_looksLike_17 (by decide) (fun c_17 => absurd c_17 (by decide)) (fun c_17 => ?_)
            refine j_iload_n X dX6_looksLike_20 rfl ?_
            refine j_iload_n X dX6_looksLike_21 rfl ?_
            refine s_callNi X hR (c_hasBit np _ _ _) rfl u498 (by decide) u497 u1 hyX10_hasBit (by decide) (by decide) (Nat.le_of_ble_eq_true rfl) dX6_looksLike_22 (fun v_22 m_22 h_22 => ?_)
            obtain ⟨e1, e2⟩ := h_22; have e1 := e1.symm; have e2 := e2.symm; subst e1; subst e2
            refine j_ifb_eq X 45 dX6_looksLike_25 (by decide) (fun c_25 => ?_) (fun c_25 => ?_)
            · refine j_iinc X dX6_looksLike_45 rfl 1 rfl ?_
              refine j_goto X 15 dX6_looksLike_48 (by decide) ?_
              refine j_iload_n X dX6_looksLike_15 rfl ?_
              refine j_iconst X dX6_looksLike_16 4 (by decide) ?_
              refine j_icmp_ge X 51 dX6_looksLike_17 (by decide) (fun c_17 => ?_) (fun c_17 => absurd c_17 (by decide))
              refine j_iconst X dX6_looksLike_51 1 (by decide) ?_
              refine s_iret X hE hr dX6_looksLike_52 (by first | exact jb_nar | rfl) ?_
              refine ⟨?_, rfl⟩
              first | exact (jb_t (by refine ⟨by assumption, ?_, ?_, ?_, ?_⟩ <;> first | exact Or.inl (by assumption) | exact Or.inr (by assumption))).symm | exact (jb_f (fun z => by rcases z with ⟨z0, z1, z2, z3, z4⟩; first | contradiction | (rcases z1 with y | y <;> contradiction) | (rcases z2 with y | y <;> contradiction) | (rcases z3 with y | y <;> contradiction) | (rcases z4 with y | y <;> contradiction))).symm
            · refine j_aload_n X dX6_looksLike_28 rfl ?_
              refine j_getR X 6 6 (by decide) (by decide) rfl u405 (oP np (by omega)) (kP np _) _ (pP_f np _) dX6_looksLike_29 ?_
              refine j_iload_n X dX6_looksLike_32 rfl ?_
              refine j_nrm _ (by first | (simp only [fa_lit, pk_mul, nI_add]; done) | (simp only [fa_lit, pk_mul, nI_add]; rfl) | rfl) ?_
              refine j_ialdN X (oPf np (by omega)) (kPf np _) (by rw [lPf]; omega) (by rw [lPf]; decide) (mem (93 + 2 * p)) rfl dX6_looksLike_33 ?_
              refine j_aload_n X dX6_looksLike_34 rfl ?_
              refine j_getR X 6 6 (by decide) (by decide) rfl u405 (oP np (by omega)) (kP np _) _ (pP_f np _) dX6_looksLike_35 ?_
              refine j_iload_n X dX6_looksLike_38 rfl ?_
              refine j_nrm _ (by first | (simp only [fa_lit, pk_mul, nI_add]; done) | (simp only [fa_lit, pk_mul, nI_add]; rfl) | rfl) ?_
              refine j_ialdN X (oPf np (by omega)) (kPf np _) (by rw [lPf]; omega) (by rw [lPf]; decide) (mem (93 + 2 * sp)) rfl dX6_looksLike_39 ?_
              refine j_icmp_eq X 45 dX6_looksLike_40 (by decide) (fun c_40 => ?_) (fun c_40 => ?_)
              · refine j_iinc X dX6_looksLike_45 rfl 1 rfl ?_
                refine j_goto X 15 dX6_looksLike_48 (by decide) ?_
                refine j_iload_n X dX6_looksLike_15 rfl ?_
                refine j_iconst X dX6_looksLike_16 4 (by decide) ?_
                refine j_icmp_ge X 51 dX6_looksLike_17 (by decide) (fun c_17 => ?_) (fun c_17 => absurd c_17 (by decide))
                refine j_iconst X dX6_looksLike_51 1 (by decide) ?_
                refine s_iret X hE hr dX6_looksLike_52 (by first | exact jb_nar | rfl) ?_
                refine ⟨?_, rfl⟩
                first | exact (jb_t (by refine ⟨by assumption, ?_, ?_, ?_, ?_⟩ <;> first | exact Or.inl (by assumption) | exact Or.inr (by assumption))).symm | exact (jb_f (fun z => by rcases z with ⟨z0, z1, z2, z3, z4⟩; first | contradiction | (rcases z1 with y | y <;> contradiction) | (rcases z2 with y | y <;> contradiction) | (rcases z3 with y | y <;> contradiction) | (rcases z4 with y | y <;> contradiction))).symm
              · refine j_iconst X dX6_looksLike_43 0 (by decide) ?_
                refine s_iret X hE hr dX6_looksLike_44 (by first | exact jb_nar | rfl) ?_
                refine ⟨?_, rfl⟩
                first | exact (jb_t (by refine ⟨by assumption, ?_, ?_, ?_, ?_⟩ <;> first | exact Or.inl (by assumption) | exact Or.inr (by assumption))).symm | exact (jb_f (fun z => by rcases z with ⟨z0, z1, z2, z3, z4⟩; first | contradiction | (rcases z1 with y | y <;> contradiction) | (rcases z2 with y | y <;> contradiction) | (rcases z3 with y | y <;> contradiction) | (rcases z4 with y | y <;> contradiction))).symm
          · refine j_aload_n X dX6_looksLike_28 rfl ?_
            refine j_getR X 6 6 (by decide) (by decide) rfl u405 (oP np (by omega)) (kP np _) _ (pP_f np _) dX6_looksLike_29 ?_
            refine j_iload_n X dX6_looksLike_32 rfl ?_
            refine j_nrm _ (by first | (simp only [fa_lit, pk_mul, nI_add]; done) | (simp only [fa_lit, pk_mul, nI_add]; rfl) | rfl) ?_
            refine j_ialdN X (oPf np (by omega)) (kPf np _) (by rw [lPf]; omega) (by rw [lPf]; decide) (mem (93 + 2 * p)) rfl dX6_looksLike_33 ?_
            refine j_aload_n X dX6_looksLike_34 rfl ?_
            refine j_getR X 6 6 (by decide) (by decide) rfl u405 (oP np (by omega)) (kP np _) _ (pP_f np _) dX6_looksLike_35 ?_
            refine j_iload_n X dX6_looksLike_38 rfl ?_
            refine j_nrm _ (by first | (simp only [fa_lit, pk_mul, nI_add]; done) | (simp only [fa_lit, pk_mul, nI_add]; rfl) | rfl) ?_
            refine j_ialdN X (oPf np (by omega)) (kPf np _) (by rw [lPf]; omega) (by rw [lPf]; decide) (mem (93 + 2 * sp)) rfl dX6_looksLike_39 ?_
            refine j_icmp_eq X 45 dX6_looksLike_40 (by decide) (fun c_40 => ?_) (fun c_40 => ?_)
            · refine j_iinc X dX6_looksLike_45 rfl 1 rfl ?_
              refine j_goto X 15 dX6_looksLike_48 (by decide) ?_
              refine j_iload_n X dX6_looksLike_15 rfl ?_
              refine j_iconst X dX6_looksLike_16 4 (by decide) ?_
              refine j_icmp_ge X 51 dX6_looksLike_17 (by decide) (fun c_17 => absurd c_17 (by decide)) (fun c_17 => ?_)
              refine j_iload_n X dX6_looksLike_20 rfl ?_
              refine j_iload_n X dX6_looksLike_21 rfl ?_
              refine s_callNi X hR (c_hasBit np _ _ _) rfl u498 (by decide) u497 u1 hyX10_hasBit (by decide) (by decide) (Nat.le_of_ble_eq_true rfl) dX6_looksLike_22 (fun v_22 m_22 h_22 => ?_)
              obtain ⟨e1, e2⟩ := h_22; have e1 := e1.symm; have e2 := e2.symm; subst e1; subst e2
              refine j_ifb_eq X 45 dX6_looksLike_25 (by decide) (fun c_25 => ?_) (fun c_25 => ?_)
              · refine j_iinc X dX6_looksLike_45 rfl 1 rfl ?_
                refine j_goto X 15 dX6_looksLike_48 (by decide) ?_
                refine j_iload_n X dX6_looksLike_15 rfl ?_
                refine j_iconst X dX6_looksLike_16 4 (by decide) ?_
                refine j_icmp_ge X 51 dX6_looksLike_17 (by decide) (fun c_17 => ?_) (fun c_17 => absurd c_17 (by decide))
                refine j_iconst X dX6_looksLike_51 1 (by decide) ?_
                refine s_iret X hE hr dX6_looksLike_52 (by first | exact jb_nar | rfl) ?_
                refine ⟨?_, rfl⟩
                first | exact (jb_t (by refine ⟨by assumption, ?_, ?_, ?_, ?_⟩ <;> first | exact Or.inl (by assumption) | exact Or.inr (by assumption))).symm | exact (jb_f (fun z => by rcases z with ⟨z0, z1, z2, z3, z4⟩; first | contradiction | (rcases z1 with y | y <;> contradiction) | (rcases z2 with y | y <;> contradiction) | (rcases z3 with y | y <;> contradiction) | (rcases z4 with y | y <;> contradiction))).symm
              · refine j_aload_n X dX6_looksLike_28 rfl ?_
                refine j_getR X 6 6 (by decide) (by decide) rfl u405 (oP np (by omega)) (kP np _) _ (pP_f np _) dX6_looksLike_29 ?_
                refine j_iload_n X dX6_looksLike_32 rfl ?_
                refine j_nrm _ (by first | (simp only [fa_lit, pk_mul, nI_add]; done) | (simp only [fa_lit, pk_mul, nI_add]; rfl) | rfl) ?_
                refine j_ialdN X (oPf np (by omega)) (kPf np _) (by rw [lPf]; omega) (by rw [lPf]; decide) (mem (93 + 2 * p)) rfl dX6_looksLike_33 ?_
                refine j_aload_n X dX6_looksLike_34 rfl ?_
                refine j_getR X 6 6 (by decide) (by decide) rfl u405 (oP np (by omega)) (kP np _) _ (pP_f np _) dX6_looksLike_35 ?_
                refine j_iload_n X dX6_looksLike_38 rfl ?_
                refine j_nrm _ (by first | (simp only [fa_lit, pk_mul, nI_add]; done) | (simp only [fa_lit, pk_mul, nI_add]; rfl) | rfl) ?_
                refine j_ialdN X (oPf np (by omega)) (kPf np _) (by rw [lPf]; omega) (by rw [lPf]; decide) (mem (93 + 2 * sp)) rfl dX6_looksLike_39 ?_
                refine j_icmp_eq X 45 dX6_looksLike_40 (by decide) (fun c_40 => ?_) (fun c_40 => ?_)
                · refine j_iinc X dX6_looksLike_45 rfl 1 rfl ?_
                  refine j_goto X 15 dX6_looksLike_48 (by decide) ?_
                  refine j_iload_n X dX6_looksLike_15 rfl ?_
                  refine j_iconst X dX6_looksLike_16 4 (by decide) ?_
                  refine j_icmp_ge X 51 dX6_looksLike_17 (by decide) (fun c_17 => ?_) (fun c_17 => absurd c_17 (by decide))
                  refine j_iconst X dX6_looksLike_51 1 (by decide) ?_
                  refine s_iret X hE hr dX6_looksLike_52 (by first | exact jb_nar | rfl) ?_
                  refine ⟨?_, rfl⟩
                  first | exact (jb_t (by refine ⟨by assumption, ?_, ?_, ?_, ?_⟩ <;> first | exact Or.inl (by assumption) | exact Or.inr (by assumption))).symm | exact (jb_f (fun z => by rcases z with ⟨z0, z1, z2, z3, z4⟩; first | contradiction | (rcases z1 with y | y <;> contradiction) | (rcases z2 with y | y <;> contradiction) | (rcases z3 with y | y <;> contradiction) | (rcases z4 with y | y <;> contradiction))).symm
                · refine j_iconst X dX6_looksLike_43 0 (by decide) ?_
                  refine s_iret X hE hr dX6_looksLike_44 (by first | exact jb_nar | rfl) ?_
                  refine ⟨?_, rfl⟩
                  first | exact (jb_t (by refine ⟨by assumption, ?_, ?_, ?_, ?_⟩ <;> first | exact Or.inl (by assumption) | exact Or.inr (by assumption))).symm | exact (jb_f (fun z => by rcases z with ⟨z0, z1, z2, z3, z4⟩; first | contradiction | (rcases z1 with y | y <;> contradiction) | (rcases z2 with y | y <;> contradiction) | (rcases z3 with y | y <;> contradiction) | (rcases z4 with y | y <;> contradiction))).symm
            · refine j_iconst X dX6_looksLike_43 0 (by decide) ?_
              refine s_iret X hE hr dX6_looksLike_44 (by first | exact jb_nar | rfl) ?_
              refine ⟨?_, rfl⟩
              first | exact (jb_t (by refine ⟨by assumption, ?_, ?_, ?_, ?_⟩ <;> first | exact Or.inl (by assumption) | exact Or.inr (by assumption))).symm | exact (jb_f (fun z => by rcases z with ⟨z0, z1, z2, z3, z4⟩; first | contradiction | (rcases z1 with y | y <;> contradiction) | (rcases z2 with y | y <;> contradiction) | (rcases z3 with y | y <;> contradiction) | (rcases z4 with y | y <;> contradiction))).symm
        · refine j_aload_n X dX6_looksLike_28 rfl ?_
          refine j_getR X 6 6 (by decide) (by decide) rfl u405 (oP np (by omega)) (kP np _) _ (pP_f np _) dX6_looksLike_29 ?_
          refine j_iload_n X dX6_looksLike_32 rfl ?_
          refine j_nrm _ (by first | (simp only [fa_lit, pk_mul, nI_add]; done) | (simp only [fa_lit, pk_mul, nI_add]; rfl) | rfl) ?_
          refine j_ialdN X (oPf np (by omega)) (kPf np _) (by rw [lPf]; omega) (by rw [lPf]; decide) (mem (93 + 2 * p)) rfl dX6_looksLike_33 ?_
          refine j_aload_n X dX6_looksLike_34 rfl ?_
          refine j_getR X 6 6 (by decide) (by decide) rfl u405 (oP np (by omega)) (kP np _) _ (pP_f np _) dX6_looksLike_35 ?_
          refine j_iload_n X dX6_looksLike_38 rfl ?_
          refine j_nrm _ (by first | (simp only [fa_lit, pk_mul, nI_add]; done) | (simp only [fa_lit, pk_mul, nI_add]; rfl) | rfl) ?_
          refine j_ialdN X (oPf np (by omega)) (kPf np _) (by rw [lPf]; omega) (by rw [lPf]; decide) (mem (93 + 2 * sp)) rfl dX6_looksLike_39 ?_
          refine j_icmp_eq X 45 dX6_looksLike_40 (by decide) (fun c_40 => ?_) (fun c_40 => ?_)
          · refine j_iinc X dX6_looksLike_45 rfl 1 rfl ?_
            refine j_goto X 15 dX6_looksLike_48 (by decide) ?_
            refine j_iload_n X dX6_looksLike_15 rfl ?_
            refine j_iconst X dX6_looksLike_16 4 (by decide) ?_
            refine j_icmp_ge X 51 dX6_looksLike_17 (by decide) (fun c_17 => absurd c_17 (by decide)) (fun c_17 => ?_)
            refine j_iload_n X dX6_looksLike_20 rfl ?_
            refine j_iload_n X dX6_looksLike_21 rfl ?_
            refine s_callNi X hR (c_hasBit np _ _ _) rfl u498 (by decide) u497 u1 hyX10_hasBit (by decide) (by decide) (Nat.le_of_ble_eq_true rfl) dX6_looksLike_22 (fun v_22 m_22 h_22 => ?_)
            obtain ⟨e1, e2⟩ := h_22; have e1 := e1.symm; have e2 := e2.symm; subst e1; subst e2
            refine j_ifb_eq X 45 dX6_looksLike_25 (by decide) (fun c_25 => ?_) (fun c_25 => ?_)
            · refine j_iinc X dX6_looksLike_45 rfl 1 rfl ?_
              refine j_goto X 15 dX6_looksLike_48 (by decide) ?_
              refine j_iload_n X dX6_looksLike_15 rfl ?_
              refine j_iconst X dX6_looksLike_16 4 (by decide) ?_
              refine j_icmp_ge X 51 dX6_looksLike_17 (by decide) (fun c_17 => absurd c_17 (by decide)) (fun c_17 => ?_)
              refine j_iload_n X dX6_looksLike_20 rfl ?_
              refine j_iload_n X dX6_looksLike_21 rfl ?_
              refine s_callNi X hR (c_hasBit np _ _ _) rfl u498 (by decide) u497 u1 hyX10_hasBit (by decide) (by decide) (Nat.le_of_ble_eq_true rfl) dX6_looksLike_22 (fun v_22 m_22 h_22 => ?_)
              obtain ⟨e1, e2⟩ := h_22; have e1 := e1.symm; have e2 := e2.symm; subst e1; subst e2
              refine j_ifb_eq X 45 dX6_looksLike_25 (by decide) (fun c_25 => ?_) (fun c_25 => ?_)
              · refine j_iinc X dX6_looksLike_45 rfl 1 rfl ?_
                refine j_goto X 15 dX6_looksLike_48 (by decide) ?_
                refine j_iload_n X dX6_looksLike_15 rfl ?_
                refine j_iconst X dX6_looksLike_16 4 (by decide) ?_
                refine j_icmp_ge X 51 dX6_looksLike_17 (by decide) (fun c_17 => ?_) (fun c_17 => absurd c_17 (by decide))
                refine j_iconst X dX6_looksLike_51 1 (by decide) ?_
                refine s_iret X hE hr dX6_looksLike_52 (by first | exact jb_nar | rfl) ?_
                refine ⟨?_, rfl⟩
                first | exact (jb_t (by refine ⟨by assumption, ?_, ?_, ?_, ?_⟩ <;> first | exact Or.inl (by assumption) | exact Or.inr (by assumption))).symm | exact (jb_f (fun z => by rcases z with ⟨z0, z1, z2, z3, z4⟩; first | contradiction | (rcases z1 with y | y <;> contradiction) | (rcases z2 with y | y <;> contradiction) | (rcases z3 with y | y <;> contradiction) | (rcases z4 with y | y <;> contradiction))).symm
              · refine j_aload_n X dX6_looksLike_28 rfl ?_
                refine j_getR X 6 6 (by decide) (by decide) rfl u405 (oP np (by omega)) (kP np _) _ (pP_f np _) dX6_looksLike_29 ?_
                refine j_iload_n X dX6_looksLike_32 rfl ?_
                refine j_nrm _ (by first | (simp only [fa_lit, pk_mul, nI_add]; done) | (simp only [fa_lit, pk_mul, nI_add]; rfl) | rfl) ?_
                refine j_ialdN X (oPf np (by omega)) (kPf np _) (by rw [lPf]; omega) (by rw [lPf]; decide) (mem (93 + 2 * p)) rfl dX6_looksLike_33 ?_
                refine j_aload_n X dX6_looksLike_34 rfl ?_
                refine j_getR X 6 6 (by decide) (by decide) rfl u405 (oP np (by omega)) (kP np _) _ (pP_f np _) dX6_looksLike_35 ?_
                refine j_iload_n X dX6_looksLike_38 rfl ?_
                refine j_nrm _ (by first | (simp only [fa_lit, pk_mul, nI_add]; done) | (simp only [fa_lit, pk_mul, nI_add]; rfl) | rfl) ?_
                refine j_ialdN X (oPf np (by omega)) (kPf np _) (by rw [lPf]; omega) (by rw [lPf]; decide) (mem (93 + 2 * sp)) rfl dX6_looksLike_39 ?_
                refine j_icmp_eq X 45 dX6_looksLike_40 (by decide) (fun c_40 => ?_) (fun c_40 => ?_)
                · refine j_iinc X dX6_looksLike_45 rfl 1 rfl ?_
                  refine j_goto X 15 dX6_looksLike_48 (by decide) ?_
                  refine j_iload_n X dX6_looksLike_15 rfl ?_
                  refine j_iconst X dX6_looksLike_16 4 (by decide) ?_
                  refine j_icmp_ge X 51 dX6_looksLike_17 (by decide) (fun c_17 => ?_) (fun c_17 => absurd c_17 (by decide))
                  refine j_iconst X dX6_looksLike_51 1 (by decide) ?_
                  refine s_iret X hE hr dX6_looksLike_52 (by first | exact jb_nar | rfl) ?_
                  refine ⟨?_, rfl⟩
                  first | exact (jb_t (by refine ⟨by assumption, ?_, ?_, ?_, ?_⟩ <;> first | exact Or.inl (by assumption) | exact Or.inr (by assumption))).symm | exact (jb_f (fun z => by rcases z with ⟨z0, z1, z2, z3, z4⟩; first | contradiction | (rcases z1 with y | y <;> contradiction) | (rcases z2 with y | y <;> contradiction) | (rcases z3 with y | y <;> contradiction) | (rcases z4 with y | y <;> contradiction))).symm
                · refine j_iconst X dX6_looksLike_43 0 (by decide) ?_
                  refine s_iret X hE hr dX6_looksLike_44 (by first | exact jb_nar | rfl) ?_
                  refine ⟨?_, rfl⟩
                  first | exact (jb_t (by refine ⟨by assumption, ?_, ?_, ?_, ?_⟩ <;> first | exact Or.inl (by assumption) | exact Or.inr (by assumption))).symm | exact (jb_f (fun z => by rcases z with ⟨z0, z1, z2, z3, z4⟩; first | contradiction | (rcases z1 with y | y <;> contradiction) | (rcases z2 with y | y <;> contradiction) | (rcases z3 with y | y <;> contradiction) | (rcases z4 with y | y <;> contradiction))).symm
            · refine j_aload_n X dX6_looksLike_28 rfl ?_
              refine j_getR X 6 6 (by decide) (by decide) rfl u405 (oP np (by omega)) (kP np _) _ (pP_f np _) dX6_looksLike_29 ?_
              refine j_iload_n X dX6_looksLike_32 rfl ?_
              refine j_nrm _ (by first | (simp only [fa_lit, pk_mul, nI_add]; done) | (simp only [fa_lit, pk_mul, nI_add]; rfl) | rfl) ?_
              refine j_ialdN X (oPf np (by omega)) (kPf np _) (by rw [lPf]; omega) (by rw [lPf]; decide) (mem (93 + 2 * p)) rfl dX6_looksLike_33 ?_
              refine j_aload_n X dX6_looksLike_34 rfl ?_
              refine j_getR X 6 6 (by decide) (by decide) rfl u405 (oP np (by omega)) (kP np _) _ (pP_f np _) dX6_looksLike_35 ?_
              refine j_iload_n X dX6_looksLike_38 rfl ?_
              refine j_nrm _ (by first | (simp only [fa_lit, pk_mul, nI_add]; done) | (simp only [fa_lit, pk_mul, nI_add]; rfl) | rfl) ?_
              refine j_ialdN X (oPf np (by omega)) (kPf np _) (by rw [lPf]; omega) (by rw [lPf]; decide) (mem (93 + 2 * sp)) rfl dX6_looksLike_39 ?_
              refine j_icmp_eq X 45 dX6_looksLike_40 (by decide) (fun c_40 => ?_) (fun c_40 => ?_)
              · refine j_iinc X dX6_looksLike_45 rfl 1 rfl ?_
                refine j_goto X 15 dX6_looksLike_48 (by decide) ?_
                refine j_iload_n X dX6_looksLike_15 rfl ?_
                refine j_iconst X dX6_looksLike_16 4 (by decide) ?_
                refine j_icmp_ge X 51 dX6_looksLike_17 (by decide) (fun c_17 => absurd c_17 (by decide)) (fun c_17 => ?_)
                refine j_iload_n X dX6_looksLike_20 rfl ?_
                refine j_iload_n X dX6_looksLike_21 rfl ?_
                refine s_callNi X hR (c_hasBit np _ _ _) rfl u498 (by decide) u497 u1 hyX10_hasBit (by decide) (by decide) (Nat.le_of_ble_eq_true rfl) dX6_looksLike_22 (fun v_22 m_22 h_22 => ?_)
                obtain ⟨e1, e2⟩ := h_22; have e1 := e1.symm; have e2 := e2.symm; subst e1; subst e2
                refine j_ifb_eq X 45 dX6_looksLike_25 (by decide) (fun c_25 => ?_) (fun c_25 => ?_)
                · refine j_iinc X dX6_looksLike_45 rfl 1 rfl ?_
                  refine j_goto X 15 dX6_looksLike_48 (by decide) ?_
                  refine j_iload_n X dX6_looksLike_15 rfl ?_
                  refine j_iconst X dX6_looksLike_16 4 (by decide) ?_
                  refine j_icmp_ge X 51 dX6_looksLike_17 (by decide) (fun c_17 => ?_) (fun c_17 => absurd c_17 (by decide))
                  refine j_iconst X dX6_looksLike_51 1 (by decide) ?_
                  refine s_iret X hE hr dX6_looksLike_52 (by first | exact jb_nar | rfl) ?_
                  refine ⟨?_, rfl⟩
                  first | exact (jb_t (by refine ⟨by assumption, ?_, ?_, ?_, ?_⟩ <;> first | exact Or.inl (by assumption) | exact Or.inr (by assumption))).symm | exact (jb_f (fun z => by rcases z with ⟨z0, z1, z2, z3, z4⟩; first | contradiction | (rcases z1 with y | y <;> contradiction) | (rcases z2 with y | y <;> contradiction) | (rcases z3 with y | y <;> contradiction) | (rcases z4 with y | y <;> contradiction))).symm
                · refine j_aload_n X dX6_looksLike_28 rfl ?_
                  refine j_getR X 6 6 (by decide) (by decide) rfl u405 (oP np (by omega)) (kP np _) _ (pP_f np _) dX6_looksLike_29 ?_
                  refine j_iload_n X dX6_looksLike_32 rfl ?_
                  refine j_nrm _ (by first | (simp only [fa_lit, pk_mul, nI_add]; done) | (simp only [fa_lit, pk_mul, nI_add]; rfl) | rfl) ?_
                  refine j_ialdN X (oPf np (by omega)) (kPf np _) (by rw [lPf]; omega) (by rw [lPf]; decide) (mem (93 + 2 * p)) rfl dX6_looksLike_33 ?_
                  refine j_aload_n X dX6_looksLike_34 rfl ?_
                  refine j_getR X 6 6 (by decide) (by decide) rfl u405 (oP np (by omega)) (kP np _) _ (pP_f np _) dX6_looksLike_35 ?_
                  refine j_iload_n X dX6_looksLike_38 rfl ?_
                  refine j_nrm _ (by first | (simp only [fa_lit, pk_mul, nI_add]; done) | (simp only [fa_lit, pk_mul, nI_add]; rfl) | rfl) ?_
                  refine j_ialdN X (oPf np (by omega)) (kPf np _) (by rw [lPf]; omega) (by rw [lPf]; decide) (mem (93 + 2 * sp)) rfl dX6_looksLike_39 ?_
                  refine j_icmp_eq X 45 dX6_looksLike_40 (by decide) (fun c_40 => ?_) (fun c_40 => ?_)
                  · refine j_iinc X dX6_looksLike_45 rfl 1 rfl ?_
                    refine j_goto X 15 dX6_looksLike_48 (by decide) ?_
                    refine j_iload_n X dX6_looksLike_15 rfl ?_
                    refine j_iconst X dX6_looksLike_16 4 (by decide) ?_
                    refine j_icmp_ge X 51 dX6_looksLike_17 (by decide) (fun c_17 => ?_) (fun c_17 => absurd c_17 (by decide))
                    refine j_iconst X dX6_looksLike_51 1 (by decide) ?_
                    refine s_iret X hE hr dX6_looksLike_52 (by first | exact jb_nar | rfl) ?_
                    refine ⟨?_, rfl⟩
                    first | exact (jb_t (by refine ⟨by assumption, ?_, ?_, ?_, ?_⟩ <;> first | exact Or.inl (by assumption) | exact Or.inr (by assumption))).symm | exact (jb_f (fun z => by rcases z with ⟨z0, z1, z2, z3, z4⟩; first | contradiction | (rcases z1 with y | y <;> contradiction) | (rcases z2 with y | y <;> contradiction) | (rcases z3 with y | y <;> contradiction) | (rcases z4 with y | y <;> contradiction))).symm
                  · refine j_iconst X dX6_looksLike_43 0 (by decide) ?_
                    refine s_iret X hE hr dX6_looksLike_44 (by first | exact jb_nar | rfl) ?_
                    refine ⟨?_, rfl⟩
                    first | exact (jb_t (by refine ⟨by assumption, ?_, ?_, ?_, ?_⟩ <;> first | exact Or.inl (by assumption) | exact Or.inr (by assumption))).symm | exact (jb_f (fun z => by rcases z with ⟨z0, z1, z2, z3, z4⟩; first | contradiction | (rcases z1 with y | y <;> contradiction) | (rcases z2 with y | y <;> contradiction) | (rcases z3 with y | y <;> contradiction) | (rcases z4 with y | y <;> contradiction))).symm
              · refine j_iconst X dX6_looksLike_43 0 (by decide) ?_
                refine s_iret X hE hr dX6_looksLike_44 (by first | exact jb_nar | rfl) ?_
                refine ⟨?_, rfl⟩
                first | exact (jb_t (by refine ⟨by assumption, ?_, ?_, ?_, ?_⟩ <;> first | exact Or.inl (by assumption) | exact Or.inr (by assumption))).symm | exact (jb_f (fun z => by rcases z with ⟨z0, z1, z2, z3, z4⟩; first | contradiction | (rcases z1 with y | y <;> contradiction) | (rcases z2 with y | y <;> contradiction) | (rcases z3 with y | y <;> contradiction) | (rcases z4 with y | y <;> contradiction))).symm
          · refine j_iconst X dX6_looksLike_43 0 (by decide) ?_
            refine s_iret X hE hr dX6_looksLike_44 (by first | exact jb_nar | rfl) ?_
            refine ⟨?_, rfl⟩
            first | exact (jb_t (by refine ⟨by assumption, ?_, ?_, ?_, ?_⟩ <;> first | exact Or.inl (by assumption) | exact Or.inr (by assumption))).symm | exact (jb_f (fun z => by rcases z with ⟨z0, z1, z2, z3, z4⟩; first | contradiction | (rcases z1 with y | y <;> contradiction) | (rcases z2 with y | y <;> contradiction) | (rcases z3 with y | y <;> contradiction) | (rcases z4 with y | y <;> contradiction))).symm
      · refine j_iconst X dX6_looksLike_43 0 (by decide) ?_
        refine s_iret X hE hr dX6_looksLike_44 (by first | exact jb_nar | rfl) ?_
        refine ⟨?_, rfl⟩
        first | exact (jb_t (by refine ⟨by assumption, ?_, ?_, ?_, ?_⟩ <;> first | exact Or.inl (by assumption) | exact Or.inr (by assumption))).symm | exact (jb_f (fun z => by rcases z with ⟨z0, z1, z2, z3, z4⟩; first | contradiction | (rcases z1 with y | y <;> contradiction) | (rcases z2 with y | y <;> contradiction) | (rcases z3 with y | y <;> contradiction) | (rcases z4 with y | y <;> contradiction))).symm
  · refine j_iconst X dX6_looksLike_11 0 (by decide) ?_
    refine s_iret X hE hr dX6_looksLike_12 (by first | exact jb_nar | rfl) ?_
    refine ⟨?_, rfl⟩
    first | exact (jb_t (by refine ⟨by assumption, ?_, ?_, ?_, ?_⟩ <;> first | exact Or.inl (by assumption) | exact Or.inr (by assumption))).symm | exact (jb_f (fun z => by rcases z with ⟨z0, z1, z2, z3, z4⟩; first | contradiction | (rcases z1 with y | y <;> contradiction) | (rcases z2 with y | y <;> contradiction) | (rcases z3 with y | y <;> contradiction) | (rcases z4 with y | y <;> contradiction))).symm
def jLikeC (mem : jMem) (sp : Nat) (set : Int32) (p : Nat) : Bool := decide (mem (92 + 2 * p) 1 = mem (92 + 2 * sp) 1 ∧ (¬ (set >>> (0 &&& 31)) &&& 1 = 1 ∨ mem (93 + 2 * p) 0 = mem (93 + 2 * sp) 0) ∧ (¬ (set >>> (1 &&& 31)) &&& 1 = 1 ∨ mem (93 + 2 * p) 1 = mem (93 + 2 * sp) 1) ∧ (¬ (set >>> (2 &&& 31)) &&& 1 = 1 ∨ mem (93 + 2 * p) 2 = mem (93 + 2 * sp) 2) ∧ (¬ (set >>> (3 &&& 31)) &&& 1 = 1 ∨ mem (93 + 2 * p) 3 = mem (93 + 2 * sp) 3))
def jWhoC (mem : jMem) (np sp : Nat) (set : Int32) : Int32 := jBits (jLikeC mem sp set) (fun p => mem (92 + 2 * p) 2) np
set_option maxRecDepth 4000 in
set_option maxHeartbeats 1000000 in
theorem c_couldHaveMade (np : Nat) (mem : jMem) (sp : Nat) (set : Int32) (hn : np ≤ 12) (hp : mem 0 12 = nI np) (hs2 : sp < np) : jPi yX10_couldHaveMade cX10_couldHaveMade 7 .int 3 [.ref 0, .int (nI sp), .int set] np mem (fun v c => v = jWhoC mem np sp set ∧ c = mem) := by
  refine jPi.of (own := RX10) rfl rfl (Nat.le_of_ble_eq_true rfl) (fun G X hR hr hE => ?_)
  refine j_aload_n X dX10_couldHaveMade_0 rfl ?_
  refine j_iload_n X dX10_couldHaveMade_1 rfl ?_
  refine s_callVa X hR (c_paperAt np _ sp hn hp hs2) rfl 10 (by decide) (o0 np) (k0 np) rfl u435 u432 u434 qp2 u1 hyX10_paperAt (by decide) (by decide) (Nat.le_of_ble_eq_true rfl) dX10_couldHaveMade_2 (fun v_2 m_2 h_2 => ?_)
  obtain ⟨e1, e2⟩ := h_2; have e1 := e1.symm; have e2 := e2.symm; subst e1; subst e2
  refine j_astore_n X dX10_couldHaveMade_5 (by decide) ?_
  refine j_iconst X dX10_couldHaveMade_6 0 (by decide) ?_
  refine j_istore X dX10_couldHaveMade_7 (by decide) ?_
  refine j_iconst X dX10_couldHaveMade_9 0 (by decide) ?_
  refine j_istore X dX10_couldHaveMade_10 (by decide) ?_
  have lp12 : ∀ (n : Nat) (p : Nat), p ≤ np → np + 1 ≤ p + n → J G RX10 cX10_couldHaveMade 7 0 0 12 (jlv [some (.ref 0), some (.int (nI sp)), some (.int set), some (.ref (92 + 2 * sp)), some (.int (jBits (jLikeC mem sp set) (fun p => mem (92 + 2 * p) 2) p)), some (.int (nI p))]) [] (jS np) (mem) := by
    intro n
    induction n with
    | zero =>
      intro p hk hn3
      exact absurd hn3 (by omega)
    | succ n ih12 =>
      intro p hk hn3
      refine j_iload X dX10_couldHaveMade_12 rfl ?_
      refine j_aload_n X dX10_couldHaveMade_14 rfl ?_
      refine j_getF X 10 12 (by decide) (by decide) rfl u250 (o0 np) (k0 np) (mem 0) rfl dX10_couldHaveMade_15 ?_
      refine j_nrm (nI np) hp ?_
      refine j_icmp_ge X 66 dX10_couldHaveMade_18 (by decide) (fun c_18 => ?_) (fun c_18 => ?_)
      · obtain rfl : p = np := by clear hE hr hR X; (try simp only [lg_cmp_lt, lg_cmp_gt, lg_cmp_le, lg_cmp_ge] at *); (try simp (disch := omega) only [Int64.le_iff_toInt_le, Int64.lt_iff_toInt_lt, Int32.le_iff_toInt_le, Int32.lt_iff_toInt_lt, fa_eq, fa_lit, fa_litL, nI_toInt, pk_lT, Int32.toInt_toInt64, jadd64, jin, jnoneT] at *); omega
        refine j_iload X dX10_couldHaveMade_66 rfl ?_
        refine s_iret X hE hr dX10_couldHaveMade_68 rfl ?_
        first | exact ⟨rfl, rfl⟩ | (exfalso; clear hE hr hR X; (try simp only [lg_cmp_lt, lg_cmp_gt, lg_cmp_le, lg_cmp_ge] at *); (try simp (disch := omega) only [Int64.le_iff_toInt_le, Int64.lt_iff_toInt_lt, Int32.le_iff_toInt_le, Int32.lt_iff_toInt_lt, fa_eq, fa_lit, fa_litL, nI_toInt, pk_lT, Int32.toInt_toInt64, jadd64, jin, jnoneT] at *); omega)
      · have hk2 : p < np := by clear hE hr hR X; (try simp only [lg_cmp_lt, lg_cmp_gt, lg_cmp_le, lg_cmp_ge] at *); (try simp (disch := omega) only [Int64.le_iff_toInt_le, Int64.lt_iff_toInt_lt, Int32.le_iff_toInt_le, Int32.lt_iff_toInt_lt, fa_eq, fa_lit, fa_litL, nI_toInt, pk_lT, Int32.toInt_toInt64, jadd64, jin, jnoneT] at *); omega
        refine j_aload_n X dX10_couldHaveMade_21 rfl ?_
        refine j_iload X dX10_couldHaveMade_22 rfl ?_
        refine s_callVa X hR (c_paperAt np _ p hn hp hk2) rfl 10 (by decide) (o0 np) (k0 np) rfl u435 u432 u434 qp2 u1 hyX10_paperAt (by decide) (by decide) (Nat.le_of_ble_eq_true rfl) dX10_couldHaveMade_24 (fun v_24 m_24 h_24 => ?_)
        obtain ⟨e1, e2⟩ := h_24; have e1 := e1.symm; have e2 := e2.symm; subst e1; subst e2
        refine j_astore X dX10_couldHaveMade_27 (by decide) ?_
        refine j_aload X dX10_couldHaveMade_29 rfl ?_
        refine j_ifnullR X 60 dX10_couldHaveMade_31 (by decide) ?_
        refine j_aload_n X dX10_couldHaveMade_34 rfl ?_
        refine j_ifnullR X 60 dX10_couldHaveMade_35 (by decide) ?_
        refine j_aload X dX10_couldHaveMade_38 rfl ?_
        refine j_aload_n X dX10_couldHaveMade_40 rfl ?_
        refine j_iload_n X dX10_couldHaveMade_41 rfl ?_
        refine s_callVi X hR (c_looksLike np _ p sp set hk2 hs2) rfl 6 (by decide) (oP np (by omega)) (kP np _) rfl u822 u819 u820 u821 u14 hyX6_looksLike (by decide) (by decide) (Nat.le_of_ble_eq_true rfl) dX10_couldHaveMade_42 (fun v_42 m_42 h_42 => ?_)
        obtain ⟨e1, e2⟩ := h_42; have e1 := e1.symm; have e2 := e2.symm; subst e1; subst e2
        refine j_ifb_eq X 60 dX10_couldHaveMade_45 (by decide) (fun c_45 => ?_) (fun c_45 => ?_)
        · refine j_iinc X dX10_couldHaveMade_60 rfl 1 rfl ?_
          refine j_goto X 12 dX10_couldHaveMade_63 (by decide) ?_
          refine j_lv [some (.ref 0), some (.int (nI sp)), some (.int set), some (.ref (92 + 2 * sp)), some (.int (jBits (jLikeC mem sp set) (fun p => mem (92 + 2 * p) 2) (p + 1))), some (.int (nI (p + 1)))] ⟨rfl, rfl, rfl, rfl, (congrArg (fun z => some (Value.int z)) (by first | exact jBits_t (g := (jLikeC mem sp set)) (b := (fun p => mem (92 + 2 * p) 2)) (decide_eq_true c_45) | exact jBits_f0 (g := (jLikeC mem sp set)) (b := (fun p => mem (92 + 2 * p) 2)) (fun z => c_45 (of_decide_eq_true z)))), (congrArg (fun z => some (Value.int z)) (nI_1 _)), trivial⟩ ?_
          exact ih12 (p + 1) (by omega) (by omega)
        · refine j_iload X dX10_couldHaveMade_48 rfl ?_
          refine j_iconst X dX10_couldHaveMade_50 1 (by decide) ?_
          refine j_aload X dX10_couldHaveMade_51 rfl ?_
          refine j_getF X 6 2 (by decide) (by decide) rfl u397 (oP np (by omega)) (kP np _) (mem (92 + 2 * p)) rfl dX10_couldHaveMade_53 ?_
          refine j_ishl X dX10_couldHaveMade_56 ?_
          refine j_ior X dX10_couldHaveMade_57 ?_
          refine j_istore X dX10_couldHaveMade_58 (by decide) ?_
          refine j_iinc X dX10_couldHaveMade_60 rfl 1 rfl ?_
          refine j_goto X 12 dX10_couldHaveMade_63 (by decide) ?_
          refine j_lv [some (.ref 0), some (.int (nI sp)), some (.int set), some (.ref (92 + 2 * sp)), some (.int (jBits (jLikeC mem sp set) (fun p => mem (92 + 2 * p) 2) (p + 1))), some (.int (nI (p + 1)))] ⟨rfl, rfl, rfl, rfl, (congrArg (fun z => some (Value.int z)) (by first | exact jBits_t (g := (jLikeC mem sp set)) (b := (fun p => mem (92 + 2 * p) 2)) (decide_eq_true c_45) | exact jBits_f0 (g := (jLikeC mem sp set)) (b := (fun p => mem (92 + 2 * p) 2)) (fun z => c_45 (of_decide_eq_true z)))), (congrArg (fun z => some (Value.int z)) (nI_1 _)), trivial⟩ ?_
          exact ih12 (p + 1) (by omega) (by omega)
  refine j_lv [some (.ref 0), some (.int (nI sp)), some (.int set), some (.ref (92 + 2 * sp)), some (.int (jBits (jLikeC mem sp set) (fun p => mem (92 + 2 * p) 2) 0)), some (.int (nI 0))] ⟨rfl, rfl, rfl, rfl, rfl, rfl, trivial⟩ ?_
  exact lp12 (np + 1) 0 (by omega) (by omega)
set_option maxRecDepth 4000 in
set_option maxHeartbeats 1000000 in
theorem c_together_bad (np : Nat) (mem : jMem) (x : Int32) (q : Nat) (hn : np ≤ 12) (hp : mem 0 12 = nI np) (hq : q ≤ 30) (hc : mem 55 2 = nI q) (h : x ≤ 0 ∨ ¬ (x.toUInt32 >>> ((nI q).toUInt32 &&& Int32.toUInt32 31)).toInt32 = 0) : jPi yX10_together cX10_together 4 .int 4 [.ref 0, .int x] np mem (fun v c => v = -1000001 ∧ c = mem) := by
  refine jPi.of (own := RX10) rfl rfl (Nat.le_of_ble_eq_true rfl) (fun G X hR hr hE => ?_)
  refine j_iload_n X dX10_together_0 rfl ?_
  refine j_if_le X 16 dX10_together_1 (by decide) (fun c_1 => ?_) (fun c_1 => ?_)
  · refine j_ldc X dX10_together_16 u295 ?_
    refine s_iret X hE hr dX10_together_18 rfl ?_
    first | exact ⟨rfl, rfl⟩ | (exfalso; clear hE hr hR X; (try simp only [lg_cmp_lt, lg_cmp_gt, lg_cmp_le, lg_cmp_ge] at *); (try simp (disch := omega) only [Int64.le_iff_toInt_le, Int64.lt_iff_toInt_lt, Int32.le_iff_toInt_le, Int32.lt_iff_toInt_lt, fa_eq, fa_lit, fa_litL, nI_toInt, pk_lT, Int32.toInt_toInt64, jadd64, jin, jnoneT] at *); omega)
  · refine j_iload_n X dX10_together_4 rfl ?_
    refine j_aload_n X dX10_together_5 rfl ?_
    refine j_getR X 10 8 (by decide) (by decide) rfl u246 (o0 np) (k0 np) _ (p0_8 np) dX10_together_6 ?_
    refine j_getF X 8 2 (by decide) (by decide) rfl u188 (o55 np) (k55 np) (mem 55) rfl dX10_together_9 ?_
    refine j_nrm (nI q) hc ?_
    refine j_iushr X dX10_together_12 ?_
    refine j_if_eq X 19 dX10_together_13 (by decide) (fun c_13 => ?_) (fun c_13 => ?_)
    · exfalso
      exact h.elim c_1 (fun z => z c_13)
    · refine j_ldc X dX10_together_16 u295 ?_
      refine s_iret X hE hr dX10_together_18 rfl ?_
      first | exact ⟨rfl, rfl⟩ | (exfalso; clear hE hr hR X; (try simp only [lg_cmp_lt, lg_cmp_gt, lg_cmp_le, lg_cmp_ge] at *); (try simp (disch := omega) only [Int64.le_iff_toInt_le, Int64.lt_iff_toInt_lt, Int32.le_iff_toInt_le, Int32.lt_iff_toInt_lt, fa_eq, fa_lit, fa_litL, nI_toInt, pk_lT, Int32.toInt_toInt64, jadd64, jin, jnoneT] at *); omega)
set_option maxRecDepth 4000 in
set_option maxHeartbeats 1000000 in
theorem c_together (np : Nat) (mem : jMem) (x : Int32) (q : Nat) (hn : np ≤ 12) (hp : mem 0 12 = nI np) (hq : q ≤ 30) (hc : mem 55 2 = nI q) (h : ¬ x ≤ 0 ∧ (x.toUInt32 >>> ((nI q).toUInt32 &&& Int32.toUInt32 31)).toInt32 = 0) (hse : ∀ s, s < q → ∃ sp, sp < np ∧ mem 56 s = nI sp) : jPi yX10_together cX10_together 4 .int 4 [.ref 0, .int x] np mem (fun v c => v = jTog (fun s => decide ((x >>> (nI s &&& 31)) &&& 1 = 1)) (fun s => jWhoC mem np (mem 56 s).toNatClampNeg (mem 57 s)) q ∧ c = mem) := by
  refine jPi.of (own := RX10) rfl rfl (Nat.le_of_ble_eq_true rfl) (fun G X hR hr hE => ?_)
  refine j_iload_n X dX10_together_0 rfl ?_
  refine j_if_le X 16 dX10_together_1 (by decide) (fun c_1 => ?_) (fun c_1 => ?_)
  · exfalso
    first | exact c_13 h.2 | exact h.1 c_1
  · refine j_iload_n X dX10_together_4 rfl ?_
    refine j_aload_n X dX10_together_5 rfl ?_
    refine j_getR X 10 8 (by decide) (by decide) rfl u246 (o0 np) (k0 np) _ (p0_8 np) dX10_together_6 ?_
    refine j_getF X 8 2 (by decide) (by decide) rfl u188 (o55 np) (k55 np) (mem 55) rfl dX10_together_9 ?_
    refine j_nrm (nI q) hc ?_
    refine j_iushr X dX10_together_12 ?_
    refine j_if_eq X 19 dX10_together_13 (by decide) (fun c_13 => ?_) (fun c_13 => ?_)
    · refine j_bipush X dX10_together_19 63 (by decide) ?_
      refine j_istore_n X dX10_together_21 (by decide) ?_
      refine j_iconst X dX10_together_22 0 (by decide) ?_
      refine j_istore_n X dX10_together_23 (by decide) ?_
      have lp24 : ∀ (n : Nat) (s : Nat), s ≤ q → q + 1 ≤ s + n → J G RX10 cX10_together 4 0 0 24 (jlv [some (.ref 0), some (.int x), some (.int (jTog (fun s => decide ((x >>> (nI s &&& 31)) &&& 1 = 1)) (fun s => jWhoC mem np (mem 56 s).toNatClampNeg (mem 57 s)) s)), some (.int (nI s))]) [] (jS np) (mem) := by
        intro n
        induction n with
        | zero =>
          intro s hk hn3
          exact absurd hn3 (by omega)
        | succ n ih24 =>
          intro s hk hn3
          refine j_iload_n X dX10_together_24 rfl ?_
          refine j_aload_n X dX10_together_25 rfl ?_
          refine j_getR X 10 8 (by decide) (by decide) rfl u246 (o0 np) (k0 np) _ (p0_8 np) dX10_together_26 ?_
          refine j_getF X 8 2 (by decide) (by decide) rfl u188 (o55 np) (k55 np) (mem 55) rfl dX10_together_29 ?_
          refine j_nrm (nI q) hc ?_
          refine j_icmp_ge X 74 dX10_together_32 (by decide) (fun c_32 => ?_) (fun c_32 => ?_)
          · obtain rfl : s = q := by clear hE hr hR X; (try simp only [lg_cmp_lt, lg_cmp_gt, lg_cmp_le, lg_cmp_ge] at *); (try simp (disch := omega) only [Int64.le_iff_toInt_le, Int64.lt_iff_toInt_lt, Int32.le_iff_toInt_le, Int32.lt_iff_toInt_lt, fa_eq, fa_lit, fa_litL, nI_toInt, pk_lT, Int32.toInt_toInt64, jadd64, jin, jnoneT] at *); omega
            refine j_iload_n X dX10_together_74 rfl ?_
            refine s_iret X hE hr dX10_together_75 rfl ?_
            first | exact ⟨rfl, rfl⟩ | (exfalso; clear hE hr hR X; (try simp only [lg_cmp_lt, lg_cmp_gt, lg_cmp_le, lg_cmp_ge] at *); (try simp (disch := omega) only [Int64.le_iff_toInt_le, Int64.lt_iff_toInt_lt, Int32.le_iff_toInt_le, Int32.lt_iff_toInt_lt, fa_eq, fa_lit, fa_litL, nI_toInt, pk_lT, Int32.toInt_toInt64, jadd64, jin, jnoneT] at *); omega)
          · have hk2 : s < q := by clear hE hr hR X; (try simp only [lg_cmp_lt, lg_cmp_gt, lg_cmp_le, lg_cmp_ge] at *); (try simp (disch := omega) only [Int64.le_iff_toInt_le, Int64.lt_iff_toInt_lt, Int32.le_iff_toInt_le, Int32.lt_iff_toInt_lt, fa_eq, fa_lit, fa_litL, nI_toInt, pk_lT, Int32.toInt_toInt64, jadd64, jin, jnoneT] at *); omega
            obtain ⟨sp, hsp, h56⟩ := hse s hk2
            refine j_iload_n X dX10_together_35 rfl ?_
            refine j_iload_n X dX10_together_36 rfl ?_
            refine s_callSi X hR (c_hasBit np _ _ _) rfl u498 u814 u497 u1 hyX10_hasBit (by decide) (by decide) (Nat.le_of_ble_eq_true rfl) dX10_together_37 (fun v_37 m_37 h_37 => ?_)
            obtain ⟨e1, e2⟩ := h_37; have e1 := e1.symm; have e2 := e2.symm; subst e1; subst e2
            refine j_ifb_eq X 68 dX10_together_40 (by decide) (fun c_40 => ?_) (fun c_40 => ?_)
            · refine j_iinc X dX10_together_68 rfl 1 rfl ?_
              refine j_goto X 24 dX10_together_71 (by decide) ?_
              refine j_lv [some (.ref 0), some (.int x), some (.int (jTog (fun s => decide ((x >>> (nI s &&& 31)) &&& 1 = 1)) (fun s => jWhoC mem np (mem 56 s).toNatClampNeg (mem 57 s)) (s + 1))), some (.int (nI (s + 1)))] ⟨rfl, rfl, (congrArg (fun z => some (Value.int z)) (by first | exact jTog_t (g := (fun s => decide ((x >>> (nI s &&& 31)) &&& 1 = 1))) (w := (fun s => jWhoC mem np (mem 56 s).toNatClampNeg (mem 57 s))) (decide_eq_true c_40) (by show _ = jWhoC mem np (mem 56 s).toNatClampNeg (mem 57 s); rw [h56, nI_clamp (by omega)]) | exact jTog_f (g := (fun s => decide ((x >>> (nI s &&& 31)) &&& 1 = 1))) (w := (fun s => jWhoC mem np (mem 56 s).toNatClampNeg (mem 57 s))) (fun z => c_40 (of_decide_eq_true z)))), (congrArg (fun z => some (Value.int z)) (nI_1 _)), trivial⟩ ?_
              exact ih24 (s + 1) (by omega) (by omega)
            · refine j_iload_n X dX10_together_43 rfl ?_
              refine j_aload_n X dX10_together_44 rfl ?_
              refine j_aload_n X dX10_together_45 rfl ?_
              refine j_getR X 10 8 (by decide) (by decide) rfl u246 (o0 np) (k0 np) _ (p0_8 np) dX10_together_46 ?_
              refine j_getR X 8 0 (by decide) (by decide) rfl u184 (o55 np) (k55 np) _ (p55_0 np) dX10_together_49 ?_
              refine j_iload_n X dX10_together_52 rfl ?_
              refine j_nrm _ (by first | (simp only [fa_lit, pk_mul, nI_add]; done) | (simp only [fa_lit, pk_mul, nI_add]; rfl) | rfl) ?_
              refine j_ialdN X (o56 np) (k56 np) (by rw [l56]; omega) (by rw [l56]; decide) (mem 56) rfl dX10_together_53 ?_
              refine j_nrm (nI sp) h56 ?_
              refine j_aload_n X dX10_together_54 rfl ?_
              refine j_getR X 10 8 (by decide) (by decide) rfl u246 (o0 np) (k0 np) _ (p0_8 np) dX10_together_55 ?_
              refine j_getR X 8 1 (by decide) (by decide) rfl u186 (o55 np) (k55 np) _ (p55_1 np) dX10_together_58 ?_
              refine j_iload_n X dX10_together_61 rfl ?_
              refine j_nrm _ (by first | (simp only [fa_lit, pk_mul, nI_add]; done) | (simp only [fa_lit, pk_mul, nI_add]; rfl) | rfl) ?_
              refine j_ialdN X (o57 np) (k57 np) (by rw [l57]; omega) (by rw [l57]; decide) (mem 57) rfl dX10_together_62 ?_
              refine s_callVi X hR (c_couldHaveMade np _ sp _ hn hp hsp) rfl 10 (by decide) (o0 np) (k0 np) rfl u818 u815 u817 qp22 u1 hyX10_couldHaveMade (by decide) (by decide) (Nat.le_of_ble_eq_true rfl) dX10_together_63 (fun v_63 m_63 h_63 => ?_)
              obtain ⟨e1, e2⟩ := h_63; have e1 := e1.symm; have e2 := e2.symm; subst e1; subst e2
              refine j_iand X dX10_together_66 ?_
              refine j_istore_n X dX10_together_67 (by decide) ?_
              refine j_iinc X dX10_together_68 rfl 1 rfl ?_
              refine j_goto X 24 dX10_together_71 (by decide) ?_
              refine j_lv [some (.ref 0), some (.int x), some (.int (jTog (fun s => decide ((x >>> (nI s &&& 31)) &&& 1 = 1)) (fun s => jWhoC mem np (mem 56 s).toNatClampNeg (mem 57 s)) (s + 1))), some (.int (nI (s + 1)))] ⟨rfl, rfl, (congrArg (fun z => some (Value.int z)) (by first | exact jTog_t (g := (fun s => decide ((x >>> (nI s &&& 31)) &&& 1 = 1))) (w := (fun s => jWhoC mem np (mem 56 s).toNatClampNeg (mem 57 s))) (decide_eq_true c_40) (by show _ = jWhoC mem np (mem 56 s).toNatClampNeg (mem 57 s); rw [h56, nI_clamp (by omega)]) | exact jTog_f (g := (fun s => decide ((x >>> (nI s &&& 31)) &&& 1 = 1))) (w := (fun s => jWhoC mem np (mem 56 s).toNatClampNeg (mem 57 s))) (fun z => c_40 (of_decide_eq_true z)))), (congrArg (fun z => some (Value.int z)) (nI_1 _)), trivial⟩ ?_
              exact ih24 (s + 1) (by omega) (by omega)
      refine j_lv [some (.ref 0), some (.int x), some (.int (jTog (fun s => decide ((x >>> (nI s &&& 31)) &&& 1 = 1)) (fun s => jWhoC mem np (mem 56 s).toNatClampNeg (mem 57 s)) 0)), some (.int (nI 0))] ⟨rfl, rfl, rfl, rfl, trivial⟩ ?_
      exact lp24 (q + 1) 0 (by omega) (by omega)
    · exfalso
      first | exact c_13 h.2 | exact h.1 c_1
set_option maxRecDepth 4000 in
set_option maxHeartbeats 1000000 in
theorem c_append_full (np : Nat) (mem : jMem) (w : Int64) (q t : Nat) (hq : 1 ≤ q ∧ q ≤ 8) (ht : mem 51 1 = nI t) (ht2 : t ≤ 300) (hf : 300 < t + q) : jPi yX9_append cX9_append 5 .boolean 1 [.ref 51, .long w, .int (nI q)] np mem (fun v c => v = 0 ∧ c = mem) := by
  refine jPi.of (own := RX9) rfl rfl (Nat.le_of_ble_eq_true rfl) (fun G X hR hr hE => ?_)
  refine j_aload_n X dX9_append_0 rfl ?_
  refine j_getF X 9 1 (by decide) (by decide) rfl u134 (o51 np) (k51 np) (mem 51) rfl dX9_append_1 ?_
  refine j_nrm (nI t) ht ?_
  refine j_sipush X dX9_append_4 300 (by decide) ?_
  refine j_iload_n X dX9_append_7 rfl ?_
  refine j_isub X dX9_append_8 ?_
  refine j_nrm (nI (300 - q)) (pk_sub (show q ≤ 300 by omega)) ?_
  refine j_icmp_le X 14 dX9_append_9 (by decide) (fun c_9 => ?_) (fun c_9 => ?_)
  · exfalso
    clear hE hr hR X
    (try simp only [lg_cmp_lt, lg_cmp_gt, lg_cmp_le, lg_cmp_ge] at *); (try simp (disch := omega) only [Int64.le_iff_toInt_le, Int64.lt_iff_toInt_lt, Int32.le_iff_toInt_le, Int32.lt_iff_toInt_lt, fa_eq, fa_lit, fa_litL, nI_toInt, pk_lT, Int32.toInt_toInt64, jadd64, jin, jnoneT] at *); omega
  · refine j_iconst X dX9_append_12 0 (by decide) ?_
    refine s_iret X hE hr dX9_append_13 (by first | exact jb_nar | rfl) ?_
    first | exact ⟨rfl, rfl⟩ | (exfalso; clear hE hr hR X; (try simp only [lg_cmp_lt, lg_cmp_gt, lg_cmp_le, lg_cmp_ge] at *); (try simp (disch := omega) only [Int64.le_iff_toInt_le, Int64.lt_iff_toInt_lt, Int32.le_iff_toInt_le, Int32.lt_iff_toInt_lt, fa_eq, fa_lit, fa_litL, nI_toInt, pk_lT, Int32.toInt_toInt64, jadd64, jin, jnoneT] at *); omega)
set_option maxRecDepth 4000 in
set_option maxHeartbeats 1000000 in
theorem c_append (np : Nat) (mem : jMem) (w : Int64) (q t : Nat) (hq : 1 ≤ q ∧ q ≤ 8) (ht : mem 51 1 = nI t) (hf : t + q ≤ 300) : jPi yX9_append cX9_append 5 .boolean 1 [.ref 51, .long w, .int (nI q)] np mem (fun v c => v = 1 ∧ c = jFdC mem w t q q) := by
  refine jPi.of (own := RX9) rfl rfl (Nat.le_of_ble_eq_true rfl) (fun G X hR hr hE => ?_)
  refine j_aload_n X dX9_append_0 rfl ?_
  refine j_getF X 9 1 (by decide) (by decide) rfl u134 (o51 np) (k51 np) (mem 51) rfl dX9_append_1 ?_
  refine j_nrm (nI t) ht ?_
  refine j_sipush X dX9_append_4 300 (by decide) ?_
  refine j_iload_n X dX9_append_7 rfl ?_
  refine j_isub X dX9_append_8 ?_
  refine j_nrm (nI (300 - q)) (pk_sub (show q ≤ 300 by omega)) ?_
  refine j_icmp_le X 14 dX9_append_9 (by decide) (fun c_9 => ?_) (fun c_9 => ?_)
  · refine j_iload_n X dX9_append_14 rfl ?_
    refine j_iconst X dX9_append_15 1 (by decide) ?_
    refine j_isub X dX9_append_16 ?_
    refine j_istore X dX9_append_17 (by decide) ?_
    have lp19 : ∀ (n : Nat) (j : Nat), j ≤ q → q + 1 ≤ j + n → J G RX9 cX9_append 5 0 0 19 (jlv [some (.ref 51), some (.long w), none, some (.int (nI q)), some (.int (nI (q - j) - 1))]) [] (jS np) (jFdC mem w t q j) := by
      intro n
      induction n with
      | zero =>
        intro j hj hn
        exact absurd hn (by omega)
      | succ n ih19 =>
        intro j hj hn
        refine j_iload X dX9_append_19 rfl ?_
        refine j_if_lt X 58 dX9_append_21 (by decide) (fun c_21 => ?_) (fun c_21 => ?_)
        · have h9 := (jm1_lt (by omega)).mp c_21
          obtain rfl : j = q := by omega
          refine j_iconst X dX9_append_58 1 (by decide) ?_
          refine s_iret X hE hr dX9_append_59 (by first | exact jb_nar | rfl) ?_
          exact ⟨rfl, rfl⟩
        · have h9 : ¬ q - j = 0 := fun e => c_21 ((jm1_lt (by omega)).mpr e)
          obtain ⟨r, rfl⟩ : ∃ r, q = j + (r + 1) := ⟨q - j - 1, by omega⟩
          have er : j + (r + 1) - j = r + 1 := by omega
          refine j_aload_n X dX9_append_24 rfl ?_
          refine j_getR X 9 0 (by decide) (by decide) rfl u133 (o51 np) (k51 np) _ (p51_0 np) dX9_append_25 ?_
          refine j_aload_n X dX9_append_28 rfl ?_
          refine j_getF X 9 1 (by decide) (by decide) rfl u134 (o51 np) (k51 np) _ rfl dX9_append_29 ?_
          refine j_nrm (nI (t + j)) rfl ?_
          refine j_lload_n X dX9_append_32 rfl ?_
          refine j_bipush X dX9_append_33 8 (by decide) ?_
          refine j_iload X dX9_append_35 rfl ?_
          refine j_nrm (nI r) (by rw [er, nI_pred]) ?_
          refine j_imul X dX9_append_37 ?_
          refine j_lshr X dX9_append_38 ?_
          refine j_l2i X dX9_append_39 ?_
          refine j_i2b X dX9_append_40 ?_
          refine j_nrm2 _ (by first | (simp only [fa_lit, pk_mul, nI_add]; done) | (simp only [fa_lit, pk_mul, nI_add]; rfl) | rfl) ?_
          refine j_bastN X (o52 np) (k52 np) (n := t + j) (by rw [l52]; omega) (by rw [l52]; decide) dX9_append_41 ?_
          refine j_aload_n X dX9_append_42 rfl ?_
          refine j_dup X dX9_append_43 rfl ?_
          refine j_getF X 9 1 (by decide) (by decide) rfl u134 (o51 np) (k51 np) _ rfl dX9_append_44 ?_
          refine j_iconst X dX9_append_47 1 (by decide) ?_
          refine j_iadd X dX9_append_48 ?_
          refine j_putI X 9 1 (by decide) (by decide) rfl rfl rfl rfl u134 (o51 np) (k51 np) dX9_append_49 ?_
          refine j_iinc X dX9_append_52 rfl (-1) rfl ?_
          refine j_goto X 19 dX9_append_55 (by decide) ?_
          refine j_mem (jFdC mem w t (j + (r + 1)) (j + 1)) (by have := jFdC_s (mem := mem) (w := w) (t := t) (q := j + (r + 1)) (j := j) (by omega); rw [show j + (r + 1) - 1 - j = r by omega] at this; exact this) ?_
          refine j_lv [some (.ref 51), some (.long w), none, some (.int (nI (j + (r + 1)))), some (.int (nI (j + (r + 1) - (j + 1)) - 1))] ⟨rfl, rfl, rfl, (congrArg (fun z => some (Value.int z)) ((jm1_step er).trans (by rw [show j + (r + 1) - (j + 1) = r by omega]))), trivial⟩ ?_
          exact ih19 (j + 1) (by omega) (by omega)
    refine j_mem (jFdC mem w t q 0) (jFdC_0 ht) ?_
    refine j_lv [some (.ref 51), some (.long w), none, some (.int (nI q)), some (.int (nI (q - 0) - 1))] ⟨rfl, rfl, rfl, rfl, trivial⟩ ?_
    exact lp19 (q + 1) 0 (by omega) (by omega)
  · exfalso
    clear hE hr hR X
    (try simp only [lg_cmp_lt, lg_cmp_gt, lg_cmp_le, lg_cmp_ge] at *); (try simp (disch := omega) only [Int64.le_iff_toInt_le, Int64.lt_iff_toInt_lt, Int32.le_iff_toInt_le, Int32.lt_iff_toInt_lt, fa_eq, fa_lit, fa_litL, nI_toInt, pk_lT, Int32.toInt_toInt64, jadd64, jin, jnoneT] at *); omega
set_option maxRecDepth 4000 in
set_option maxHeartbeats 1000000 in
theorem c_feed_bad (np : Nat) (mem : jMem) (w : Int64) (q : Int32) (h : ¬ jin q 1 8) : jPi yX10_feed cX10_feed 4 .int 2 [.ref 0, .long w, .int q] np mem (fun v c => v = -1000001 ∧ c = mem) := by
  refine jPi.of (own := RX10) rfl rfl (Nat.le_of_ble_eq_true rfl) (fun G X hR hr hE => ?_)
  refine j_iload_n X dX10_feed_0 rfl ?_
  refine j_iconst X dX10_feed_1 1 (by decide) ?_
  refine j_bipush X dX10_feed_2 8 (by decide) ?_
  refine s_callSi X hR (c_withinI np _ _ _ _ (1) (8) rfl rfl) rfl u293 u294 u292 u1 hyX10_within (by decide) (by decide) (Nat.le_of_ble_eq_true rfl) dX10_feed_4 (fun v_4 m_4 h_4 => ?_)
  obtain ⟨e1, e2⟩ := h_4; have e1 := e1.symm; have e2 := e2.symm; subst e1; subst e2
  refine j_ifb_ne X 13 dX10_feed_7 (by decide) (fun c_7 => ?_) (fun c_7 => ?_)
  · exfalso
    clear hE hr hR X
    (try simp only [lg_cmp_lt, lg_cmp_gt, lg_cmp_le, lg_cmp_ge] at *); (try simp (disch := omega) only [Int64.le_iff_toInt_le, Int64.lt_iff_toInt_lt, Int32.le_iff_toInt_le, Int32.lt_iff_toInt_lt, fa_eq, fa_lit, fa_litL, nI_toInt, pk_lT, Int32.toInt_toInt64, jadd64, jin, jnoneT] at *); omega
  · refine j_ldc X dX10_feed_10 u295 ?_
    refine s_iret X hE hr dX10_feed_12 rfl ?_
    first | exact ⟨rfl, rfl⟩ | (exfalso; clear hE hr hR X; (try simp only [lg_cmp_lt, lg_cmp_gt, lg_cmp_le, lg_cmp_ge] at *); (try simp (disch := omega) only [Int64.le_iff_toInt_le, Int64.lt_iff_toInt_lt, Int32.le_iff_toInt_le, Int32.lt_iff_toInt_lt, fa_eq, fa_lit, fa_litL, nI_toInt, pk_lT, Int32.toInt_toInt64, jadd64, jin, jnoneT] at *); omega)
set_option maxRecDepth 4000 in
set_option maxHeartbeats 1000000 in
theorem c_feed_full (np : Nat) (mem : jMem) (w : Int64) (q t : Nat) (hq : 1 ≤ q ∧ q ≤ 8) (ht : mem 51 1 = nI t) (ht2 : t ≤ 300) (hf : 300 < t + q) : jPi yX10_feed cX10_feed 4 .int 2 [.ref 0, .long w, .int (nI q)] np mem (fun v c => v = -1000003 ∧ c = mem) := by
  refine jPi.of (own := RX10) rfl rfl (Nat.le_of_ble_eq_true rfl) (fun G X hR hr hE => ?_)
  refine j_iload_n X dX10_feed_0 rfl ?_
  refine j_iconst X dX10_feed_1 1 (by decide) ?_
  refine j_bipush X dX10_feed_2 8 (by decide) ?_
  refine s_callSi X hR (c_withinI np _ _ _ _ (1) (8) rfl rfl) rfl u293 u294 u292 u1 hyX10_within (by decide) (by decide) (Nat.le_of_ble_eq_true rfl) dX10_feed_4 (fun v_4 m_4 h_4 => ?_)
  obtain ⟨e1, e2⟩ := h_4; have e1 := e1.symm; have e2 := e2.symm; subst e1; subst e2
  refine j_ifb_ne X 13 dX10_feed_7 (by decide) (fun c_7 => ?_) (fun c_7 => ?_)
  · refine j_aload_n X dX10_feed_13 rfl ?_
    refine j_getR X 10 6 (by decide) (by decide) rfl u244 (o0 np) (k0 np) _ (p0_6 np) dX10_feed_14 ?_
    refine j_lload_n X dX10_feed_17 rfl ?_
    refine j_iload_n X dX10_feed_18 rfl ?_
    refine s_callVi X hR (c_append_full np _ w q t hq ht ht2 hf) rfl 9 (by decide) (o51 np) (k51 np) rfl u635 u632 u633 u634 u7 hyX9_append (by decide) (by decide) (Nat.le_of_ble_eq_true rfl) dX10_feed_19 (fun v_19 m_19 h_19 => ?_)
    obtain ⟨e1, e2⟩ := h_19; have e1 := e1.symm; have e2 := e2.symm; subst e1; subst e2
    refine j_if_eq X 35 dX10_feed_22 (by decide) (fun c_22 => ?_) (fun c_22 => absurd c_22 (by decide))
    refine j_ldc X dX10_feed_35 u361 ?_
    refine s_iret X hE hr dX10_feed_37 rfl ?_
    first | exact ⟨rfl, rfl⟩ | (exfalso; clear hE hr hR X; (try simp only [lg_cmp_lt, lg_cmp_gt, lg_cmp_le, lg_cmp_ge] at *); (try simp (disch := omega) only [Int64.le_iff_toInt_le, Int64.lt_iff_toInt_lt, Int32.le_iff_toInt_le, Int32.lt_iff_toInt_lt, fa_eq, fa_lit, fa_litL, nI_toInt, pk_lT, Int32.toInt_toInt64, jadd64, jin, jnoneT] at *); omega)
  · exfalso
    clear hE hr hR X
    (try simp only [lg_cmp_lt, lg_cmp_gt, lg_cmp_le, lg_cmp_ge] at *); (try simp (disch := omega) only [Int64.le_iff_toInt_le, Int64.lt_iff_toInt_lt, Int32.le_iff_toInt_le, Int32.lt_iff_toInt_lt, fa_eq, fa_lit, fa_litL, nI_toInt, pk_lT, Int32.toInt_toInt64, jadd64, jin, jnoneT] at *); omega
set_option maxRecDepth 4000 in
set_option maxHeartbeats 1000000 in
theorem c_feed (np : Nat) (mem : jMem) (w : Int64) (q t : Nat) (hq : 1 ≤ q ∧ q ≤ 8) (ht : mem 51 1 = nI t) (hf : t + q ≤ 300) : jPi yX10_feed cX10_feed 4 .int 2 [.ref 0, .long w, .int (nI q)] np mem (fun v c => v = nI (t + q) ∧ c = jFdC mem w t q q) := by
  refine jPi.of (own := RX10) rfl rfl (Nat.le_of_ble_eq_true rfl) (fun G X hR hr hE => ?_)
  refine j_iload_n X dX10_feed_0 rfl ?_
  refine j_iconst X dX10_feed_1 1 (by decide) ?_
  refine j_bipush X dX10_feed_2 8 (by decide) ?_
  refine s_callSi X hR (c_withinI np _ _ _ _ (1) (8) rfl rfl) rfl u293 u294 u292 u1 hyX10_within (by decide) (by decide) (Nat.le_of_ble_eq_true rfl) dX10_feed_4 (fun v_4 m_4 h_4 => ?_)
  obtain ⟨e1, e2⟩ := h_4; have e1 := e1.symm; have e2 := e2.symm; subst e1; subst e2
  refine j_ifb_ne X 13 dX10_feed_7 (by decide) (fun c_7 => ?_) (fun c_7 => ?_)
  · refine j_aload_n X dX10_feed_13 rfl ?_
    refine j_getR X 10 6 (by decide) (by decide) rfl u244 (o0 np) (k0 np) _ (p0_6 np) dX10_feed_14 ?_
    refine j_lload_n X dX10_feed_17 rfl ?_
    refine j_iload_n X dX10_feed_18 rfl ?_
    refine s_callVi X hR (c_append np _ w q t hq ht hf) rfl 9 (by decide) (o51 np) (k51 np) rfl u635 u632 u633 u634 u7 hyX9_append (by decide) (by decide) (Nat.le_of_ble_eq_true rfl) dX10_feed_19 (fun v_19 m_19 h_19 => ?_)
    obtain ⟨e1, e2⟩ := h_19; have e1 := e1.symm; have e2 := e2.symm; subst e1; subst e2
    refine j_if_eq X 35 dX10_feed_22 (by decide) (fun c_22 => absurd c_22 (by decide)) (fun c_22 => ?_)
    refine j_aload_n X dX10_feed_25 rfl ?_
    refine j_getR X 10 6 (by decide) (by decide) rfl u244 (o0 np) (k0 np) _ (p0_6 np) dX10_feed_26 ?_
    refine j_getF X 9 1 (by decide) (by decide) rfl u135 (o51 np) (k51 np) _ rfl dX10_feed_29 ?_
    refine j_goto X 37 dX10_feed_32 (by decide) ?_
    refine s_iret X hE hr dX10_feed_37 rfl ?_
    exact ⟨rfl, rfl⟩
  · exfalso
    clear hE hr hR X
    (try simp only [lg_cmp_lt, lg_cmp_gt, lg_cmp_le, lg_cmp_ge] at *); (try simp (disch := omega) only [Int64.le_iff_toInt_le, Int64.lt_iff_toInt_lt, Int32.le_iff_toInt_le, Int32.lt_iff_toInt_lt, fa_eq, fa_lit, fa_litL, nI_toInt, pk_lT, Int32.toInt_toInt64, jadd64, jin, jnoneT] at *); omega
