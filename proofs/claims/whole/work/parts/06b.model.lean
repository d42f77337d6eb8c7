/-- n places of cell o, from sp on, laid from dp on -/
def jcpy (mem : jMem) (o sp dp n : Nat) : jMem := va_up mem o (va_cpy (mem o) (mem o) sp dp n)
theorem jcpy_0 (mem : jMem) (o sp dp : Nat) : jcpy mem o sp dp 0 = mem := by
  funext i j
  unfold jcpy va_up
  by_cases h : i = o
  · rw [if_pos h, pk_cpy_out (by omega), h]
  · rw [if_neg h]
theorem jcpy_up {mem : jMem} {o sp dp k : Nat} (h : dp ≤ sp ∨ sp + k < dp) : jup (jcpy mem o sp dp k) o (dp + k) (jcpy mem o sp dp k o (sp + k)) = jcpy mem o sp dp (k + 1) := by
  have e : jcpy mem o sp dp k o (sp + k) = mem o (sp + k) := by
    unfold jcpy va_up
    rw [if_pos rfl, pk_cpy_out (by omega)]
  rw [e]
  funext i j
  unfold jup jcpy va_up
  by_cases h1 : i = o
  · simp only [if_pos h1, if_true]
    by_cases h2 : j = dp + k
    · rw [if_pos h2, pk_cpy_in (by omega) (by omega), h2]
      congr 1; omega
    · rw [if_neg h2]
      by_cases h3 : dp ≤ j ∧ j < dp + k
      · rw [pk_cpy_in h3.1 h3.2, pk_cpy_in (by omega) (by omega)]
      · rw [pk_cpy_out (by omega), pk_cpy_out (by omega)]
  · rw [if_neg h1, if_neg h1, if_neg h1]
theorem jcpy_dn {mem : jMem} {o sp dp r k : Nat} (h : sp ≤ dp ∨ dp + (r + 1) + k ≤ sp + r) : jup (jcpy mem o (sp + (r + 1)) (dp + (r + 1)) k) o (dp + r) (jcpy mem o (sp + (r + 1)) (dp + (r + 1)) k o (sp + r)) = jcpy mem o (sp + r) (dp + r) (k + 1) := by
  have e : jcpy mem o (sp + (r + 1)) (dp + (r + 1)) k o (sp + r) = mem o (sp + r) := by
    unfold jcpy va_up
    rw [if_pos rfl, pk_cpy_out (by omega)]
  rw [e]
  funext i j
  unfold jup jcpy va_up
  by_cases h1 : i = o
  · simp only [if_pos h1, if_true]
    by_cases h2 : j = dp + r
    · rw [if_pos h2, pk_cpy_in (by omega) (by omega), h2]
      congr 1; omega
    · rw [if_neg h2]
      by_cases h3 : dp + (r + 1) ≤ j ∧ j < dp + (r + 1) + k
      · rw [pk_cpy_in h3.1 h3.2, pk_cpy_in (by omega) (by omega)]
        congr 1; omega
      · rw [pk_cpy_out (by omega), pk_cpy_out (by omega)]
  · rw [if_neg h1, if_neg h1, if_neg h1]
/-- what the model's loop over the keys knows -/
def jKB (days keys : Nat → Int32) (d : Int32) (o6 : Nat) (best : Int32) (j : Nat) : Prop := (jKeyS days keys d j = none ∧ best = -1000000) ∨ (∃ b, b < j ∧ best = nI (o6 + b) ∧ jKeyS days keys d j = some (days b, keys b))
theorem jKB_take {days keys : Nat → Int32} {d : Int32} {o6 : Nat} {best : Int32} {j : Nat} (h1 : days j ≤ d) (h2 : ∀ q, jKeyS days keys d j = some q → q.1 ≤ days j) : jKB days keys d o6 (nI (o6 + j)) (j + 1) := Or.inr ⟨j, by omega, rfl, if_pos ⟨h1, h2⟩⟩
theorem jKB_skip {days keys : Nat → Int32} {d : Int32} {o6 : Nat} {best : Int32} {j : Nat} (hB : jKB days keys d o6 best j) (h : ¬ (days j ≤ d ∧ (∀ q, jKeyS days keys d j = some q → q.1 ≤ days j))) : jKB days keys d o6 best (j + 1) := by
  have e : jKeyS days keys d (j + 1) = jKeyS days keys d j := if_neg h
  rcases hB with ⟨h1, h2⟩ | ⟨b, h1, h2, h3⟩
  · exact Or.inl ⟨e.trans h1, h2⟩
  · exact Or.inr ⟨b, by omega, h2, e.trans h3⟩
theorem jKB_none {days keys : Nat → Int32} {d : Int32} {o6 : Nat} {best : Int32} {c : Nat} (hB : jKB days keys d o6 best c) (h : best = -1000000) (hc : o6 + c < 2 ^ 31) : jKeyS days keys d c = none := by
  rcases hB with ⟨h1, h2⟩ | ⟨b, h1, h2, h3⟩
  · exact h1
  · rw [h2] at h
    exact absurd (nI_pos (n := o6 + b) (by omega)) (by rw [h]; decide)
theorem jKB_end {days keys : Nat → Int32} {d : Int32} {o6 : Nat} {best o : Int32} {c : Nat} (hB : jKB days keys d o6 best c) (h : best = -1000000) (hc : o6 + c < 2 ^ 31) : jKey days keys c o d = 100 + o := by
  rcases hB with ⟨h1, h2⟩ | ⟨b, h1, h2, h3⟩
  · unfold jKey; rw [h1]
  · rw [h2] at h
    exact absurd (nI_pos (n := o6 + b) (by omega)) (by rw [h]; decide)
def jRootM (row : Nat → Int32) (p : Nat) : Int32 := jJoin (jJoin (jLeaf (nI p) 0 (row (9 * p + 5))) (jLeaf (nI p) 1 (row (9 * p + 6)))) (jJoin (jLeaf (nI p) 2 (row (9 * p + 7))) (jLeaf (nI p) 3 (row (9 * p + 8))))
set_option maxRecDepth 4000 in
set_option maxHeartbeats 1000000 in
theorem m_copy_bad (np : Nat) (mem : jMem) (a i b j q : Int32) (h : ¬ (jin a 0 7 ∧ jin b 0 7)) : jPi yX11_copy cX11_copy 9 .int 3 [.ref 66, .int a, .int i, .int b, .int j, .int q] np mem (fun v c => v = -1000001 ∧ c = jup mem 66 0 0) := by
  refine jPi.of (own := RX11) rfl rfl (Nat.le_of_ble_eq_true rfl) (fun G X hR hr hE => ?_)
  refine j_aload_n X dX11_copy_0 rfl ?_
  refine j_iconst X dX11_copy_1 0 (by decide) ?_
  refine j_putI X 11 0 (by decide) (by decide) rfl rfl rfl rfl u950 (o66 np) (k66 np) dX11_copy_2 ?_
  refine j_iload_n X dX11_copy_5 rfl ?_
  refine s_callSi X hR (m_isSheet np _ _) rfl u1083 u1081 u1082 u12 hyX11_isSheet (by decide) (by decide) (Nat.le_of_ble_eq_true rfl) dX11_copy_6 (fun v_6 m_6 h_6 => ?_)
  obtain ⟨e1, e2⟩ := h_6; have e1 := e1.symm; have e2 := e2.symm; subst e1; subst e2
  refine j_ifb_eq X 19 dX11_copy_9 (by decide) (fun c_9 => ?_) (fun c_9 => ?_)
  · refine j_ldc X dX11_copy_19 u1089 ?_
    refine s_iret X hE hr dX11_copy_21 rfl ?_
    first | exact ⟨rfl, rfl⟩ | (exfalso; clear hE hr hR X; (try simp only [lg_cmp_lt, lg_cmp_gt, lg_cmp_le, lg_cmp_ge] at *); (try simp (disch := omega) only [Int64.le_iff_toInt_le, Int64.lt_iff_toInt_lt, Int32.le_iff_toInt_le, Int32.lt_iff_toInt_lt, fa_eq, fa_lit, fa_litL, nI_toInt, pk_lT, Int32.toInt_toInt64, jadd64, jin, jnoneT] at *); omega)
  · refine j_iload_n X dX11_copy_12 rfl ?_
    refine s_callSi X hR (m_isSheet np _ _) rfl u1083 u1081 u1082 u12 hyX11_isSheet (by decide) (by decide) (Nat.le_of_ble_eq_true rfl) dX11_copy_13 (fun v_13 m_13 h_13 => ?_)
    obtain ⟨e1, e2⟩ := h_13; have e1 := e1.symm; have e2 := e2.symm; subst e1; subst e2
    refine j_ifb_ne X 22 dX11_copy_16 (by decide) (fun c_16 => ?_) (fun c_16 => ?_)
    · exfalso
      clear hE hr hR X
      (try simp only [lg_cmp_lt, lg_cmp_gt, lg_cmp_le, lg_cmp_ge] at *); (try simp (disch := omega) only [Int64.le_iff_toInt_le, Int64.lt_iff_toInt_lt, Int32.le_iff_toInt_le, Int32.lt_iff_toInt_lt, fa_eq, fa_lit, fa_litL, nI_toInt, pk_lT, Int32.toInt_toInt64, jadd64, jin, jnoneT] at *); omega
    · refine j_ldc X dX11_copy_19 u1089 ?_
      refine s_iret X hE hr dX11_copy_21 rfl ?_
      first | exact ⟨rfl, rfl⟩ | (exfalso; clear hE hr hR X; (try simp only [lg_cmp_lt, lg_cmp_gt, lg_cmp_le, lg_cmp_ge] at *); (try simp (disch := omega) only [Int64.le_iff_toInt_le, Int64.lt_iff_toInt_lt, Int32.le_iff_toInt_le, Int32.lt_iff_toInt_lt, fa_eq, fa_lit, fa_litL, nI_toInt, pk_lT, Int32.toInt_toInt64, jadd64, jin, jnoneT] at *); omega)
set_option maxRecDepth 4000 in
set_option maxHeartbeats 1000000 in
theorem m_copy_null (np : Nat) (mem : jMem) (a b : Nat) (i j q : Int32) (ha : a < 8) (hb : b < 8) (hl : (mem 67 a).toInt < 0 ∨ (mem 67 b).toInt < 0) : jPi yX11_copy cX11_copy 9 .int 3 [.ref 66, .int (nI a), .int i, .int (nI b), .int j, .int q] np mem (fun v c => v = -1000010 - 1 ∧ c = jup (jup (jup mem 66 0 0) 66 1 0) 66 1 1) := by
  refine jPi.of (own := RX11) rfl rfl (Nat.le_of_ble_eq_true rfl) (fun G X hR hr hE => ?_)
  refine j_aload_n X dX11_copy_0 rfl ?_
  refine j_iconst X dX11_copy_1 0 (by decide) ?_
  refine j_putI X 11 0 (by decide) (by decide) rfl rfl rfl rfl u950 (o66 np) (k66 np) dX11_copy_2 ?_
  refine j_iload_n X dX11_copy_5 rfl ?_
  refine s_callSi X hR (m_isSheet np _ _) rfl u1083 u1081 u1082 u12 hyX11_isSheet (by decide) (by decide) (Nat.le_of_ble_eq_true rfl) dX11_copy_6 (fun v_6 m_6 h_6 => ?_)
  obtain ⟨e1, e2⟩ := h_6; have e1 := e1.symm; have e2 := e2.symm; subst e1; subst e2
  refine j_ifb_eq X 19 dX11_copy_9 (by decide) (fun c_9 => ?_) (fun c_9 => ?_)
  · exfalso
    clear hE hr hR X
    (try simp only [lg_cmp_lt, lg_cmp_gt, lg_cmp_le, lg_cmp_ge] at *); (try simp (disch := omega) only [Int64.le_iff_toInt_le, Int64.lt_iff_toInt_lt, Int32.le_iff_toInt_le, Int32.lt_iff_toInt_lt, fa_eq, fa_lit, fa_litL, nI_toInt, pk_lT, Int32.toInt_toInt64, jadd64, jin, jnoneT] at *); omega
  · refine j_iload_n X dX11_copy_12 rfl ?_
    refine s_callSi X hR (m_isSheet np _ _) rfl u1083 u1081 u1082 u12 hyX11_isSheet (by decide) (by decide) (Nat.le_of_ble_eq_true rfl) dX11_copy_13 (fun v_13 m_13 h_13 => ?_)
    obtain ⟨e1, e2⟩ := h_13; have e1 := e1.symm; have e2 := e2.symm; subst e1; subst e2
    refine j_ifb_ne X 22 dX11_copy_16 (by decide) (fun c_16 => ?_) (fun c_16 => ?_)
    · refine j_aload_n X dX11_copy_22 rfl ?_
      refine j_iconst X dX11_copy_23 0 (by decide) ?_
      refine j_putI X 11 1 (by decide) (by decide) rfl rfl rfl rfl u951 (o66 np) (k66 np) dX11_copy_24 ?_
      refine j_aload_n X dX11_copy_27 rfl ?_
      refine j_getR X 11 2 (by decide) (by decide) rfl u952 (o66 np) (k66 np) _ (p66_2 np) dX11_copy_28 ?_
      refine j_iload_n X dX11_copy_31 rfl ?_
      refine j_nrm _ (by first | (simp only [fa_lit, pk_mul, nI_add]; done) | (simp only [fa_lit, pk_mul, nI_add]; rfl) | rfl) ?_
      refine j_ialdN X (o67 np) (k67 np) (by rw [l67]; omega) (by rw [l67]; decide) (mem 67) rfl dX11_copy_32 ?_
      refine j_if_lt X 45 dX11_copy_33 (by decide) (fun c_33 => ?_) (fun c_33 => ?_)
      · refine j_aload_n X dX11_copy_45 rfl ?_
        refine j_iconst X dX11_copy_46 1 (by decide) ?_
        refine s_callVi X hR (m_finding np _ _) rfl 11 (by decide) (o66 np) (k66 np) rfl u1093 u1090 u1092 qp36 u12 hyX11_finding (by decide) (by decide) (Nat.le_of_ble_eq_true rfl) dX11_copy_47 (fun v_47 m_47 h_47 => ?_)
        obtain ⟨e1, e2⟩ := h_47; have e1 := e1.symm; have e2 := e2.symm; subst e1; subst e2
        refine s_iret X hE hr dX11_copy_50 rfl ?_
        first | exact ⟨rfl, rfl⟩ | (exfalso; clear hE hr hR X; (try simp only [lg_cmp_lt, lg_cmp_gt, lg_cmp_le, lg_cmp_ge] at *); (try simp (disch := omega) only [Int64.le_iff_toInt_le, Int64.lt_iff_toInt_lt, Int32.le_iff_toInt_le, Int32.lt_iff_toInt_lt, fa_eq, fa_lit, fa_litL, nI_toInt, pk_lT, Int32.toInt_toInt64, jadd64, jin, jnoneT] at *); omega)
      · refine j_aload_n X dX11_copy_36 rfl ?_
        refine j_getR X 11 2 (by decide) (by decide) rfl u952 (o66 np) (k66 np) _ (p66_2 np) dX11_copy_37 ?_
        refine j_iload_n X dX11_copy_40 rfl ?_
        refine j_nrm _ (by first | (simp only [fa_lit, pk_mul, nI_add]; done) | (simp only [fa_lit, pk_mul, nI_add]; rfl) | rfl) ?_
        refine j_ialdN X (o67 np) (k67 np) (by rw [l67]; omega) (by rw [l67]; decide) (mem 67) rfl dX11_copy_41 ?_
        refine j_if_ge X 51 dX11_copy_42 (by decide) (fun c_42 => ?_) (fun c_42 => ?_)
        · exfalso
          clear hE hr hR X
          (try simp only [lg_cmp_lt, lg_cmp_gt, lg_cmp_le, lg_cmp_ge] at *); (try simp (disch := omega) only [Int64.le_iff_toInt_le, Int64.lt_iff_toInt_lt, Int32.le_iff_toInt_le, Int32.lt_iff_toInt_lt, fa_eq, fa_lit, fa_litL, nI_toInt, pk_lT, Int32.toInt_toInt64, jadd64, jin, jnoneT] at *); omega
        · refine j_aload_n X dX11_copy_45 rfl ?_
          refine j_iconst X dX11_copy_46 1 (by decide) ?_
          refine s_callVi X hR (m_finding np _ _) rfl 11 (by decide) (o66 np) (k66 np) rfl u1093 u1090 u1092 qp36 u12 hyX11_finding (by decide) (by decide) (Nat.le_of_ble_eq_true rfl) dX11_copy_47 (fun v_47 m_47 h_47 => ?_)
          obtain ⟨e1, e2⟩ := h_47; have e1 := e1.symm; have e2 := e2.symm; subst e1; subst e2
          refine s_iret X hE hr dX11_copy_50 rfl ?_
          first | exact ⟨rfl, rfl⟩ | (exfalso; clear hE hr hR X; (try simp only [lg_cmp_lt, lg_cmp_gt, lg_cmp_le, lg_cmp_ge] at *); (try simp (disch := omega) only [Int64.le_iff_toInt_le, Int64.lt_iff_toInt_lt, Int32.le_iff_toInt_le, Int32.lt_iff_toInt_lt, fa_eq, fa_lit, fa_litL, nI_toInt, pk_lT, Int32.toInt_toInt64, jadd64, jin, jnoneT] at *); omega)
    · exfalso
      clear hE hr hR X
      (try simp only [lg_cmp_lt, lg_cmp_gt, lg_cmp_le, lg_cmp_ge] at *); (try simp (disch := omega) only [Int64.le_iff_toInt_le, Int64.lt_iff_toInt_lt, Int32.le_iff_toInt_le, Int32.lt_iff_toInt_lt, fa_eq, fa_lit, fa_litL, nI_toInt, pk_lT, Int32.toInt_toInt64, jadd64, jin, jnoneT] at *); omega
set_option maxRecDepth 4000 in
set_option maxHeartbeats 1000000 in
theorem m_copy_store (np : Nat) (mem : jMem) (a b : Nat) (i j q : Int32) (ha : a < 8) (hb : b < 8) (hl : 0 ≤ (mem 67 a).toInt ∧ 0 ≤ (mem 67 b).toInt) (hne : ¬ mem 67 a = mem 67 b) : jPi yX11_copy cX11_copy 9 .int 3 [.ref 66, .int (nI a), .int i, .int (nI b), .int j, .int q] np mem (fun v c => v = -1000010 - 5 ∧ c = jup (jup (jup mem 66 0 0) 66 1 0) 66 1 5) := by
  refine jPi.of (own := RX11) rfl rfl (Nat.le_of_ble_eq_true rfl) (fun G X hR hr hE => ?_)
  refine j_aload_n X dX11_copy_0 rfl ?_
  refine j_iconst X dX11_copy_1 0 (by decide) ?_
  refine j_putI X 11 0 (by decide) (by decide) rfl rfl rfl rfl u950 (o66 np) (k66 np) dX11_copy_2 ?_
  refine j_iload_n X dX11_copy_5 rfl ?_
  refine s_callSi X hR (m_isSheet np _ _) rfl u1083 u1081 u1082 u12 hyX11_isSheet (by decide) (by decide) (Nat.le_of_ble_eq_true rfl) dX11_copy_6 (fun v_6 m_6 h_6 => ?_)
  obtain ⟨e1, e2⟩ := h_6; have e1 := e1.symm; have e2 := e2.symm; subst e1; subst e2
  refine j_ifb_eq X 19 dX11_copy_9 (by decide) (fun c_9 => ?_) (fun c_9 => ?_)
  · exfalso
    clear hE hr hR X
    (try simp only [lg_cmp_lt, lg_cmp_gt, lg_cmp_le, lg_cmp_ge] at *); (try simp (disch := omega) only [Int64.le_iff_toInt_le, Int64.lt_iff_toInt_lt, Int32.le_iff_toInt_le, Int32.lt_iff_toInt_lt, fa_eq, fa_lit, fa_litL, nI_toInt, pk_lT, Int32.toInt_toInt64, jadd64, jin, jnoneT] at *); omega
  · refine j_iload_n X dX11_copy_12 rfl ?_
    refine s_callSi X hR (m_isSheet np _ _) rfl u1083 u1081 u1082 u12 hyX11_isSheet (by decide) (by decide) (Nat.le_of_ble_eq_true rfl) dX11_copy_13 (fun v_13 m_13 h_13 => ?_)
    obtain ⟨e1, e2⟩ := h_13; have e1 := e1.symm; have e2 := e2.symm; subst e1; subst e2
    refine j_ifb_ne X 22 dX11_copy_16 (by decide) (fun c_16 => ?_) (fun c_16 => ?_)
    · refine j_aload_n X dX11_copy_22 rfl ?_
      refine j_iconst X dX11_copy_23 0 (by decide) ?_
      refine j_putI X 11 1 (by decide) (by decide) rfl rfl rfl rfl u951 (o66 np) (k66 np) dX11_copy_24 ?_
      refine j_aload_n X dX11_copy_27 rfl ?_
      refine j_getR X 11 2 (by decide) (by decide) rfl u952 (o66 np) (k66 np) _ (p66_2 np) dX11_copy_28 ?_
      refine j_iload_n X dX11_copy_31 rfl ?_
      refine j_nrm _ (by first | (simp only [fa_lit, pk_mul, nI_add]; done) | (simp only [fa_lit, pk_mul, nI_add]; rfl) | rfl) ?_
      refine j_ialdN X (o67 np) (k67 np) (by rw [l67]; omega) (by rw [l67]; decide) (mem 67) rfl dX11_copy_32 ?_
      refine j_if_lt X 45 dX11_copy_33 (by decide) (fun c_33 => ?_) (fun c_33 => ?_)
      · exfalso
        clear hE hr hR X
        (try simp only [lg_cmp_lt, lg_cmp_gt, lg_cmp_le, lg_cmp_ge] at *); (try simp (disch := omega) only [Int64.le_iff_toInt_le, Int64.lt_iff_toInt_lt, Int32.le_iff_toInt_le, Int32.lt_iff_toInt_lt, fa_eq, fa_lit, fa_litL, nI_toInt, pk_lT, Int32.toInt_toInt64, jadd64, jin, jnoneT] at *); omega
      · refine j_aload_n X dX11_copy_36 rfl ?_
        refine j_getR X 11 2 (by decide) (by decide) rfl u952 (o66 np) (k66 np) _ (p66_2 np) dX11_copy_37 ?_
        refine j_iload_n X dX11_copy_40 rfl ?_
        refine j_nrm _ (by first | (simp only [fa_lit, pk_mul, nI_add]; done) | (simp only [fa_lit, pk_mul, nI_add]; rfl) | rfl) ?_
        refine j_ialdN X (o67 np) (k67 np) (by rw [l67]; omega) (by rw [l67]; decide) (mem 67) rfl dX11_copy_41 ?_
        refine j_if_ge X 51 dX11_copy_42 (by decide) (fun c_42 => ?_) (fun c_42 => ?_)
        · refine j_aload_n X dX11_copy_51 rfl ?_
          refine j_getR X 11 2 (by decide) (by decide) rfl u952 (o66 np) (k66 np) _ (p66_2 np) dX11_copy_52 ?_
          refine j_iload_n X dX11_copy_55 rfl ?_
          refine j_nrm _ (by first | (simp only [fa_lit, pk_mul, nI_add]; done) | (simp only [fa_lit, pk_mul, nI_add]; rfl) | rfl) ?_
          refine j_ialdN X (o67 np) (k67 np) (by rw [l67]; omega) (by rw [l67]; decide) (mem 67) rfl dX11_copy_56 ?_
          refine j_aload_n X dX11_copy_57 rfl ?_
          refine j_getR X 11 2 (by decide) (by decide) rfl u952 (o66 np) (k66 np) _ (p66_2 np) dX11_copy_58 ?_
          refine j_iload_n X dX11_copy_61 rfl ?_
          refine j_nrm _ (by first | (simp only [fa_lit, pk_mul, nI_add]; done) | (simp only [fa_lit, pk_mul, nI_add]; rfl) | rfl) ?_
          refine j_ialdN X (o67 np) (k67 np) (by rw [l67]; omega) (by rw [l67]; decide) (mem 67) rfl dX11_copy_62 ?_
          refine j_icmp_eq X 72 dX11_copy_63 (by decide) (fun c_63 => ?_) (fun c_63 => ?_)
          · exact absurd c_63 hne
          · refine j_aload_n X dX11_copy_66 rfl ?_
            refine j_iconst X dX11_copy_67 5 (by decide) ?_
            refine s_callVi X hR (m_finding np _ _) rfl 11 (by decide) (o66 np) (k66 np) rfl u1093 u1090 u1092 qp36 u12 hyX11_finding (by decide) (by decide) (Nat.le_of_ble_eq_true rfl) dX11_copy_68 (fun v_68 m_68 h_68 => ?_)
            obtain ⟨e1, e2⟩ := h_68; have e1 := e1.symm; have e2 := e2.symm; subst e1; subst e2
            refine s_iret X hE hr dX11_copy_71 rfl ?_
            first | exact ⟨rfl, rfl⟩ | (exfalso; clear hE hr hR X; (try simp only [lg_cmp_lt, lg_cmp_gt, lg_cmp_le, lg_cmp_ge] at *); (try simp (disch := omega) only [Int64.le_iff_toInt_le, Int64.lt_iff_toInt_lt, Int32.le_iff_toInt_le, Int32.lt_iff_toInt_lt, fa_eq, fa_lit, fa_litL, nI_toInt, pk_lT, Int32.toInt_toInt64, jadd64, jin, jnoneT] at *); omega)
        · exfalso
          clear hE hr hR X
          (try simp only [lg_cmp_lt, lg_cmp_gt, lg_cmp_le, lg_cmp_ge] at *); (try simp (disch := omega) only [Int64.le_iff_toInt_le, Int64.lt_iff_toInt_lt, Int32.le_iff_toInt_le, Int32.lt_iff_toInt_lt, fa_eq, fa_lit, fa_litL, nI_toInt, pk_lT, Int32.toInt_toInt64, jadd64, jin, jnoneT] at *); omega
    · exfalso
      clear hE hr hR X
      (try simp only [lg_cmp_lt, lg_cmp_gt, lg_cmp_le, lg_cmp_ge] at *); (try simp (disch := omega) only [Int64.le_iff_toInt_le, Int64.lt_iff_toInt_lt, Int32.le_iff_toInt_le, Int32.lt_iff_toInt_lt, fa_eq, fa_lit, fa_litL, nI_toInt, pk_lT, Int32.toInt_toInt64, jadd64, jin, jnoneT] at *); omega
set_option maxRecDepth 4000 in
set_option maxHeartbeats 1000000 in
theorem m_copy_place (np : Nat) (mem : jMem) (a b : Nat) (i j q : Int32) (ha : a < 8) (hb : b < 8) (hl : 0 ≤ (mem 67 a).toInt ∧ 0 ≤ (mem 67 b).toInt) (hne : mem 67 a = mem 67 b) (hp : i.toInt < 0 ∨ j.toInt < 0 ∨ q.toInt < 0 ∨ i.toInt + q.toInt > (mem 68 a).toInt ∨ j.toInt + q.toInt > (mem 68 b).toInt) : jPi yX11_copy cX11_copy 9 .int 3 [.ref 66, .int (nI a), .int i, .int (nI b), .int j, .int q] np mem (fun v c => v = -1000010 - 2 ∧ c = jup (jup (jup mem 66 0 0) 66 1 0) 66 1 2) := by
  refine jPi.of (own := RX11) rfl rfl (Nat.le_of_ble_eq_true rfl) (fun G X hR hr hE => ?_)
  refine j_aload_n X dX11_copy_0 rfl ?_
  refine j_iconst X dX11_copy_1 0 (by decide) ?_
  refine j_putI X 11 0 (by decide) (by decide) rfl rfl rfl rfl u950 (o66 np) (k66 np) dX11_copy_2 ?_
  refine j_iload_n X dX11_copy_5 rfl ?_
  refine s_callSi X hR (m_isSheet np _ _) rfl u1083 u1081 u1082 u12 hyX11_isSheet (by decide) (by decide) (Nat.le_of_ble_eq_true rfl) dX11_copy_6 (fun v_6 m_6 h_6 => ?_)
  obtain ⟨e1, e2⟩ := h_6; have e1 := e1.symm; have e2 := e2.symm; subst e1; subst e2
  refine j_ifb_eq X 19 dX11_copy_9 (by decide) (fun c_9 => ?_) (fun c_9 => ?_)
  · exfalso
    clear hE hr hR X
    (try simp only [lg_cmp_lt, lg_cmp_gt, lg_cmp_le, lg_cmp_ge] at *); (try simp (disch := omega) only [Int64.le_iff_toInt_le, Int64.lt_iff_toInt_lt, Int32.le_iff_toInt_le, Int32.lt_iff_toInt_lt, fa_eq, fa_lit, fa_litL, nI_toInt, pk_lT, Int32.toInt_toInt64, jadd64, jin, jnoneT] at *); omega
  · refine j_iload_n X dX11_copy_12 rfl ?_
    refine s_callSi X hR (m_isSheet np _ _) rfl u1083 u1081 u1082 u12 hyX11_isSheet (by decide) (by decide) (Nat.le_of_ble_eq_true rfl) dX11_copy_13 (fun v_13 m_13 h_13 => ?_)
    obtain ⟨e1, e2⟩ := h_13; have e1 := e1.symm; have e2 := e2.symm; subst e1; subst e2
    refine j_ifb_ne X 22 dX11_copy_16 (by decide) (fun c_16 => ?_) (fun c_16 => ?_)
    · refine j_aload_n X dX11_copy_22 rfl ?_
      refine j_iconst X dX11_copy_23 0 (by decide) ?_
      refine j_putI X 11 1 (by decide) (by decide) rfl rfl rfl rfl u951 (o66 np) (k66 np) dX11_copy_24 ?_
      refine j_aload_n X dX11_copy_27 rfl ?_
      refine j_getR X 11 2 (by decide) (by decide) rfl u952 (o66 np) (k66 np) _ (p66_2 np) dX11_copy_28 ?_
      refine j_iload_n X dX11_copy_31 rfl ?_
      refine j_nrm _ (by first | (simp only [fa_lit, pk_mul, nI_add]; done) | (simp only [fa_lit, pk_mul, nI_add]; rfl) | rfl) ?_
      refine j_ialdN X (o67 np) (k67 np) (by rw [l67]; omega) (by rw [l67]; decide) (mem 67) rfl dX11_copy_32 ?_
      refine j_if_lt X 45 dX11_copy_33 (by decide) (fun c_33 => ?_) (fun c_33 => ?_)
      · exfalso
        clear hE hr hR X
        (try simp only [lg_cmp_lt, lg_cmp_gt, lg_cmp_le, lg_cmp_ge] at *); (try simp (disch := omega) only [Int64.le_iff_toInt_le, Int64.lt_iff_toInt_lt, Int32.le_iff_toInt_le, Int32.lt_iff_toInt_lt, fa_eq, fa_lit, fa_litL, nI_toInt, pk_lT, Int32.toInt_toInt64, jadd64, jin, jnoneT] at *); omega
      · refine j_aload_n X dX11_copy_36 rfl ?_
        refine j_getR X 11 2 (by decide) (by decide) rfl u952 (o66 np) (k66 np) _ (p66_2 np) dX11_copy_37 ?_
        refine j_iload_n X dX11_copy_40 rfl ?_
        refine j_nrm _ (by first | (simp only [fa_lit, pk_mul, nI_add]; done) | (simp only [fa_lit, pk_mul, nI_add]; rfl) | rfl) ?_
        refine j_ialdN X (o67 np) (k67 np) (by rw [l67]; omega) (by rw [l67]; decide) (mem 67) rfl dX11_copy_41 ?_
        refine j_if_ge X 51 dX11_copy_42 (by decide) (fun c_42 => ?_) (fun c_42 => ?_)
        · refine j_aload_n X dX11_copy_51 rfl ?_
          refine j_getR X 11 2 (by decide) (by decide) rfl u952 (o66 np) (k66 np) _ (p66_2 np) dX11_copy_52 ?_
          refine j_iload_n X dX11_copy_55 rfl ?_
          refine j_nrm _ (by first | (simp only [fa_lit, pk_mul, nI_add]; done) | (simp only [fa_lit, pk_mul, nI_add]; rfl) | rfl) ?_
          refine j_ialdN X (o67 np) (k67 np) (by rw [l67]; omega) (by rw [l67]; decide) (mem 67) rfl dX11_copy_56 ?_
          refine j_aload_n X dX11_copy_57 rfl ?_
          refine j_getR X 11 2 (by decide) (by decide) rfl u952 (o66 np) (k66 np) _ (p66_2 np) dX11_copy_58 ?_
          refine j_iload_n X dX11_copy_61 rfl ?_
          refine j_nrm _ (by first | (simp only [fa_lit, pk_mul, nI_add]; done) | (simp only [fa_lit, pk_mul, nI_add]; rfl) | rfl) ?_
          refine j_ialdN X (o67 np) (k67 np) (by rw [l67]; omega) (by rw [l67]; decide) (mem 67) rfl dX11_copy_62 ?_
          refine j_icmp_eq X 72 dX11_copy_63 (by decide) (fun c_63 => ?_) (fun c_63 => ?_)
          · refine j_iload_n X dX11_copy_72 rfl ?_
            refine j_if_lt X 121 dX11_copy_73 (by decide) (fun c_73 => ?_) (fun c_73 => ?_)
            · refine j_aload_n X dX11_copy_121 rfl ?_
              refine j_iconst X dX11_copy_122 2 (by decide) ?_
              refine s_callVi X hR (m_finding np _ _) rfl 11 (by decide) (o66 np) (k66 np) rfl u1093 u1090 u1092 qp36 u12 hyX11_finding (by decide) (by decide) (Nat.le_of_ble_eq_true rfl) dX11_copy_123 (fun v_123 m_123 h_123 => ?_)
              obtain ⟨e1, e2⟩ := h_123; have e1 := e1.symm; have e2 := e2.symm; subst e1; subst e2
              refine s_iret X hE hr dX11_copy_126 rfl ?_
              first | exact ⟨rfl, rfl⟩ | (exfalso; clear hE hr hR X; (try simp only [lg_cmp_lt, lg_cmp_gt, lg_cmp_le, lg_cmp_ge] at *); (try simp (disch := omega) only [Int64.le_iff_toInt_le, Int64.lt_iff_toInt_lt, Int32.le_iff_toInt_le, Int32.lt_iff_toInt_lt, fa_eq, fa_lit, fa_litL, nI_toInt, pk_lT, Int32.toInt_toInt64, jadd64, jin, jnoneT] at *); omega)
            · refine j_iload X dX11_copy_76 rfl ?_
              refine j_if_lt X 121 dX11_copy_78 (by decide) (fun c_78 => ?_) (fun c_78 => ?_)
              · refine j_aload_n X dX11_copy_121 rfl ?_
                refine j_iconst X dX11_copy_122 2 (by decide) ?_
                refine s_callVi X hR (m_finding np _ _) rfl 11 (by decide) (o66 np) (k66 np) rfl u1093 u1090 u1092 qp36 u12 hyX11_finding (by decide) (by decide) (Nat.le_of_ble_eq_true rfl) dX11_copy_123 (fun v_123 m_123 h_123 => ?_)
                obtain ⟨e1, e2⟩ := h_123; have e1 := e1.symm; have e2 := e2.symm; subst e1; subst e2
                refine s_iret X hE hr dX11_copy_126 rfl ?_
                first | exact ⟨rfl, rfl⟩ | (exfalso; clear hE hr hR X; (try simp only [lg_cmp_lt, lg_cmp_gt, lg_cmp_le, lg_cmp_ge] at *); (try simp (disch := omega) only [Int64.le_iff_toInt_le, Int64.lt_iff_toInt_lt, Int32.le_iff_toInt_le, Int32.lt_iff_toInt_lt, fa_eq, fa_lit, fa_litL, nI_toInt, pk_lT, Int32.toInt_toInt64, jadd64, jin, jnoneT] at *); omega)
              · refine j_iload X dX11_copy_81 rfl ?_
                refine j_if_lt X 121 dX11_copy_83 (by decide) (fun c_83 => ?_) (fun c_83 => ?_)
                · refine j_aload_n X dX11_copy_121 rfl ?_
                  refine j_iconst X dX11_copy_122 2 (by decide) ?_
                  refine s_callVi X hR (m_finding np _ _) rfl 11 (by decide) (o66 np) (k66 np) rfl u1093 u1090 u1092 qp36 u12 hyX11_finding (by decide) (by decide) (Nat.le_of_ble_eq_true rfl) dX11_copy_123 (fun v_123 m_123 h_123 => ?_)
                  obtain ⟨e1, e2⟩ := h_123; have e1 := e1.symm; have e2 := e2.symm; subst e1; subst e2
                  refine s_iret X hE hr dX11_copy_126 rfl ?_
                  first | exact ⟨rfl, rfl⟩ | (exfalso; clear hE hr hR X; (try simp only [lg_cmp_lt, lg_cmp_gt, lg_cmp_le, lg_cmp_ge] at *); (try simp (disch := omega) only [Int64.le_iff_toInt_le, Int64.lt_iff_toInt_lt, Int32.le_iff_toInt_le, Int32.lt_iff_toInt_lt, fa_eq, fa_lit, fa_litL, nI_toInt, pk_lT, Int32.toInt_toInt64, jadd64, jin, jnoneT] at *); omega)
                · refine j_iload_n X dX11_copy_86 rfl ?_
                  refine j_i2l X dX11_copy_87 ?_
                  refine j_iload X dX11_copy_88 rfl ?_
                  refine j_i2l X dX11_copy_90 ?_
                  refine j_ladd X dX11_copy_91 ?_
                  refine j_aload_n X dX11_copy_92 rfl ?_
                  refine j_getR X 11 3 (by decide) (by decide) rfl u953 (o66 np) (k66 np) _ (p66_3 np) dX11_copy_93 ?_
                  refine j_iload_n X dX11_copy_96 rfl ?_
                  refine j_nrm _ (by first | (simp only [fa_lit, pk_mul, nI_add]; done) | (simp only [fa_lit, pk_mul, nI_add]; rfl) | rfl) ?_
                  refine j_ialdN X (o68 np) (k68 np) (by rw [l68]; omega) (by rw [l68]; decide) (mem 68) rfl dX11_copy_97 ?_
                  refine j_i2l X dX11_copy_98 ?_
                  refine j_lcmp X dX11_copy_99 ?_
                  refine j_if_gt X 121 dX11_copy_100 (by decide) (fun c_100 => ?_) (fun c_100 => ?_)
                  · refine j_aload_n X dX11_copy_121 rfl ?_
                    refine j_iconst X dX11_copy_122 2 (by decide) ?_
                    refine s_callVi X hR (m_finding np _ _) rfl 11 (by decide) (o66 np) (k66 np) rfl u1093 u1090 u1092 qp36 u12 hyX11_finding (by decide) (by decide) (Nat.le_of_ble_eq_true rfl) dX11_copy_123 (fun v_123 m_123 h_123 => ?_)
                    obtain ⟨e1, e2⟩ := h_123; have e1 := e1.symm; have e2 := e2.symm; subst e1; subst e2
                    refine s_iret X hE hr dX11_copy_126 rfl ?_
                    first | exact ⟨rfl, rfl⟩ | (exfalso; clear hE hr hR X; (try simp only [lg_cmp_lt, lg_cmp_gt, lg_cmp_le, lg_cmp_ge] at *); (try simp (disch := omega) only [Int64.le_iff_toInt_le, Int64.lt_iff_toInt_lt, Int32.le_iff_toInt_le, Int32.lt_iff_toInt_lt, fa_eq, fa_lit, fa_litL, nI_toInt, pk_lT, Int32.toInt_toInt64, jadd64, jin, jnoneT] at *); omega)
                  · refine j_iload X dX11_copy_103 rfl ?_
                    refine j_i2l X dX11_copy_105 ?_
                    refine j_iload X dX11_copy_106 rfl ?_
                    refine j_i2l X dX11_copy_108 ?_
                    refine j_ladd X dX11_copy_109 ?_
                    refine j_aload_n X dX11_copy_110 rfl ?_
                    refine j_getR X 11 3 (by decide) (by decide) rfl u953 (o66 np) (k66 np) _ (p66_3 np) dX11_copy_111 ?_
                    refine j_iload_n X dX11_copy_114 rfl ?_
                    refine j_nrm _ (by first | (simp only [fa_lit, pk_mul, nI_add]; done) | (simp only [fa_lit, pk_mul, nI_add]; rfl) | rfl) ?_
                    refine j_ialdN X (o68 np) (k68 np) (by rw [l68]; omega) (by rw [l68]; decide) (mem 68) rfl dX11_copy_115 ?_
                    refine j_i2l X dX11_copy_116 ?_
                    refine j_lcmp X dX11_copy_117 ?_
                    refine j_if_le X 127 dX11_copy_118 (by decide) (fun c_118 => ?_) (fun c_118 => ?_)
                    · exfalso
                      clear hE hr hR X
                      (try simp only [lg_cmp_lt, lg_cmp_gt, lg_cmp_le, lg_cmp_ge] at *); (try simp (disch := omega) only [Int64.le_iff_toInt_le, Int64.lt_iff_toInt_lt, Int32.le_iff_toInt_le, Int32.lt_iff_toInt_lt, fa_eq, fa_lit, fa_litL, nI_toInt, pk_lT, Int32.toInt_toInt64, jadd64, jin, jnoneT] at *); omega
                    · refine j_aload_n X dX11_copy_121 rfl ?_
                      refine j_iconst X dX11_copy_122 2 (by decide) ?_
                      refine s_callVi X hR (m_finding np _ _) rfl 11 (by decide) (o66 np) (k66 np) rfl u1093 u1090 u1092 qp36 u12 hyX11_finding (by decide) (by decide) (Nat.le_of_ble_eq_true rfl) dX11_copy_123 (fun v_123 m_123 h_123 => ?_)
                      obtain ⟨e1, e2⟩ := h_123; have e1 := e1.symm; have e2 := e2.symm; subst e1; subst e2
                      refine s_iret X hE hr dX11_copy_126 rfl ?_
                      first | exact ⟨rfl, rfl⟩ | (exfalso; clear hE hr hR X; (try simp only [lg_cmp_lt, lg_cmp_gt, lg_cmp_le, lg_cmp_ge] at *); (try simp (disch := omega) only [Int64.le_iff_toInt_le, Int64.lt_iff_toInt_lt, Int32.le_iff_toInt_le, Int32.lt_iff_toInt_lt, fa_eq, fa_lit, fa_litL, nI_toInt, pk_lT, Int32.toInt_toInt64, jadd64, jin, jnoneT] at *); omega)
          · exact absurd hne c_63
        · exfalso
          clear hE hr hR X
          (try simp only [lg_cmp_lt, lg_cmp_gt, lg_cmp_le, lg_cmp_ge] at *); (try simp (disch := omega) only [Int64.le_iff_toInt_le, Int64.lt_iff_toInt_lt, Int32.le_iff_toInt_le, Int32.lt_iff_toInt_lt, fa_eq, fa_lit, fa_litL, nI_toInt, pk_lT, Int32.toInt_toInt64, jadd64, jin, jnoneT] at *); omega
    · exfalso
      clear hE hr hR X
      (try simp only [lg_cmp_lt, lg_cmp_gt, lg_cmp_le, lg_cmp_ge] at *); (try simp (disch := omega) only [Int64.le_iff_toInt_le, Int64.lt_iff_toInt_lt, Int32.le_iff_toInt_le, Int32.lt_iff_toInt_lt, fa_eq, fa_lit, fa_litL, nI_toInt, pk_lT, Int32.toInt_toInt64, jadd64, jin, jnoneT] at *); omega
set_option maxRecDepth 4000 in
set_option maxHeartbeats 1000000 in
theorem m_copy_up (np : Nat) (mem : jMem) (a i b j q : Nat) (ha : a < 8) (hb : b < 8) (hl : 0 ≤ (mem 67 a).toInt ∧ 0 ≤ (mem 67 b).toInt) (hne : mem 67 a = mem 67 b) (z y : Nat) (hz : z ≤ 60) (hy : y ≤ 60) (hma : mem 68 a = nI z) (hmb : mem 68 b = nI y) (hi : i + q ≤ z) (hj : j + q ≤ y) (hd : j ≤ i) : jPi yX11_copy cX11_copy 9 .int 3 [.ref 66, .int (nI a), .int (nI i), .int (nI b), .int (nI j), .int (nI q)] np mem (fun v c => v = nI q ∧ c = jcpy (jup (jup mem 66 0 0) 66 1 0) 69 (60 * a + i) (60 * b + j) q) := by
  refine jPi.of (own := RX11) rfl rfl (Nat.le_of_ble_eq_true rfl) (fun G X hR hr hE => ?_)
  refine j_aload_n X dX11_copy_0 rfl ?_
  refine j_iconst X dX11_copy_1 0 (by decide) ?_
  refine j_putI X 11 0 (by decide) (by decide) rfl rfl rfl rfl u950 (o66 np) (k66 np) dX11_copy_2 ?_
  refine j_iload_n X dX11_copy_5 rfl ?_
  refine s_callSi X hR (m_isSheet np _ _) rfl u1083 u1081 u1082 u12 hyX11_isSheet (by decide) (by decide) (Nat.le_of_ble_eq_true rfl) dX11_copy_6 (fun v_6 m_6 h_6 => ?_)
  obtain ⟨e1, e2⟩ := h_6; have e1 := e1.symm; have e2 := e2.symm; subst e1; subst e2
  refine j_ifb_eq X 19 dX11_copy_9 (by decide) (fun c_9 => ?_) (fun c_9 => ?_)
  · exfalso
    clear hE hr hR X
    (try simp only [lg_cmp_lt, lg_cmp_gt, lg_cmp_le, lg_cmp_ge] at *); (try simp (disch := omega) only [Int64.le_iff_toInt_le, Int64.lt_iff_toInt_lt, Int32.le_iff_toInt_le, Int32.lt_iff_toInt_lt, fa_eq, fa_lit, fa_litL, nI_toInt, pk_lT, Int32.toInt_toInt64, jadd64, jin, jnoneT] at *); omega
  · refine j_iload_n X dX11_copy_12 rfl ?_
    refine s_callSi X hR (m_isSheet np _ _) rfl u1083 u1081 u1082 u12 hyX11_isSheet (by decide) (by decide) (Nat.le_of_ble_eq_true rfl) dX11_copy_13 (fun v_13 m_13 h_13 => ?_)
    obtain ⟨e1, e2⟩ := h_13; have e1 := e1.symm; have e2 := e2.symm; subst e1; subst e2
    refine j_ifb_ne X 22 dX11_copy_16 (by decide) (fun c_16 => ?_) (fun c_16 => ?_)
    · refine j_aload_n X dX11_copy_22 rfl ?_
      refine j_iconst X dX11_copy_23 0 (by decide) ?_
      refine j_putI X 11 1 (by decide) (by decide) rfl rfl rfl rfl u951 (o66 np) (k66 np) dX11_copy_24 ?_
      refine j_aload_n X dX11_copy_27 rfl ?_
      refine j_getR X 11 2 (by decide) (by decide) rfl u952 (o66 np) (k66 np) _ (p66_2 np) dX11_copy_28 ?_
      refine j_iload_n X dX11_copy_31 rfl ?_
      refine j_nrm _ (by first | (simp only [fa_lit, pk_mul, nI_add]; done) | (simp only [fa_lit, pk_mul, nI_add]; rfl) | rfl) ?_
      refine j_ialdN X (o67 np) (k67 np) (by rw [l67]; omega) (by rw [l67]; decide) (mem 67) rfl dX11_copy_32 ?_
      refine j_if_lt X 45 dX11_copy_33 (by decide) (fun c_33 => ?_) (fun c_33 => ?_)
      · exfalso
        clear hE hr hR X
        (try simp only [lg_cmp_lt, lg_cmp_gt, lg_cmp_le, lg_cmp_ge] at *); (try simp (disch := omega) only [Int64.le_iff_toInt_le, Int64.lt_iff_toInt_lt, Int32.le_iff_toInt_le, Int32.lt_iff_toInt_lt, fa_eq, fa_lit, fa_litL, nI_toInt, pk_lT, Int32.toInt_toInt64, jadd64, jin, jnoneT] at *); omega
      · refine j_aload_n X dX11_copy_36 rfl ?_
        refine j_getR X 11 2 (by decide) (by decide) rfl u952 (o66 np) (k66 np) _ (p66_2 np) dX11_copy_37 ?_
        refine j_iload_n X dX11_copy_40 rfl ?_
        refine j_nrm _ (by first | (simp only [fa_lit, pk_mul, nI_add]; done) | (simp only [fa_lit, pk_mul, nI_add]; rfl) | rfl) ?_
        refine j_ialdN X (o67 np) (k67 np) (by rw [l67]; omega) (by rw [l67]; decide) (mem 67) rfl dX11_copy_41 ?_
        refine j_if_ge X 51 dX11_copy_42 (by decide) (fun c_42 => ?_) (fun c_42 => ?_)
        · refine j_aload_n X dX11_copy_51 rfl ?_
          refine j_getR X 11 2 (by decide) (by decide) rfl u952 (o66 np) (k66 np) _ (p66_2 np) dX11_copy_52 ?_
          refine j_iload_n X dX11_copy_55 rfl ?_
          refine j_nrm _ (by first | (simp only [fa_lit, pk_mul, nI_add]; done) | (simp only [fa_lit, pk_mul, nI_add]; rfl) | rfl) ?_
          refine j_ialdN X (o67 np) (k67 np) (by rw [l67]; omega) (by rw [l67]; decide) (mem 67) rfl dX11_copy_56 ?_
          refine j_aload_n X dX11_copy_57 rfl ?_
          refine j_getR X 11 2 (by decide) (by decide) rfl u952 (o66 np) (k66 np) _ (p66_2 np) dX11_copy_58 ?_
          refine j_iload_n X dX11_copy_61 rfl ?_
          refine j_nrm _ (by first | (simp only [fa_lit, pk_mul, nI_add]; done) | (simp only [fa_lit, pk_mul, nI_add]; rfl) | rfl) ?_
          refine j_ialdN X (o67 np) (k67 np) (by rw [l67]; omega) (by rw [l67]; decide) (mem 67) rfl dX11_copy_62 ?_
          refine j_icmp_eq X 72 dX11_copy_63 (by decide) (fun c_63 => ?_) (fun c_63 => ?_)
          · refine j_iload_n X dX11_copy_72 rfl ?_
            refine j_if_lt X 121 dX11_copy_73 (by decide) (fun c_73 => ?_) (fun c_73 => ?_)
            · exfalso
              clear hE hr hR X
              skip
              skip
              simp only [hma, hmb] at *
              (try simp only [lg_cmp_lt, lg_cmp_gt, lg_cmp_le, lg_cmp_ge] at *); (try simp (disch := omega) only [Int64.le_iff_toInt_le, Int64.lt_iff_toInt_lt, Int32.le_iff_toInt_le, Int32.lt_iff_toInt_lt, fa_eq, fa_lit, fa_litL, nI_toInt, pk_lT, Int32.toInt_toInt64, jadd64, jin, jnoneT] at *); omega
            · refine j_iload X dX11_copy_76 rfl ?_
              refine j_if_lt X 121 dX11_copy_78 (by decide) (fun c_78 => ?_) (fun c_78 => ?_)
              · exfalso
                clear hE hr hR X
                skip
                skip
                simp only [hma, hmb] at *
                (try simp only [lg_cmp_lt, lg_cmp_gt, lg_cmp_le, lg_cmp_ge] at *); (try simp (disch := omega) only [Int64.le_iff_toInt_le, Int64.lt_iff_toInt_lt, Int32.le_iff_toInt_le, Int32.lt_iff_toInt_lt, fa_eq, fa_lit, fa_litL, nI_toInt, pk_lT, Int32.toInt_toInt64, jadd64, jin, jnoneT] at *); omega
              · refine j_iload X dX11_copy_81 rfl ?_
                refine j_if_lt X 121 dX11_copy_83 (by decide) (fun c_83 => ?_) (fun c_83 => ?_)
                · exfalso
                  clear hE hr hR X
                  skip
                  skip
                  simp only [hma, hmb] at *
                  (try simp only [lg_cmp_lt, lg_cmp_gt, lg_cmp_le, lg_cmp_ge] at *); (try simp (disch := omega) only [Int64.le_iff_toInt_le, Int64.lt_iff_toInt_lt, Int32.le_iff_toInt_le, Int32.lt_iff_toInt_lt, fa_eq, fa_lit, fa_litL, nI_toInt, pk_lT, Int32.toInt_toInt64, jadd64, jin, jnoneT] at *); omega
                · refine j_iload_n X dX11_copy_86 rfl ?_
                  refine j_i2l X dX11_copy_87 ?_
                  refine j_iload X dX11_copy_88 rfl ?_
                  refine j_i2l X dX11_copy_90 ?_
                  refine j_ladd X dX11_copy_91 ?_
                  refine j_aload_n X dX11_copy_92 rfl ?_
                  refine j_getR X 11 3 (by decide) (by decide) rfl u953 (o66 np) (k66 np) _ (p66_3 np) dX11_copy_93 ?_
                  refine j_iload_n X dX11_copy_96 rfl ?_
                  refine j_nrm _ (by first | (simp only [fa_lit, pk_mul, nI_add]; done) | (simp only [fa_lit, pk_mul, nI_add]; rfl) | rfl) ?_
                  refine j_ialdN X (o68 np) (k68 np) (by rw [l68]; omega) (by rw [l68]; decide) (mem 68) rfl dX11_copy_97 ?_
                  refine j_i2l X dX11_copy_98 ?_
                  refine j_lcmp X dX11_copy_99 ?_
                  refine j_if_gt X 121 dX11_copy_100 (by decide) (fun c_100 => ?_) (fun c_100 => ?_)
                  · exfalso
                    clear hE hr hR X
                    skip
                    skip
                    simp only [hma, hmb] at *
                    (try simp only [lg_cmp_lt, lg_cmp_gt, lg_cmp_le, lg_cmp_ge] at *); (try simp (disch := omega) only [Int64.le_iff_toInt_le, Int64.lt_iff_toInt_lt, Int32.le_iff_toInt_le, Int32.lt_iff_toInt_lt, fa_eq, fa_lit, fa_litL, nI_toInt, pk_lT, Int32.toInt_toInt64, jadd64, jin, jnoneT] at *); omega
                  · refine j_iload X dX11_copy_103 rfl ?_
                    refine j_i2l X dX11_copy_105 ?_
                    refine j_iload X dX11_copy_106 rfl ?_
                    refine j_i2l X dX11_copy_108 ?_
                    refine j_ladd X dX11_copy_109 ?_
                    refine j_aload_n X dX11_copy_110 rfl ?_
                    refine j_getR X 11 3 (by decide) (by decide) rfl u953 (o66 np) (k66 np) _ (p66_3 np) dX11_copy_111 ?_
                    refine j_iload_n X dX11_copy_114 rfl ?_
                    refine j_nrm _ (by first | (simp only [fa_lit, pk_mul, nI_add]; done) | (simp only [fa_lit, pk_mul, nI_add]; rfl) | rfl) ?_
                    refine j_ialdN X (o68 np) (k68 np) (by rw [l68]; omega) (by rw [l68]; decide) (mem 68) rfl dX11_copy_115 ?_
                    refine j_i2l X dX11_copy_116 ?_
                    refine j_lcmp X dX11_copy_117 ?_
                    refine j_if_le X 127 dX11_copy_118 (by decide) (fun c_118 => ?_) (fun c_118 => ?_)
                    · refine j_iload_n X dX11_copy_127 rfl ?_
                      refine j_iload X dX11_copy_128 rfl ?_
                      refine j_icmp_lt X 137 dX11_copy_130 (by decide) (fun c_130 => ?_) (fun c_130 => ?_)
                      · exfalso
                        clear hE hr hR X
                        (try simp only [lg_cmp_lt, lg_cmp_gt, lg_cmp_le, lg_cmp_ge] at *); (try simp (disch := omega) only [Int64.le_iff_toInt_le, Int64.lt_iff_toInt_lt, Int32.le_iff_toInt_le, Int32.lt_iff_toInt_lt, fa_eq, fa_lit, fa_litL, nI_toInt, pk_lT, Int32.toInt_toInt64, jadd64, jin, jnoneT] at *); omega
                      · refine j_iconst X dX11_copy_133 1 (by decide) ?_
                        refine j_goto X 138 dX11_copy_134 (by decide) ?_
                        refine j_istore X dX11_copy_138 (by decide) ?_
                        refine j_iconst X dX11_copy_140 0 (by decide) ?_
                        refine j_istore X dX11_copy_141 (by decide) ?_
                        have lp143 : ∀ (n : Nat) (k : Nat), k ≤ q → q + 1 ≤ k + n → J G RX11 cX11_copy 9 0 0 143 (jlv [some (.ref 66), some (.int (nI a)), some (.int (nI i)), some (.int (nI b)), some (.int (nI j)), some (.int (nI q)), some (.int 1), some (.int (nI k))]) [] (jS np) (jcpy (jup (jup mem 66 0 0) 66 1 0) 69 (60 * a + i) (60 * b + j) k) := by
                          intro n
                          induction n with
                          | zero =>
                            intro k hk hn
                            exact absurd hn (by omega)
                          | succ n ih143 =>
                            intro k hk hn
                            refine j_iload X dX11_copy_143 rfl ?_
                            refine j_iload X dX11_copy_145 rfl ?_
                            refine j_icmp_ge X 204 dX11_copy_147 (by decide) (fun c_147 => ?_) (fun c_147 => ?_)
                            · obtain rfl : k = q := by clear hE hr hR X; (try simp only [lg_cmp_lt, lg_cmp_gt, lg_cmp_le, lg_cmp_ge] at *); (try simp (disch := omega) only [Int64.le_iff_toInt_le, Int64.lt_iff_toInt_lt, Int32.le_iff_toInt_le, Int32.lt_iff_toInt_lt, fa_eq, fa_lit, fa_litL, nI_toInt, pk_lT, Int32.toInt_toInt64, jadd64, jin, jnoneT] at *); omega
                              refine j_iload X dX11_copy_204 rfl ?_
                              refine s_iret X hE hr dX11_copy_206 rfl ?_
                              first | exact ⟨rfl, rfl⟩ | (exfalso; clear hE hr hR X; (try simp only [lg_cmp_lt, lg_cmp_gt, lg_cmp_le, lg_cmp_ge] at *); (try simp (disch := omega) only [Int64.le_iff_toInt_le, Int64.lt_iff_toInt_lt, Int32.le_iff_toInt_le, Int32.lt_iff_toInt_lt, fa_eq, fa_lit, fa_litL, nI_toInt, pk_lT, Int32.toInt_toInt64, jadd64, jin, jnoneT] at *); omega)
                            · have hk2 : k < q := by clear hE hr hR X; (try simp only [lg_cmp_lt, lg_cmp_gt, lg_cmp_le, lg_cmp_ge] at *); (try simp (disch := omega) only [Int64.le_iff_toInt_le, Int64.lt_iff_toInt_lt, Int32.le_iff_toInt_le, Int32.lt_iff_toInt_lt, fa_eq, fa_lit, fa_litL, nI_toInt, pk_lT, Int32.toInt_toInt64, jadd64, jin, jnoneT] at *); omega
                              refine j_iload X dX11_copy_150 rfl ?_
                              refine j_if_eq X 160 dX11_copy_152 (by decide) (fun c_152 => absurd c_152 (by decide)) (fun c_152 => ?_)
                              refine j_iload X dX11_copy_155 rfl ?_
                              refine j_goto X 167 dX11_copy_157 (by decide) ?_
                              refine j_istore X dX11_copy_167 (by decide) ?_
                              refine j_aload_n X dX11_copy_169 rfl ?_
                              refine j_getR X 11 4 (by decide) (by decide) rfl u954 (o66 np) (k66 np) _ (p66_4 np) dX11_copy_170 ?_
                              refine j_bipush X dX11_copy_173 60 (by decide) ?_
                              refine j_iload_n X dX11_copy_175 rfl ?_
                              refine j_imul X dX11_copy_176 ?_
                              refine j_iload X dX11_copy_177 rfl ?_
                              refine j_iadd X dX11_copy_179 ?_
                              refine j_iload X dX11_copy_180 rfl ?_
                              refine j_iadd X dX11_copy_182 ?_
                              refine j_aload_n X dX11_copy_183 rfl ?_
                              refine j_getR X 11 4 (by decide) (by decide) rfl u954 (o66 np) (k66 np) _ (p66_4 np) dX11_copy_184 ?_
                              refine j_bipush X dX11_copy_187 60 (by decide) ?_
                              refine j_iload_n X dX11_copy_189 rfl ?_
                              refine j_imul X dX11_copy_190 ?_
                              refine j_iload_n X dX11_copy_191 rfl ?_
                              refine j_iadd X dX11_copy_192 ?_
                              refine j_iload X dX11_copy_193 rfl ?_
                              refine j_iadd X dX11_copy_195 ?_
                              refine j_nrm _ (by first | (simp only [fa_lit, pk_mul, nI_add]; done) | (simp only [fa_lit, pk_mul, nI_add]; rfl) | rfl) ?_
                              refine j_ialdN X (o69 np) (k69 np) (by rw [l69]; omega) (by rw [l69]; decide) _ rfl dX11_copy_196 ?_
                              refine j_nrm2 _ (by first | (simp only [fa_lit, pk_mul, nI_add]; done) | (simp only [fa_lit, pk_mul, nI_add]; rfl) | rfl) ?_
                              refine j_iastN X (o69 np) (k69 np) (by rw [l69]; omega) (by rw [l69]; decide) dX11_copy_197 ?_
                              refine j_iinc X dX11_copy_198 rfl 1 rfl ?_
                              refine j_goto X 143 dX11_copy_201 (by decide) ?_
                              refine j_mem (jcpy (jup (jup mem 66 0 0) 66 1 0) 69 (60 * a + i) (60 * b + j) (k + 1)) (jcpy_up (by omega)) ?_
                              refine j_lv [some (.ref 66), some (.int (nI a)), some (.int (nI i)), some (.int (nI b)), some (.int (nI j)), some (.int (nI q)), some (.int 1), some (.int (nI (k + 1)))] ⟨rfl, rfl, rfl, rfl, rfl, rfl, rfl, (by rw [← nI_1]; rfl), trivial⟩ ?_
                              exact ih143 (k + 1) (by omega) (by omega)
                        refine j_mem (jcpy (jup (jup mem 66 0 0) 66 1 0) 69 (60 * a + i) (60 * b + j) 0) (jcpy_0 _ _ _ _).symm ?_
                        refine j_lv [some (.ref 66), some (.int (nI a)), some (.int (nI i)), some (.int (nI b)), some (.int (nI j)), some (.int (nI q)), some (.int 1), some (.int (nI 0))] ⟨rfl, rfl, rfl, rfl, rfl, rfl, rfl, rfl, trivial⟩ ?_
                        exact lp143 (q + 1) 0 (by omega) (by omega)
                    · exfalso
                      clear hE hr hR X
                      skip
                      skip
                      simp only [hma, hmb] at *
                      (try simp only [lg_cmp_lt, lg_cmp_gt, lg_cmp_le, lg_cmp_ge] at *); (try simp (disch := omega) only [Int64.le_iff_toInt_le, Int64.lt_iff_toInt_lt, Int32.le_iff_toInt_le, Int32.lt_iff_toInt_lt, fa_eq, fa_lit, fa_litL, nI_toInt, pk_lT, Int32.toInt_toInt64, jadd64, jin, jnoneT] at *); omega
          · exact absurd hne c_63
        · exfalso
          clear hE hr hR X
          (try simp only [lg_cmp_lt, lg_cmp_gt, lg_cmp_le, lg_cmp_ge] at *); (try simp (disch := omega) only [Int64.le_iff_toInt_le, Int64.lt_iff_toInt_lt, Int32.le_iff_toInt_le, Int32.lt_iff_toInt_lt, fa_eq, fa_lit, fa_litL, nI_toInt, pk_lT, Int32.toInt_toInt64, jadd64, jin, jnoneT] at *); omega
    · exfalso
      clear hE hr hR X
      (try simp only [lg_cmp_lt, lg_cmp_gt, lg_cmp_le, lg_cmp_ge] at *); (try simp (disch := omega) only [Int64.le_iff_toInt_le, Int64.lt_iff_toInt_lt, Int32.le_iff_toInt_le, Int32.lt_iff_toInt_lt, fa_eq, fa_lit, fa_litL, nI_toInt, pk_lT, Int32.toInt_toInt64, jadd64, jin, jnoneT] at *); omega
set_option maxRecDepth 4000 in
set_option maxHeartbeats 1000000 in
theorem m_copy_dn (np : Nat) (mem : jMem) (a i b j q : Nat) (ha : a < 8) (hb : b < 8) (hl : 0 ≤ (mem 67 a).toInt ∧ 0 ≤ (mem 67 b).toInt) (hne : mem 67 a = mem 67 b) (z y : Nat) (hz : z ≤ 60) (hy : y ≤ 60) (hma : mem 68 a = nI z) (hmb : mem 68 b = nI y) (hi : i + q ≤ z) (hj : j + q ≤ y) (hd : i < j) : jPi yX11_copy cX11_copy 9 .int 3 [.ref 66, .int (nI a), .int (nI i), .int (nI b), .int (nI j), .int (nI q)] np mem (fun v c => v = nI q ∧ c = jcpy (jup (jup mem 66 0 0) 66 1 0) 69 (60 * a + i) (60 * b + j) q) := by
  refine jPi.of (own := RX11) rfl rfl (Nat.le_of_ble_eq_true rfl) (fun G X hR hr hE => ?_)
  refine j_aload_n X dX11_copy_0 rfl ?_
  refine j_iconst X dX11_copy_1 0 (by decide) ?_
  refine j_putI X 11 0 (by decide) (by decide) rfl rfl rfl rfl u950 (o66 np) (k66 np) dX11_copy_2 ?_
  refine j_iload_n X dX11_copy_5 rfl ?_
  refine s_callSi X hR (m_isSheet np _ _) rfl u1083 u1081 u1082 u12 hyX11_isSheet (by decide) (by decide) (Nat.le_of_ble_eq_true rfl) dX11_copy_6 (fun v_6 m_6 h_6 => ?_)
  obtain ⟨e1, e2⟩ := h_6; have e1 := e1.symm; have e2 := e2.symm; subst e1; subst e2
  refine j_ifb_eq X 19 dX11_copy_9 (by decide) (fun c_9 => ?_) (fun c_9 => ?_)
  · exfalso
    clear hE hr hR X
    (try simp only [lg_cmp_lt, lg_cmp_gt, lg_cmp_le, lg_cmp_ge] at *); (try simp (disch := omega) only [Int64.le_iff_toInt_le, Int64.lt_iff_toInt_lt, Int32.le_iff_toInt_le, Int32.lt_iff_toInt_lt, fa_eq, fa_lit, fa_litL, nI_toInt, pk_lT, Int32.toInt_toInt64, jadd64, jin, jnoneT] at *); omega
  · refine j_iload_n X dX11_copy_12 rfl ?_
    refine s_callSi X hR (m_isSheet np _ _) rfl u1083 u1081 u1082 u12 hyX11_isSheet (by decide) (by decide) (Nat.le_of_ble_eq_true rfl) dX11_copy_13 (fun v_13 m_13 h_13 => ?_)
    obtain ⟨e1, e2⟩ := h_13; have e1 := e1.symm; have e2 := e2.symm; subst e1; subst e2
    refine j_ifb_ne X 22 dX11_copy_16 (by decide) (fun c_16 => ?_) (fun c_16 => ?_)
    · refine j_aload_n X dX11_copy_22 rfl ?_
      refine j_iconst X dX11_copy_23 0 (by decide) ?_
      refine j_putI X 11 1 (by decide) (by decide) rfl rfl rfl rfl u951 (o66 np) (k66 np) dX11_copy_24 ?_
      refine j_aload_n X dX11_copy_27 rfl ?_
      refine j_getR X 11 2 (by decide) (by decide) rfl u952 (o66 np) (k66 np) _ (p66_2 np) dX11_copy_28 ?_
      refine j_iload_n X dX11_copy_31 rfl ?_
      refine j_nrm _ (by first | (simp only [fa_lit, pk_mul, nI_add]; done) | (simp only [fa_lit, pk_mul, nI_add]; rfl) | rfl) ?_
      refine j_ialdN X (o67 np) (k67 np) (by rw [l67]; omega) (by rw [l67]; decide) (mem 67) rfl dX11_copy_32 ?_
      refine j_if_lt X 45 dX11_copy_33 (by decide) (fun c_33 => ?_) (fun c_33 => ?_)
      · exfalso
        clear hE hr hR X
        (try simp only [lg_cmp_lt, lg_cmp_gt, lg_cmp_le, lg_cmp_ge] at *); (try simp (disch := omega) only [Int64.le_iff_toInt_le, Int64.lt_iff_toInt_lt, Int32.le_iff_toInt_le, Int32.lt_iff_toInt_lt, fa_eq, fa_lit, fa_litL, nI_toInt, pk_lT, Int32.toInt_toInt64, jadd64, jin, jnoneT] at *); omega
      · refine j_aload_n X dX11_copy_36 rfl ?_
        refine j_getR X 11 2 (by decide) (by decide) rfl u952 (o66 np) (k66 np) _ (p66_2 np) dX11_copy_37 ?_
        refine j_iload_n X dX11_copy_40 rfl ?_
        refine j_nrm _ (by first | (simp only [fa_lit, pk_mul, nI_add]; done) | (simp only [fa_lit, pk_mul, nI_add]; rfl) | rfl) ?_
        refine j_ialdN X (o67 np) (k67 np) (by rw [l67]; omega) (by rw [l67]; decide) (mem 67) rfl dX11_copy_41 ?_
        refine j_if_ge X 51 dX11_copy_42 (by decide) (fun c_42 => ?_) (fun c_42 => ?_)
        · refine j_aload_n X dX11_copy_51 rfl ?_
          refine j_getR X 11 2 (by decide) (by decide) rfl u952 (o66 np) (k66 np) _ (p66_2 np) dX11_copy_52 ?_
          refine j_iload_n X dX11_copy_55 rfl ?_
          refine j_nrm _ (by first | (simp only [fa_lit, pk_mul, nI_add]; done) | (simp only [fa_lit, pk_mul, nI_add]; rfl) | rfl) ?_
          refine j_ialdN X (o67 np) (k67 np) (by rw [l67]; omega) (by rw [l67]; decide) (mem 67) rfl dX11_copy_56 ?_
          refine j_aload_n X dX11_copy_57 rfl ?_
          refine j_getR X 11 2 (by decide) (by decide) rfl u952 (o66 np) (k66 np) _ (p66_2 np) dX11_copy_58 ?_
          refine j_iload_n X dX11_copy_61 rfl ?_
          refine j_nrm _ (by first | (simp only [fa_lit, pk_mul, nI_add]; done) | (simp only [fa_lit, pk_mul, nI_add]; rfl) | rfl) ?_
          refine j_ialdN X (o67 np) (k67 np) (by rw [l67]; omega) (by rw [l67]; decide) (mem 67) rfl dX11_copy_62 ?_
          refine j_icmp_eq X 72 dX11_copy_63 (by decide) (fun c_63 => ?_) (fun c_63 => ?_)
          · refine j_iload_n X dX11_copy_72 rfl ?_
            refine j_if_lt X 121 dX11_copy_73 (by decide) (fun c_73 => ?_) (fun c_73 => ?_)
            · exfalso
              clear hE hr hR X
              skip
              skip
              simp only [hma, hmb] at *
              (try simp only [lg_cmp_lt, lg_cmp_gt, lg_cmp_le, lg_cmp_ge] at *); (try simp (disch := omega) only [Int64.le_iff_toInt_le, Int64.lt_iff_toInt_lt, Int32.le_iff_toInt_le, Int32.lt_iff_toInt_lt, fa_eq, fa_lit, fa_litL, nI_toInt, pk_lT, Int32.toInt_toInt64, jadd64, jin, jnoneT] at *); omega
            · refine j_iload X dX11_copy_76 rfl ?_
              refine j_if_lt X 121 dX11_copy_78 (by decide) (fun c_78 => ?_) (fun c_78 => ?_)
              · exfalso
                clear hE hr hR X
                skip
                skip
                simp only [hma, hmb] at *
                (try simp only [lg_cmp_lt, lg_cmp_gt, lg_cmp_le, lg_cmp_ge] at *); (try simp (disch := omega) only [Int64.le_iff_toInt_le, Int64.lt_iff_toInt_lt, Int32.le_iff_toInt_le, Int32.lt_iff_toInt_lt, fa_eq, fa_lit, fa_litL, nI_toInt, pk_lT, Int32.toInt_toInt64, jadd64, jin, jnoneT] at *); omega
              · refine j_iload X dX11_copy_81 rfl ?_
                refine j_if_lt X 121 dX11_copy_83 (by decide) (fun c_83 => ?_) (fun c_83 => ?_)
                · exfalso
                  clear hE hr hR X
                  skip
                  skip
                  simp only [hma, hmb] at *
                  (try simp only [lg_cmp_lt, lg_cmp_gt, lg_cmp_le, lg_cmp_ge] at *); (try simp (disch := omega) only [Int64.le_iff_toInt_le, Int64.lt_iff_toInt_lt, Int32.le_iff_toInt_le, Int32.lt_iff_toInt_lt, fa_eq, fa_lit, fa_litL, nI_toInt, pk_lT, Int32.toInt_toInt64, jadd64, jin, jnoneT] at *); omega
                · refine j_iload_n X dX11_copy_86 rfl ?_
                  refine j_i2l X dX11_copy_87 ?_
                  refine j_iload X dX11_copy_88 rfl ?_
                  refine j_i2l X dX11_copy_90 ?_
                  refine j_ladd X dX11_copy_91 ?_
                  refine j_aload_n X dX11_copy_92 rfl ?_
                  refine j_getR X 11 3 (by decide) (by decide) rfl u953 (o66 np) (k66 np) _ (p66_3 np) dX11_copy_93 ?_
                  refine j_iload_n X dX11_copy_96 rfl ?_
                  refine j_nrm _ (by first | (simp only [fa_lit, pk_mul, nI_add]; done) | (simp only [fa_lit, pk_mul, nI_add]; rfl) | rfl) ?_
                  refine j_ialdN X (o68 np) (k68 np) (by rw [l68]; omega) (by rw [l68]; decide) (mem 68) rfl dX11_copy_97 ?_
                  refine j_i2l X dX11_copy_98 ?_
                  refine j_lcmp X dX11_copy_99 ?_
                  refine j_if_gt X 121 dX11_copy_100 (by decide) (fun c_100 => ?_) (fun c_100 => ?_)
                  · exfalso
                    clear hE hr hR X
                    skip
                    skip
                    simp only [hma, hmb] at *
                    (try simp only [lg_cmp_lt, lg_cmp_gt, lg_cmp_le, lg_cmp_ge] at *); (try simp (disch := omega) only [Int64.le_iff_toInt_le, Int64.lt_iff_toInt_lt, Int32.le_iff_toInt_le, Int32.lt_iff_toInt_lt, fa_eq, fa_lit, fa_litL, nI_toInt, pk_lT, Int32.toInt_toInt64, jadd64, jin, jnoneT] at *); omega
                  · refine j_iload X dX11_copy_103 rfl ?_
                    refine j_i2l X dX11_copy_105 ?_
                    refine j_iload X dX11_copy_106 rfl ?_
                    refine j_i2l X dX11_copy_108 ?_
                    refine j_ladd X dX11_copy_109 ?_
                    refine j_aload_n X dX11_copy_110 rfl ?_
                    refine j_getR X 11 3 (by decide) (by decide) rfl u953 (o66 np) (k66 np) _ (p66_3 np) dX11_copy_111 ?_
                    refine j_iload_n X dX11_copy_114 rfl ?_
                    refine j_nrm _ (by first | (simp only [fa_lit, pk_mul, nI_add]; done) | (simp only [fa_lit, pk_mul, nI_add]; rfl) | rfl) ?_
                    refine j_ialdN X (o68 np) (k68 np) (by rw [l68]; omega) (by rw [l68]; decide) (mem 68) rfl dX11_copy_115 ?_
                    refine j_i2l X dX11_copy_116 ?_
                    refine j_lcmp X dX11_copy_117 ?_
                    refine j_if_le X 127 dX11_copy_118 (by decide) (fun c_118 => ?_) (fun c_118 => ?_)
                    · refine j_iload_n X dX11_copy_127 rfl ?_
                      refine j_iload X dX11_copy_128 rfl ?_
                      refine j_icmp_lt X 137 dX11_copy_130 (by decide) (fun c_130 => ?_) (fun c_130 => ?_)
                      · refine j_iconst X dX11_copy_137 0 (by decide) ?_
                        refine j_istore X dX11_copy_138 (by decide) ?_
                        refine j_iconst X dX11_copy_140 0 (by decide) ?_
                        refine j_istore X dX11_copy_141 (by decide) ?_
                        have lp143 : ∀ (n : Nat) (k : Nat), k ≤ q → q + 1 ≤ k + n → J G RX11 cX11_copy 9 0 0 143 (jlv [some (.ref 66), some (.int (nI a)), some (.int (nI i)), some (.int (nI b)), some (.int (nI j)), some (.int (nI q)), some (.int 0), some (.int (nI k))]) [] (jS np) (jcpy (jup (jup mem 66 0 0) 66 1 0) 69 (60 * a + i + (q - k)) (60 * b + j + (q - k)) k) := by
                          intro n
                          induction n with
                          | zero =>
                            intro k hk hn
                            exact absurd hn (by omega)
                          | succ n ih143 =>
                            intro k hk hn
                            refine j_iload X dX11_copy_143 rfl ?_
                            refine j_iload X dX11_copy_145 rfl ?_
                            refine j_icmp_ge X 204 dX11_copy_147 (by decide) (fun c_147 => ?_) (fun c_147 => ?_)
                            · obtain rfl : k = q := by clear hE hr hR X; (try simp only [lg_cmp_lt, lg_cmp_gt, lg_cmp_le, lg_cmp_ge] at *); (try simp (disch := omega) only [Int64.le_iff_toInt_le, Int64.lt_iff_toInt_lt, Int32.le_iff_toInt_le, Int32.lt_iff_toInt_lt, fa_eq, fa_lit, fa_litL, nI_toInt, pk_lT, Int32.toInt_toInt64, jadd64, jin, jnoneT] at *); omega
                              rw [show 60 * a + i + (k - k) = 60 * a + i by omega, show 60 * b + j + (k - k) = 60 * b + j by omega]
                              refine j_iload X dX11_copy_204 rfl ?_
                              refine s_iret X hE hr dX11_copy_206 rfl ?_
                              first | exact ⟨rfl, rfl⟩ | (exfalso; clear hE hr hR X; (try simp only [lg_cmp_lt, lg_cmp_gt, lg_cmp_le, lg_cmp_ge] at *); (try simp (disch := omega) only [Int64.le_iff_toInt_le, Int64.lt_iff_toInt_lt, Int32.le_iff_toInt_le, Int32.lt_iff_toInt_lt, fa_eq, fa_lit, fa_litL, nI_toInt, pk_lT, Int32.toInt_toInt64, jadd64, jin, jnoneT] at *); omega)
                            · have hk2 : k < q := by clear hE hr hR X; (try simp only [lg_cmp_lt, lg_cmp_gt, lg_cmp_le, lg_cmp_ge] at *); (try simp (disch := omega) only [Int64.le_iff_toInt_le, Int64.lt_iff_toInt_lt, Int32.le_iff_toInt_le, Int32.lt_iff_toInt_lt, fa_eq, fa_lit, fa_litL, nI_toInt, pk_lT, Int32.toInt_toInt64, jadd64, jin, jnoneT] at *); omega
                              refine j_iload X dX11_copy_150 rfl ?_
                              refine j_if_eq X 160 dX11_copy_152 (by decide) (fun c_152 => ?_) (fun c_152 => absurd rfl c_152)
                              refine j_iload X dX11_copy_160 rfl ?_
                              refine j_iconst X dX11_copy_162 1 (by decide) ?_
                              refine j_isub X dX11_copy_163 ?_
                              refine j_iload X dX11_copy_164 rfl ?_
                              refine j_isub X dX11_copy_166 ?_
                              refine j_nrm (nI (q - 1 - k)) (by rw [fa_lit, pk_sub (by omega), pk_sub (by omega)]) ?_
                              refine j_istore X dX11_copy_167 (by decide) ?_
                              refine j_aload_n X dX11_copy_169 rfl ?_
                              refine j_getR X 11 4 (by decide) (by decide) rfl u954 (o66 np) (k66 np) _ (p66_4 np) dX11_copy_170 ?_
                              refine j_bipush X dX11_copy_173 60 (by decide) ?_
                              refine j_iload_n X dX11_copy_175 rfl ?_
                              refine j_imul X dX11_copy_176 ?_
                              refine j_iload X dX11_copy_177 rfl ?_
                              refine j_iadd X dX11_copy_179 ?_
                              refine j_iload X dX11_copy_180 rfl ?_
                              refine j_iadd X dX11_copy_182 ?_
                              refine j_aload_n X dX11_copy_183 rfl ?_
                              refine j_getR X 11 4 (by decide) (by decide) rfl u954 (o66 np) (k66 np) _ (p66_4 np) dX11_copy_184 ?_
                              refine j_bipush X dX11_copy_187 60 (by decide) ?_
                              refine j_iload_n X dX11_copy_189 rfl ?_
                              refine j_imul X dX11_copy_190 ?_
                              refine j_iload_n X dX11_copy_191 rfl ?_
                              refine j_iadd X dX11_copy_192 ?_
                              refine j_iload X dX11_copy_193 rfl ?_
                              refine j_iadd X dX11_copy_195 ?_
                              refine j_nrm _ (by first | (simp only [fa_lit, pk_mul, nI_add]; done) | (simp only [fa_lit, pk_mul, nI_add]; rfl) | rfl) ?_
                              refine j_ialdN X (o69 np) (k69 np) (by rw [l69]; omega) (by rw [l69]; decide) _ rfl dX11_copy_196 ?_
                              refine j_nrm2 _ (by first | (simp only [fa_lit, pk_mul, nI_add]; done) | (simp only [fa_lit, pk_mul, nI_add]; rfl) | rfl) ?_
                              refine j_iastN X (o69 np) (k69 np) (by rw [l69]; omega) (by rw [l69]; decide) dX11_copy_197 ?_
                              refine j_iinc X dX11_copy_198 rfl 1 rfl ?_
                              refine j_goto X 143 dX11_copy_201 (by decide) ?_
                              refine j_mem (jcpy (jup (jup mem 66 0 0) 66 1 0) 69 (60 * a + i + (q - (k + 1))) (60 * b + j + (q - (k + 1))) (k + 1)) (by
          obtain ⟨r, hr⟩ : ∃ r, q = k + (r + 1) := ⟨q - k - 1, by omega⟩
          rw [show q - k = r + 1 by omega, show q - (k + 1) = r by omega, show q - 1 - k = r by omega]
          exact jcpy_dn (by omega)) ?_
                              refine j_lv [some (.ref 66), some (.int (nI a)), some (.int (nI i)), some (.int (nI b)), some (.int (nI j)), some (.int (nI q)), some (.int 0), some (.int (nI (k + 1)))] ⟨rfl, rfl, rfl, rfl, rfl, rfl, rfl, (by rw [← nI_1]; rfl), trivial⟩ ?_
                              exact ih143 (k + 1) (by omega) (by omega)
                        refine j_mem (jcpy (jup (jup mem 66 0 0) 66 1 0) 69 (60 * a + i + (q - 0)) (60 * b + j + (q - 0)) 0) (jcpy_0 _ _ _ _).symm ?_
                        refine j_lv [some (.ref 66), some (.int (nI a)), some (.int (nI i)), some (.int (nI b)), some (.int (nI j)), some (.int (nI q)), some (.int 0), some (.int (nI 0))] ⟨rfl, rfl, rfl, rfl, rfl, rfl, rfl, rfl, trivial⟩ ?_
                        exact lp143 (q + 1) 0 (by omega) (by omega)
                      · exfalso
                        clear hE hr hR X
                        (try simp only [lg_cmp_lt, lg_cmp_gt, lg_cmp_le, lg_cmp_ge] at *); (try simp (disch := omega) only [Int64.le_iff_toInt_le, Int64.lt_iff_toInt_lt, Int32.le_iff_toInt_le, Int32.lt_iff_toInt_lt, fa_eq, fa_lit, fa_litL, nI_toInt, pk_lT, Int32.toInt_toInt64, jadd64, jin, jnoneT] at *); omega
                    · exfalso
                      clear hE hr hR X
                      skip
                      skip
                      simp only [hma, hmb] at *
                      (try simp only [lg_cmp_lt, lg_cmp_gt, lg_cmp_le, lg_cmp_ge] at *); (try simp (disch := omega) only [Int64.le_iff_toInt_le, Int64.lt_iff_toInt_lt, Int32.le_iff_toInt_le, Int32.lt_iff_toInt_lt, fa_eq, fa_lit, fa_litL, nI_toInt, pk_lT, Int32.toInt_toInt64, jadd64, jin, jnoneT] at *); omega
          · exact absurd hne c_63
        · exfalso
          clear hE hr hR X
          (try simp only [lg_cmp_lt, lg_cmp_gt, lg_cmp_le, lg_cmp_ge] at *); (try simp (disch := omega) only [Int64.le_iff_toInt_le, Int64.lt_iff_toInt_lt, Int32.le_iff_toInt_le, Int32.lt_iff_toInt_lt, fa_eq, fa_lit, fa_litL, nI_toInt, pk_lT, Int32.toInt_toInt64, jadd64, jin, jnoneT] at *); omega
    · exfalso
      clear hE hr hR X
      (try simp only [lg_cmp_lt, lg_cmp_gt, lg_cmp_le, lg_cmp_ge] at *); (try simp (disch := omega) only [Int64.le_iff_toInt_le, Int64.lt_iff_toInt_lt, Int32.le_iff_toInt_le, Int32.lt_iff_toInt_lt, fa_eq, fa_lit, fa_litL, nI_toInt, pk_lT, Int32.toInt_toInt64, jadd64, jin, jnoneT] at *); omega
set_option maxRecDepth 4000 in
set_option maxHeartbeats 1000000 in
theorem m_key_bad (np : Nat) (mem : jMem) (o d w : Int32) (h : ¬ (jin o 0 3 ∧ jin d 0 999 ∧ jin w 1 65520)) : jPi yX11_key cX11_key 4 .int 3 [.ref 66, .int o, .int d, .int w] np mem (fun v c => v = -1000001 ∧ c = jup mem 66 0 0) := by
  refine jPi.of (own := RX11) rfl rfl (Nat.le_of_ble_eq_true rfl) (fun G X hR hr hE => ?_)
  refine j_aload_n X dX11_key_0 rfl ?_
  refine j_iconst X dX11_key_1 0 (by decide) ?_
  refine j_putI X 11 0 (by decide) (by decide) rfl rfl rfl rfl u950 (o66 np) (k66 np) dX11_key_2 ?_
  refine j_iload_n X dX11_key_5 rfl ?_
  refine s_callSi X hR (m_isOffice np _ _) rfl u1113 u1111 u1112 u12 hyX11_isOffice (by decide) (by decide) (Nat.le_of_ble_eq_true rfl) dX11_key_6 (fun v_6 m_6 h_6 => ?_)
  obtain ⟨e1, e2⟩ := h_6; have e1 := e1.symm; have e2 := e2.symm; subst e1; subst e2
  refine j_ifb_eq X 31 dX11_key_9 (by decide) (fun c_9 => ?_) (fun c_9 => ?_)
  · refine j_ldc X dX11_key_31 u1089 ?_
    refine s_iret X hE hr dX11_key_33 rfl ?_
    first | exact ⟨rfl, rfl⟩ | (exfalso; clear hE hr hR X; (try simp only [lg_cmp_lt, lg_cmp_gt, lg_cmp_le, lg_cmp_ge] at *); (try simp (disch := omega) only [Int64.le_iff_toInt_le, Int64.lt_iff_toInt_lt, Int32.le_iff_toInt_le, Int32.lt_iff_toInt_lt, fa_eq, fa_lit, fa_litL, nI_toInt, pk_lT, Int32.toInt_toInt64, jadd64, jin, jnoneT] at *); omega)
  · refine j_iload_n X dX11_key_12 rfl ?_
    refine s_callSi X hR (m_isDay np _ _) rfl u1117 u1115 u1116 u12 hyX11_isDay (by decide) (by decide) (Nat.le_of_ble_eq_true rfl) dX11_key_13 (fun v_13 m_13 h_13 => ?_)
    obtain ⟨e1, e2⟩ := h_13; have e1 := e1.symm; have e2 := e2.symm; subst e1; subst e2
    refine j_ifb_eq X 31 dX11_key_16 (by decide) (fun c_16 => ?_) (fun c_16 => ?_)
    · refine j_ldc X dX11_key_31 u1089 ?_
      refine s_iret X hE hr dX11_key_33 rfl ?_
      first | exact ⟨rfl, rfl⟩ | (exfalso; clear hE hr hR X; (try simp only [lg_cmp_lt, lg_cmp_gt, lg_cmp_le, lg_cmp_ge] at *); (try simp (disch := omega) only [Int64.le_iff_toInt_le, Int64.lt_iff_toInt_lt, Int32.le_iff_toInt_le, Int32.lt_iff_toInt_lt, fa_eq, fa_lit, fa_litL, nI_toInt, pk_lT, Int32.toInt_toInt64, jadd64, jin, jnoneT] at *); omega)
    · refine j_iload_n X dX11_key_19 rfl ?_
      refine j_i2l X dX11_key_20 ?_
      refine j_lconst X dX11_key_21 1 (by decide) ?_
      refine j_ldc2 X dX11_key_22 u1119 ?_
      refine s_callSi X hR (m_inI np _ _ _ _ 1 65520 rfl rfl) rfl u1087 u1085 u1086 u12 hyX11_in (by decide) (by decide) (Nat.le_of_ble_eq_true rfl) dX11_key_25 (fun v_25 m_25 h_25 => ?_)
      obtain ⟨e1, e2⟩ := h_25; have e1 := e1.symm; have e2 := e2.symm; subst e1; subst e2
      refine j_ifb_ne X 34 dX11_key_28 (by decide) (fun c_28 => ?_) (fun c_28 => ?_)
      · exfalso
        clear hE hr hR X
        (try simp only [lg_cmp_lt, lg_cmp_gt, lg_cmp_le, lg_cmp_ge] at *); (try simp (disch := omega) only [Int64.le_iff_toInt_le, Int64.lt_iff_toInt_lt, Int32.le_iff_toInt_le, Int32.lt_iff_toInt_lt, fa_eq, fa_lit, fa_litL, nI_toInt, pk_lT, Int32.toInt_toInt64, jadd64, jin, jnoneT] at *); omega
      · refine j_ldc X dX11_key_31 u1089 ?_
        refine s_iret X hE hr dX11_key_33 rfl ?_
        first | exact ⟨rfl, rfl⟩ | (exfalso; clear hE hr hR X; (try simp only [lg_cmp_lt, lg_cmp_gt, lg_cmp_le, lg_cmp_ge] at *); (try simp (disch := omega) only [Int64.le_iff_toInt_le, Int64.lt_iff_toInt_lt, Int32.le_iff_toInt_le, Int32.lt_iff_toInt_lt, fa_eq, fa_lit, fa_litL, nI_toInt, pk_lT, Int32.toInt_toInt64, jadd64, jin, jnoneT] at *); omega)
set_option maxRecDepth 4000 in
set_option maxHeartbeats 1000000 in
theorem m_key_full (np : Nat) (mem : jMem) (o : Nat) (d w : Int32) (ho : o < 4) (hd : jin d 0 999) (hw : jin w 1 65520) (hc : mem 70 o = nI 6) : jPi yX11_key cX11_key 4 .int 3 [.ref 66, .int (nI o), .int d, .int w] np mem (fun v c => v = -1000003 ∧ c = jup mem 66 0 0) := by
  refine jPi.of (own := RX11) rfl rfl (Nat.le_of_ble_eq_true rfl) (fun G X hR hr hE => ?_)
  refine j_aload_n X dX11_key_0 rfl ?_
  refine j_iconst X dX11_key_1 0 (by decide) ?_
  refine j_putI X 11 0 (by decide) (by decide) rfl rfl rfl rfl u950 (o66 np) (k66 np) dX11_key_2 ?_
  refine j_iload_n X dX11_key_5 rfl ?_
  refine s_callSi X hR (m_isOffice np _ _) rfl u1113 u1111 u1112 u12 hyX11_isOffice (by decide) (by decide) (Nat.le_of_ble_eq_true rfl) dX11_key_6 (fun v_6 m_6 h_6 => ?_)
  obtain ⟨e1, e2⟩ := h_6; have e1 := e1.symm; have e2 := e2.symm; subst e1; subst e2
  refine j_ifb_eq X 31 dX11_key_9 (by decide) (fun c_9 => ?_) (fun c_9 => ?_)
  · exfalso
    clear hE hr hR X
    (try simp only [lg_cmp_lt, lg_cmp_gt, lg_cmp_le, lg_cmp_ge] at *); (try simp (disch := omega) only [Int64.le_iff_toInt_le, Int64.lt_iff_toInt_lt, Int32.le_iff_toInt_le, Int32.lt_iff_toInt_lt, fa_eq, fa_lit, fa_litL, nI_toInt, pk_lT, Int32.toInt_toInt64, jadd64, jin, jnoneT] at *); omega
  · refine j_iload_n X dX11_key_12 rfl ?_
    refine s_callSi X hR (m_isDay np _ _) rfl u1117 u1115 u1116 u12 hyX11_isDay (by decide) (by decide) (Nat.le_of_ble_eq_true rfl) dX11_key_13 (fun v_13 m_13 h_13 => ?_)
    obtain ⟨e1, e2⟩ := h_13; have e1 := e1.symm; have e2 := e2.symm; subst e1; subst e2
    refine j_ifb_eq X 31 dX11_key_16 (by decide) (fun c_16 => ?_) (fun c_16 => ?_)
    · exfalso
      clear hE hr hR X
      (try simp only [lg_cmp_lt, lg_cmp_gt, lg_cmp_le, lg_cmp_ge] at *); (try simp (disch := omega) only [Int64.le_iff_toInt_le, Int64.lt_iff_toInt_lt, Int32.le_iff_toInt_le, Int32.lt_iff_toInt_lt, fa_eq, fa_lit, fa_litL, nI_toInt, pk_lT, Int32.toInt_toInt64, jadd64, jin, jnoneT] at *); omega
    · refine j_iload_n X dX11_key_19 rfl ?_
      refine j_i2l X dX11_key_20 ?_
      refine j_lconst X dX11_key_21 1 (by decide) ?_
      refine j_ldc2 X dX11_key_22 u1119 ?_
      refine s_callSi X hR (m_inI np _ _ _ _ 1 65520 rfl rfl) rfl u1087 u1085 u1086 u12 hyX11_in (by decide) (by decide) (Nat.le_of_ble_eq_true rfl) dX11_key_25 (fun v_25 m_25 h_25 => ?_)
      obtain ⟨e1, e2⟩ := h_25; have e1 := e1.symm; have e2 := e2.symm; subst e1; subst e2
      refine j_ifb_ne X 34 dX11_key_28 (by decide) (fun c_28 => ?_) (fun c_28 => ?_)
      · refine j_aload_n X dX11_key_34 rfl ?_
        refine j_getR X 11 5 (by decide) (by decide) rfl u955 (o66 np) (k66 np) _ (p66_5 np) dX11_key_35 ?_
        refine j_iload_n X dX11_key_38 rfl ?_
        refine j_nrm _ (by first | (simp only [fa_lit, pk_mul, nI_add]; done) | (simp only [fa_lit, pk_mul, nI_add]; rfl) | rfl) ?_
        refine j_ialdN X (o70 np) (k70 np) (by rw [l70]; omega) (by rw [l70]; decide) (mem 70) rfl dX11_key_39 ?_
        refine j_bipush X dX11_key_40 6 (by decide) ?_
        refine j_icmp_ne X 48 dX11_key_42 (by decide) (fun c_42 => ?_) (fun c_42 => ?_)
        · exact absurd hc c_42
        · refine j_ldc X dX11_key_45 u1120 ?_
          refine s_iret X hE hr dX11_key_47 rfl ?_
          first | exact ⟨rfl, rfl⟩ | (exfalso; clear hE hr hR X; (try simp only [lg_cmp_lt, lg_cmp_gt, lg_cmp_le, lg_cmp_ge] at *); (try simp (disch := omega) only [Int64.le_iff_toInt_le, Int64.lt_iff_toInt_lt, Int32.le_iff_toInt_le, Int32.lt_iff_toInt_lt, fa_eq, fa_lit, fa_litL, nI_toInt, pk_lT, Int32.toInt_toInt64, jadd64, jin, jnoneT] at *); omega)
      · exfalso
        clear hE hr hR X
        (try simp only [lg_cmp_lt, lg_cmp_gt, lg_cmp_le, lg_cmp_ge] at *); (try simp (disch := omega) only [Int64.le_iff_toInt_le, Int64.lt_iff_toInt_lt, Int32.le_iff_toInt_le, Int32.lt_iff_toInt_lt, fa_eq, fa_lit, fa_litL, nI_toInt, pk_lT, Int32.toInt_toInt64, jadd64, jin, jnoneT] at *); omega
set_option maxRecDepth 4000 in
set_option maxHeartbeats 1000000 in
theorem m_key (np : Nat) (mem : jMem) (o q : Nat) (d w : Int32) (ho : o < 4) (hd : jin d 0 999) (hw : jin w 1 65520) (hc : mem 70 o = nI q) (hq : q < 6) : jPi yX11_key cX11_key 4 .int 3 [.ref 66, .int (nI o), .int d, .int w] np mem (fun v c => v = nI (q + 1) ∧ c = jup (jup (jup (jup mem 66 0 0) 71 (6 * o + q) d) 72 (6 * o + q) w) 70 o (nI (q + 1))) := by
  refine jPi.of (own := RX11) rfl rfl (Nat.le_of_ble_eq_true rfl) (fun G X hR hr hE => ?_)
  refine j_aload_n X dX11_key_0 rfl ?_
  refine j_iconst X dX11_key_1 0 (by decide) ?_
  refine j_putI X 11 0 (by decide) (by decide) rfl rfl rfl rfl u950 (o66 np) (k66 np) dX11_key_2 ?_
  refine j_iload_n X dX11_key_5 rfl ?_
  refine s_callSi X hR (m_isOffice np _ _) rfl u1113 u1111 u1112 u12 hyX11_isOffice (by decide) (by decide) (Nat.le_of_ble_eq_true rfl) dX11_key_6 (fun v_6 m_6 h_6 => ?_)
  obtain ⟨e1, e2⟩ := h_6; have e1 := e1.symm; have e2 := e2.symm; subst e1; subst e2
  refine j_ifb_eq X 31 dX11_key_9 (by decide) (fun c_9 => ?_) (fun c_9 => ?_)
  · exfalso
    clear hE hr hR X
    (try simp only [lg_cmp_lt, lg_cmp_gt, lg_cmp_le, lg_cmp_ge] at *); (try simp (disch := omega) only [Int64.le_iff_toInt_le, Int64.lt_iff_toInt_lt, Int32.le_iff_toInt_le, Int32.lt_iff_toInt_lt, fa_eq, fa_lit, fa_litL, nI_toInt, pk_lT, Int32.toInt_toInt64, jadd64, jin, jnoneT] at *); omega
  · refine j_iload_n X dX11_key_12 rfl ?_
    refine s_callSi X hR (m_isDay np _ _) rfl u1117 u1115 u1116 u12 hyX11_isDay (by decide) (by decide) (Nat.le_of_ble_eq_true rfl) dX11_key_13 (fun v_13 m_13 h_13 => ?_)
    obtain ⟨e1, e2⟩ := h_13; have e1 := e1.symm; have e2 := e2.symm; subst e1; subst e2
    refine j_ifb_eq X 31 dX11_key_16 (by decide) (fun c_16 => ?_) (fun c_16 => ?_)
    · exfalso
      clear hE hr hR X
      (try simp only [lg_cmp_lt, lg_cmp_gt, lg_cmp_le, lg_cmp_ge] at *); (try simp (disch := omega) only [Int64.le_iff_toInt_le, Int64.lt_iff_toInt_lt, Int32.le_iff_toInt_le, Int32.lt_iff_toInt_lt, fa_eq, fa_lit, fa_litL, nI_toInt, pk_lT, Int32.toInt_toInt64, jadd64, jin, jnoneT] at *); omega
    · refine j_iload_n X dX11_key_19 rfl ?_
      refine j_i2l X dX11_key_20 ?_
      refine j_lconst X dX11_key_21 1 (by decide) ?_
      refine j_ldc2 X dX11_key_22 u1119 ?_
      refine s_callSi X hR (m_inI np _ _ _ _ 1 65520 rfl rfl) rfl u1087 u1085 u1086 u12 hyX11_in (by decide) (by decide) (Nat.le_of_ble_eq_true rfl) dX11_key_25 (fun v_25 m_25 h_25 => ?_)
      obtain ⟨e1, e2⟩ := h_25; have e1 := e1.symm; have e2 := e2.symm; subst e1; subst e2
      refine j_ifb_ne X 34 dX11_key_28 (by decide) (fun c_28 => ?_) (fun c_28 => ?_)
      · refine j_aload_n X dX11_key_34 rfl ?_
        refine j_getR X 11 5 (by decide) (by decide) rfl u955 (o66 np) (k66 np) _ (p66_5 np) dX11_key_35 ?_
        refine j_iload_n X dX11_key_38 rfl ?_
        refine j_nrm _ (by first | (simp only [fa_lit, pk_mul, nI_add]; done) | (simp only [fa_lit, pk_mul, nI_add]; rfl) | rfl) ?_
        refine j_ialdN X (o70 np) (k70 np) (by rw [l70]; omega) (by rw [l70]; decide) (mem 70) rfl dX11_key_39 ?_
        refine j_bipush X dX11_key_40 6 (by decide) ?_
        refine j_icmp_ne X 48 dX11_key_42 (by decide) (fun c_42 => ?_) (fun c_42 => ?_)
        · refine j_aload_n X dX11_key_48 rfl ?_
          refine j_getR X 11 6 (by decide) (by decide) rfl u956 (o66 np) (k66 np) _ (p66_6 np) dX11_key_49 ?_
          refine j_bipush X dX11_key_52 6 (by decide) ?_
          refine j_iload_n X dX11_key_54 rfl ?_
          refine j_imul X dX11_key_55 ?_
          refine j_aload_n X dX11_key_56 rfl ?_
          refine j_getR X 11 5 (by decide) (by decide) rfl u955 (o66 np) (k66 np) _ (p66_5 np) dX11_key_57 ?_
          refine j_iload_n X dX11_key_60 rfl ?_
          refine j_nrm _ (by first | (simp only [fa_lit, pk_mul, nI_add]; done) | (simp only [fa_lit, pk_mul, nI_add]; rfl) | rfl) ?_
          refine j_ialdN X (o70 np) (k70 np) (by rw [l70]; omega) (by rw [l70]; decide) (mem 70) rfl dX11_key_61 ?_
          refine j_nrm _ hc ?_
          refine j_iadd X dX11_key_62 ?_
          refine j_iload_n X dX11_key_63 rfl ?_
          refine j_nrm2 _ (by first | (simp only [fa_lit, pk_mul, nI_add]; done) | (simp only [fa_lit, pk_mul, nI_add]; rfl) | rfl) ?_
          refine j_iastN X (o71 np) (k71 np) (by rw [l71]; omega) (by rw [l71]; decide) dX11_key_64 ?_
          refine j_aload_n X dX11_key_65 rfl ?_
          refine j_getR X 11 7 (by decide) (by decide) rfl u957 (o66 np) (k66 np) _ (p66_7 np) dX11_key_66 ?_
          refine j_bipush X dX11_key_69 6 (by decide) ?_
          refine j_iload_n X dX11_key_71 rfl ?_
          refine j_imul X dX11_key_72 ?_
          refine j_aload_n X dX11_key_73 rfl ?_
          refine j_getR X 11 5 (by decide) (by decide) rfl u955 (o66 np) (k66 np) _ (p66_5 np) dX11_key_74 ?_
          refine j_iload_n X dX11_key_77 rfl ?_
          refine j_nrm _ (by first | (simp only [fa_lit, pk_mul, nI_add]; done) | (simp only [fa_lit, pk_mul, nI_add]; rfl) | rfl) ?_
          refine j_ialdN X (o70 np) (k70 np) (by rw [l70]; omega) (by rw [l70]; decide) (mem 70) rfl dX11_key_78 ?_
          refine j_nrm _ hc ?_
          refine j_iadd X dX11_key_79 ?_
          refine j_iload_n X dX11_key_80 rfl ?_
          refine j_nrm2 _ (by first | (simp only [fa_lit, pk_mul, nI_add]; done) | (simp only [fa_lit, pk_mul, nI_add]; rfl) | rfl) ?_
          refine j_iastN X (o72 np) (k72 np) (by rw [l72]; omega) (by rw [l72]; decide) dX11_key_81 ?_
          refine j_aload_n X dX11_key_82 rfl ?_
          refine j_getR X 11 5 (by decide) (by decide) rfl u955 (o66 np) (k66 np) _ (p66_5 np) dX11_key_83 ?_
          refine j_iload_n X dX11_key_86 rfl ?_
          refine j_dup2 X dX11_key_87 rfl rfl ?_
          refine j_nrm _ (by first | (simp only [fa_lit, pk_mul, nI_add]; done) | (simp only [fa_lit, pk_mul, nI_add]; rfl) | rfl) ?_
          refine j_ialdN X (o70 np) (k70 np) (by rw [l70]; omega) (by rw [l70]; decide) (mem 70) rfl dX11_key_88 ?_
          refine j_nrm _ hc ?_
          refine j_iconst X dX11_key_89 1 (by decide) ?_
          refine j_iadd X dX11_key_90 ?_
          refine j_nrm (nI (q + 1)) (nI_1 q) ?_
          refine j_nrm2 _ (by first | (simp only [fa_lit, pk_mul, nI_add]; done) | (simp only [fa_lit, pk_mul, nI_add]; rfl) | rfl) ?_
          refine j_iastN X (o70 np) (k70 np) (by rw [l70]; omega) (by rw [l70]; decide) dX11_key_91 ?_
          refine j_aload_n X dX11_key_92 rfl ?_
          refine j_getR X 11 5 (by decide) (by decide) rfl u955 (o66 np) (k66 np) _ (p66_5 np) dX11_key_93 ?_
          refine j_iload_n X dX11_key_96 rfl ?_
          refine j_nrm _ (by first | (simp only [fa_lit, pk_mul, nI_add]; done) | (simp only [fa_lit, pk_mul, nI_add]; rfl) | rfl) ?_
          refine j_ialdN X (o70 np) (k70 np) (by rw [l70]; omega) (by rw [l70]; decide) _ rfl dX11_key_97 ?_
          refine j_nrm (nI (q + 1)) (by simp [jup, va_up]) ?_
          refine s_iret X hE hr dX11_key_98 rfl ?_
          first | exact ⟨rfl, rfl⟩ | (exfalso; clear hE hr hR X; (try simp only [lg_cmp_lt, lg_cmp_gt, lg_cmp_le, lg_cmp_ge] at *); (try simp (disch := omega) only [Int64.le_iff_toInt_le, Int64.lt_iff_toInt_lt, Int32.le_iff_toInt_le, Int32.lt_iff_toInt_lt, fa_eq, fa_lit, fa_litL, nI_toInt, pk_lT, Int32.toInt_toInt64, jadd64, jin, jnoneT] at *); omega)
        · exact absurd (c_42.symm.trans hc) (by rw [fa_lit, nI_eq (by omega) (by omega)]; omega)
      · exfalso
        clear hE hr hR X
        (try simp only [lg_cmp_lt, lg_cmp_gt, lg_cmp_le, lg_cmp_ge] at *); (try simp (disch := omega) only [Int64.le_iff_toInt_le, Int64.lt_iff_toInt_lt, Int32.le_iff_toInt_le, Int32.lt_iff_toInt_lt, fa_eq, fa_lit, fa_litL, nI_toInt, pk_lT, Int32.toInt_toInt64, jadd64, jin, jnoneT] at *); omega
set_option maxRecDepth 4000 in
set_option maxHeartbeats 1000000 in
theorem m_keyFor (np : Nat) (mem : jMem) (o q : Nat) (d : Int32) (ho : o < 4) (hq : q ≤ 6) (hc : mem 70 o = nI q) : jPi yX11_keyFor cX11_keyFor 5 .int 1 [.ref 66, .int (nI o), .int d] np mem (fun v c => v = jKey (fun j => mem 71 (6 * o + j)) (fun j => mem 72 (6 * o + j)) q (nI o) d ∧ c = mem) := by
  refine jPi.of (own := RX11) rfl rfl (Nat.le_of_ble_eq_true rfl) (fun G X hR hr hE => ?_)
  refine j_ldc X dX11_keyFor_0 u949 ?_
  refine j_istore_n X dX11_keyFor_2 (by decide) ?_
  refine j_bipush X dX11_keyFor_3 6 (by decide) ?_
  refine j_iload_n X dX11_keyFor_5 rfl ?_
  refine j_imul X dX11_keyFor_6 ?_
  refine j_istore X dX11_keyFor_7 (by decide) ?_
  have lp9 : ∀ (n : Nat) (j : Nat) (best : Int32), j ≤ q → q + 1 ≤ j + n → jKB (fun j => mem 71 (6 * o + j)) (fun j => mem 72 (6 * o + j)) d (6 * o) best j → J G RX11 cX11_keyFor 5 0 0 9 (jlv [some (.ref 66), some (.int (nI o)), some (.int d), some (.int best), some (.int (nI (6 * o + j)))]) [] (jS np) (mem) := by
    intro n
    induction n with
    | zero =>
      intro j best hj hn hB
      exact absurd hn (by omega)
    | succ n ih9 =>
      intro j best hj hn hB
      refine j_iload X dX11_keyFor_9 rfl ?_
      refine j_bipush X dX11_keyFor_11 6 (by decide) ?_
      refine j_iload_n X dX11_keyFor_13 rfl ?_
      refine j_imul X dX11_keyFor_14 ?_
      refine j_aload_n X dX11_keyFor_15 rfl ?_
      refine j_getR X 11 5 (by decide) (by decide) rfl u955 (o66 np) (k66 np) _ (p66_5 np) dX11_keyFor_16 ?_
      refine j_iload_n X dX11_keyFor_19 rfl ?_
      refine j_nrm _ (by first | (simp only [fa_lit, pk_mul, nI_add]; done) | (simp only [fa_lit, pk_mul, nI_add]; rfl) | rfl) ?_
      refine j_ialdN X (o70 np) (k70 np) (by rw [l70]; omega) (by rw [l70]; decide) (mem 70) rfl dX11_keyFor_20 ?_
      refine j_nrm _ hc ?_
      refine j_iadd X dX11_keyFor_21 ?_
      refine j_nrm (nI (6 * o + q)) (by simp only [fa_lit, pk_mul, nI_add]) ?_
      refine j_icmp_ge X 71 dX11_keyFor_22 (by decide) (fun c_22 => ?_) (fun c_22 => ?_)
      · obtain rfl : j = q := by clear hE hr hR X; (try simp only [lg_cmp_lt, lg_cmp_gt, lg_cmp_le, lg_cmp_ge] at *); (try simp (disch := omega) only [Int64.le_iff_toInt_le, Int64.lt_iff_toInt_lt, Int32.le_iff_toInt_le, Int32.lt_iff_toInt_lt, fa_eq, fa_lit, fa_litL, nI_toInt, pk_lT, Int32.toInt_toInt64, jadd64, jin, jnoneT] at *); omega
        refine j_iload_n X dX11_keyFor_71 rfl ?_
        refine j_ldc X dX11_keyFor_72 u949 ?_
        refine j_icmp_ne X 84 dX11_keyFor_74 (by decide) (fun c_74 => ?_) (fun c_74 => ?_)
        · obtain ⟨b, hb, rfl, hK⟩ := hB.resolve_left (fun z => c_74 z.2)
          refine j_aload_n X dX11_keyFor_84 rfl ?_
          refine j_getR X 11 7 (by decide) (by decide) rfl u957 (o66 np) (k66 np) _ (p66_7 np) dX11_keyFor_85 ?_
          refine j_iload_n X dX11_keyFor_88 rfl ?_
          refine j_nrm _ (by first | (simp only [fa_lit, pk_mul, nI_add]; done) | (simp only [fa_lit, pk_mul, nI_add]; rfl) | rfl) ?_
          refine j_ialdN X (o72 np) (k72 np) (by rw [l72]; omega) (by rw [l72]; decide) (mem 72) rfl dX11_keyFor_89 ?_
          refine s_iret X hE hr dX11_keyFor_90 rfl ?_
          refine ⟨?_, rfl⟩
          first | exact (jKB_end hB c_74 (by omega)).symm | (unfold jKey; rw [hK])
        · refine j_bipush X dX11_keyFor_77 100 (by decide) ?_
          refine j_iload_n X dX11_keyFor_79 rfl ?_
          refine j_iadd X dX11_keyFor_80 ?_
          refine j_goto X 90 dX11_keyFor_81 (by decide) ?_
          refine s_iret X hE hr dX11_keyFor_90 rfl ?_
          refine ⟨?_, rfl⟩
          first | exact (jKB_end hB c_74 (by omega)).symm | (unfold jKey; rw [hK])
      · have hj2 : j < q := by clear hE hr hR X; (try simp only [lg_cmp_lt, lg_cmp_gt, lg_cmp_le, lg_cmp_ge] at *); (try simp (disch := omega) only [Int64.le_iff_toInt_le, Int64.lt_iff_toInt_lt, Int32.le_iff_toInt_le, Int32.lt_iff_toInt_lt, fa_eq, fa_lit, fa_litL, nI_toInt, pk_lT, Int32.toInt_toInt64, jadd64, jin, jnoneT] at *); omega
        refine j_aload_n X dX11_keyFor_25 rfl ?_
        refine j_getR X 11 6 (by decide) (by decide) rfl u956 (o66 np) (k66 np) _ (p66_6 np) dX11_keyFor_26 ?_
        refine j_iload X dX11_keyFor_29 rfl ?_
        refine j_nrm _ (by first | (simp only [fa_lit, pk_mul, nI_add]; done) | (simp only [fa_lit, pk_mul, nI_add]; rfl) | rfl) ?_
        refine j_ialdN X (o71 np) (k71 np) (by rw [l71]; omega) (by rw [l71]; decide) (mem 71) rfl dX11_keyFor_31 ?_
        refine j_iload_n X dX11_keyFor_32 rfl ?_
        refine j_icmp_gt X 63 dX11_keyFor_33 (by decide) (fun c_33 => ?_) (fun c_33 => ?_)
        · refine j_iload_n X dX11_keyFor_63 rfl ?_
          refine j_istore_n X dX11_keyFor_64 (by decide) ?_
          refine j_iinc X dX11_keyFor_65 rfl 1 rfl ?_
          refine j_goto X 9 dX11_keyFor_68 (by decide) ?_
          refine j_lv [some (.ref 66), some (.int (nI o)), some (.int d), some (_), some (.int (nI (6 * o + (j + 1))))] ⟨rfl, rfl, rfl, rfl, (by rw [← Nat.add_assoc, ← nI_1]; rfl), trivial⟩ ?_
          exact ih9 (j + 1) _ (by omega) (by omega) (by
          first
            | exact jKB_skip hB (fun z => absurd z.1 (Int32.not_le.mpr c_33))
            | exact jKB_take (best := 0) (Int32.not_lt.mp c_33) (fun z hz => by rw [hK] at hz; cases hz; exact Int32.not_lt.mp c_55)
            | exact jKB_skip hB (fun z => absurd (z.2 _ hK) (Int32.not_le.mpr c_55))
            | exact jKB_take (best := 0) (Int32.not_lt.mp c_33) (fun z hz => absurd hz (by rw [jKB_none hB c_39 (by omega)]; simp)))
        · refine j_iload_n X dX11_keyFor_36 rfl ?_
          refine j_ldc X dX11_keyFor_37 u949 ?_
          refine j_icmp_eq X 58 dX11_keyFor_39 (by decide) (fun c_39 => ?_) (fun c_39 => ?_)
          · refine j_iload X dX11_keyFor_58 rfl ?_
            refine j_goto X 64 dX11_keyFor_60 (by decide) ?_
            refine j_istore_n X dX11_keyFor_64 (by decide) ?_
            refine j_iinc X dX11_keyFor_65 rfl 1 rfl ?_
            refine j_goto X 9 dX11_keyFor_68 (by decide) ?_
            refine j_lv [some (.ref 66), some (.int (nI o)), some (.int d), some (_), some (.int (nI (6 * o + (j + 1))))] ⟨rfl, rfl, rfl, rfl, (by rw [← Nat.add_assoc, ← nI_1]; rfl), trivial⟩ ?_
            exact ih9 (j + 1) _ (by omega) (by omega) (by
          first
            | exact jKB_skip hB (fun z => absurd z.1 (Int32.not_le.mpr c_33))
            | exact jKB_take (best := 0) (Int32.not_lt.mp c_33) (fun z hz => by rw [hK] at hz; cases hz; exact Int32.not_lt.mp c_55)
            | exact jKB_skip hB (fun z => absurd (z.2 _ hK) (Int32.not_le.mpr c_55))
            | exact jKB_take (best := 0) (Int32.not_lt.mp c_33) (fun z hz => absurd hz (by rw [jKB_none hB c_39 (by omega)]; simp)))
          · obtain ⟨b, hb, rfl, hK⟩ := hB.resolve_left (fun z => c_39 z.2)
            refine j_aload_n X dX11_keyFor_42 rfl ?_
            refine j_getR X 11 6 (by decide) (by decide) rfl u956 (o66 np) (k66 np) _ (p66_6 np) dX11_keyFor_43 ?_
            refine j_iload X dX11_keyFor_46 rfl ?_
            refine j_nrm _ (by first | (simp only [fa_lit, pk_mul, nI_add]; done) | (simp only [fa_lit, pk_mul, nI_add]; rfl) | rfl) ?_
            refine j_ialdN X (o71 np) (k71 np) (by rw [l71]; omega) (by rw [l71]; decide) (mem 71) rfl dX11_keyFor_48 ?_
            refine j_aload_n X dX11_keyFor_49 rfl ?_
            refine j_getR X 11 6 (by decide) (by decide) rfl u956 (o66 np) (k66 np) _ (p66_6 np) dX11_keyFor_50 ?_
            refine j_iload_n X dX11_keyFor_53 rfl ?_
            refine j_nrm _ (by first | (simp only [fa_lit, pk_mul, nI_add]; done) | (simp only [fa_lit, pk_mul, nI_add]; rfl) | rfl) ?_
            refine j_ialdN X (o71 np) (k71 np) (by rw [l71]; omega) (by rw [l71]; decide) (mem 71) rfl dX11_keyFor_54 ?_
            refine j_icmp_lt X 63 dX11_keyFor_55 (by decide) (fun c_55 => ?_) (fun c_55 => ?_)
            · refine j_iload_n X dX11_keyFor_63 rfl ?_
              refine j_istore_n X dX11_keyFor_64 (by decide) ?_
              refine j_iinc X dX11_keyFor_65 rfl 1 rfl ?_
              refine j_goto X 9 dX11_keyFor_68 (by decide) ?_
              refine j_lv [some (.ref 66), some (.int (nI o)), some (.int d), some (_), some (.int (nI (6 * o + (j + 1))))] ⟨rfl, rfl, rfl, rfl, (by rw [← Nat.add_assoc, ← nI_1]; rfl), trivial⟩ ?_
              exact ih9 (j + 1) _ (by omega) (by omega) (by
          first
            | exact jKB_skip hB (fun z => absurd z.1 (Int32.not_le.mpr c_33))
            | exact jKB_take (best := 0) (Int32.not_lt.mp c_33) (fun z hz => by rw [hK] at hz; cases hz; exact Int32.not_lt.mp c_55)
            | exact jKB_skip hB (fun z => absurd (z.2 _ hK) (Int32.not_le.mpr c_55))
            | exact jKB_take (best := 0) (Int32.not_lt.mp c_33) (fun z hz => absurd hz (by rw [jKB_none hB c_39 (by omega)]; simp)))
            · refine j_iload X dX11_keyFor_58 rfl ?_
              refine j_goto X 64 dX11_keyFor_60 (by decide) ?_
              refine j_istore_n X dX11_keyFor_64 (by decide) ?_
              refine j_iinc X dX11_keyFor_65 rfl 1 rfl ?_
              refine j_goto X 9 dX11_keyFor_68 (by decide) ?_
              refine j_lv [some (.ref 66), some (.int (nI o)), some (.int d), some (_), some (.int (nI (6 * o + (j + 1))))] ⟨rfl, rfl, rfl, rfl, (by rw [← Nat.add_assoc, ← nI_1]; rfl), trivial⟩ ?_
              exact ih9 (j + 1) _ (by omega) (by omega) (by
          first
            | exact jKB_skip hB (fun z => absurd z.1 (Int32.not_le.mpr c_33))
            | exact jKB_take (best := 0) (Int32.not_lt.mp c_33) (fun z hz => by rw [hK] at hz; cases hz; exact Int32.not_lt.mp c_55)
            | exact jKB_skip hB (fun z => absurd (z.2 _ hK) (Int32.not_le.mpr c_55))
            | exact jKB_take (best := 0) (Int32.not_lt.mp c_33) (fun z hz => absurd hz (by rw [jKB_none hB c_39 (by omega)]; simp)))
  refine j_lv [some (.ref 66), some (.int (nI o)), some (.int d), some (.int (-1000000)), some (.int (nI (6 * o + 0)))] ⟨rfl, rfl, rfl, rfl, (by simp only [fa_lit, pk_mul]; rfl), trivial⟩ ?_
  exact lp9 (q + 1) 0 _ (by omega) (by omega) (Or.inl ⟨rfl, rfl⟩)
set_option maxRecDepth 4000 in
set_option maxHeartbeats 1000000 in
theorem m_keyOn_bad (np : Nat) (mem : jMem) (o d : Int32) (h : ¬ (jin o 0 3 ∧ jin d 0 999)) : jPi yX11_keyOn cX11_keyOn 3 .int 3 [.ref 66, .int o, .int d] np mem (fun v c => v = -1000001 ∧ c = jup mem 66 0 0) := by
  refine jPi.of (own := RX11) rfl rfl (Nat.le_of_ble_eq_true rfl) (fun G X hR hr hE => ?_)
  refine j_aload_n X dX11_keyOn_0 rfl ?_
  refine j_iconst X dX11_keyOn_1 0 (by decide) ?_
  refine j_putI X 11 0 (by decide) (by decide) rfl rfl rfl rfl u950 (o66 np) (k66 np) dX11_keyOn_2 ?_
  refine j_iload_n X dX11_keyOn_5 rfl ?_
  refine s_callSi X hR (m_isOffice np _ _) rfl u1113 u1111 u1112 u12 hyX11_isOffice (by decide) (by decide) (Nat.le_of_ble_eq_true rfl) dX11_keyOn_6 (fun v_6 m_6 h_6 => ?_)
  obtain ⟨e1, e2⟩ := h_6; have e1 := e1.symm; have e2 := e2.symm; subst e1; subst e2
  refine j_ifb_eq X 19 dX11_keyOn_9 (by decide) (fun c_9 => ?_) (fun c_9 => ?_)
  · refine j_ldc X dX11_keyOn_19 u1089 ?_
    refine j_goto X 30 dX11_keyOn_21 (by decide) ?_
    refine s_iret X hE hr dX11_keyOn_30 rfl ?_
    first | exact ⟨rfl, rfl⟩ | (exfalso; clear hE hr hR X; (try simp only [lg_cmp_lt, lg_cmp_gt, lg_cmp_le, lg_cmp_ge] at *); (try simp (disch := omega) only [Int64.le_iff_toInt_le, Int64.lt_iff_toInt_lt, Int32.le_iff_toInt_le, Int32.lt_iff_toInt_lt, fa_eq, fa_lit, fa_litL, nI_toInt, pk_lT, Int32.toInt_toInt64, jadd64, jin, jnoneT] at *); omega)
  · refine j_iload_n X dX11_keyOn_12 rfl ?_
    refine s_callSi X hR (m_isDay np _ _) rfl u1117 u1115 u1116 u12 hyX11_isDay (by decide) (by decide) (Nat.le_of_ble_eq_true rfl) dX11_keyOn_13 (fun v_13 m_13 h_13 => ?_)
    obtain ⟨e1, e2⟩ := h_13; have e1 := e1.symm; have e2 := e2.symm; subst e1; subst e2
    refine j_ifb_ne X 24 dX11_keyOn_16 (by decide) (fun c_16 => ?_) (fun c_16 => ?_)
    · exfalso
      clear hE hr hR X
      (try simp only [lg_cmp_lt, lg_cmp_gt, lg_cmp_le, lg_cmp_ge] at *); (try simp (disch := omega) only [Int64.le_iff_toInt_le, Int64.lt_iff_toInt_lt, Int32.le_iff_toInt_le, Int32.lt_iff_toInt_lt, fa_eq, fa_lit, fa_litL, nI_toInt, pk_lT, Int32.toInt_toInt64, jadd64, jin, jnoneT] at *); omega
    · refine j_ldc X dX11_keyOn_19 u1089 ?_
      refine j_goto X 30 dX11_keyOn_21 (by decide) ?_
      refine s_iret X hE hr dX11_keyOn_30 rfl ?_
      first | exact ⟨rfl, rfl⟩ | (exfalso; clear hE hr hR X; (try simp only [lg_cmp_lt, lg_cmp_gt, lg_cmp_le, lg_cmp_ge] at *); (try simp (disch := omega) only [Int64.le_iff_toInt_le, Int64.lt_iff_toInt_lt, Int32.le_iff_toInt_le, Int32.lt_iff_toInt_lt, fa_eq, fa_lit, fa_litL, nI_toInt, pk_lT, Int32.toInt_toInt64, jadd64, jin, jnoneT] at *); omega)
set_option maxRecDepth 4000 in
set_option maxHeartbeats 1000000 in
theorem m_keyOn (np : Nat) (mem : jMem) (o q : Nat) (d : Int32) (ho : o < 4) (hd : jin d 0 999) (hq : q ≤ 6) (hc : mem 70 o = nI q) : jPi yX11_keyOn cX11_keyOn 3 .int 3 [.ref 66, .int (nI o), .int d] np mem (fun v c => v = jKey (fun j => mem 71 (6 * o + j)) (fun j => mem 72 (6 * o + j)) q (nI o) d ∧ c = jup mem 66 0 0) := by
  refine jPi.of (own := RX11) rfl rfl (Nat.le_of_ble_eq_true rfl) (fun G X hR hr hE => ?_)
  refine j_aload_n X dX11_keyOn_0 rfl ?_
  refine j_iconst X dX11_keyOn_1 0 (by decide) ?_
  refine j_putI X 11 0 (by decide) (by decide) rfl rfl rfl rfl u950 (o66 np) (k66 np) dX11_keyOn_2 ?_
  refine j_iload_n X dX11_keyOn_5 rfl ?_
  refine s_callSi X hR (m_isOffice np _ _) rfl u1113 u1111 u1112 u12 hyX11_isOffice (by decide) (by decide) (Nat.le_of_ble_eq_true rfl) dX11_keyOn_6 (fun v_6 m_6 h_6 => ?_)
  obtain ⟨e1, e2⟩ := h_6; have e1 := e1.symm; have e2 := e2.symm; subst e1; subst e2
  refine j_ifb_eq X 19 dX11_keyOn_9 (by decide) (fun c_9 => ?_) (fun c_9 => ?_)
  · exfalso
    clear hE hr hR X
    (try simp only [lg_cmp_lt, lg_cmp_gt, lg_cmp_le, lg_cmp_ge] at *); (try simp (disch := omega) only [Int64.le_iff_toInt_le, Int64.lt_iff_toInt_lt, Int32.le_iff_toInt_le, Int32.lt_iff_toInt_lt, fa_eq, fa_lit, fa_litL, nI_toInt, pk_lT, Int32.toInt_toInt64, jadd64, jin, jnoneT] at *); omega
  · refine j_iload_n X dX11_keyOn_12 rfl ?_
    refine s_callSi X hR (m_isDay np _ _) rfl u1117 u1115 u1116 u12 hyX11_isDay (by decide) (by decide) (Nat.le_of_ble_eq_true rfl) dX11_keyOn_13 (fun v_13 m_13 h_13 => ?_)
    obtain ⟨e1, e2⟩ := h_13; have e1 := e1.symm; have e2 := e2.symm; subst e1; subst e2
    refine j_ifb_ne X 24 dX11_keyOn_16 (by decide) (fun c_16 => ?_) (fun c_16 => ?_)
    · refine j_aload_n X dX11_keyOn_24 rfl ?_
      refine j_iload_n X dX11_keyOn_25 rfl ?_
      refine j_iload_n X dX11_keyOn_26 rfl ?_
      refine s_callVi X hR (m_keyFor np _ _ _ _ ho hq hc) rfl 11 (by decide) (o66 np) (k66 np) rfl u1128 u1125 u1127 qp37 u12 hyX11_keyFor (by decide) (by decide) (Nat.le_of_ble_eq_true rfl) dX11_keyOn_27 (fun v_27 m_27 h_27 => ?_)
      obtain ⟨e1, e2⟩ := h_27; have e1 := e1.symm; have e2 := e2.symm; subst e1; subst e2
      refine s_iret X hE hr dX11_keyOn_30 rfl ?_
      first | exact ⟨rfl, rfl⟩ | (exfalso; clear hE hr hR X; (try simp only [lg_cmp_lt, lg_cmp_gt, lg_cmp_le, lg_cmp_ge] at *); (try simp (disch := omega) only [Int64.le_iff_toInt_le, Int64.lt_iff_toInt_lt, Int32.le_iff_toInt_le, Int32.lt_iff_toInt_lt, fa_eq, fa_lit, fa_litL, nI_toInt, pk_lT, Int32.toInt_toInt64, jadd64, jin, jnoneT] at *); omega)
    · exfalso
      clear hE hr hR X
      (try simp only [lg_cmp_lt, lg_cmp_gt, lg_cmp_le, lg_cmp_ge] at *); (try simp (disch := omega) only [Int64.le_iff_toInt_le, Int64.lt_iff_toInt_lt, Int32.le_iff_toInt_le, Int32.lt_iff_toInt_lt, fa_eq, fa_lit, fa_litL, nI_toInt, pk_lT, Int32.toInt_toInt64, jadd64, jin, jnoneT] at *); omega
set_option maxRecDepth 4000 in
set_option maxHeartbeats 1000000 in
theorem m_close_bad (np : Nat) (mem : jMem) (o w d : Int32) (h : ¬ (jin o 0 3 ∧ jin w 0 1 ∧ jin d 0 999)) : jPi yX11_close cX11_close 4 .int 3 [.ref 66, .int o, .int w, .int d] np mem (fun v c => v = -1000001 ∧ c = jup mem 66 0 0) := by
  refine jPi.of (own := RX11) rfl rfl (Nat.le_of_ble_eq_true rfl) (fun G X hR hr hE => ?_)
  refine j_aload_n X dX11_close_0 rfl ?_
  refine j_iconst X dX11_close_1 0 (by decide) ?_
  refine j_putI X 11 0 (by decide) (by decide) rfl rfl rfl rfl u950 (o66 np) (k66 np) dX11_close_2 ?_
  refine j_iload_n X dX11_close_5 rfl ?_
  refine s_callSi X hR (m_isOffice np _ _) rfl u1113 u1111 u1112 u12 hyX11_isOffice (by decide) (by decide) (Nat.le_of_ble_eq_true rfl) dX11_close_6 (fun v_6 m_6 h_6 => ?_)
  obtain ⟨e1, e2⟩ := h_6; have e1 := e1.symm; have e2 := e2.symm; subst e1; subst e2
  refine j_ifb_eq X 29 dX11_close_9 (by decide) (fun c_9 => ?_) (fun c_9 => ?_)
  · refine j_ldc X dX11_close_29 u1089 ?_
    refine s_iret X hE hr dX11_close_31 rfl ?_
    first | exact ⟨rfl, rfl⟩ | (exfalso; clear hE hr hR X; (try simp only [lg_cmp_lt, lg_cmp_gt, lg_cmp_le, lg_cmp_ge] at *); (try simp (disch := omega) only [Int64.le_iff_toInt_le, Int64.lt_iff_toInt_lt, Int32.le_iff_toInt_le, Int32.lt_iff_toInt_lt, fa_eq, fa_lit, fa_litL, nI_toInt, pk_lT, Int32.toInt_toInt64, jadd64, jin, jnoneT] at *); omega)
  · refine j_iload_n X dX11_close_12 rfl ?_
    refine j_i2l X dX11_close_13 ?_
    refine j_lconst X dX11_close_14 0 (by decide) ?_
    refine j_lconst X dX11_close_15 1 (by decide) ?_
    refine s_callSi X hR (m_inI np _ _ _ _ 0 1 rfl rfl) rfl u1087 u1085 u1086 u12 hyX11_in (by decide) (by decide) (Nat.le_of_ble_eq_true rfl) dX11_close_16 (fun v_16 m_16 h_16 => ?_)
    obtain ⟨e1, e2⟩ := h_16; have e1 := e1.symm; have e2 := e2.symm; subst e1; subst e2
    refine j_ifb_eq X 29 dX11_close_19 (by decide) (fun c_19 => ?_) (fun c_19 => ?_)
    · refine j_ldc X dX11_close_29 u1089 ?_
      refine s_iret X hE hr dX11_close_31 rfl ?_
      first | exact ⟨rfl, rfl⟩ | (exfalso; clear hE hr hR X; (try simp only [lg_cmp_lt, lg_cmp_gt, lg_cmp_le, lg_cmp_ge] at *); (try simp (disch := omega) only [Int64.le_iff_toInt_le, Int64.lt_iff_toInt_lt, Int32.le_iff_toInt_le, Int32.lt_iff_toInt_lt, fa_eq, fa_lit, fa_litL, nI_toInt, pk_lT, Int32.toInt_toInt64, jadd64, jin, jnoneT] at *); omega)
    · refine j_iload_n X dX11_close_22 rfl ?_
      refine s_callSi X hR (m_isDay np _ _) rfl u1117 u1115 u1116 u12 hyX11_isDay (by decide) (by decide) (Nat.le_of_ble_eq_true rfl) dX11_close_23 (fun v_23 m_23 h_23 => ?_)
      obtain ⟨e1, e2⟩ := h_23; have e1 := e1.symm; have e2 := e2.symm; subst e1; subst e2
      refine j_ifb_ne X 32 dX11_close_26 (by decide) (fun c_26 => ?_) (fun c_26 => ?_)
      · exfalso
        clear hE hr hR X
        (try simp only [lg_cmp_lt, lg_cmp_gt, lg_cmp_le, lg_cmp_ge] at *); (try simp (disch := omega) only [Int64.le_iff_toInt_le, Int64.lt_iff_toInt_lt, Int32.le_iff_toInt_le, Int32.lt_iff_toInt_lt, fa_eq, fa_lit, fa_litL, nI_toInt, pk_lT, Int32.toInt_toInt64, jadd64, jin, jnoneT] at *); omega
      · refine j_ldc X dX11_close_29 u1089 ?_
        refine s_iret X hE hr dX11_close_31 rfl ?_
        first | exact ⟨rfl, rfl⟩ | (exfalso; clear hE hr hR X; (try simp only [lg_cmp_lt, lg_cmp_gt, lg_cmp_le, lg_cmp_ge] at *); (try simp (disch := omega) only [Int64.le_iff_toInt_le, Int64.lt_iff_toInt_lt, Int32.le_iff_toInt_le, Int32.lt_iff_toInt_lt, fa_eq, fa_lit, fa_litL, nI_toInt, pk_lT, Int32.toInt_toInt64, jadd64, jin, jnoneT] at *); omega)
set_option maxRecDepth 4000 in
set_option maxHeartbeats 1000000 in
theorem m_close_state (np : Nat) (mem : jMem) (o w : Nat) (d : Int32) (ho : o < 4) (hw : w < 2) (hd : jin d 0 999) (hc : ¬ mem 73 (2 * o + w) = -1000000) : jPi yX11_close cX11_close 4 .int 3 [.ref 66, .int (nI o), .int (nI w), .int d] np mem (fun v c => v = -1000002 ∧ c = jup mem 66 0 0) := by
  refine jPi.of (own := RX11) rfl rfl (Nat.le_of_ble_eq_true rfl) (fun G X hR hr hE => ?_)
  refine j_aload_n X dX11_close_0 rfl ?_
  refine j_iconst X dX11_close_1 0 (by decide) ?_
  refine j_putI X 11 0 (by decide) (by decide) rfl rfl rfl rfl u950 (o66 np) (k66 np) dX11_close_2 ?_
  refine j_iload_n X dX11_close_5 rfl ?_
  refine s_callSi X hR (m_isOffice np _ _) rfl u1113 u1111 u1112 u12 hyX11_isOffice (by decide) (by decide) (Nat.le_of_ble_eq_true rfl) dX11_close_6 (fun v_6 m_6 h_6 => ?_)
  obtain ⟨e1, e2⟩ := h_6; have e1 := e1.symm; have e2 := e2.symm; subst e1; subst e2
  refine j_ifb_eq X 29 dX11_close_9 (by decide) (fun c_9 => ?_) (fun c_9 => ?_)
  · exfalso
    clear hE hr hR X
    (try simp only [lg_cmp_lt, lg_cmp_gt, lg_cmp_le, lg_cmp_ge] at *); (try simp (disch := omega) only [Int64.le_iff_toInt_le, Int64.lt_iff_toInt_lt, Int32.le_iff_toInt_le, Int32.lt_iff_toInt_lt, fa_eq, fa_lit, fa_litL, nI_toInt, pk_lT, Int32.toInt_toInt64, jadd64, jin, jnoneT] at *); omega
  · refine j_iload_n X dX11_close_12 rfl ?_
    refine j_i2l X dX11_close_13 ?_
    refine j_lconst X dX11_close_14 0 (by decide) ?_
    refine j_lconst X dX11_close_15 1 (by decide) ?_
    refine s_callSi X hR (m_inI np _ _ _ _ 0 1 rfl rfl) rfl u1087 u1085 u1086 u12 hyX11_in (by decide) (by decide) (Nat.le_of_ble_eq_true rfl) dX11_close_16 (fun v_16 m_16 h_16 => ?_)
    obtain ⟨e1, e2⟩ := h_16; have e1 := e1.symm; have e2 := e2.symm; subst e1; subst e2
    refine j_ifb_eq X 29 dX11_close_19 (by decide) (fun c_19 => ?_) (fun c_19 => ?_)
    · exfalso
      clear hE hr hR X
      (try simp only [lg_cmp_lt, lg_cmp_gt, lg_cmp_le, lg_cmp_ge] at *); (try simp (disch := omega) only [Int64.le_iff_toInt_le, Int64.lt_iff_toInt_lt, Int32.le_iff_toInt_le, Int32.lt_iff_toInt_lt, fa_eq, fa_lit, fa_litL, nI_toInt, pk_lT, Int32.toInt_toInt64, jadd64, jin, jnoneT] at *); omega
    · refine j_iload_n X dX11_close_22 rfl ?_
      refine s_callSi X hR (m_isDay np _ _) rfl u1117 u1115 u1116 u12 hyX11_isDay (by decide) (by decide) (Nat.le_of_ble_eq_true rfl) dX11_close_23 (fun v_23 m_23 h_23 => ?_)
      obtain ⟨e1, e2⟩ := h_23; have e1 := e1.symm; have e2 := e2.symm; subst e1; subst e2
      refine j_ifb_ne X 32 dX11_close_26 (by decide) (fun c_26 => ?_) (fun c_26 => ?_)
      · refine j_aload_n X dX11_close_32 rfl ?_
        refine j_getR X 11 8 (by decide) (by decide) rfl u958 (o66 np) (k66 np) _ (p66_8 np) dX11_close_33 ?_
        refine j_iconst X dX11_close_36 2 (by decide) ?_
        refine j_iload_n X dX11_close_37 rfl ?_
        refine j_imul X dX11_close_38 ?_
        refine j_iload_n X dX11_close_39 rfl ?_
        refine j_iadd X dX11_close_40 ?_
        refine j_nrm _ (by first | (simp only [fa_lit, pk_mul, nI_add]; done) | (simp only [fa_lit, pk_mul, nI_add]; rfl) | rfl) ?_
        refine j_ialdN X (o73 np) (k73 np) (by rw [l73]; omega) (by rw [l73]; decide) (mem 73) rfl dX11_close_41 ?_
        refine j_ldc X dX11_close_42 u949 ?_
        refine j_icmp_eq X 50 dX11_close_44 (by decide) (fun c_44 => ?_) (fun c_44 => ?_)
        · exact absurd c_44 hc
        · refine j_ldc X dX11_close_47 u1133 ?_
          refine s_iret X hE hr dX11_close_49 rfl ?_
          first | exact ⟨rfl, rfl⟩ | (exfalso; clear hE hr hR X; (try simp only [lg_cmp_lt, lg_cmp_gt, lg_cmp_le, lg_cmp_ge] at *); (try simp (disch := omega) only [Int64.le_iff_toInt_le, Int64.lt_iff_toInt_lt, Int32.le_iff_toInt_le, Int32.lt_iff_toInt_lt, fa_eq, fa_lit, fa_litL, nI_toInt, pk_lT, Int32.toInt_toInt64, jadd64, jin, jnoneT] at *); omega)
      · exfalso
        clear hE hr hR X
        (try simp only [lg_cmp_lt, lg_cmp_gt, lg_cmp_le, lg_cmp_ge] at *); (try simp (disch := omega) only [Int64.le_iff_toInt_le, Int64.lt_iff_toInt_lt, Int32.le_iff_toInt_le, Int32.lt_iff_toInt_lt, fa_eq, fa_lit, fa_litL, nI_toInt, pk_lT, Int32.toInt_toInt64, jadd64, jin, jnoneT] at *); omega
set_option maxRecDepth 4000 in
set_option maxHeartbeats 1000000 in
theorem m_close (np : Nat) (mem : jMem) (o w : Nat) (d : Int32) (ho : o < 4) (hw : w < 2) (hd : jin d 0 999) (hc : mem 73 (2 * o + w) = -1000000) : jPi yX11_close cX11_close 4 .int 3 [.ref 66, .int (nI o), .int (nI w), .int d] np mem (fun v c => v = 1 ∧ c = jup (jup mem 66 0 0) 73 (2 * o + w) d) := by
  refine jPi.of (own := RX11) rfl rfl (Nat.le_of_ble_eq_true rfl) (fun G X hR hr hE => ?_)
  refine j_aload_n X dX11_close_0 rfl ?_
  refine j_iconst X dX11_close_1 0 (by decide) ?_
  refine j_putI X 11 0 (by decide) (by decide) rfl rfl rfl rfl u950 (o66 np) (k66 np) dX11_close_2 ?_
  refine j_iload_n X dX11_close_5 rfl ?_
  refine s_callSi X hR (m_isOffice np _ _) rfl u1113 u1111 u1112 u12 hyX11_isOffice (by decide) (by decide) (Nat.le_of_ble_eq_true rfl) dX11_close_6 (fun v_6 m_6 h_6 => ?_)
  obtain ⟨e1, e2⟩ := h_6; have e1 := e1.symm; have e2 := e2.symm; subst e1; subst e2
  refine j_ifb_eq X 29 dX11_close_9 (by decide) (fun c_9 => ?_) (fun c_9 => ?_)
  · exfalso
    clear hE hr hR X
    (try simp only [lg_cmp_lt, lg_cmp_gt, lg_cmp_le, lg_cmp_ge] at *); (try simp (disch := omega) only [Int64.le_iff_toInt_le, Int64.lt_iff_toInt_lt, Int32.le_iff_toInt_le, Int32.lt_iff_toInt_lt, fa_eq, fa_lit, fa_litL, nI_toInt, pk_lT, Int32.toInt_toInt64, jadd64, jin, jnoneT] at *); omega
  · refine j_iload_n X dX11_close_12 rfl ?_
    refine j_i2l X dX11_close_13 ?_
    refine j_lconst X dX11_close_14 0 (by decide) ?_
    refine j_lconst X dX11_close_15 1 (by decide) ?_
    refine s_callSi X hR (m_inI np _ _ _ _ 0 1 rfl rfl) rfl u1087 u1085 u1086 u12 hyX11_in (by decide) (by decide) (Nat.le_of_ble_eq_true rfl) dX11_close_16 (fun v_16 m_16 h_16 => ?_)
    obtain ⟨e1, e2⟩ := h_16; have e1 := e1.symm; have e2 := e2.symm; subst e1; subst e2
    refine j_ifb_eq X 29 dX11_close_19 (by decide) (fun c_19 => ?_) (fun c_19 => ?_)
    · exfalso
      clear hE hr hR X
      (try simp only [lg_cmp_lt, lg_cmp_gt, lg_cmp_le, lg_cmp_ge] at *); (try simp (disch := omega) only [Int64.le_iff_toInt_le, Int64.lt_iff_toInt_lt, Int32.le_iff_toInt_le, Int32.lt_iff_toInt_lt, fa_eq, fa_lit, fa_litL, nI_toInt, pk_lT, Int32.toInt_toInt64, jadd64, jin, jnoneT] at *); omega
    · refine j_iload_n X dX11_close_22 rfl ?_
      refine s_callSi X hR (m_isDay np _ _) rfl u1117 u1115 u1116 u12 hyX11_isDay (by decide) (by decide) (Nat.le_of_ble_eq_true rfl) dX11_close_23 (fun v_23 m_23 h_23 => ?_)
      obtain ⟨e1, e2⟩ := h_23; have e1 := e1.symm; have e2 := e2.symm; subst e1; subst e2
      refine j_ifb_ne X 32 dX11_close_26 (by decide) (fun c_26 => ?_) (fun c_26 => ?_)
      · refine j_aload_n X dX11_close_32 rfl ?_
        refine j_getR X 11 8 (by decide) (by decide) rfl u958 (o66 np) (k66 np) _ (p66_8 np) dX11_close_33 ?_
        refine j_iconst X dX11_close_36 2 (by decide) ?_
        refine j_iload_n X dX11_close_37 rfl ?_
        refine j_imul X dX11_close_38 ?_
        refine j_iload_n X dX11_close_39 rfl ?_
        refine j_iadd X dX11_close_40 ?_
        refine j_nrm _ (by first | (simp only [fa_lit, pk_mul, nI_add]; done) | (simp only [fa_lit, pk_mul, nI_add]; rfl) | rfl) ?_
        refine j_ialdN X (o73 np) (k73 np) (by rw [l73]; omega) (by rw [l73]; decide) (mem 73) rfl dX11_close_41 ?_
        refine j_ldc X dX11_close_42 u949 ?_
        refine j_icmp_eq X 50 dX11_close_44 (by decide) (fun c_44 => ?_) (fun c_44 => ?_)
        · refine j_aload_n X dX11_close_50 rfl ?_
          refine j_getR X 11 8 (by decide) (by decide) rfl u958 (o66 np) (k66 np) _ (p66_8 np) dX11_close_51 ?_
          refine j_iconst X dX11_close_54 2 (by decide) ?_
          refine j_iload_n X dX11_close_55 rfl ?_
          refine j_imul X dX11_close_56 ?_
          refine j_iload_n X dX11_close_57 rfl ?_
          refine j_iadd X dX11_close_58 ?_
          refine j_iload_n X dX11_close_59 rfl ?_
          refine j_nrm2 _ (by first | (simp only [fa_lit, pk_mul, nI_add]; done) | (simp only [fa_lit, pk_mul, nI_add]; rfl) | rfl) ?_
          refine j_iastN X (o73 np) (k73 np) (by rw [l73]; omega) (by rw [l73]; decide) dX11_close_60 ?_
          refine j_iconst X dX11_close_61 1 (by decide) ?_
          refine s_iret X hE hr dX11_close_62 rfl ?_
          first | exact ⟨rfl, rfl⟩ | (exfalso; clear hE hr hR X; (try simp only [lg_cmp_lt, lg_cmp_gt, lg_cmp_le, lg_cmp_ge] at *); (try simp (disch := omega) only [Int64.le_iff_toInt_le, Int64.lt_iff_toInt_lt, Int32.le_iff_toInt_le, Int32.lt_iff_toInt_lt, fa_eq, fa_lit, fa_litL, nI_toInt, pk_lT, Int32.toInt_toInt64, jadd64, jin, jnoneT] at *); omega)
        · exact absurd hc c_44
      · exfalso
        clear hE hr hR X
        (try simp only [lg_cmp_lt, lg_cmp_gt, lg_cmp_le, lg_cmp_ge] at *); (try simp (disch := omega) only [Int64.le_iff_toInt_le, Int64.lt_iff_toInt_lt, Int32.le_iff_toInt_le, Int32.lt_iff_toInt_lt, fa_eq, fa_lit, fa_litL, nI_toInt, pk_lT, Int32.toInt_toInt64, jadd64, jin, jnoneT] at *); omega
set_option maxRecDepth 4000 in
set_option maxHeartbeats 1000000 in
theorem m_halfOf (np : Nat) (mem : jMem) (p h : Nat) (hp : p < 12) (hh : h < 2) : jPi yX11_halfOf cX11_halfOf 3 .int 2 [.ref 66, .int (nI p), .int (nI h)] np mem (fun v c => v = jJoin (jLeaf (nI p) (nI (2 * h)) (mem 74 (9 * p + 5 + 2 * h))) (jLeaf (nI p) (nI (2 * h + 1)) (mem 74 (9 * p + 5 + (2 * h + 1)))) ∧ c = mem) := by
  refine jPi.of (own := RX11) rfl rfl (Nat.le_of_ble_eq_true rfl) (fun G X hR hr hE => ?_)
  refine j_iload_n X dX11_halfOf_0 rfl ?_
  refine j_iconst X dX11_halfOf_1 2 (by decide) ?_
  refine j_iload_n X dX11_halfOf_2 rfl ?_
  refine j_imul X dX11_halfOf_3 ?_
  refine j_nrm _ (by simp only [fa_lit, pk_mul, nI_add]; rfl) ?_
  refine j_aload_n X dX11_halfOf_4 rfl ?_
  refine j_iload_n X dX11_halfOf_5 rfl ?_
  refine j_iconst X dX11_halfOf_6 2 (by decide) ?_
  refine j_iload_n X dX11_halfOf_7 rfl ?_
  refine j_imul X dX11_halfOf_8 ?_
  refine j_nrm _ (by simp only [fa_lit, pk_mul, nI_add]; rfl) ?_
  refine s_callVi X hR (m_field np _ _ _ hp (by omega)) rfl 11 (by decide) (o66 np) (k66 np) rfl u1160 u1157 u1159 qp41 u12 hyX11_field (by decide) (by decide) (Nat.le_of_ble_eq_true rfl) dX11_halfOf_9 (fun v_9 m_9 h_9 => ?_)
  obtain ⟨e1, e2⟩ := h_9; have e1 := e1.symm; have e2 := e2.symm; subst e1; subst e2
  refine s_callSi X hR (m_leaf np _ _ _ _) rfl u1163 u1161 u1162 u12 hyX11_leaf (by decide) (by decide) (Nat.le_of_ble_eq_true rfl) dX11_halfOf_12 (fun v_12 m_12 h_12 => ?_)
  obtain ⟨e1, e2⟩ := h_12; have e1 := e1.symm; have e2 := e2.symm; subst e1; subst e2
  refine j_iload_n X dX11_halfOf_15 rfl ?_
  refine j_iconst X dX11_halfOf_16 2 (by decide) ?_
  refine j_iload_n X dX11_halfOf_17 rfl ?_
  refine j_imul X dX11_halfOf_18 ?_
  refine j_iconst X dX11_halfOf_19 1 (by decide) ?_
  refine j_iadd X dX11_halfOf_20 ?_
  refine j_nrm _ (by simp only [fa_lit, pk_mul, nI_add]; rfl) ?_
  refine j_aload_n X dX11_halfOf_21 rfl ?_
  refine j_iload_n X dX11_halfOf_22 rfl ?_
  refine j_iconst X dX11_halfOf_23 2 (by decide) ?_
  refine j_iload_n X dX11_halfOf_24 rfl ?_
  refine j_imul X dX11_halfOf_25 ?_
  refine j_iconst X dX11_halfOf_26 1 (by decide) ?_
  refine j_iadd X dX11_halfOf_27 ?_
  refine j_nrm _ (by simp only [fa_lit, pk_mul, nI_add]; rfl) ?_
  refine s_callVi X hR (m_field np _ _ _ hp (by omega)) rfl 11 (by decide) (o66 np) (k66 np) rfl u1160 u1157 u1159 qp41 u12 hyX11_field (by decide) (by decide) (Nat.le_of_ble_eq_true rfl) dX11_halfOf_28 (fun v_28 m_28 h_28 => ?_)
  obtain ⟨e1, e2⟩ := h_28; have e1 := e1.symm; have e2 := e2.symm; subst e1; subst e2
  refine s_callSi X hR (m_leaf np _ _ _ _) rfl u1163 u1161 u1162 u12 hyX11_leaf (by decide) (by decide) (Nat.le_of_ble_eq_true rfl) dX11_halfOf_31 (fun v_31 m_31 h_31 => ?_)
  obtain ⟨e1, e2⟩ := h_31; have e1 := e1.symm; have e2 := e2.symm; subst e1; subst e2
  refine s_callSi X hR (m_join np _ _ _) rfl u1167 u1165 u1166 u12 hyX11_join (by decide) (by decide) (Nat.le_of_ble_eq_true rfl) dX11_halfOf_34 (fun v_34 m_34 h_34 => ?_)
  obtain ⟨e1, e2⟩ := h_34; have e1 := e1.symm; have e2 := e2.symm; subst e1; subst e2
  refine s_iret X hE hr dX11_halfOf_37 rfl ?_
  first | exact ⟨rfl, rfl⟩ | (exfalso; clear hE hr hR X; (try simp only [lg_cmp_lt, lg_cmp_gt, lg_cmp_le, lg_cmp_ge] at *); (try simp (disch := omega) only [Int64.le_iff_toInt_le, Int64.lt_iff_toInt_lt, Int32.le_iff_toInt_le, Int32.lt_iff_toInt_lt, fa_eq, fa_lit, fa_litL, nI_toInt, pk_lT, Int32.toInt_toInt64, jadd64, jin, jnoneT] at *); omega)
set_option maxRecDepth 4000 in
set_option maxHeartbeats 1000000 in
theorem m_rootOf (np : Nat) (mem : jMem) (p : Nat) (hp : p < 12) : jPi yX11_rootOf cX11_rootOf 2 .int 3 [.ref 66, .int (nI p)] np mem (fun v c => v = jRootM (mem 74) p ∧ c = mem) := by
  refine jPi.of (own := RX11) rfl rfl (Nat.le_of_ble_eq_true rfl) (fun G X hR hr hE => ?_)
  refine j_aload_n X dX11_rootOf_0 rfl ?_
  refine j_iload_n X dX11_rootOf_1 rfl ?_
  refine j_iconst X dX11_rootOf_2 0 (by decide) ?_
  refine s_callVi X hR (m_halfOf np _ _ 0 hp (by omega)) rfl 11 (by decide) (o66 np) (k66 np) rfl u1156 u1153 u1155 qp40 u12 hyX11_halfOf (by decide) (by decide) (Nat.le_of_ble_eq_true rfl) dX11_rootOf_3 (fun v_3 m_3 h_3 => ?_)
  obtain ⟨e1, e2⟩ := h_3; have e1 := e1.symm; have e2 := e2.symm; subst e1; subst e2
  refine j_aload_n X dX11_rootOf_6 rfl ?_
  refine j_iload_n X dX11_rootOf_7 rfl ?_
  refine j_iconst X dX11_rootOf_8 1 (by decide) ?_
  refine s_callVi X hR (m_halfOf np _ _ 1 hp (by omega)) rfl 11 (by decide) (o66 np) (k66 np) rfl u1156 u1153 u1155 qp40 u12 hyX11_halfOf (by decide) (by decide) (Nat.le_of_ble_eq_true rfl) dX11_rootOf_9 (fun v_9 m_9 h_9 => ?_)
  obtain ⟨e1, e2⟩ := h_9; have e1 := e1.symm; have e2 := e2.symm; subst e1; subst e2
  refine s_callSi X hR (m_join np _ _ _) rfl u1167 u1165 u1166 u12 hyX11_join (by decide) (by decide) (Nat.le_of_ble_eq_true rfl) dX11_rootOf_12 (fun v_12 m_12 h_12 => ?_)
  obtain ⟨e1, e2⟩ := h_12; have e1 := e1.symm; have e2 := e2.symm; subst e1; subst e2
  refine s_iret X hE hr dX11_rootOf_15 rfl ?_
  first | exact ⟨rfl, rfl⟩ | (exfalso; clear hE hr hR X; (try simp only [lg_cmp_lt, lg_cmp_gt, lg_cmp_le, lg_cmp_ge] at *); (try simp (disch := omega) only [Int64.le_iff_toInt_le, Int64.lt_iff_toInt_lt, Int32.le_iff_toInt_le, Int32.lt_iff_toInt_lt, fa_eq, fa_lit, fa_litL, nI_toInt, pk_lT, Int32.toInt_toInt64, jadd64, jin, jnoneT] at *); omega)
set_option maxRecDepth 4000 in
set_option maxHeartbeats 1000000 in
theorem m_sealOf (np : Nat) (mem : jMem) (p o q : Nat) (x : Int32) (hp : p < 12) (ho : o < 4) (hpo : mem 74 (9 * p) = nI o) (hq : q ≤ 6) (hc : mem 70 o = nI q) : jPi yX11_sealOf cX11_sealOf 3 .int 2 [.ref 66, .int (nI p), .int x] np mem (fun v c => v = jSeal x (jKey (fun j => mem 71 (6 * o + j)) (fun j => mem 72 (6 * o + j)) q (nI o) (mem 74 (9 * p + 3))) ∧ c = mem) := by
  refine jPi.of (own := RX11) rfl rfl (Nat.le_of_ble_eq_true rfl) (fun G X hR hr hE => ?_)
  refine j_iload_n X dX11_sealOf_0 rfl ?_
  refine j_i2l X dX11_sealOf_1 ?_
  refine j_aload_n X dX11_sealOf_2 rfl ?_
  refine j_aload_n X dX11_sealOf_3 rfl ?_
  refine j_iload_n X dX11_sealOf_4 rfl ?_
  refine j_iconst X dX11_sealOf_5 0 (by decide) ?_
  refine s_callVi X hR (m_of np _ _ 0 hp (by omega)) rfl 11 (by decide) (o66 np) (k66 np) rfl u1180 u1177 u1179 qp44 u12 hyX11_of (by decide) (by decide) (Nat.le_of_ble_eq_true rfl) dX11_sealOf_6 (fun v_6 m_6 h_6 => ?_)
  obtain ⟨e1, e2⟩ := h_6; have e1 := e1.symm; have e2 := e2.symm; subst e1; subst e2
  refine j_nrm _ hpo ?_
  refine j_aload_n X dX11_sealOf_9 rfl ?_
  refine j_iload_n X dX11_sealOf_10 rfl ?_
  refine j_iconst X dX11_sealOf_11 3 (by decide) ?_
  refine s_callVi X hR (m_of np _ _ 3 hp (by omega)) rfl 11 (by decide) (o66 np) (k66 np) rfl u1180 u1177 u1179 qp44 u12 hyX11_of (by decide) (by decide) (Nat.le_of_ble_eq_true rfl) dX11_sealOf_12 (fun v_12 m_12 h_12 => ?_)
  obtain ⟨e1, e2⟩ := h_12; have e1 := e1.symm; have e2 := e2.symm; subst e1; subst e2
  refine s_callVi X hR (m_keyFor np _ _ _ _ ho hq hc) rfl 11 (by decide) (o66 np) (k66 np) rfl u1128 u1125 u1127 qp37 u12 hyX11_keyFor (by decide) (by decide) (Nat.le_of_ble_eq_true rfl) dX11_sealOf_15 (fun v_15 m_15 h_15 => ?_)
  obtain ⟨e1, e2⟩ := h_15; have e1 := e1.symm; have e2 := e2.symm; subst e1; subst e2
  refine j_i2l X dX11_sealOf_18 ?_
  refine j_lmul X dX11_sealOf_19 ?_
  refine j_lconst X dX11_sealOf_20 1 (by decide) ?_
  refine j_ladd X dX11_sealOf_21 ?_
  refine j_ldc2 X dX11_sealOf_22 u1168 ?_
  refine j_lrem X dX11_sealOf_25 (by decide) ?_
  refine j_l2i X dX11_sealOf_26 ?_
  refine s_iret X hE hr dX11_sealOf_27 rfl ?_
  first | exact ⟨rfl, rfl⟩ | (exfalso; clear hE hr hR X; (try simp only [lg_cmp_lt, lg_cmp_gt, lg_cmp_le, lg_cmp_ge] at *); (try simp (disch := omega) only [Int64.le_iff_toInt_le, Int64.lt_iff_toInt_lt, Int32.le_iff_toInt_le, Int32.lt_iff_toInt_lt, fa_eq, fa_lit, fa_litL, nI_toInt, pk_lT, Int32.toInt_toInt64, jadd64, jin, jnoneT] at *); omega)
set_option maxRecDepth 4000 in
set_option maxHeartbeats 1000000 in
theorem m_steps (np : Nat) (mem : jMem) (x : Int32) (k : Nat) (hk : k < 2 ^ 31) : jPi yX11_steps cX11_steps 4 .int 1 [.int x, .int (nI k)] np mem (fun v c => v = jSteps x k ∧ c = mem) := by
  refine jPi.of (own := RX11) rfl rfl (Nat.le_of_ble_eq_true rfl) (fun G X hR hr hE => ?_)
  refine j_iload_n X dX11_steps_0 rfl ?_
  refine j_istore_n X dX11_steps_1 (by decide) ?_
  refine j_iconst X dX11_steps_2 0 (by decide) ?_
  refine j_istore_n X dX11_steps_3 (by decide) ?_
  have lp4 : ∀ (n : Nat) (j : Nat), j ≤ k → k + 1 ≤ j + n → J G RX11 cX11_steps 4 0 0 4 (jlv [some (.int x), some (.int (nI k)), some (.int (jSteps x j)), some (.int (nI j))]) [] (jS np) (mem) := by
    intro n
    induction n with
    | zero =>
      intro j hj hn
      exact absurd hn (by omega)
    | succ n ih4 =>
      intro j hj hn
      refine j_iload_n X dX11_steps_4 rfl ?_
      refine j_iload_n X dX11_steps_5 rfl ?_
      refine j_icmp_ge X 30 dX11_steps_6 (by decide) (fun c_6 => ?_) (fun c_6 => ?_)
      · obtain rfl : j = k := by clear hE hr hR X; (try simp only [lg_cmp_lt, lg_cmp_gt, lg_cmp_le, lg_cmp_ge] at *); (try simp (disch := omega) only [Int64.le_iff_toInt_le, Int64.lt_iff_toInt_lt, Int32.le_iff_toInt_le, Int32.lt_iff_toInt_lt, fa_eq, fa_lit, fa_litL, nI_toInt, pk_lT, Int32.toInt_toInt64, jadd64, jin, jnoneT] at *); omega
        refine j_iload_n X dX11_steps_30 rfl ?_
        refine s_iret X hE hr dX11_steps_31 rfl ?_
        first | exact ⟨rfl, rfl⟩ | (exfalso; clear hE hr hR X; (try simp only [lg_cmp_lt, lg_cmp_gt, lg_cmp_le, lg_cmp_ge] at *); (try simp (disch := omega) only [Int64.le_iff_toInt_le, Int64.lt_iff_toInt_lt, Int32.le_iff_toInt_le, Int32.lt_iff_toInt_lt, fa_eq, fa_lit, fa_litL, nI_toInt, pk_lT, Int32.toInt_toInt64, jadd64, jin, jnoneT] at *); omega)
      · have hj2 : j < k := by clear hE hr hR X; (try simp only [lg_cmp_lt, lg_cmp_gt, lg_cmp_le, lg_cmp_ge] at *); (try simp (disch := omega) only [Int64.le_iff_toInt_le, Int64.lt_iff_toInt_lt, Int32.le_iff_toInt_le, Int32.lt_iff_toInt_lt, fa_eq, fa_lit, fa_litL, nI_toInt, pk_lT, Int32.toInt_toInt64, jadd64, jin, jnoneT] at *); omega
        refine j_iload_n X dX11_steps_9 rfl ?_
        refine j_i2l X dX11_steps_10 ?_
        refine j_iload_n X dX11_steps_11 rfl ?_
        refine j_i2l X dX11_steps_12 ?_
        refine j_lmul X dX11_steps_13 ?_
        refine j_ldc2 X dX11_steps_14 u1114 ?_
        refine j_ladd X dX11_steps_17 ?_
        refine j_ldc2 X dX11_steps_18 u1168 ?_
        refine j_lrem X dX11_steps_21 (by decide) ?_
        refine j_l2i X dX11_steps_22 ?_
        refine j_istore_n X dX11_steps_23 (by decide) ?_
        refine j_iinc X dX11_steps_24 rfl 1 rfl ?_
        refine j_goto X 4 dX11_steps_27 (by decide) ?_
        refine j_lv [some (.int x), some (.int (nI k)), some (.int (jSteps x (j + 1))), some (.int (nI (j + 1)))] ⟨rfl, rfl, rfl, (by rw [← nI_1]; rfl), trivial⟩ ?_
        exact ih4 (j + 1) (by omega) (by omega)
  refine j_lv [some (.int x), some (.int (nI k)), some (.int (jSteps x 0)), some (.int (nI 0))] ⟨rfl, rfl, rfl, rfl, trivial⟩ ?_
  exact lp4 (k + 1) 0 (by omega) (by omega)
set_option maxRecDepth 4000 in
set_option maxHeartbeats 1000000 in
theorem m_endOf (np : Nat) (mem : jMem) (p i w : Nat) (hp : p < 12) (hi : i < 4) (hw : mem 74 (9 * p + 5 + i) = nI w) (hw2 : w ≤ 999) : jPi yX11_endOf cX11_endOf 3 .int 2 [.ref 66, .int (nI p), .int (nI i)] np mem (fun v c => v = jSteps (101 * nI p + 17 * nI i + 1) (w + 1) ∧ c = mem) := by
  refine jPi.of (own := RX11) rfl rfl (Nat.le_of_ble_eq_true rfl) (fun G X hR hr hE => ?_)
  refine j_iload_n X dX11_endOf_0 rfl ?_
  refine j_iload_n X dX11_endOf_1 rfl ?_
  refine s_callSi X hR (m_beginning np _ _ _) rfl u1187 u1185 u1186 u12 hyX11_beginning (by decide) (by decide) (Nat.le_of_ble_eq_true rfl) dX11_endOf_2 (fun v_2 m_2 h_2 => ?_)
  obtain ⟨e1, e2⟩ := h_2; have e1 := e1.symm; have e2 := e2.symm; subst e1; subst e2
  refine j_aload_n X dX11_endOf_5 rfl ?_
  refine j_iload_n X dX11_endOf_6 rfl ?_
  refine j_iload_n X dX11_endOf_7 rfl ?_
  refine s_callVi X hR (m_field np _ _ _ hp hi) rfl 11 (by decide) (o66 np) (k66 np) rfl u1160 u1157 u1159 qp41 u12 hyX11_field (by decide) (by decide) (Nat.le_of_ble_eq_true rfl) dX11_endOf_8 (fun v_8 m_8 h_8 => ?_)
  obtain ⟨e1, e2⟩ := h_8; have e1 := e1.symm; have e2 := e2.symm; subst e1; subst e2
  refine j_nrm _ hw ?_
  refine j_iconst X dX11_endOf_11 1 (by decide) ?_
  refine j_iadd X dX11_endOf_12 ?_
  refine j_nrm (nI (w + 1)) (nI_1 w) ?_
  refine s_callSi X hR (m_steps np _ _ (w + 1) (by omega)) rfl u1190 u1188 u1189 u12 hyX11_steps (by decide) (by decide) (Nat.le_of_ble_eq_true rfl) dX11_endOf_13 (fun v_13 m_13 h_13 => ?_)
  obtain ⟨e1, e2⟩ := h_13; have e1 := e1.symm; have e2 := e2.symm; subst e1; subst e2
  refine s_iret X hE hr dX11_endOf_16 rfl ?_
  first | exact ⟨rfl, rfl⟩ | (exfalso; clear hE hr hR X; (try simp only [lg_cmp_lt, lg_cmp_gt, lg_cmp_le, lg_cmp_ge] at *); (try simp (disch := omega) only [Int64.le_iff_toInt_le, Int64.lt_iff_toInt_lt, Int32.le_iff_toInt_le, Int32.lt_iff_toInt_lt, fa_eq, fa_lit, fa_litL, nI_toInt, pk_lT, Int32.toInt_toInt64, jadd64, jin, jnoneT] at *); omega)
