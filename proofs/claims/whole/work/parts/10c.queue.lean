def jQcm (F : Nat → Int32) (q w : Nat) : Nat := if w < q then (F (2 * w)).toNatClampNeg else 0
def jQlm (F : Nat → Int32) (q w : Nat) : Nat := if w < q then (F (2 * w + 1)).toNatClampNeg else 0
def jQok (F : Nat → Int32) (q : Nat) : Prop := ∀ w, w < q → jin (F (2 * w)) 0 999 ∧ jin (F (2 * w + 1)) 1 99
theorem jQcm_e {F : Nat → Int32} {q w : Nat} (h : jQok F q) (hw : w < q) : F (2 * w) = nI (jQcm F q w) := by
  obtain ⟨x, h1, h2, e⟩ := jin_n (h w hw).1
  unfold jQcm
  rw [if_pos hw, e, nI_clamp h2]
theorem jQcm_le {F : Nat → Int32} {q : Nat} (h : jQok F q) (w : Nat) : jQcm F q w ≤ 999 := by
  unfold jQcm
  by_cases hw : w < q
  · obtain ⟨x, h1, h2, e⟩ := jin_n (h w hw).1
    rw [if_pos hw, e, nI_clamp h2]
    omega
  · rw [if_neg hw]; omega
theorem jQlm_e {F : Nat → Int32} {q w : Nat} (h : jQok F q) (hw : w < q) : F (2 * w + 1) = nI (jQlm F q w) := by
  obtain ⟨x, h1, h2, e⟩ := jin_n (c := 99) (x := F (2 * w + 1)) ⟨by have := (h w hw).2.1; omega, (h w hw).2.2⟩
  unfold jQlm
  rw [if_pos hw, e, nI_clamp h2]
theorem jQlm_le {F : Nat → Int32} {q : Nat} (h : jQok F q) (w : Nat) : jQlm F q w ≤ 99 := by
  unfold jQlm
  by_cases hw : w < q
  · obtain ⟨x, h1, h2, e⟩ := jin_n (c := 99) (x := F (2 * w + 1)) ⟨by have := (h w hw).2.1; omega, (h w hw).2.2⟩
    rw [if_pos hw, e, nI_clamp h2]
    omega
  · rw [if_neg hw]; omega
theorem jQok_s {F : Nat → Int32} {k : Nat} (h : jQok F k) (h1 : jin (F (2 * k)) 0 999) (h2 : jin (F (2 * k + 1)) 1 99) : jQok F (k + 1) := fun a ha => by
  rcases Nat.lt_or_ge a k with z | z
  · exact h a z
  · obtain rfl : a = k := by omega
    exact ⟨h1, h2⟩
def jQst (c l : Nat → Nat) (pr : List (List Nat)) : Nat × List Nat := pr.foldl (qS (qSum c l)) (2147483647, [])
def jQb (q : Nat) (p : List Nat) (f : Nat → Int32) : Prop := ∀ i, i < q → f i = nI (nF p i)
theorem jQst_s {c l : Nat → Nat} {pr : List (List Nat)} {a : List Nat} : jQst c l (pr ++ [a]) = qS (qSum c l) (jQst c l pr) a := by
  unfold jQst
  rw [List.foldl_append]
  rfl
/-- what the model holds while it goes through the orders -/
def jQA (c l : Nat → Nat) (q : Nat) (pr : List (List Nat)) (best : Int32) (f : Nat → Int32) : Prop := (pr = [] ∧ best = -1) ∨ (best = nI (jQst c l pr).1 ∧ (jQst c l pr).1 ≤ 20000 ∧ jQb q (jQst c l pr).2 f)
theorem jQA_take {c l : Nat → Nat} {q : Nat} {pr : List (List Nat)} {best : Int32} {f f2 : Nat → Int32} {a : List Nat} (h : jQA c l q pr best f) (hw : qSum c l a ≤ 20000) (hlt : best < 0 ∨ nI (qSum c l a) < best) (hb : jQb q a f2) : jQA c l q (pr ++ [a]) (nI (qSum c l a)) f2 := by
  have e : jQst c l (pr ++ [a]) = (qSum c l a, a) := by
    rw [jQst_s]
    refine if_pos ?_
    rcases h with ⟨rfl, -⟩ | ⟨h1, h2, -⟩
    · show _ < 2147483647
      omega
    · rcases hlt with z | z
      · rw [h1] at z
        exact absurd z (nI_pos (by omega))
      · rw [h1] at z
        exact (nI_ltI (by omega) (by omega)).mp z
  refine Or.inr ?_
  rw [e]
  exact ⟨rfl, hw, hb⟩
theorem jQA_keep {c l : Nat → Nat} {q : Nat} {pr : List (List Nat)} {best : Int32} {f : Nat → Int32} {a : List Nat} (h : jQA c l q pr best f) (hw : qSum c l a ≤ 20000) (h1 : ¬ best < 0) (h2 : best ≤ nI (qSum c l a)) : jQA c l q (pr ++ [a]) best f := by
  rcases h with ⟨-, h3⟩ | ⟨h3, h4, h5⟩
  · rw [h3] at h1
    exact absurd (by decide) h1
  · have e : jQst c l (pr ++ [a]) = jQst c l pr := by
      rw [jQst_s]
      refine if_neg (fun z => ?_)
      rw [h3] at h2
      have := (nI_leI (by omega) (by omega)).mp h2
      omega
    refine Or.inr ?_
    rw [e]
    exact ⟨h3, h4, h5⟩
def jQR (c l : Nat → Nat) (q : Nat) : Nat × List Nat := jQst c l (qP q q 0 [])
theorem jQ_fin {c l : Nat → Nat} {q : Nat} {pr rest : List (List Nat)} {a : List Nat} {best : Int32} {f : Nat → Int32} (hL : qP q q 0 [] = pr ++ a :: rest) (hr : rest = []) (hA : jQA c l q (pr ++ [a]) best f) : best = nI (jQR c l q).1 ∧ jQb q (jQR c l q).2 f := by
  subst hr
  unfold jQR
  rw [hL]
  have h := hA.resolve_left (fun z => absurd z.1 (by simp))
  exact ⟨h.1, h.2.2⟩
set_option maxRecDepth 4000 in
set_option maxHeartbeats 1000000 in
theorem m_queue_bad (np : Nat) (mem : jMem) (s i q k : Int32) (h : ¬ (jin s 0 7 ∧ jin q 1 7 ∧ jin k (-1) (q.toInt - 1))) : jPi yX11_queue cX11_queue 11 .int 3 [.ref 66, .int s, .int i, .int q, .int k] np mem (fun v c => v = -1000001 ∧ c = jup mem 66 0 0) := by
  refine jPi.of (own := RX11) rfl rfl (Nat.le_of_ble_eq_true rfl) (fun G X hR hr hE => ?_)
  refine j_aload_n X dX11_queue_0 rfl ?_
  refine j_iconst X dX11_queue_1 0 (by decide) ?_
  refine j_putI X 11 0 (by decide) (by decide) rfl rfl rfl rfl u950 (o66 np) (k66 np) dX11_queue_2 ?_
  refine j_iload_n X dX11_queue_5 rfl ?_
  refine s_callSi X hR (m_isSheet np _ _) rfl u1083 u1081 u1082 u12 hyX11_isSheet (by decide) (by decide) (Nat.le_of_ble_eq_true rfl) dX11_queue_6 (fun v_6 m_6 h_6 => ?_)
  obtain ⟨e1, e2⟩ := h_6; have e1 := e1.symm; have e2 := e2.symm; subst e1; subst e2
  refine j_ifb_eq X 40 dX11_queue_9 (by decide) (fun c_9 => ?_) (fun c_9 => ?_)
  · refine j_ldc X dX11_queue_40 u1089 ?_
    refine s_iret X hE hr dX11_queue_42 rfl ?_
    first | exact ⟨rfl, rfl⟩ | (exfalso; clear hE hr hR X; (try simp only [lg_cmp_lt, lg_cmp_gt, lg_cmp_le, lg_cmp_ge] at *); (try simp (disch := omega) only [Int64.le_iff_toInt_le, Int64.lt_iff_toInt_lt, Int32.le_iff_toInt_le, Int32.lt_iff_toInt_lt, fa_eq, fa_lit, fa_litL, nI_toInt, pk_lT, Int32.toInt_toInt64, jadd64, jin, jnoneT] at *); omega)
  · refine j_iload_n X dX11_queue_12 rfl ?_
    refine j_i2l X dX11_queue_13 ?_
    refine j_lconst X dX11_queue_14 1 (by decide) ?_
    refine j_ldc2 X dX11_queue_15 u1084 ?_
    refine s_callSi X hR (m_inI np _ _ _ _ 1 7 rfl rfl) rfl u1087 u1085 u1086 u12 hyX11_in (by decide) (by decide) (Nat.le_of_ble_eq_true rfl) dX11_queue_18 (fun v_18 m_18 h_18 => ?_)
    obtain ⟨e1, e2⟩ := h_18; have e1 := e1.symm; have e2 := e2.symm; subst e1; subst e2
    refine j_ifb_eq X 40 dX11_queue_21 (by decide) (fun c_21 => ?_) (fun c_21 => ?_)
    · refine j_ldc X dX11_queue_40 u1089 ?_
      refine s_iret X hE hr dX11_queue_42 rfl ?_
      first | exact ⟨rfl, rfl⟩ | (exfalso; clear hE hr hR X; (try simp only [lg_cmp_lt, lg_cmp_gt, lg_cmp_le, lg_cmp_ge] at *); (try simp (disch := omega) only [Int64.le_iff_toInt_le, Int64.lt_iff_toInt_lt, Int32.le_iff_toInt_le, Int32.lt_iff_toInt_lt, fa_eq, fa_lit, fa_litL, nI_toInt, pk_lT, Int32.toInt_toInt64, jadd64, jin, jnoneT] at *); omega)
    · refine j_iload X dX11_queue_24 rfl ?_
      refine j_i2l X dX11_queue_26 ?_
      refine j_ldc2 X dX11_queue_27 u1386 ?_
      refine j_iload_n X dX11_queue_30 rfl ?_
      refine j_iconst X dX11_queue_31 1 (by decide) ?_
      refine j_isub X dX11_queue_32 ?_
      refine j_i2l X dX11_queue_33 ?_
      refine s_callSi X hR (m_inI np _ _ _ _ (-1) (q.toInt - 1) (by decide) (jsubq c_21).1) rfl u1087 u1085 u1086 u12 hyX11_in (by decide) (by decide) (Nat.le_of_ble_eq_true rfl) dX11_queue_34 (fun v_34 m_34 h_34 => ?_)
      obtain ⟨e1, e2⟩ := h_34; have e1 := e1.symm; have e2 := e2.symm; subst e1; subst e2
      refine j_ifb_ne X 43 dX11_queue_37 (by decide) (fun c_37 => ?_) (fun c_37 => ?_)
      · exact absurd ⟨c_9, c_21, c_37⟩ h
      · refine j_ldc X dX11_queue_40 u1089 ?_
        refine s_iret X hE hr dX11_queue_42 rfl ?_
        first | exact ⟨rfl, rfl⟩ | (exfalso; clear hE hr hR X; (try simp only [lg_cmp_lt, lg_cmp_gt, lg_cmp_le, lg_cmp_ge] at *); (try simp (disch := omega) only [Int64.le_iff_toInt_le, Int64.lt_iff_toInt_lt, Int32.le_iff_toInt_le, Int32.lt_iff_toInt_lt, fa_eq, fa_lit, fa_litL, nI_toInt, pk_lT, Int32.toInt_toInt64, jadd64, jin, jnoneT] at *); omega)
set_option maxRecDepth 4000 in
set_option maxHeartbeats 1000000 in
theorem m_queue_sum_null (np : Nat) (mem : jMem) (s q : Nat) (i : Int32) (hs : s < 8) (hq1 : 1 ≤ q) (hq : q ≤ 7) (hl : (mem 67 s).toInt < 0) : jPi yX11_queue cX11_queue 11 .int 3 [.ref 66, .int (nI s), .int i, .int (nI q), .int (-1)] np mem (fun v c => v = -1000010 - 1 ∧ c = jup (jup mem 66 0 0) 66 1 1) := by
  refine jPi.of (own := RX11) rfl rfl (Nat.le_of_ble_eq_true rfl) (fun G X hR hr hE => ?_)
  refine j_aload_n X dX11_queue_0 rfl ?_
  refine j_iconst X dX11_queue_1 0 (by decide) ?_
  refine j_putI X 11 0 (by decide) (by decide) rfl rfl rfl rfl u950 (o66 np) (k66 np) dX11_queue_2 ?_
  refine j_iload_n X dX11_queue_5 rfl ?_
  refine s_callSi X hR (m_isSheet np _ _) rfl u1083 u1081 u1082 u12 hyX11_isSheet (by decide) (by decide) (Nat.le_of_ble_eq_true rfl) dX11_queue_6 (fun v_6 m_6 h_6 => ?_)
  obtain ⟨e1, e2⟩ := h_6; have e1 := e1.symm; have e2 := e2.symm; subst e1; subst e2
  refine j_ifb_eq X 40 dX11_queue_9 (by decide) (fun c_9 => ?_) (fun c_9 => ?_)
  · exfalso
    clear hE hr hR X
    have e1 : (-1 : Int32).toInt = -1 := by decide
    (try simp only [lg_cmp_lt, lg_cmp_gt, lg_cmp_le, lg_cmp_ge] at *); (try simp (disch := omega) only [Int64.le_iff_toInt_le, Int64.lt_iff_toInt_lt, Int32.le_iff_toInt_le, Int32.lt_iff_toInt_lt, fa_eq, fa_lit, fa_litL, nI_toInt, pk_lT, Int32.toInt_toInt64, jadd64, jin, jnoneT] at *); omega
  · refine j_iload_n X dX11_queue_12 rfl ?_
    refine j_i2l X dX11_queue_13 ?_
    refine j_lconst X dX11_queue_14 1 (by decide) ?_
    refine j_ldc2 X dX11_queue_15 u1084 ?_
    refine s_callSi X hR (m_inI np _ _ _ _ 1 7 rfl rfl) rfl u1087 u1085 u1086 u12 hyX11_in (by decide) (by decide) (Nat.le_of_ble_eq_true rfl) dX11_queue_18 (fun v_18 m_18 h_18 => ?_)
    obtain ⟨e1, e2⟩ := h_18; have e1 := e1.symm; have e2 := e2.symm; subst e1; subst e2
    refine j_ifb_eq X 40 dX11_queue_21 (by decide) (fun c_21 => ?_) (fun c_21 => ?_)
    · exfalso
      clear hE hr hR X
      have e1 : (-1 : Int32).toInt = -1 := by decide
      (try simp only [lg_cmp_lt, lg_cmp_gt, lg_cmp_le, lg_cmp_ge] at *); (try simp (disch := omega) only [Int64.le_iff_toInt_le, Int64.lt_iff_toInt_lt, Int32.le_iff_toInt_le, Int32.lt_iff_toInt_lt, fa_eq, fa_lit, fa_litL, nI_toInt, pk_lT, Int32.toInt_toInt64, jadd64, jin, jnoneT] at *); omega
    · refine j_iload X dX11_queue_24 rfl ?_
      refine j_i2l X dX11_queue_26 ?_
      refine j_ldc2 X dX11_queue_27 u1386 ?_
      refine j_iload_n X dX11_queue_30 rfl ?_
      refine j_iconst X dX11_queue_31 1 (by decide) ?_
      refine j_isub X dX11_queue_32 ?_
      refine j_i2l X dX11_queue_33 ?_
      refine s_callSi X hR (m_inI np _ _ _ _ (-1) ((nI q).toInt - 1) (by decide) (jsubq (q := nI q) ⟨by rw [nI_toInt (by omega)]; omega, by rw [nI_toInt (by omega)]; omega⟩).1) rfl u1087 u1085 u1086 u12 hyX11_in (by decide) (by decide) (Nat.le_of_ble_eq_true rfl) dX11_queue_34 (fun v_34 m_34 h_34 => ?_)
      obtain ⟨e1, e2⟩ := h_34; have e1 := e1.symm; have e2 := e2.symm; subst e1; subst e2
      refine j_ifb_ne X 43 dX11_queue_37 (by decide) (fun c_37 => ?_) (fun c_37 => ?_)
      · refine j_aload_n X dX11_queue_43 rfl ?_
        refine j_iload_n X dX11_queue_44 rfl ?_
        refine j_iload_n X dX11_queue_45 rfl ?_
        refine j_iconst X dX11_queue_46 2 (by decide) ?_
        refine j_iload_n X dX11_queue_47 rfl ?_
        refine j_imul X dX11_queue_48 ?_
        refine j_nrm (nI (2 * q)) (by simp only [fa_lit, pk_mul]) ?_
        refine s_callVi X hR (m_look_null np _ s i _ hs hl) rfl 11 (by decide) (o66 np) (k66 np) rfl u1141 u1138 u1140 qp38 u12 hyX11_lookItems (by decide) (by decide) (Nat.le_of_ble_eq_true rfl) dX11_queue_49 (fun v_49 m_49 h_49 => ?_)
        obtain ⟨e1, e2⟩ := h_49; have e1 := e1.symm; have e2 := e2.symm; subst e1; subst e2
        refine j_istore X dX11_queue_52 (by decide) ?_
        refine j_iload X dX11_queue_54 rfl ?_
        refine j_if_ge X 62 dX11_queue_56 (by decide) (fun c_56 => absurd c_56 (by decide)) (fun c_56 => ?_)
        refine j_iload X dX11_queue_59 rfl ?_
        refine s_iret X hE hr dX11_queue_61 rfl ?_
        first | exact ⟨rfl, rfl⟩ | (exfalso; clear hE hr hR X; (try simp only [lg_cmp_lt, lg_cmp_gt, lg_cmp_le, lg_cmp_ge] at *); (try simp (disch := omega) only [Int64.le_iff_toInt_le, Int64.lt_iff_toInt_lt, Int32.le_iff_toInt_le, Int32.lt_iff_toInt_lt, fa_eq, fa_lit, fa_litL, nI_toInt, pk_lT, Int32.toInt_toInt64, jadd64, jin, jnoneT] at *); omega)
      · exfalso
        clear hE hr hR X
        have e1 : (-1 : Int32).toInt = -1 := by decide
        (try simp only [lg_cmp_lt, lg_cmp_gt, lg_cmp_le, lg_cmp_ge] at *); (try simp (disch := omega) only [Int64.le_iff_toInt_le, Int64.lt_iff_toInt_lt, Int32.le_iff_toInt_le, Int32.lt_iff_toInt_lt, fa_eq, fa_lit, fa_litL, nI_toInt, pk_lT, Int32.toInt_toInt64, jadd64, jin, jnoneT] at *); omega
set_option maxRecDepth 4000 in
set_option maxHeartbeats 1000000 in
theorem m_queue_sum_place (np : Nat) (mem : jMem) (s q : Nat) (i : Int32) (hs : s < 8) (hq1 : 1 ≤ q) (hq : q ≤ 7) (hl : 0 ≤ (mem 67 s).toInt) (hi : i.toInt < 0 ∨ i.toInt + (nI (2 * q)).toInt > (mem 68 s).toInt) : jPi yX11_queue cX11_queue 11 .int 3 [.ref 66, .int (nI s), .int i, .int (nI q), .int (-1)] np mem (fun v c => v = -1000010 - 2 ∧ c = jup (jup mem 66 0 0) 66 1 2) := by
  refine jPi.of (own := RX11) rfl rfl (Nat.le_of_ble_eq_true rfl) (fun G X hR hr hE => ?_)
  refine j_aload_n X dX11_queue_0 rfl ?_
  refine j_iconst X dX11_queue_1 0 (by decide) ?_
  refine j_putI X 11 0 (by decide) (by decide) rfl rfl rfl rfl u950 (o66 np) (k66 np) dX11_queue_2 ?_
  refine j_iload_n X dX11_queue_5 rfl ?_
  refine s_callSi X hR (m_isSheet np _ _) rfl u1083 u1081 u1082 u12 hyX11_isSheet (by decide) (by decide) (Nat.le_of_ble_eq_true rfl) dX11_queue_6 (fun v_6 m_6 h_6 => ?_)
  obtain ⟨e1, e2⟩ := h_6; have e1 := e1.symm; have e2 := e2.symm; subst e1; subst e2
  refine j_ifb_eq X 40 dX11_queue_9 (by decide) (fun c_9 => ?_) (fun c_9 => ?_)
  · exfalso
    clear hE hr hR X
    have e1 : (-1 : Int32).toInt = -1 := by decide
    (try simp only [lg_cmp_lt, lg_cmp_gt, lg_cmp_le, lg_cmp_ge] at *); (try simp (disch := omega) only [Int64.le_iff_toInt_le, Int64.lt_iff_toInt_lt, Int32.le_iff_toInt_le, Int32.lt_iff_toInt_lt, fa_eq, fa_lit, fa_litL, nI_toInt, pk_lT, Int32.toInt_toInt64, jadd64, jin, jnoneT] at *); omega
  · refine j_iload_n X dX11_queue_12 rfl ?_
    refine j_i2l X dX11_queue_13 ?_
    refine j_lconst X dX11_queue_14 1 (by decide) ?_
    refine j_ldc2 X dX11_queue_15 u1084 ?_
    refine s_callSi X hR (m_inI np _ _ _ _ 1 7 rfl rfl) rfl u1087 u1085 u1086 u12 hyX11_in (by decide) (by decide) (Nat.le_of_ble_eq_true rfl) dX11_queue_18 (fun v_18 m_18 h_18 => ?_)
    obtain ⟨e1, e2⟩ := h_18; have e1 := e1.symm; have e2 := e2.symm; subst e1; subst e2
    refine j_ifb_eq X 40 dX11_queue_21 (by decide) (fun c_21 => ?_) (fun c_21 => ?_)
    · exfalso
      clear hE hr hR X
      have e1 : (-1 : Int32).toInt = -1 := by decide
      (try simp only [lg_cmp_lt, lg_cmp_gt, lg_cmp_le, lg_cmp_ge] at *); (try simp (disch := omega) only [Int64.le_iff_toInt_le, Int64.lt_iff_toInt_lt, Int32.le_iff_toInt_le, Int32.lt_iff_toInt_lt, fa_eq, fa_lit, fa_litL, nI_toInt, pk_lT, Int32.toInt_toInt64, jadd64, jin, jnoneT] at *); omega
    · refine j_iload X dX11_queue_24 rfl ?_
      refine j_i2l X dX11_queue_26 ?_
      refine j_ldc2 X dX11_queue_27 u1386 ?_
      refine j_iload_n X dX11_queue_30 rfl ?_
      refine j_iconst X dX11_queue_31 1 (by decide) ?_
      refine j_isub X dX11_queue_32 ?_
      refine j_i2l X dX11_queue_33 ?_
      refine s_callSi X hR (m_inI np _ _ _ _ (-1) ((nI q).toInt - 1) (by decide) (jsubq (q := nI q) ⟨by rw [nI_toInt (by omega)]; omega, by rw [nI_toInt (by omega)]; omega⟩).1) rfl u1087 u1085 u1086 u12 hyX11_in (by decide) (by decide) (Nat.le_of_ble_eq_true rfl) dX11_queue_34 (fun v_34 m_34 h_34 => ?_)
      obtain ⟨e1, e2⟩ := h_34; have e1 := e1.symm; have e2 := e2.symm; subst e1; subst e2
      refine j_ifb_ne X 43 dX11_queue_37 (by decide) (fun c_37 => ?_) (fun c_37 => ?_)
      · refine j_aload_n X dX11_queue_43 rfl ?_
        refine j_iload_n X dX11_queue_44 rfl ?_
        refine j_iload_n X dX11_queue_45 rfl ?_
        refine j_iconst X dX11_queue_46 2 (by decide) ?_
        refine j_iload_n X dX11_queue_47 rfl ?_
        refine j_imul X dX11_queue_48 ?_
        refine j_nrm (nI (2 * q)) (by simp only [fa_lit, pk_mul]) ?_
        refine s_callVi X hR (m_look_place np _ s i _ hs hl hi) rfl 11 (by decide) (o66 np) (k66 np) rfl u1141 u1138 u1140 qp38 u12 hyX11_lookItems (by decide) (by decide) (Nat.le_of_ble_eq_true rfl) dX11_queue_49 (fun v_49 m_49 h_49 => ?_)
        obtain ⟨e1, e2⟩ := h_49; have e1 := e1.symm; have e2 := e2.symm; subst e1; subst e2
        refine j_istore X dX11_queue_52 (by decide) ?_
        refine j_iload X dX11_queue_54 rfl ?_
        refine j_if_ge X 62 dX11_queue_56 (by decide) (fun c_56 => absurd c_56 (by decide)) (fun c_56 => ?_)
        refine j_iload X dX11_queue_59 rfl ?_
        refine s_iret X hE hr dX11_queue_61 rfl ?_
        first | exact ⟨rfl, rfl⟩ | (exfalso; clear hE hr hR X; (try simp only [lg_cmp_lt, lg_cmp_gt, lg_cmp_le, lg_cmp_ge] at *); (try simp (disch := omega) only [Int64.le_iff_toInt_le, Int64.lt_iff_toInt_lt, Int32.le_iff_toInt_le, Int32.lt_iff_toInt_lt, fa_eq, fa_lit, fa_litL, nI_toInt, pk_lT, Int32.toInt_toInt64, jadd64, jin, jnoneT] at *); omega)
      · exfalso
        clear hE hr hR X
        have e1 : (-1 : Int32).toInt = -1 := by decide
        (try simp only [lg_cmp_lt, lg_cmp_gt, lg_cmp_le, lg_cmp_ge] at *); (try simp (disch := omega) only [Int64.le_iff_toInt_le, Int64.lt_iff_toInt_lt, Int32.le_iff_toInt_le, Int32.lt_iff_toInt_lt, fa_eq, fa_lit, fa_litL, nI_toInt, pk_lT, Int32.toInt_toInt64, jadd64, jin, jnoneT] at *); omega
set_option maxRecDepth 4000 in
set_option maxHeartbeats 1000000 in
theorem m_queue_sum_item (np : Nat) (mem : jMem) (s i q z : Nat) (hs : s < 8) (hq1 : 1 ≤ q) (hq : q ≤ 7) (hl : 0 ≤ (mem 67 s).toInt) (hz : z ≤ 60) (hm : mem 68 s = nI z) (hi : i + 2 * q ≤ z) (hno : ¬ jQok (fun k => mem 69 (60 * s + i + k)) q) : jPi yX11_queue cX11_queue 11 .int 3 [.ref 66, .int (nI s), .int (nI i), .int (nI q), .int (-1)] np mem (fun v c => v = -1000001 ∧ jeq [89] (jup mem 66 0 0) c) := by
  refine jPi.of (own := RX11) rfl rfl (Nat.le_of_ble_eq_true rfl) (fun G X hR hr hE => ?_)
  refine j_aload_n X dX11_queue_0 rfl ?_
  refine j_iconst X dX11_queue_1 0 (by decide) ?_
  refine j_putI X 11 0 (by decide) (by decide) rfl rfl rfl rfl u950 (o66 np) (k66 np) dX11_queue_2 ?_
  refine j_iload_n X dX11_queue_5 rfl ?_
  refine s_callSi X hR (m_isSheet np _ _) rfl u1083 u1081 u1082 u12 hyX11_isSheet (by decide) (by decide) (Nat.le_of_ble_eq_true rfl) dX11_queue_6 (fun v_6 m_6 h_6 => ?_)
  obtain ⟨e1, e2⟩ := h_6; have e1 := e1.symm; have e2 := e2.symm; subst e1; subst e2
  refine j_ifb_eq X 40 dX11_queue_9 (by decide) (fun c_9 => ?_) (fun c_9 => ?_)
  · exfalso
    clear hE hr hR X
    have e1 : (-1 : Int32).toInt = -1 := by decide
    (try simp only [lg_cmp_lt, lg_cmp_gt, lg_cmp_le, lg_cmp_ge] at *); (try simp (disch := omega) only [Int64.le_iff_toInt_le, Int64.lt_iff_toInt_lt, Int32.le_iff_toInt_le, Int32.lt_iff_toInt_lt, fa_eq, fa_lit, fa_litL, nI_toInt, pk_lT, Int32.toInt_toInt64, jadd64, jin, jnoneT] at *); omega
  · refine j_iload_n X dX11_queue_12 rfl ?_
    refine j_i2l X dX11_queue_13 ?_
    refine j_lconst X dX11_queue_14 1 (by decide) ?_
    refine j_ldc2 X dX11_queue_15 u1084 ?_
    refine s_callSi X hR (m_inI np _ _ _ _ 1 7 rfl rfl) rfl u1087 u1085 u1086 u12 hyX11_in (by decide) (by decide) (Nat.le_of_ble_eq_true rfl) dX11_queue_18 (fun v_18 m_18 h_18 => ?_)
    obtain ⟨e1, e2⟩ := h_18; have e1 := e1.symm; have e2 := e2.symm; subst e1; subst e2
    refine j_ifb_eq X 40 dX11_queue_21 (by decide) (fun c_21 => ?_) (fun c_21 => ?_)
    · exfalso
      clear hE hr hR X
      have e1 : (-1 : Int32).toInt = -1 := by decide
      (try simp only [lg_cmp_lt, lg_cmp_gt, lg_cmp_le, lg_cmp_ge] at *); (try simp (disch := omega) only [Int64.le_iff_toInt_le, Int64.lt_iff_toInt_lt, Int32.le_iff_toInt_le, Int32.lt_iff_toInt_lt, fa_eq, fa_lit, fa_litL, nI_toInt, pk_lT, Int32.toInt_toInt64, jadd64, jin, jnoneT] at *); omega
    · refine j_iload X dX11_queue_24 rfl ?_
      refine j_i2l X dX11_queue_26 ?_
      refine j_ldc2 X dX11_queue_27 u1386 ?_
      refine j_iload_n X dX11_queue_30 rfl ?_
      refine j_iconst X dX11_queue_31 1 (by decide) ?_
      refine j_isub X dX11_queue_32 ?_
      refine j_i2l X dX11_queue_33 ?_
      refine s_callSi X hR (m_inI np _ _ _ _ (-1) ((nI q).toInt - 1) (by decide) (jsubq (q := nI q) ⟨by rw [nI_toInt (by omega)]; omega, by rw [nI_toInt (by omega)]; omega⟩).1) rfl u1087 u1085 u1086 u12 hyX11_in (by decide) (by decide) (Nat.le_of_ble_eq_true rfl) dX11_queue_34 (fun v_34 m_34 h_34 => ?_)
      obtain ⟨e1, e2⟩ := h_34; have e1 := e1.symm; have e2 := e2.symm; subst e1; subst e2
      refine j_ifb_ne X 43 dX11_queue_37 (by decide) (fun c_37 => ?_) (fun c_37 => ?_)
      · refine j_aload_n X dX11_queue_43 rfl ?_
        refine j_iload_n X dX11_queue_44 rfl ?_
        refine j_iload_n X dX11_queue_45 rfl ?_
        refine j_iconst X dX11_queue_46 2 (by decide) ?_
        refine j_iload_n X dX11_queue_47 rfl ?_
        refine j_imul X dX11_queue_48 ?_
        refine j_nrm (nI (2 * q)) (by simp only [fa_lit, pk_mul]) ?_
        refine s_callVi X hR (m_look np _ s (nI i) _ hs hl (jlook hm rfl (by omega) hi)) rfl 11 (by decide) (o66 np) (k66 np) rfl u1141 u1138 u1140 qp38 u12 hyX11_lookItems (by decide) (by decide) (Nat.le_of_ble_eq_true rfl) dX11_queue_49 (fun v_49 m_49 h_49 => ?_)
        obtain ⟨e1, e2⟩ := h_49; have e1 := e1.symm; have e2 := e2.symm; subst e1; subst e2
        refine j_istore X dX11_queue_52 (by decide) ?_
        refine j_iload X dX11_queue_54 rfl ?_
        refine j_if_ge X 62 dX11_queue_56 (by decide) (fun c_56 => ?_) (fun c_56 => absurd c_56 (by decide))
        refine j_bipush X dX11_queue_62 60 (by decide) ?_
        refine j_iload_n X dX11_queue_64 rfl ?_
        refine j_imul X dX11_queue_65 ?_
        refine j_iload_n X dX11_queue_66 rfl ?_
        refine j_iadd X dX11_queue_67 ?_
        refine j_nrm (nI (60 * s + i)) (by simp only [fa_lit, pk_mul, nI_add]) ?_
        refine j_istore X dX11_queue_68 (by decide) ?_
        refine j_iconst X dX11_queue_70 0 (by decide) ?_
        refine j_istore X dX11_queue_71 (by decide) ?_
        have lp73 : ∀ (n : Nat) (a : Nat) (m2 : jMem), a ≤ q → q + 1 ≤ a + n → jeq [89] (jup mem 66 0 0) m2 → jQok (fun k => mem 69 (60 * s + i + k)) a → J G RX11 cX11_queue 11 0 0 73 (jlv [some (.ref 66), some (.int (nI s)), some (.int (nI i)), some (.int (nI q)), some (.int (-1)), some (.int 0), some (.int (nI (60 * s + i))), some (.int (nI a))]) [] (jS np) (m2) := by
          intro n
          induction n with
          | zero =>
            intro a m2 ha hn hJ hB
            exact absurd hn (by omega)
          | succ n ih73 =>
            intro a m2 ha hn hJ hB
            refine j_iload X dX11_queue_73 rfl ?_
            refine j_iload_n X dX11_queue_75 rfl ?_
            refine j_icmp_ge X 145 dX11_queue_76 (by decide) (fun c_76 => ?_) (fun c_76 => ?_)
            · exfalso
              obtain rfl : a = q := by clear hE hr hR X hB hno hJ; (try simp only [lg_cmp_lt, lg_cmp_gt, lg_cmp_le, lg_cmp_ge] at *); (try simp (disch := omega) only [Int64.le_iff_toInt_le, Int64.lt_iff_toInt_lt, Int32.le_iff_toInt_le, Int32.lt_iff_toInt_lt, fa_eq, fa_lit, fa_litL, nI_toInt, pk_lT, Int32.toInt_toInt64, jadd64, jin, jnoneT] at *); omega
              exact hno hB
            · have ha2 : a < q := by clear hE hr hR X hB hJ; (try simp only [lg_cmp_lt, lg_cmp_gt, lg_cmp_le, lg_cmp_ge] at *); (try simp (disch := omega) only [Int64.le_iff_toInt_le, Int64.lt_iff_toInt_lt, Int32.le_iff_toInt_le, Int32.lt_iff_toInt_lt, fa_eq, fa_lit, fa_litL, nI_toInt, pk_lT, Int32.toInt_toInt64, jadd64, jin, jnoneT] at *); omega
              refine j_aload_n X dX11_queue_79 rfl ?_
              refine j_getR X 11 4 (by decide) (by decide) rfl u954 (o66 np) (k66 np) _ (p66_4 np) dX11_queue_80 ?_
              refine j_iload X dX11_queue_83 rfl ?_
              refine j_iconst X dX11_queue_85 2 (by decide) ?_
              refine j_iload X dX11_queue_86 rfl ?_
              refine j_imul X dX11_queue_88 ?_
              refine j_iadd X dX11_queue_89 ?_
              refine j_nrm _ (by first | (simp only [fa_lit, pk_mul, nI_add]; done) | (simp only [fa_lit, pk_mul, nI_add]; rfl) | rfl) ?_
              refine j_ialdN X (o69 np) (k69 np) (by rw [l69]; omega) (by rw [l69]; decide) (mem 69) (hJ 69 (by decide)) dX11_queue_90 ?_
              refine j_i2l X dX11_queue_91 ?_
              refine j_lconst X dX11_queue_92 0 (by decide) ?_
              refine j_ldc2 X dX11_queue_93 u1118 ?_
              refine s_callSi X hR (m_inI np _ _ _ _ 0 999 rfl rfl) rfl u1087 u1085 u1086 u12 hyX11_in (by decide) (by decide) (Nat.le_of_ble_eq_true rfl) dX11_queue_96 (fun v_96 m_96 h_96 => ?_)
              obtain ⟨e1, e2⟩ := h_96; have e1 := e1.symm; have e2 := e2.symm; subst e1; subst e2
              refine j_ifb_eq X 127 dX11_queue_99 (by decide) (fun c_99 => ?_) (fun c_99 => ?_)
              · refine j_ldc X dX11_queue_127 u1089 ?_
                refine s_iret X hE hr dX11_queue_129 rfl ?_
                exact ⟨rfl, hJ⟩
              · refine j_aload_n X dX11_queue_102 rfl ?_
                refine j_getR X 11 4 (by decide) (by decide) rfl u954 (o66 np) (k66 np) _ (p66_4 np) dX11_queue_103 ?_
                refine j_iload X dX11_queue_106 rfl ?_
                refine j_iconst X dX11_queue_108 2 (by decide) ?_
                refine j_iload X dX11_queue_109 rfl ?_
                refine j_imul X dX11_queue_111 ?_
                refine j_iadd X dX11_queue_112 ?_
                refine j_iconst X dX11_queue_113 1 (by decide) ?_
                refine j_iadd X dX11_queue_114 ?_
                refine j_nrm _ (by first | (simp only [fa_lit, pk_mul, nI_add]; done) | (simp only [fa_lit, pk_mul, nI_add]; rfl) | rfl) ?_
                refine j_ialdN X (o69 np) (k69 np) (by rw [l69]; omega) (by rw [l69]; decide) (mem 69) (hJ 69 (by decide)) dX11_queue_115 ?_
                refine j_i2l X dX11_queue_116 ?_
                refine j_lconst X dX11_queue_117 1 (by decide) ?_
                refine j_ldc2 X dX11_queue_118 u1387 ?_
                refine s_callSi X hR (m_inI np _ _ _ _ 1 99 rfl rfl) rfl u1087 u1085 u1086 u12 hyX11_in (by decide) (by decide) (Nat.le_of_ble_eq_true rfl) dX11_queue_121 (fun v_121 m_121 h_121 => ?_)
                obtain ⟨e1, e2⟩ := h_121; have e1 := e1.symm; have e2 := e2.symm; subst e1; subst e2
                refine j_ifb_ne X 130 dX11_queue_124 (by decide) (fun c_124 => ?_) (fun c_124 => ?_)
                · refine j_aload_n X dX11_queue_130 rfl ?_
                  refine j_getR X 11 37 (by decide) (by decide) rfl u987 (o66 np) (k66 np) _ (p66_37 np) dX11_queue_131 ?_
                  refine j_iload X dX11_queue_134 rfl ?_
                  refine j_iload X dX11_queue_136 rfl ?_
                  refine j_nrm2 _ (by first | (simp only [fa_lit, pk_mul, nI_add]; done) | (simp only [fa_lit, pk_mul, nI_add]; rfl) | rfl) ?_
                  refine j_iastN X (o89 np) (k89 np) (by rw [l89]; omega) (by rw [l89]; decide) dX11_queue_138 ?_
                  refine j_iinc X dX11_queue_139 rfl 1 rfl ?_
                  refine j_goto X 73 dX11_queue_142 (by decide) ?_
                  refine j_lv [some (.ref 66), some (.int (nI s)), some (.int (nI i)), some (.int (nI q)), some (.int (-1)), some (.int 0), some (.int (nI (60 * s + i))), some (.int (nI (a + 1)))] ⟨rfl, rfl, rfl, rfl, rfl, rfl, rfl, (congrArg (fun z => some (Value.int z)) (nI_1 _)), trivial⟩ ?_
                  exact ih73 (a + 1) _ (by omega) (by omega) (jeq.up hJ (by decide)) (jQok_s hB c_99 c_124)
                · refine j_ldc X dX11_queue_127 u1089 ?_
                  refine s_iret X hE hr dX11_queue_129 rfl ?_
                  exact ⟨rfl, hJ⟩
        refine j_lv [some (.ref 66), some (.int (nI s)), some (.int (nI i)), some (.int (nI q)), some (.int (-1)), some (.int 0), some (.int (nI (60 * s + i))), some (.int (nI 0))] ⟨rfl, rfl, rfl, rfl, rfl, rfl, rfl, rfl, trivial⟩ ?_
        exact lp73 (q + 1) 0 _ (by omega) (by omega) jeq.rf (fun a ha => absurd ha (by omega))
      · exfalso
        clear hE hr hR X
        have e1 : (-1 : Int32).toInt = -1 := by decide
        (try simp only [lg_cmp_lt, lg_cmp_gt, lg_cmp_le, lg_cmp_ge] at *); (try simp (disch := omega) only [Int64.le_iff_toInt_le, Int64.lt_iff_toInt_lt, Int32.le_iff_toInt_le, Int32.lt_iff_toInt_lt, fa_eq, fa_lit, fa_litL, nI_toInt, pk_lT, Int32.toInt_toInt64, jadd64, jin, jnoneT] at *); omega
set_option maxRecDepth 4000 in
set_option maxHeartbeats 1000000 in
theorem m_queue_sum (np : Nat) (mem : jMem) (s i q z : Nat) (hs : s < 8) (hq1 : 1 ≤ q) (hq : q ≤ 7) (hl : 0 ≤ (mem 67 s).toInt) (hz : z ≤ 60) (hm : mem 68 s = nI z) (hi : i + 2 * q ≤ z) (hok : jQok (fun k => mem 69 (60 * s + i + k)) q) : jPi yX11_queue cX11_queue 11 .int 3 [.ref 66, .int (nI s), .int (nI i), .int (nI q), .int (-1)] np mem (fun v c => v = nI (jQR (jQcm (fun k => mem 69 (60 * s + i + k)) q) (jQlm (fun k => mem 69 (60 * s + i + k)) q) q).1 ∧ jeq [89, 90] (jup (jup mem 66 0 0) 66 1 0) c) := by
  refine jPi.of (own := RX11) rfl rfl (Nat.le_of_ble_eq_true rfl) (fun G X hR hr hE => ?_)
  refine j_aload_n X dX11_queue_0 rfl ?_
  refine j_iconst X dX11_queue_1 0 (by decide) ?_
  refine j_putI X 11 0 (by decide) (by decide) rfl rfl rfl rfl u950 (o66 np) (k66 np) dX11_queue_2 ?_
  refine j_iload_n X dX11_queue_5 rfl ?_
  refine s_callSi X hR (m_isSheet np _ _) rfl u1083 u1081 u1082 u12 hyX11_isSheet (by decide) (by decide) (Nat.le_of_ble_eq_true rfl) dX11_queue_6 (fun v_6 m_6 h_6 => ?_)
  obtain ⟨e1, e2⟩ := h_6; have e1 := e1.symm; have e2 := e2.symm; subst e1; subst e2
  refine j_ifb_eq X 40 dX11_queue_9 (by decide) (fun c_9 => ?_) (fun c_9 => ?_)
  · exfalso
    clear hE hr hR X
    have e1 : (-1 : Int32).toInt = -1 := by decide
    (try simp only [lg_cmp_lt, lg_cmp_gt, lg_cmp_le, lg_cmp_ge] at *); (try simp (disch := omega) only [Int64.le_iff_toInt_le, Int64.lt_iff_toInt_lt, Int32.le_iff_toInt_le, Int32.lt_iff_toInt_lt, fa_eq, fa_lit, fa_litL, nI_toInt, pk_lT, Int32.toInt_toInt64, jadd64, jin, jnoneT] at *); omega
  · refine j_iload_n X dX11_queue_12 rfl ?_
    refine j_i2l X dX11_queue_13 ?_
    refine j_lconst X dX11_queue_14 1 (by decide) ?_
    refine j_ldc2 X dX11_queue_15 u1084 ?_
    refine s_callSi X hR (m_inI np _ _ _ _ 1 7 rfl rfl) rfl u1087 u1085 u1086 u12 hyX11_in (by decide) (by decide) (Nat.le_of_ble_eq_true rfl) dX11_queue_18 (fun v_18 m_18 h_18 => ?_)
    obtain ⟨e1, e2⟩ := h_18; have e1 := e1.symm; have e2 := e2.symm; subst e1; subst e2
    refine j_ifb_eq X 40 dX11_queue_21 (by decide) (fun c_21 => ?_) (fun c_21 => ?_)
    · exfalso
      clear hE hr hR X
      have e1 : (-1 : Int32).toInt = -1 := by decide
      (try simp only [lg_cmp_lt, lg_cmp_gt, lg_cmp_le, lg_cmp_ge] at *); (try simp (disch := omega) only [Int64.le_iff_toInt_le, Int64.lt_iff_toInt_lt, Int32.le_iff_toInt_le, Int32.lt_iff_toInt_lt, fa_eq, fa_lit, fa_litL, nI_toInt, pk_lT, Int32.toInt_toInt64, jadd64, jin, jnoneT] at *); omega
    · refine j_iload X dX11_queue_24 rfl ?_
      refine j_i2l X dX11_queue_26 ?_
      refine j_ldc2 X dX11_queue_27 u1386 ?_
      refine j_iload_n X dX11_queue_30 rfl ?_
      refine j_iconst X dX11_queue_31 1 (by decide) ?_
      refine j_isub X dX11_queue_32 ?_
      refine j_i2l X dX11_queue_33 ?_
      refine s_callSi X hR (m_inI np _ _ _ _ (-1) ((nI q).toInt - 1) (by decide) (jsubq (q := nI q) ⟨by rw [nI_toInt (by omega)]; omega, by rw [nI_toInt (by omega)]; omega⟩).1) rfl u1087 u1085 u1086 u12 hyX11_in (by decide) (by decide) (Nat.le_of_ble_eq_true rfl) dX11_queue_34 (fun v_34 m_34 h_34 => ?_)
      obtain ⟨e1, e2⟩ := h_34; have e1 := e1.symm; have e2 := e2.symm; subst e1; subst e2
      refine j_ifb_ne X 43 dX11_queue_37 (by decide) (fun c_37 => ?_) (fun c_37 => ?_)
      · refine j_aload_n X dX11_queue_43 rfl ?_
        refine j_iload_n X dX11_queue_44 rfl ?_
        refine j_iload_n X dX11_queue_45 rfl ?_
        refine j_iconst X dX11_queue_46 2 (by decide) ?_
        refine j_iload_n X dX11_queue_47 rfl ?_
        refine j_imul X dX11_queue_48 ?_
        refine j_nrm (nI (2 * q)) (by simp only [fa_lit, pk_mul]) ?_
        refine s_callVi X hR (m_look np _ s (nI i) _ hs hl (jlook hm rfl (by omega) hi)) rfl 11 (by decide) (o66 np) (k66 np) rfl u1141 u1138 u1140 qp38 u12 hyX11_lookItems (by decide) (by decide) (Nat.le_of_ble_eq_true rfl) dX11_queue_49 (fun v_49 m_49 h_49 => ?_)
        obtain ⟨e1, e2⟩ := h_49; have e1 := e1.symm; have e2 := e2.symm; subst e1; subst e2
        refine j_istore X dX11_queue_52 (by decide) ?_
        refine j_iload X dX11_queue_54 rfl ?_
        refine j_if_ge X 62 dX11_queue_56 (by decide) (fun c_56 => ?_) (fun c_56 => absurd c_56 (by decide))
        refine j_bipush X dX11_queue_62 60 (by decide) ?_
        refine j_iload_n X dX11_queue_64 rfl ?_
        refine j_imul X dX11_queue_65 ?_
        refine j_iload_n X dX11_queue_66 rfl ?_
        refine j_iadd X dX11_queue_67 ?_
        refine j_nrm (nI (60 * s + i)) (by simp only [fa_lit, pk_mul, nI_add]) ?_
        refine j_istore X dX11_queue_68 (by decide) ?_
        refine j_iconst X dX11_queue_70 0 (by decide) ?_
        refine j_istore X dX11_queue_71 (by decide) ?_
        have lp73 : ∀ (n : Nat) (a : Nat) (m2 : jMem), a ≤ q → q + 1 ≤ a + n → jeq [89] (jup mem 66 0 0) m2 → (∀ j, j < a → m2 89 j = nI j) → J G RX11 cX11_queue 11 0 0 73 (jlv [some (.ref 66), some (.int (nI s)), some (.int (nI i)), some (.int (nI q)), some (.int (-1)), some (.int 0), some (.int (nI (60 * s + i))), some (.int (nI a))]) [] (jS np) (m2) := by
          intro n
          induction n with
          | zero =>
            intro a m2 ha hn hJ hB
            exact absurd hn (by omega)
          | succ n ih73 =>
            intro a m2 ha hn hJ hB
            refine j_iload X dX11_queue_73 rfl ?_
            refine j_iload_n X dX11_queue_75 rfl ?_
            refine j_icmp_ge X 145 dX11_queue_76 (by decide) (fun c_76 => ?_) (fun c_76 => ?_)
            · obtain rfl : q = a := by clear hE hr hR X hB hJ hok; (try simp only [lg_cmp_lt, lg_cmp_gt, lg_cmp_le, lg_cmp_ge] at *); (try simp (disch := omega) only [Int64.le_iff_toInt_le, Int64.lt_iff_toInt_lt, Int32.le_iff_toInt_le, Int32.lt_iff_toInt_lt, fa_eq, fa_lit, fa_litL, nI_toInt, pk_lT, Int32.toInt_toInt64, jadd64, jin, jnoneT] at *); omega
              refine j_aload_n X dX11_queue_145 rfl ?_
              refine j_iconst X dX11_queue_146 0 (by decide) ?_
              refine j_putI X 11 1 (by decide) (by decide) rfl rfl rfl rfl u951 (o66 np) (k66 np) dX11_queue_147 ?_
              refine j_iconst X dX11_queue_150 (-1) (by decide) ?_
              refine j_istore X dX11_queue_151 (by decide) ?_
              refine j_iconst X dX11_queue_153 1 (by decide) ?_
              refine j_istore X dX11_queue_154 (by decide) ?_
              have lp156 : ∀ (n : Nat) (best more : Int32) (m2 : jMem), jeq [89, 90] (jup (jup mem 66 0 0) 66 1 0) m2 → (more = 1 ∧ (∃ pr a rest, qP q q 0 [] = pr ++ a :: rest ∧ jQb q a (m2 89) ∧ jQA (jQcm (fun k => mem 69 (60 * s + i + k)) q) (jQlm (fun k => mem 69 (60 * s + i + k)) q) q pr best (m2 90) ∧ rest.length + 2 ≤ n)) ∨ (more = 0 ∧ (best = nI (jQR (jQcm (fun k => mem 69 (60 * s + i + k)) q) (jQlm (fun k => mem 69 (60 * s + i + k)) q) q).1 ∧ jQb q (jQR (jQcm (fun k => mem 69 (60 * s + i + k)) q) (jQlm (fun k => mem 69 (60 * s + i + k)) q) q).2 (m2 90)) ∧ 1 ≤ n) → J G RX11 cX11_queue 11 0 0 156 (jlv [some (.ref 66), some (.int (nI s)), some (.int (nI i)), some (.int (nI q)), some (.int (-1)), some (.int 0), some (.int (nI (60 * s + i))), some (.int best), some (.int more)]) [] (jS np) (m2) := by
                intro n
                induction n with
                | zero =>
                  intro best more m2 hJ hI
                  exact absurd (show 1 ≤ 0 from hI.elim (fun z => by obtain ⟨_, _, _, _, _, _, _, h⟩ := z; omega) (fun z => z.2.2)) (by omega)
                | succ n ih156 =>
                  intro best more m2 hJ hI
                  refine j_iload X dX11_queue_156 rfl ?_
                  refine j_if_eq X 225 dX11_queue_158 (by decide) (fun c_158 => ?_) (fun c_158 => ?_)
                  · obtain ⟨-, ⟨hR1, hR2⟩, -⟩ := hI.resolve_left (fun z => by rw [z.1] at c_158; exact absurd c_158 (by decide))
                    refine j_iload X dX11_queue_225 rfl ?_
                    refine j_iconst X dX11_queue_227 (-1) (by decide) ?_
                    refine j_icmp_ne X 236 dX11_queue_228 (by decide) (fun c_228 => absurd c_228 (by decide)) (fun c_228 => ?_)
                    refine j_iload X dX11_queue_231 rfl ?_
                    refine j_goto X 243 dX11_queue_233 (by decide) ?_
                    refine s_iret X hE hr dX11_queue_243 rfl ?_
                    exact ⟨hR1, hJ⟩
                  · obtain ⟨-, pr, a, rest, hL, hb, hA, hfu⟩ := hI.resolve_right (fun z => c_158 z.1)
                    obtain ⟨hno, hCh⟩ := nCh_at pr (hL ▸ nCh_all hq1 hq)
                    have hno := nOk_e hno
                    have hlen := hno.1
                    have hwl : qSum (jQcm (fun k => mem 69 (60 * s + i + k)) q) (jQlm (fun k => mem 69 (60 * s + i + k)) q) a ≤ 20000 := by
                      have := (qW_le0 (jQcm_le hok) (jQlm_le hok) (p := a) (by omega)).2
                      unfold qSum
                      omega
                    refine j_aload_n X dX11_queue_161 rfl ?_
                    refine j_iload X dX11_queue_162 rfl ?_
                    refine j_iload_n X dX11_queue_164 rfl ?_
                    refine s_callVi X hR (m_waitsOf np _ (60 * s + i) q (jQcm (fun k => mem 69 (60 * s + i + k)) q) (jQlm (fun k => mem 69 (60 * s + i + k)) q) (nF a) hq (by omega) (jQcm_le hok) (jQlm_le hok) (fun w hw => by rw [hJ 69 (by decide)]; exact jQcm_e hok hw) (fun w hw => by rw [hJ 69 (by decide)]; exact jQlm_e hok hw) (fun i hi => ⟨hb i hi, hno.2 i hi⟩)) rfl 11 (by decide) (o66 np) (k66 np) rfl u1391 u1388 u1390 qp63 u12 hyX11_waitsOf (by decide) (by decide) (Nat.le_of_ble_eq_true rfl) dX11_queue_165 (fun v_165 m_165 h_165 => ?_)
                    obtain ⟨e1, e2⟩ := h_165; have e1 := e1.symm; have e2 := e2.symm; subst e1; subst e2
                    refine j_nrm (nI (qSum (jQcm (fun k => mem 69 (60 * s + i + k)) q) (jQlm (fun k => mem 69 (60 * s + i + k)) q) a)) (by rw [nL_F hlen]) ?_
                    refine j_istore X dX11_queue_168 (by decide) ?_
                    refine j_iload X dX11_queue_170 rfl ?_
                    refine j_if_lt X 182 dX11_queue_172 (by decide) (fun c_172 => ?_) (fun c_172 => ?_)
                    · refine j_iload X dX11_queue_182 rfl ?_
                      refine j_istore X dX11_queue_184 (by decide) ?_
                      refine j_iconst X dX11_queue_186 0 (by decide) ?_
                      refine j_istore X dX11_queue_187 (by decide) ?_
                      have lp189 : ∀ (n : Nat) (b2 : Nat) (m3 : jMem), b2 ≤ q → q + 1 ≤ b2 + n → jeq [90] m2 m3 → (∀ i, i < b2 → m3 90 i = nI (nF a i)) → J G RX11 cX11_queue 11 0 0 189 (jlv [some (.ref 66), some (.int (nI s)), some (.int (nI i)), some (.int (nI q)), some (.int (-1)), some (.int 0), some (.int (nI (60 * s + i))), some (.int (nI (qSum (jQcm (fun k => mem 69 (60 * s + i + k)) q) (jQlm (fun k => mem 69 (60 * s + i + k)) q) a))), some (.int more), some (.int (nI (qSum (jQcm (fun k => mem 69 (60 * s + i + k)) q) (jQlm (fun k => mem 69 (60 * s + i + k)) q) a))), some (.int (nI b2))]) [] (jS np) (m3) := by
                        intro n
                        induction n with
                        | zero =>
                          intro b2 m3 hb2 hnb hJ3 hC3
                          exact absurd hnb (by omega)
                        | succ n ih189 =>
                          intro b2 m3 hb2 hnb hJ3 hC3
                          refine j_iload X dX11_queue_189 rfl ?_
                          refine j_iload_n X dX11_queue_191 rfl ?_
                          refine j_icmp_ge X 215 dX11_queue_192 (by decide) (fun c_192 => ?_) (fun c_192 => ?_)
                          · obtain rfl : q = b2 := by clear hE hr hR X hJ hok hI hL hb hA hCh hno hC3 hJ3; (try simp only [lg_cmp_lt, lg_cmp_gt, lg_cmp_le, lg_cmp_ge] at *); (try simp (disch := omega) only [Int64.le_iff_toInt_le, Int64.lt_iff_toInt_lt, Int32.le_iff_toInt_le, Int32.lt_iff_toInt_lt, fa_eq, fa_lit, fa_litL, nI_toInt, pk_lT, Int32.toInt_toInt64, jadd64, jin, jnoneT] at *); omega
                            have hA4 := jQA_take hA hwl (by first | exact Or.inl c_172 | exact Or.inr (Int32.not_le.mp c_179)) hC3
                            have hJ4 := hJ.tr (hJ3.mo (T := [89, 90]) (by simp))
                            have hC4 : jQb q a (m3 89) := by rw [hJ3 89 (by decide)]; exact hb
                            rcases hCh with ⟨hr0, hN⟩ | ⟨b, r2, g, hr0, hN, hLb⟩
                            · refine j_aload_n X dX11_queue_215 rfl ?_
                              refine j_iload_n X dX11_queue_216 rfl ?_
                              refine s_callVi X hR (m_nextOrder_no np _ q (nF a) hq1 hq hC4 hno.2 hN) rfl 11 (by decide) (o66 np) (k66 np) rfl u1395 u1392 u1394 qp64 u12 hyX11_nextOrder (by decide) (by decide) (Nat.le_of_ble_eq_true rfl) dX11_queue_217 (fun v_217 m_217 h_217 => ?_)
                              obtain ⟨e1, e2⟩ := h_217; have e1 := e1.symm; have e2 := e2.symm; subst e1; subst e2
                              refine j_istore X dX11_queue_220 (by decide) ?_
                              refine j_goto X 156 dX11_queue_222 (by decide) ?_
                              refine j_lv [some (.ref 66), some (.int (nI s)), some (.int (nI i)), some (.int (nI q)), some (.int (-1)), some (.int 0), some (.int (nI (60 * s + i))), some (.int _), some (.int _)] ⟨rfl, rfl, rfl, rfl, rfl, rfl, rfl, rfl, rfl, trivial⟩ ?_
                              exact ih156 _ _ _ hJ4 (Or.inr ⟨rfl, jQ_fin hL hr0 hA4, by omega⟩)
                            · refine j_aload_n X dX11_queue_215 rfl ?_
                              refine j_iload_n X dX11_queue_216 rfl ?_
                              refine s_callVi X hR (m_nextOrder_yes np _ q (nF a) g hq1 hq hC4 hno.2 hN) rfl 11 (by decide) (o66 np) (k66 np) rfl u1395 u1392 u1394 qp64 u12 hyX11_nextOrder (by decide) (by decide) (Nat.le_of_ble_eq_true rfl) dX11_queue_217 (fun v_217 m_217 h_217 => ?_)
                              obtain ⟨e1, hJn, hCn⟩ := h_217; have e1 := e1.symm; subst e1
                              refine j_istore X dX11_queue_220 (by decide) ?_
                              refine j_goto X 156 dX11_queue_222 (by decide) ?_
                              refine j_lv [some (.ref 66), some (.int (nI s)), some (.int (nI i)), some (.int (nI q)), some (.int (-1)), some (.int 0), some (.int (nI (60 * s + i))), some (.int _), some (.int _)] ⟨rfl, rfl, rfl, rfl, rfl, rfl, rfl, rfl, rfl, trivial⟩ ?_
                              exact ih156 _ _ _ (hJ4.tr (hJn.mo (by simp))) (Or.inl ⟨rfl, pr ++ [a], b, r2, by rw [hL, hr0, List.append_assoc]; rfl, fun i hi => by rw [hCn i hi, ← hLb, nF_L hi], by rw [hJn 90 (by decide)]; exact hA4, by rw [hr0, List.length_cons] at hfu; omega⟩)
                          · have hb3 : b2 < q := by clear hE hr hR X hJ hok hI hL hb hA hCh hno hC3 hJ3; (try simp only [lg_cmp_lt, lg_cmp_gt, lg_cmp_le, lg_cmp_ge] at *); (try simp (disch := omega) only [Int64.le_iff_toInt_le, Int64.lt_iff_toInt_lt, Int32.le_iff_toInt_le, Int32.lt_iff_toInt_lt, fa_eq, fa_lit, fa_litL, nI_toInt, pk_lT, Int32.toInt_toInt64, jadd64, jin, jnoneT] at *); omega
                            refine j_aload_n X dX11_queue_195 rfl ?_
                            refine j_getR X 11 38 (by decide) (by decide) rfl u988 (o66 np) (k66 np) _ (p66_38 np) dX11_queue_196 ?_
                            refine j_iload X dX11_queue_199 rfl ?_
                            refine j_aload_n X dX11_queue_201 rfl ?_
                            refine j_getR X 11 37 (by decide) (by decide) rfl u987 (o66 np) (k66 np) _ (p66_37 np) dX11_queue_202 ?_
                            refine j_iload X dX11_queue_205 rfl ?_
                            refine j_nrm _ (by first | (simp only [fa_lit, pk_mul, nI_add]; done) | (simp only [fa_lit, pk_mul, nI_add]; rfl) | rfl) ?_
                            refine j_ialdN X (o89 np) (k89 np) (by rw [l89]; omega) (by rw [l89]; decide) (m3 89) rfl dX11_queue_207 ?_
                            refine j_nrm (nI (nF a b2)) (by rw [hJ3 89 (by decide)]; exact hb b2 hb3) ?_
                            refine j_nrm2 _ (by first | (simp only [fa_lit, pk_mul, nI_add]; done) | (simp only [fa_lit, pk_mul, nI_add]; rfl) | rfl) ?_
                            refine j_iastN X (o90 np) (k90 np) (by rw [l90]; omega) (by rw [l90]; decide) dX11_queue_208 ?_
                            refine j_iinc X dX11_queue_209 rfl 1 rfl ?_
                            refine j_goto X 189 dX11_queue_212 (by decide) ?_
                            refine j_lv [some (.ref 66), some (.int (nI s)), some (.int (nI i)), some (.int (nI q)), some (.int (-1)), some (.int 0), some (.int (nI (60 * s + i))), some (.int (nI (qSum (jQcm (fun k => mem 69 (60 * s + i + k)) q) (jQlm (fun k => mem 69 (60 * s + i + k)) q) a))), some (.int more), some (.int (nI (qSum (jQcm (fun k => mem 69 (60 * s + i + k)) q) (jQlm (fun k => mem 69 (60 * s + i + k)) q) a))), some (.int (nI (b2 + 1)))] ⟨rfl, rfl, rfl, rfl, rfl, rfl, rfl, rfl, rfl, rfl, (congrArg (fun z => some (Value.int z)) (nI_1 _)), trivial⟩ ?_
                            exact ih189 (b2 + 1) _ (by omega) (by omega) (jeq.up hJ3 (by decide)) (fun i hi => by
                                          by_cases e : i = b2
                                          · subst e; simp [jup, va_up]
                                          · have := hC3 i (by omega)
                                            simp only [jup, va_up, e, if_true, if_false]
                                            exact this)
                      refine j_lv [some (.ref 66), some (.int (nI s)), some (.int (nI i)), some (.int (nI q)), some (.int (-1)), some (.int 0), some (.int (nI (60 * s + i))), some (.int (nI (qSum (jQcm (fun k => mem 69 (60 * s + i + k)) q) (jQlm (fun k => mem 69 (60 * s + i + k)) q) a))), some (.int more), some (.int (nI (qSum (jQcm (fun k => mem 69 (60 * s + i + k)) q) (jQlm (fun k => mem 69 (60 * s + i + k)) q) a))), some (.int (nI 0))] ⟨rfl, rfl, rfl, rfl, rfl, rfl, rfl, rfl, rfl, rfl, rfl, trivial⟩ ?_
                      exact lp189 (q + 1) 0 m2 (by omega) (by omega) jeq.rf (fun i hi => absurd hi (by omega))
                    · refine j_iload X dX11_queue_175 rfl ?_
                      refine j_iload X dX11_queue_177 rfl ?_
                      refine j_icmp_ge X 215 dX11_queue_179 (by decide) (fun c_179 => ?_) (fun c_179 => ?_)
                      · have hA4 := jQA_keep hA hwl c_172 c_179
                        have hJ4 := hJ
                        have hC4 := hb
                        rcases hCh with ⟨hr0, hN⟩ | ⟨b, r2, g, hr0, hN, hLb⟩
                        · refine j_aload_n X dX11_queue_215 rfl ?_
                          refine j_iload_n X dX11_queue_216 rfl ?_
                          refine s_callVi X hR (m_nextOrder_no np _ q (nF a) hq1 hq hC4 hno.2 hN) rfl 11 (by decide) (o66 np) (k66 np) rfl u1395 u1392 u1394 qp64 u12 hyX11_nextOrder (by decide) (by decide) (Nat.le_of_ble_eq_true rfl) dX11_queue_217 (fun v_217 m_217 h_217 => ?_)
                          obtain ⟨e1, e2⟩ := h_217; have e1 := e1.symm; have e2 := e2.symm; subst e1; subst e2
                          refine j_istore X dX11_queue_220 (by decide) ?_
                          refine j_goto X 156 dX11_queue_222 (by decide) ?_
                          refine j_lv [some (.ref 66), some (.int (nI s)), some (.int (nI i)), some (.int (nI q)), some (.int (-1)), some (.int 0), some (.int (nI (60 * s + i))), some (.int _), some (.int _)] ⟨rfl, rfl, rfl, rfl, rfl, rfl, rfl, rfl, rfl, trivial⟩ ?_
                          exact ih156 _ _ _ hJ4 (Or.inr ⟨rfl, jQ_fin hL hr0 hA4, by omega⟩)
                        · refine j_aload_n X dX11_queue_215 rfl ?_
                          refine j_iload_n X dX11_queue_216 rfl ?_
                          refine s_callVi X hR (m_nextOrder_yes np _ q (nF a) g hq1 hq hC4 hno.2 hN) rfl 11 (by decide) (o66 np) (k66 np) rfl u1395 u1392 u1394 qp64 u12 hyX11_nextOrder (by decide) (by decide) (Nat.le_of_ble_eq_true rfl) dX11_queue_217 (fun v_217 m_217 h_217 => ?_)
                          obtain ⟨e1, hJn, hCn⟩ := h_217; have e1 := e1.symm; subst e1
                          refine j_istore X dX11_queue_220 (by decide) ?_
                          refine j_goto X 156 dX11_queue_222 (by decide) ?_
                          refine j_lv [some (.ref 66), some (.int (nI s)), some (.int (nI i)), some (.int (nI q)), some (.int (-1)), some (.int 0), some (.int (nI (60 * s + i))), some (.int _), some (.int _)] ⟨rfl, rfl, rfl, rfl, rfl, rfl, rfl, rfl, rfl, trivial⟩ ?_
                          exact ih156 _ _ _ (hJ4.tr (hJn.mo (by simp))) (Or.inl ⟨rfl, pr ++ [a], b, r2, by rw [hL, hr0, List.append_assoc]; rfl, fun i hi => by rw [hCn i hi, ← hLb, nF_L hi], by rw [hJn 90 (by decide)]; exact hA4, by rw [hr0, List.length_cons] at hfu; omega⟩)
                      · refine j_iload X dX11_queue_182 rfl ?_
                        refine j_istore X dX11_queue_184 (by decide) ?_
                        refine j_iconst X dX11_queue_186 0 (by decide) ?_
                        refine j_istore X dX11_queue_187 (by decide) ?_
                        have lp189 : ∀ (n : Nat) (b2 : Nat) (m3 : jMem), b2 ≤ q → q + 1 ≤ b2 + n → jeq [90] m2 m3 → (∀ i, i < b2 → m3 90 i = nI (nF a i)) → J G RX11 cX11_queue 11 0 0 189 (jlv [some (.ref 66), some (.int (nI s)), some (.int (nI i)), some (.int (nI q)), some (.int (-1)), some (.int 0), some (.int (nI (60 * s + i))), some (.int (nI (qSum (jQcm (fun k => mem 69 (60 * s + i + k)) q) (jQlm (fun k => mem 69 (60 * s + i + k)) q) a))), some (.int more), some (.int (nI (qSum (jQcm (fun k => mem 69 (60 * s + i + k)) q) (jQlm (fun k => mem 69 (60 * s + i + k)) q) a))), some (.int (nI b2))]) [] (jS np) (m3) := by
                          intro n
                          induction n with
                          | zero =>
                            intro b2 m3 hb2 hnb hJ3 hC3
                            exact absurd hnb (by omega)
                          | succ n ih189 =>
                            intro b2 m3 hb2 hnb hJ3 hC3
                            refine j_iload X dX11_queue_189 rfl ?_
                            refine j_iload_n X dX11_queue_191 rfl ?_
                            refine j_icmp_ge X 215 dX11_queue_192 (by decide) (fun c_192 => ?_) (fun c_192 => ?_)
                            · obtain rfl : q = b2 := by clear hE hr hR X hJ hok hI hL hb hA hCh hno hC3 hJ3; (try simp only [lg_cmp_lt, lg_cmp_gt, lg_cmp_le, lg_cmp_ge] at *); (try simp (disch := omega) only [Int64.le_iff_toInt_le, Int64.lt_iff_toInt_lt, Int32.le_iff_toInt_le, Int32.lt_iff_toInt_lt, fa_eq, fa_lit, fa_litL, nI_toInt, pk_lT, Int32.toInt_toInt64, jadd64, jin, jnoneT] at *); omega
                              have hA4 := jQA_take hA hwl (by first | exact Or.inl c_172 | exact Or.inr (Int32.not_le.mp c_179)) hC3
                              have hJ4 := hJ.tr (hJ3.mo (T := [89, 90]) (by simp))
                              have hC4 : jQb q a (m3 89) := by rw [hJ3 89 (by decide)]; exact hb
                              rcases hCh with ⟨hr0, hN⟩ | ⟨b, r2, g, hr0, hN, hLb⟩
                              · refine j_aload_n X dX11_queue_215 rfl ?_
                                refine j_iload_n X dX11_queue_216 rfl ?_
                                refine s_callVi X hR (m_nextOrder_no np _ q (nF a) hq1 hq hC4 hno.2 hN) rfl 11 (by decide) (o66 np) (k66 np) rfl u1395 u1392 u1394 qp64 u12 hyX11_nextOrder (by decide) (by decide) (Nat.le_of_ble_eq_true rfl) dX11_queue_217 (fun v_217 m_217 h_217 => ?_)
                                obtain ⟨e1, e2⟩ := h_217; have e1 := e1.symm; have e2 := e2.symm; subst e1; subst e2
                                refine j_istore X dX11_queue_220 (by decide) ?_
                                refine j_goto X 156 dX11_queue_222 (by decide) ?_
                                refine j_lv [some (.ref 66), some (.int (nI s)), some (.int (nI i)), some (.int (nI q)), some (.int (-1)), some (.int 0), some (.int (nI (60 * s + i))), some (.int _), some (.int _)] ⟨rfl, rfl, rfl, rfl, rfl, rfl, rfl, rfl, rfl, trivial⟩ ?_
                                exact ih156 _ _ _ hJ4 (Or.inr ⟨rfl, jQ_fin hL hr0 hA4, by omega⟩)
                              · refine j_aload_n X dX11_queue_215 rfl ?_
                                refine j_iload_n X dX11_queue_216 rfl ?_
                                refine s_callVi X hR (m_nextOrder_yes np _ q (nF a) g hq1 hq hC4 hno.2 hN) rfl 11 (by decide) (o66 np) (k66 np) rfl u1395 u1392 u1394 qp64 u12 hyX11_nextOrder (by decide) (by decide) (Nat.le_of_ble_eq_true rfl) dX11_queue_217 (fun v_217 m_217 h_217 => ?_)
                                obtain ⟨e1, hJn, hCn⟩ := h_217; have e1 := e1.symm; subst e1
                                refine j_istore X dX11_queue_220 (by decide) ?_
                                refine j_goto X 156 dX11_queue_222 (by decide) ?_
                                refine j_lv [some (.ref 66), some (.int (nI s)), some (.int (nI i)), some (.int (nI q)), some (.int (-1)), some (.int 0), some (.int (nI (60 * s + i))), some (.int _), some (.int _)] ⟨rfl, rfl, rfl, rfl, rfl, rfl, rfl, rfl, rfl, trivial⟩ ?_
                                exact ih156 _ _ _ (hJ4.tr (hJn.mo (by simp))) (Or.inl ⟨rfl, pr ++ [a], b, r2, by rw [hL, hr0, List.append_assoc]; rfl, fun i hi => by rw [hCn i hi, ← hLb, nF_L hi], by rw [hJn 90 (by decide)]; exact hA4, by rw [hr0, List.length_cons] at hfu; omega⟩)
                            · have hb3 : b2 < q := by clear hE hr hR X hJ hok hI hL hb hA hCh hno hC3 hJ3; (try simp only [lg_cmp_lt, lg_cmp_gt, lg_cmp_le, lg_cmp_ge] at *); (try simp (disch := omega) only [Int64.le_iff_toInt_le, Int64.lt_iff_toInt_lt, Int32.le_iff_toInt_le, Int32.lt_iff_toInt_lt, fa_eq, fa_lit, fa_litL, nI_toInt, pk_lT, Int32.toInt_toInt64, jadd64, jin, jnoneT] at *); omega
                              refine j_aload_n X dX11_queue_195 rfl ?_
                              refine j_getR X 11 38 (by decide) (by decide) rfl u988 (o66 np) (k66 np) _ (p66_38 np) dX11_queue_196 ?_
                              refine j_iload X dX11_queue_199 rfl ?_
                              refine j_aload_n X dX11_queue_201 rfl ?_
                              refine j_getR X 11 37 (by decide) (by decide) rfl u987 (o66 np) (k66 np) _ (p66_37 np) dX11_queue_202 ?_
                              refine j_iload X dX11_queue_205 rfl ?_
                              refine j_nrm _ (by first | (simp only [fa_lit, pk_mul, nI_add]; done) | (simp only [fa_lit, pk_mul, nI_add]; rfl) | rfl) ?_
                              refine j_ialdN X (o89 np) (k89 np) (by rw [l89]; omega) (by rw [l89]; decide) (m3 89) rfl dX11_queue_207 ?_
                              refine j_nrm (nI (nF a b2)) (by rw [hJ3 89 (by decide)]; exact hb b2 hb3) ?_
                              refine j_nrm2 _ (by first | (simp only [fa_lit, pk_mul, nI_add]; done) | (simp only [fa_lit, pk_mul, nI_add]; rfl) | rfl) ?_
                              refine j_iastN X (o90 np) (k90 np) (by rw [l90]; omega) (by rw [l90]; decide) dX11_queue_208 ?_
                              refine j_iinc X dX11_queue_209 rfl 1 rfl ?_
                              refine j_goto X 189 dX11_queue_212 (by decide) ?_
                              refine j_lv [some (.ref 66), some (.int (nI s)), some (.int (nI i)), some (.int (nI q)), some (.int (-1)), some (.int 0), some (.int (nI (60 * s + i))), some (.int (nI (qSum (jQcm (fun k => mem 69 (60 * s + i + k)) q) (jQlm (fun k => mem 69 (60 * s + i + k)) q) a))), some (.int more), some (.int (nI (qSum (jQcm (fun k => mem 69 (60 * s + i + k)) q) (jQlm (fun k => mem 69 (60 * s + i + k)) q) a))), some (.int (nI (b2 + 1)))] ⟨rfl, rfl, rfl, rfl, rfl, rfl, rfl, rfl, rfl, rfl, (congrArg (fun z => some (Value.int z)) (nI_1 _)), trivial⟩ ?_
                              exact ih189 (b2 + 1) _ (by omega) (by omega) (jeq.up hJ3 (by decide)) (fun i hi => by
                                            by_cases e : i = b2
                                            · subst e; simp [jup, va_up]
                                            · have := hC3 i (by omega)
                                              simp only [jup, va_up, e, if_true, if_false]
                                              exact this)
                        refine j_lv [some (.ref 66), some (.int (nI s)), some (.int (nI i)), some (.int (nI q)), some (.int (-1)), some (.int 0), some (.int (nI (60 * s + i))), some (.int (nI (qSum (jQcm (fun k => mem 69 (60 * s + i + k)) q) (jQlm (fun k => mem 69 (60 * s + i + k)) q) a))), some (.int more), some (.int (nI (qSum (jQcm (fun k => mem 69 (60 * s + i + k)) q) (jQlm (fun k => mem 69 (60 * s + i + k)) q) a))), some (.int (nI 0))] ⟨rfl, rfl, rfl, rfl, rfl, rfl, rfl, rfl, rfl, rfl, rfl, trivial⟩ ?_
                        exact lp189 (q + 1) 0 m2 (by omega) (by omega) jeq.rf (fun i hi => absurd hi (by omega))
              obtain ⟨rest0, hR0⟩ := qP_hd q hq1 hq
              refine j_lv [some (.ref 66), some (.int (nI s)), some (.int (nI i)), some (.int (nI q)), some (.int (-1)), some (.int 0), some (.int (nI (60 * s + i))), some (.int (-1)), some (.int 1)] ⟨rfl, rfl, rfl, rfl, rfl, rfl, rfl, rfl, rfl, trivial⟩ ?_
              exact lp156 (rest0.length + 2) _ _ _ (jeq.cg (hJ.mo (T := [89, 90]) (by simp)) (by decide)) (Or.inl ⟨rfl, [], List.range q, rest0, hR0, fun i hi => by rw [nF_range hi]; exact hB i hi, Or.inl ⟨rfl, rfl⟩, Nat.le_refl _⟩)
            · have ha2 : a < q := by clear hE hr hR X hB hJ hok; (try simp only [lg_cmp_lt, lg_cmp_gt, lg_cmp_le, lg_cmp_ge] at *); (try simp (disch := omega) only [Int64.le_iff_toInt_le, Int64.lt_iff_toInt_lt, Int32.le_iff_toInt_le, Int32.lt_iff_toInt_lt, fa_eq, fa_lit, fa_litL, nI_toInt, pk_lT, Int32.toInt_toInt64, jadd64, jin, jnoneT] at *); omega
              refine j_aload_n X dX11_queue_79 rfl ?_
              refine j_getR X 11 4 (by decide) (by decide) rfl u954 (o66 np) (k66 np) _ (p66_4 np) dX11_queue_80 ?_
              refine j_iload X dX11_queue_83 rfl ?_
              refine j_iconst X dX11_queue_85 2 (by decide) ?_
              refine j_iload X dX11_queue_86 rfl ?_
              refine j_imul X dX11_queue_88 ?_
              refine j_iadd X dX11_queue_89 ?_
              refine j_nrm _ (by first | (simp only [fa_lit, pk_mul, nI_add]; done) | (simp only [fa_lit, pk_mul, nI_add]; rfl) | rfl) ?_
              refine j_ialdN X (o69 np) (k69 np) (by rw [l69]; omega) (by rw [l69]; decide) (mem 69) (hJ 69 (by decide)) dX11_queue_90 ?_
              refine j_i2l X dX11_queue_91 ?_
              refine j_lconst X dX11_queue_92 0 (by decide) ?_
              refine j_ldc2 X dX11_queue_93 u1118 ?_
              refine s_callSi X hR (m_inI np _ _ _ _ 0 999 rfl rfl) rfl u1087 u1085 u1086 u12 hyX11_in (by decide) (by decide) (Nat.le_of_ble_eq_true rfl) dX11_queue_96 (fun v_96 m_96 h_96 => ?_)
              obtain ⟨e1, e2⟩ := h_96; have e1 := e1.symm; have e2 := e2.symm; subst e1; subst e2
              refine j_ifb_eq X 127 dX11_queue_99 (by decide) (fun c_99 => ?_) (fun c_99 => ?_)
              · exfalso
                have hga := hok a ha2
                first | exact c_99 hga.1 | exact c_124 hga.2
              · refine j_aload_n X dX11_queue_102 rfl ?_
                refine j_getR X 11 4 (by decide) (by decide) rfl u954 (o66 np) (k66 np) _ (p66_4 np) dX11_queue_103 ?_
                refine j_iload X dX11_queue_106 rfl ?_
                refine j_iconst X dX11_queue_108 2 (by decide) ?_
                refine j_iload X dX11_queue_109 rfl ?_
                refine j_imul X dX11_queue_111 ?_
                refine j_iadd X dX11_queue_112 ?_
                refine j_iconst X dX11_queue_113 1 (by decide) ?_
                refine j_iadd X dX11_queue_114 ?_
                refine j_nrm _ (by first | (simp only [fa_lit, pk_mul, nI_add]; done) | (simp only [fa_lit, pk_mul, nI_add]; rfl) | rfl) ?_
                refine j_ialdN X (o69 np) (k69 np) (by rw [l69]; omega) (by rw [l69]; decide) (mem 69) (hJ 69 (by decide)) dX11_queue_115 ?_
                refine j_i2l X dX11_queue_116 ?_
                refine j_lconst X dX11_queue_117 1 (by decide) ?_
                refine j_ldc2 X dX11_queue_118 u1387 ?_
                refine s_callSi X hR (m_inI np _ _ _ _ 1 99 rfl rfl) rfl u1087 u1085 u1086 u12 hyX11_in (by decide) (by decide) (Nat.le_of_ble_eq_true rfl) dX11_queue_121 (fun v_121 m_121 h_121 => ?_)
                obtain ⟨e1, e2⟩ := h_121; have e1 := e1.symm; have e2 := e2.symm; subst e1; subst e2
                refine j_ifb_ne X 130 dX11_queue_124 (by decide) (fun c_124 => ?_) (fun c_124 => ?_)
                · refine j_aload_n X dX11_queue_130 rfl ?_
                  refine j_getR X 11 37 (by decide) (by decide) rfl u987 (o66 np) (k66 np) _ (p66_37 np) dX11_queue_131 ?_
                  refine j_iload X dX11_queue_134 rfl ?_
                  refine j_iload X dX11_queue_136 rfl ?_
                  refine j_nrm2 _ (by first | (simp only [fa_lit, pk_mul, nI_add]; done) | (simp only [fa_lit, pk_mul, nI_add]; rfl) | rfl) ?_
                  refine j_iastN X (o89 np) (k89 np) (by rw [l89]; omega) (by rw [l89]; decide) dX11_queue_138 ?_
                  refine j_iinc X dX11_queue_139 rfl 1 rfl ?_
                  refine j_goto X 73 dX11_queue_142 (by decide) ?_
                  refine j_lv [some (.ref 66), some (.int (nI s)), some (.int (nI i)), some (.int (nI q)), some (.int (-1)), some (.int 0), some (.int (nI (60 * s + i))), some (.int (nI (a + 1)))] ⟨rfl, rfl, rfl, rfl, rfl, rfl, rfl, (congrArg (fun z => some (Value.int z)) (nI_1 _)), trivial⟩ ?_
                  exact ih73 (a + 1) _ (by omega) (by omega) (jeq.up hJ (by decide)) (fun j hj => by
                                by_cases e : j = a
                                · subst e; simp [jup, va_up]
                                · have := hB j (by omega)
                                  simp only [jup, va_up, e, if_true, if_false]
                                  exact this)
                · exfalso
                  have hga := hok a ha2
                  first | exact c_99 hga.1 | exact c_124 hga.2
        refine j_lv [some (.ref 66), some (.int (nI s)), some (.int (nI i)), some (.int (nI q)), some (.int (-1)), some (.int 0), some (.int (nI (60 * s + i))), some (.int (nI 0))] ⟨rfl, rfl, rfl, rfl, rfl, rfl, rfl, rfl, trivial⟩ ?_
        exact lp73 (q + 1) 0 _ (by omega) (by omega) jeq.rf (fun a ha => absurd ha (by omega))
      · exfalso
        clear hE hr hR X
        have e1 : (-1 : Int32).toInt = -1 := by decide
        (try simp only [lg_cmp_lt, lg_cmp_gt, lg_cmp_le, lg_cmp_ge] at *); (try simp (disch := omega) only [Int64.le_iff_toInt_le, Int64.lt_iff_toInt_lt, Int32.le_iff_toInt_le, Int32.lt_iff_toInt_lt, fa_eq, fa_lit, fa_litL, nI_toInt, pk_lT, Int32.toInt_toInt64, jadd64, jin, jnoneT] at *); omega
set_option maxRecDepth 4000 in
set_option maxHeartbeats 1000000 in
theorem m_queue_at_null (np : Nat) (mem : jMem) (s q k : Nat) (i : Int32) (hs : s < 8) (hq1 : 1 ≤ q) (hq : q ≤ 7) (hkq : k < q) (hl : (mem 67 s).toInt < 0) : jPi yX11_queue cX11_queue 11 .int 3 [.ref 66, .int (nI s), .int i, .int (nI q), .int (nI k)] np mem (fun v c => v = -1000010 - 1 ∧ c = jup (jup mem 66 0 0) 66 1 1) := by
  refine jPi.of (own := RX11) rfl rfl (Nat.le_of_ble_eq_true rfl) (fun G X hR hr hE => ?_)
  refine j_aload_n X dX11_queue_0 rfl ?_
  refine j_iconst X dX11_queue_1 0 (by decide) ?_
  refine j_putI X 11 0 (by decide) (by decide) rfl rfl rfl rfl u950 (o66 np) (k66 np) dX11_queue_2 ?_
  refine j_iload_n X dX11_queue_5 rfl ?_
  refine s_callSi X hR (m_isSheet np _ _) rfl u1083 u1081 u1082 u12 hyX11_isSheet (by decide) (by decide) (Nat.le_of_ble_eq_true rfl) dX11_queue_6 (fun v_6 m_6 h_6 => ?_)
  obtain ⟨e1, e2⟩ := h_6; have e1 := e1.symm; have e2 := e2.symm; subst e1; subst e2
  refine j_ifb_eq X 40 dX11_queue_9 (by decide) (fun c_9 => ?_) (fun c_9 => ?_)
  · exfalso
    clear hE hr hR X
    have e1 : (-1 : Int32).toInt = -1 := by decide
    (try simp only [lg_cmp_lt, lg_cmp_gt, lg_cmp_le, lg_cmp_ge] at *); (try simp (disch := omega) only [Int64.le_iff_toInt_le, Int64.lt_iff_toInt_lt, Int32.le_iff_toInt_le, Int32.lt_iff_toInt_lt, fa_eq, fa_lit, fa_litL, nI_toInt, pk_lT, Int32.toInt_toInt64, jadd64, jin, jnoneT] at *); omega
  · refine j_iload_n X dX11_queue_12 rfl ?_
    refine j_i2l X dX11_queue_13 ?_
    refine j_lconst X dX11_queue_14 1 (by decide) ?_
    refine j_ldc2 X dX11_queue_15 u1084 ?_
    refine s_callSi X hR (m_inI np _ _ _ _ 1 7 rfl rfl) rfl u1087 u1085 u1086 u12 hyX11_in (by decide) (by decide) (Nat.le_of_ble_eq_true rfl) dX11_queue_18 (fun v_18 m_18 h_18 => ?_)
    obtain ⟨e1, e2⟩ := h_18; have e1 := e1.symm; have e2 := e2.symm; subst e1; subst e2
    refine j_ifb_eq X 40 dX11_queue_21 (by decide) (fun c_21 => ?_) (fun c_21 => ?_)
    · exfalso
      clear hE hr hR X
      have e1 : (-1 : Int32).toInt = -1 := by decide
      (try simp only [lg_cmp_lt, lg_cmp_gt, lg_cmp_le, lg_cmp_ge] at *); (try simp (disch := omega) only [Int64.le_iff_toInt_le, Int64.lt_iff_toInt_lt, Int32.le_iff_toInt_le, Int32.lt_iff_toInt_lt, fa_eq, fa_lit, fa_litL, nI_toInt, pk_lT, Int32.toInt_toInt64, jadd64, jin, jnoneT] at *); omega
    · refine j_iload X dX11_queue_24 rfl ?_
      refine j_i2l X dX11_queue_26 ?_
      refine j_ldc2 X dX11_queue_27 u1386 ?_
      refine j_iload_n X dX11_queue_30 rfl ?_
      refine j_iconst X dX11_queue_31 1 (by decide) ?_
      refine j_isub X dX11_queue_32 ?_
      refine j_i2l X dX11_queue_33 ?_
      refine s_callSi X hR (m_inI np _ _ _ _ (-1) ((nI q).toInt - 1) (by decide) (jsubq (q := nI q) ⟨by rw [nI_toInt (by omega)]; omega, by rw [nI_toInt (by omega)]; omega⟩).1) rfl u1087 u1085 u1086 u12 hyX11_in (by decide) (by decide) (Nat.le_of_ble_eq_true rfl) dX11_queue_34 (fun v_34 m_34 h_34 => ?_)
      obtain ⟨e1, e2⟩ := h_34; have e1 := e1.symm; have e2 := e2.symm; subst e1; subst e2
      refine j_ifb_ne X 43 dX11_queue_37 (by decide) (fun c_37 => ?_) (fun c_37 => ?_)
      · refine j_aload_n X dX11_queue_43 rfl ?_
        refine j_iload_n X dX11_queue_44 rfl ?_
        refine j_iload_n X dX11_queue_45 rfl ?_
        refine j_iconst X dX11_queue_46 2 (by decide) ?_
        refine j_iload_n X dX11_queue_47 rfl ?_
        refine j_imul X dX11_queue_48 ?_
        refine j_nrm (nI (2 * q)) (by simp only [fa_lit, pk_mul]) ?_
        refine s_callVi X hR (m_look_null np _ s i _ hs hl) rfl 11 (by decide) (o66 np) (k66 np) rfl u1141 u1138 u1140 qp38 u12 hyX11_lookItems (by decide) (by decide) (Nat.le_of_ble_eq_true rfl) dX11_queue_49 (fun v_49 m_49 h_49 => ?_)
        obtain ⟨e1, e2⟩ := h_49; have e1 := e1.symm; have e2 := e2.symm; subst e1; subst e2
        refine j_istore X dX11_queue_52 (by decide) ?_
        refine j_iload X dX11_queue_54 rfl ?_
        refine j_if_ge X 62 dX11_queue_56 (by decide) (fun c_56 => absurd c_56 (by decide)) (fun c_56 => ?_)
        refine j_iload X dX11_queue_59 rfl ?_
        refine s_iret X hE hr dX11_queue_61 rfl ?_
        first | exact ⟨rfl, rfl⟩ | (exfalso; clear hE hr hR X; (try simp only [lg_cmp_lt, lg_cmp_gt, lg_cmp_le, lg_cmp_ge] at *); (try simp (disch := omega) only [Int64.le_iff_toInt_le, Int64.lt_iff_toInt_lt, Int32.le_iff_toInt_le, Int32.lt_iff_toInt_lt, fa_eq, fa_lit, fa_litL, nI_toInt, pk_lT, Int32.toInt_toInt64, jadd64, jin, jnoneT] at *); omega)
      · exfalso
        clear hE hr hR X
        have e1 : (-1 : Int32).toInt = -1 := by decide
        (try simp only [lg_cmp_lt, lg_cmp_gt, lg_cmp_le, lg_cmp_ge] at *); (try simp (disch := omega) only [Int64.le_iff_toInt_le, Int64.lt_iff_toInt_lt, Int32.le_iff_toInt_le, Int32.lt_iff_toInt_lt, fa_eq, fa_lit, fa_litL, nI_toInt, pk_lT, Int32.toInt_toInt64, jadd64, jin, jnoneT] at *); omega
set_option maxRecDepth 4000 in
set_option maxHeartbeats 1000000 in
theorem m_queue_at_place (np : Nat) (mem : jMem) (s q k : Nat) (i : Int32) (hs : s < 8) (hq1 : 1 ≤ q) (hq : q ≤ 7) (hkq : k < q) (hl : 0 ≤ (mem 67 s).toInt) (hi : i.toInt < 0 ∨ i.toInt + (nI (2 * q)).toInt > (mem 68 s).toInt) : jPi yX11_queue cX11_queue 11 .int 3 [.ref 66, .int (nI s), .int i, .int (nI q), .int (nI k)] np mem (fun v c => v = -1000010 - 2 ∧ c = jup (jup mem 66 0 0) 66 1 2) := by
  refine jPi.of (own := RX11) rfl rfl (Nat.le_of_ble_eq_true rfl) (fun G X hR hr hE => ?_)
  refine j_aload_n X dX11_queue_0 rfl ?_
  refine j_iconst X dX11_queue_1 0 (by decide) ?_
  refine j_putI X 11 0 (by decide) (by decide) rfl rfl rfl rfl u950 (o66 np) (k66 np) dX11_queue_2 ?_
  refine j_iload_n X dX11_queue_5 rfl ?_
  refine s_callSi X hR (m_isSheet np _ _) rfl u1083 u1081 u1082 u12 hyX11_isSheet (by decide) (by decide) (Nat.le_of_ble_eq_true rfl) dX11_queue_6 (fun v_6 m_6 h_6 => ?_)
  obtain ⟨e1, e2⟩ := h_6; have e1 := e1.symm; have e2 := e2.symm; subst e1; subst e2
  refine j_ifb_eq X 40 dX11_queue_9 (by decide) (fun c_9 => ?_) (fun c_9 => ?_)
  · exfalso
    clear hE hr hR X
    have e1 : (-1 : Int32).toInt = -1 := by decide
    (try simp only [lg_cmp_lt, lg_cmp_gt, lg_cmp_le, lg_cmp_ge] at *); (try simp (disch := omega) only [Int64.le_iff_toInt_le, Int64.lt_iff_toInt_lt, Int32.le_iff_toInt_le, Int32.lt_iff_toInt_lt, fa_eq, fa_lit, fa_litL, nI_toInt, pk_lT, Int32.toInt_toInt64, jadd64, jin, jnoneT] at *); omega
  · refine j_iload_n X dX11_queue_12 rfl ?_
    refine j_i2l X dX11_queue_13 ?_
    refine j_lconst X dX11_queue_14 1 (by decide) ?_
    refine j_ldc2 X dX11_queue_15 u1084 ?_
    refine s_callSi X hR (m_inI np _ _ _ _ 1 7 rfl rfl) rfl u1087 u1085 u1086 u12 hyX11_in (by decide) (by decide) (Nat.le_of_ble_eq_true rfl) dX11_queue_18 (fun v_18 m_18 h_18 => ?_)
    obtain ⟨e1, e2⟩ := h_18; have e1 := e1.symm; have e2 := e2.symm; subst e1; subst e2
    refine j_ifb_eq X 40 dX11_queue_21 (by decide) (fun c_21 => ?_) (fun c_21 => ?_)
    · exfalso
      clear hE hr hR X
      have e1 : (-1 : Int32).toInt = -1 := by decide
      (try simp only [lg_cmp_lt, lg_cmp_gt, lg_cmp_le, lg_cmp_ge] at *); (try simp (disch := omega) only [Int64.le_iff_toInt_le, Int64.lt_iff_toInt_lt, Int32.le_iff_toInt_le, Int32.lt_iff_toInt_lt, fa_eq, fa_lit, fa_litL, nI_toInt, pk_lT, Int32.toInt_toInt64, jadd64, jin, jnoneT] at *); omega
    · refine j_iload X dX11_queue_24 rfl ?_
      refine j_i2l X dX11_queue_26 ?_
      refine j_ldc2 X dX11_queue_27 u1386 ?_
      refine j_iload_n X dX11_queue_30 rfl ?_
      refine j_iconst X dX11_queue_31 1 (by decide) ?_
      refine j_isub X dX11_queue_32 ?_
      refine j_i2l X dX11_queue_33 ?_
      refine s_callSi X hR (m_inI np _ _ _ _ (-1) ((nI q).toInt - 1) (by decide) (jsubq (q := nI q) ⟨by rw [nI_toInt (by omega)]; omega, by rw [nI_toInt (by omega)]; omega⟩).1) rfl u1087 u1085 u1086 u12 hyX11_in (by decide) (by decide) (Nat.le_of_ble_eq_true rfl) dX11_queue_34 (fun v_34 m_34 h_34 => ?_)
      obtain ⟨e1, e2⟩ := h_34; have e1 := e1.symm; have e2 := e2.symm; subst e1; subst e2
      refine j_ifb_ne X 43 dX11_queue_37 (by decide) (fun c_37 => ?_) (fun c_37 => ?_)
      · refine j_aload_n X dX11_queue_43 rfl ?_
        refine j_iload_n X dX11_queue_44 rfl ?_
        refine j_iload_n X dX11_queue_45 rfl ?_
        refine j_iconst X dX11_queue_46 2 (by decide) ?_
        refine j_iload_n X dX11_queue_47 rfl ?_
        refine j_imul X dX11_queue_48 ?_
        refine j_nrm (nI (2 * q)) (by simp only [fa_lit, pk_mul]) ?_
        refine s_callVi X hR (m_look_place np _ s i _ hs hl hi) rfl 11 (by decide) (o66 np) (k66 np) rfl u1141 u1138 u1140 qp38 u12 hyX11_lookItems (by decide) (by decide) (Nat.le_of_ble_eq_true rfl) dX11_queue_49 (fun v_49 m_49 h_49 => ?_)
        obtain ⟨e1, e2⟩ := h_49; have e1 := e1.symm; have e2 := e2.symm; subst e1; subst e2
        refine j_istore X dX11_queue_52 (by decide) ?_
        refine j_iload X dX11_queue_54 rfl ?_
        refine j_if_ge X 62 dX11_queue_56 (by decide) (fun c_56 => absurd c_56 (by decide)) (fun c_56 => ?_)
        refine j_iload X dX11_queue_59 rfl ?_
        refine s_iret X hE hr dX11_queue_61 rfl ?_
        first | exact ⟨rfl, rfl⟩ | (exfalso; clear hE hr hR X; (try simp only [lg_cmp_lt, lg_cmp_gt, lg_cmp_le, lg_cmp_ge] at *); (try simp (disch := omega) only [Int64.le_iff_toInt_le, Int64.lt_iff_toInt_lt, Int32.le_iff_toInt_le, Int32.lt_iff_toInt_lt, fa_eq, fa_lit, fa_litL, nI_toInt, pk_lT, Int32.toInt_toInt64, jadd64, jin, jnoneT] at *); omega)
      · exfalso
        clear hE hr hR X
        have e1 : (-1 : Int32).toInt = -1 := by decide
        (try simp only [lg_cmp_lt, lg_cmp_gt, lg_cmp_le, lg_cmp_ge] at *); (try simp (disch := omega) only [Int64.le_iff_toInt_le, Int64.lt_iff_toInt_lt, Int32.le_iff_toInt_le, Int32.lt_iff_toInt_lt, fa_eq, fa_lit, fa_litL, nI_toInt, pk_lT, Int32.toInt_toInt64, jadd64, jin, jnoneT] at *); omega
set_option maxRecDepth 4000 in
set_option maxHeartbeats 1000000 in
theorem m_queue_at_item (np : Nat) (mem : jMem) (s i q z k : Nat) (hs : s < 8) (hq1 : 1 ≤ q) (hq : q ≤ 7) (hkq : k < q) (hl : 0 ≤ (mem 67 s).toInt) (hz : z ≤ 60) (hm : mem 68 s = nI z) (hi : i + 2 * q ≤ z) (hno : ¬ jQok (fun k => mem 69 (60 * s + i + k)) q) : jPi yX11_queue cX11_queue 11 .int 3 [.ref 66, .int (nI s), .int (nI i), .int (nI q), .int (nI k)] np mem (fun v c => v = -1000001 ∧ jeq [89] (jup mem 66 0 0) c) := by
  refine jPi.of (own := RX11) rfl rfl (Nat.le_of_ble_eq_true rfl) (fun G X hR hr hE => ?_)
  refine j_aload_n X dX11_queue_0 rfl ?_
  refine j_iconst X dX11_queue_1 0 (by decide) ?_
  refine j_putI X 11 0 (by decide) (by decide) rfl rfl rfl rfl u950 (o66 np) (k66 np) dX11_queue_2 ?_
  refine j_iload_n X dX11_queue_5 rfl ?_
  refine s_callSi X hR (m_isSheet np _ _) rfl u1083 u1081 u1082 u12 hyX11_isSheet (by decide) (by decide) (Nat.le_of_ble_eq_true rfl) dX11_queue_6 (fun v_6 m_6 h_6 => ?_)
  obtain ⟨e1, e2⟩ := h_6; have e1 := e1.symm; have e2 := e2.symm; subst e1; subst e2
  refine j_ifb_eq X 40 dX11_queue_9 (by decide) (fun c_9 => ?_) (fun c_9 => ?_)
  · exfalso
    clear hE hr hR X
    have e1 : (-1 : Int32).toInt = -1 := by decide
    (try simp only [lg_cmp_lt, lg_cmp_gt, lg_cmp_le, lg_cmp_ge] at *); (try simp (disch := omega) only [Int64.le_iff_toInt_le, Int64.lt_iff_toInt_lt, Int32.le_iff_toInt_le, Int32.lt_iff_toInt_lt, fa_eq, fa_lit, fa_litL, nI_toInt, pk_lT, Int32.toInt_toInt64, jadd64, jin, jnoneT] at *); omega
  · refine j_iload_n X dX11_queue_12 rfl ?_
    refine j_i2l X dX11_queue_13 ?_
    refine j_lconst X dX11_queue_14 1 (by decide) ?_
    refine j_ldc2 X dX11_queue_15 u1084 ?_
    refine s_callSi X hR (m_inI np _ _ _ _ 1 7 rfl rfl) rfl u1087 u1085 u1086 u12 hyX11_in (by decide) (by decide) (Nat.le_of_ble_eq_true rfl) dX11_queue_18 (fun v_18 m_18 h_18 => ?_)
    obtain ⟨e1, e2⟩ := h_18; have e1 := e1.symm; have e2 := e2.symm; subst e1; subst e2
    refine j_ifb_eq X 40 dX11_queue_21 (by decide) (fun c_21 => ?_) (fun c_21 => ?_)
    · exfalso
      clear hE hr hR X
      have e1 : (-1 : Int32).toInt = -1 := by decide
      (try simp only [lg_cmp_lt, lg_cmp_gt, lg_cmp_le, lg_cmp_ge] at *); (try simp (disch := omega) only [Int64.le_iff_toInt_le, Int64.lt_iff_toInt_lt, Int32.le_iff_toInt_le, Int32.lt_iff_toInt_lt, fa_eq, fa_lit, fa_litL, nI_toInt, pk_lT, Int32.toInt_toInt64, jadd64, jin, jnoneT] at *); omega
    · refine j_iload X dX11_queue_24 rfl ?_
      refine j_i2l X dX11_queue_26 ?_
      refine j_ldc2 X dX11_queue_27 u1386 ?_
      refine j_iload_n X dX11_queue_30 rfl ?_
      refine j_iconst X dX11_queue_31 1 (by decide) ?_
      refine j_isub X dX11_queue_32 ?_
      refine j_i2l X dX11_queue_33 ?_
      refine s_callSi X hR (m_inI np _ _ _ _ (-1) ((nI q).toInt - 1) (by decide) (jsubq (q := nI q) ⟨by rw [nI_toInt (by omega)]; omega, by rw [nI_toInt (by omega)]; omega⟩).1) rfl u1087 u1085 u1086 u12 hyX11_in (by decide) (by decide) (Nat.le_of_ble_eq_true rfl) dX11_queue_34 (fun v_34 m_34 h_34 => ?_)
      obtain ⟨e1, e2⟩ := h_34; have e1 := e1.symm; have e2 := e2.symm; subst e1; subst e2
      refine j_ifb_ne X 43 dX11_queue_37 (by decide) (fun c_37 => ?_) (fun c_37 => ?_)
      · refine j_aload_n X dX11_queue_43 rfl ?_
        refine j_iload_n X dX11_queue_44 rfl ?_
        refine j_iload_n X dX11_queue_45 rfl ?_
        refine j_iconst X dX11_queue_46 2 (by decide) ?_
        refine j_iload_n X dX11_queue_47 rfl ?_
        refine j_imul X dX11_queue_48 ?_
        refine j_nrm (nI (2 * q)) (by simp only [fa_lit, pk_mul]) ?_
        refine s_callVi X hR (m_look np _ s (nI i) _ hs hl (jlook hm rfl (by omega) hi)) rfl 11 (by decide) (o66 np) (k66 np) rfl u1141 u1138 u1140 qp38 u12 hyX11_lookItems (by decide) (by decide) (Nat.le_of_ble_eq_true rfl) dX11_queue_49 (fun v_49 m_49 h_49 => ?_)
        obtain ⟨e1, e2⟩ := h_49; have e1 := e1.symm; have e2 := e2.symm; subst e1; subst e2
        refine j_istore X dX11_queue_52 (by decide) ?_
        refine j_iload X dX11_queue_54 rfl ?_
        refine j_if_ge X 62 dX11_queue_56 (by decide) (fun c_56 => ?_) (fun c_56 => absurd c_56 (by decide))
        refine j_bipush X dX11_queue_62 60 (by decide) ?_
        refine j_iload_n X dX11_queue_64 rfl ?_
        refine j_imul X dX11_queue_65 ?_
        refine j_iload_n X dX11_queue_66 rfl ?_
        refine j_iadd X dX11_queue_67 ?_
        refine j_nrm (nI (60 * s + i)) (by simp only [fa_lit, pk_mul, nI_add]) ?_
        refine j_istore X dX11_queue_68 (by decide) ?_
        refine j_iconst X dX11_queue_70 0 (by decide) ?_
        refine j_istore X dX11_queue_71 (by decide) ?_
        have lp73 : ∀ (n : Nat) (a : Nat) (m2 : jMem), a ≤ q → q + 1 ≤ a + n → jeq [89] (jup mem 66 0 0) m2 → jQok (fun k => mem 69 (60 * s + i + k)) a → J G RX11 cX11_queue 11 0 0 73 (jlv [some (.ref 66), some (.int (nI s)), some (.int (nI i)), some (.int (nI q)), some (.int (nI k)), some (.int 0), some (.int (nI (60 * s + i))), some (.int (nI a))]) [] (jS np) (m2) := by
          intro n
          induction n with
          | zero =>
            intro a m2 ha hn hJ hB
            exact absurd hn (by omega)
          | succ n ih73 =>
            intro a m2 ha hn hJ hB
            refine j_iload X dX11_queue_73 rfl ?_
            refine j_iload_n X dX11_queue_75 rfl ?_
            refine j_icmp_ge X 145 dX11_queue_76 (by decide) (fun c_76 => ?_) (fun c_76 => ?_)
            · exfalso
              obtain rfl : a = q := by clear hE hr hR X hB hno hJ; (try simp only [lg_cmp_lt, lg_cmp_gt, lg_cmp_le, lg_cmp_ge] at *); (try simp (disch := omega) only [Int64.le_iff_toInt_le, Int64.lt_iff_toInt_lt, Int32.le_iff_toInt_le, Int32.lt_iff_toInt_lt, fa_eq, fa_lit, fa_litL, nI_toInt, pk_lT, Int32.toInt_toInt64, jadd64, jin, jnoneT] at *); omega
              exact hno hB
            · have ha2 : a < q := by clear hE hr hR X hB hJ; (try simp only [lg_cmp_lt, lg_cmp_gt, lg_cmp_le, lg_cmp_ge] at *); (try simp (disch := omega) only [Int64.le_iff_toInt_le, Int64.lt_iff_toInt_lt, Int32.le_iff_toInt_le, Int32.lt_iff_toInt_lt, fa_eq, fa_lit, fa_litL, nI_toInt, pk_lT, Int32.toInt_toInt64, jadd64, jin, jnoneT] at *); omega
              refine j_aload_n X dX11_queue_79 rfl ?_
              refine j_getR X 11 4 (by decide) (by decide) rfl u954 (o66 np) (k66 np) _ (p66_4 np) dX11_queue_80 ?_
              refine j_iload X dX11_queue_83 rfl ?_
              refine j_iconst X dX11_queue_85 2 (by decide) ?_
              refine j_iload X dX11_queue_86 rfl ?_
              refine j_imul X dX11_queue_88 ?_
              refine j_iadd X dX11_queue_89 ?_
              refine j_nrm _ (by first | (simp only [fa_lit, pk_mul, nI_add]; done) | (simp only [fa_lit, pk_mul, nI_add]; rfl) | rfl) ?_
              refine j_ialdN X (o69 np) (k69 np) (by rw [l69]; omega) (by rw [l69]; decide) (mem 69) (hJ 69 (by decide)) dX11_queue_90 ?_
              refine j_i2l X dX11_queue_91 ?_
              refine j_lconst X dX11_queue_92 0 (by decide) ?_
              refine j_ldc2 X dX11_queue_93 u1118 ?_
              refine s_callSi X hR (m_inI np _ _ _ _ 0 999 rfl rfl) rfl u1087 u1085 u1086 u12 hyX11_in (by decide) (by decide) (Nat.le_of_ble_eq_true rfl) dX11_queue_96 (fun v_96 m_96 h_96 => ?_)
              obtain ⟨e1, e2⟩ := h_96; have e1 := e1.symm; have e2 := e2.symm; subst e1; subst e2
              refine j_ifb_eq X 127 dX11_queue_99 (by decide) (fun c_99 => ?_) (fun c_99 => ?_)
              · refine j_ldc X dX11_queue_127 u1089 ?_
                refine s_iret X hE hr dX11_queue_129 rfl ?_
                exact ⟨rfl, hJ⟩
              · refine j_aload_n X dX11_queue_102 rfl ?_
                refine j_getR X 11 4 (by decide) (by decide) rfl u954 (o66 np) (k66 np) _ (p66_4 np) dX11_queue_103 ?_
                refine j_iload X dX11_queue_106 rfl ?_
                refine j_iconst X dX11_queue_108 2 (by decide) ?_
                refine j_iload X dX11_queue_109 rfl ?_
                refine j_imul X dX11_queue_111 ?_
                refine j_iadd X dX11_queue_112 ?_
                refine j_iconst X dX11_queue_113 1 (by decide) ?_
                refine j_iadd X dX11_queue_114 ?_
                refine j_nrm _ (by first | (simp only [fa_lit, pk_mul, nI_add]; done) | (simp only [fa_lit, pk_mul, nI_add]; rfl) | rfl) ?_
                refine j_ialdN X (o69 np) (k69 np) (by rw [l69]; omega) (by rw [l69]; decide) (mem 69) (hJ 69 (by decide)) dX11_queue_115 ?_
                refine j_i2l X dX11_queue_116 ?_
                refine j_lconst X dX11_queue_117 1 (by decide) ?_
                refine j_ldc2 X dX11_queue_118 u1387 ?_
                refine s_callSi X hR (m_inI np _ _ _ _ 1 99 rfl rfl) rfl u1087 u1085 u1086 u12 hyX11_in (by decide) (by decide) (Nat.le_of_ble_eq_true rfl) dX11_queue_121 (fun v_121 m_121 h_121 => ?_)
                obtain ⟨e1, e2⟩ := h_121; have e1 := e1.symm; have e2 := e2.symm; subst e1; subst e2
                refine j_ifb_ne X 130 dX11_queue_124 (by decide) (fun c_124 => ?_) (fun c_124 => ?_)
                · refine j_aload_n X dX11_queue_130 rfl ?_
                  refine j_getR X 11 37 (by decide) (by decide) rfl u987 (o66 np) (k66 np) _ (p66_37 np) dX11_queue_131 ?_
                  refine j_iload X dX11_queue_134 rfl ?_
                  refine j_iload X dX11_queue_136 rfl ?_
                  refine j_nrm2 _ (by first | (simp only [fa_lit, pk_mul, nI_add]; done) | (simp only [fa_lit, pk_mul, nI_add]; rfl) | rfl) ?_
                  refine j_iastN X (o89 np) (k89 np) (by rw [l89]; omega) (by rw [l89]; decide) dX11_queue_138 ?_
                  refine j_iinc X dX11_queue_139 rfl 1 rfl ?_
                  refine j_goto X 73 dX11_queue_142 (by decide) ?_
                  refine j_lv [some (.ref 66), some (.int (nI s)), some (.int (nI i)), some (.int (nI q)), some (.int (nI k)), some (.int 0), some (.int (nI (60 * s + i))), some (.int (nI (a + 1)))] ⟨rfl, rfl, rfl, rfl, rfl, rfl, rfl, (congrArg (fun z => some (Value.int z)) (nI_1 _)), trivial⟩ ?_
                  exact ih73 (a + 1) _ (by omega) (by omega) (jeq.up hJ (by decide)) (jQok_s hB c_99 c_124)
                · refine j_ldc X dX11_queue_127 u1089 ?_
                  refine s_iret X hE hr dX11_queue_129 rfl ?_
                  exact ⟨rfl, hJ⟩
        refine j_lv [some (.ref 66), some (.int (nI s)), some (.int (nI i)), some (.int (nI q)), some (.int (nI k)), some (.int 0), some (.int (nI (60 * s + i))), some (.int (nI 0))] ⟨rfl, rfl, rfl, rfl, rfl, rfl, rfl, rfl, trivial⟩ ?_
        exact lp73 (q + 1) 0 _ (by omega) (by omega) jeq.rf (fun a ha => absurd ha (by omega))
      · exfalso
        clear hE hr hR X
        have e1 : (-1 : Int32).toInt = -1 := by decide
        (try simp only [lg_cmp_lt, lg_cmp_gt, lg_cmp_le, lg_cmp_ge] at *); (try simp (disch := omega) only [Int64.le_iff_toInt_le, Int64.lt_iff_toInt_lt, Int32.le_iff_toInt_le, Int32.lt_iff_toInt_lt, fa_eq, fa_lit, fa_litL, nI_toInt, pk_lT, Int32.toInt_toInt64, jadd64, jin, jnoneT] at *); omega
set_option maxRecDepth 4000 in
set_option maxHeartbeats 1000000 in
theorem m_queue_at (np : Nat) (mem : jMem) (s i q z k : Nat) (hs : s < 8) (hq1 : 1 ≤ q) (hq : q ≤ 7) (hkq : k < q) (hl : 0 ≤ (mem 67 s).toInt) (hz : z ≤ 60) (hm : mem 68 s = nI z) (hi : i + 2 * q ≤ z) (hok : jQok (fun k => mem 69 (60 * s + i + k)) q) : jPi yX11_queue cX11_queue 11 .int 3 [.ref 66, .int (nI s), .int (nI i), .int (nI q), .int (nI k)] np mem (fun v c => v = nI (nF (jQR (jQcm (fun k => mem 69 (60 * s + i + k)) q) (jQlm (fun k => mem 69 (60 * s + i + k)) q) q).2 k) ∧ jeq [89, 90] (jup (jup mem 66 0 0) 66 1 0) c) := by
  refine jPi.of (own := RX11) rfl rfl (Nat.le_of_ble_eq_true rfl) (fun G X hR hr hE => ?_)
  refine j_aload_n X dX11_queue_0 rfl ?_
  refine j_iconst X dX11_queue_1 0 (by decide) ?_
  refine j_putI X 11 0 (by decide) (by decide) rfl rfl rfl rfl u950 (o66 np) (k66 np) dX11_queue_2 ?_
  refine j_iload_n X dX11_queue_5 rfl ?_
  refine s_callSi X hR (m_isSheet np _ _) rfl u1083 u1081 u1082 u12 hyX11_isSheet (by decide) (by decide) (Nat.le_of_ble_eq_true rfl) dX11_queue_6 (fun v_6 m_6 h_6 => ?_)
  obtain ⟨e1, e2⟩ := h_6; have e1 := e1.symm; have e2 := e2.symm; subst e1; subst e2
  refine j_ifb_eq X 40 dX11_queue_9 (by decide) (fun c_9 => ?_) (fun c_9 => ?_)
  · exfalso
    clear hE hr hR X
    have e1 : (-1 : Int32).toInt = -1 := by decide
    (try simp only [lg_cmp_lt, lg_cmp_gt, lg_cmp_le, lg_cmp_ge] at *); (try simp (disch := omega) only [Int64.le_iff_toInt_le, Int64.lt_iff_toInt_lt, Int32.le_iff_toInt_le, Int32.lt_iff_toInt_lt, fa_eq, fa_lit, fa_litL, nI_toInt, pk_lT, Int32.toInt_toInt64, jadd64, jin, jnoneT] at *); omega
  · refine j_iload_n X dX11_queue_12 rfl ?_
    refine j_i2l X dX11_queue_13 ?_
    refine j_lconst X dX11_queue_14 1 (by decide) ?_
    refine j_ldc2 X dX11_queue_15 u1084 ?_
    refine s_callSi X hR (m_inI np _ _ _ _ 1 7 rfl rfl) rfl u1087 u1085 u1086 u12 hyX11_in (by decide) (by decide) (Nat.le_of_ble_eq_true rfl) dX11_queue_18 (fun v_18 m_18 h_18 => ?_)
    obtain ⟨e1, e2⟩ := h_18; have e1 := e1.symm; have e2 := e2.symm; subst e1; subst e2
    refine j_ifb_eq X 40 dX11_queue_21 (by decide) (fun c_21 => ?_) (fun c_21 => ?_)
    · exfalso
      clear hE hr hR X
      have e1 : (-1 : Int32).toInt = -1 := by decide
      (try simp only [lg_cmp_lt, lg_cmp_gt, lg_cmp_le, lg_cmp_ge] at *); (try simp (disch := omega) only [Int64.le_iff_toInt_le, Int64.lt_iff_toInt_lt, Int32.le_iff_toInt_le, Int32.lt_iff_toInt_lt, fa_eq, fa_lit, fa_litL, nI_toInt, pk_lT, Int32.toInt_toInt64, jadd64, jin, jnoneT] at *); omega
    · refine j_iload X dX11_queue_24 rfl ?_
      refine j_i2l X dX11_queue_26 ?_
      refine j_ldc2 X dX11_queue_27 u1386 ?_
      refine j_iload_n X dX11_queue_30 rfl ?_
      refine j_iconst X dX11_queue_31 1 (by decide) ?_
      refine j_isub X dX11_queue_32 ?_
      refine j_i2l X dX11_queue_33 ?_
      refine s_callSi X hR (m_inI np _ _ _ _ (-1) ((nI q).toInt - 1) (by decide) (jsubq (q := nI q) ⟨by rw [nI_toInt (by omega)]; omega, by rw [nI_toInt (by omega)]; omega⟩).1) rfl u1087 u1085 u1086 u12 hyX11_in (by decide) (by decide) (Nat.le_of_ble_eq_true rfl) dX11_queue_34 (fun v_34 m_34 h_34 => ?_)
      obtain ⟨e1, e2⟩ := h_34; have e1 := e1.symm; have e2 := e2.symm; subst e1; subst e2
      refine j_ifb_ne X 43 dX11_queue_37 (by decide) (fun c_37 => ?_) (fun c_37 => ?_)
      · refine j_aload_n X dX11_queue_43 rfl ?_
        refine j_iload_n X dX11_queue_44 rfl ?_
        refine j_iload_n X dX11_queue_45 rfl ?_
        refine j_iconst X dX11_queue_46 2 (by decide) ?_
        refine j_iload_n X dX11_queue_47 rfl ?_
        refine j_imul X dX11_queue_48 ?_
        refine j_nrm (nI (2 * q)) (by simp only [fa_lit, pk_mul]) ?_
        refine s_callVi X hR (m_look np _ s (nI i) _ hs hl (jlook hm rfl (by omega) hi)) rfl 11 (by decide) (o66 np) (k66 np) rfl u1141 u1138 u1140 qp38 u12 hyX11_lookItems (by decide) (by decide) (Nat.le_of_ble_eq_true rfl) dX11_queue_49 (fun v_49 m_49 h_49 => ?_)
        obtain ⟨e1, e2⟩ := h_49; have e1 := e1.symm; have e2 := e2.symm; subst e1; subst e2
        refine j_istore X dX11_queue_52 (by decide) ?_
        refine j_iload X dX11_queue_54 rfl ?_
        refine j_if_ge X 62 dX11_queue_56 (by decide) (fun c_56 => ?_) (fun c_56 => absurd c_56 (by decide))
        refine j_bipush X dX11_queue_62 60 (by decide) ?_
        refine j_iload_n X dX11_queue_64 rfl ?_
        refine j_imul X dX11_queue_65 ?_
        refine j_iload_n X dX11_queue_66 rfl ?_
        refine j_iadd X dX11_queue_67 ?_
        refine j_nrm (nI (60 * s + i)) (by simp only [fa_lit, pk_mul, nI_add]) ?_
        refine j_istore X dX11_queue_68 (by decide) ?_
        refine j_iconst X dX11_queue_70 0 (by decide) ?_
        refine j_istore X dX11_queue_71 (by decide) ?_
        have lp73 : ∀ (n : Nat) (a : Nat) (m2 : jMem), a ≤ q → q + 1 ≤ a + n → jeq [89] (jup mem 66 0 0) m2 → (∀ j, j < a → m2 89 j = nI j) → J G RX11 cX11_queue 11 0 0 73 (jlv [some (.ref 66), some (.int (nI s)), some (.int (nI i)), some (.int (nI q)), some (.int (nI k)), some (.int 0), some (.int (nI (60 * s + i))), some (.int (nI a))]) [] (jS np) (m2) := by
          intro n
          induction n with
          | zero =>
            intro a m2 ha hn hJ hB
            exact absurd hn (by omega)
          | succ n ih73 =>
            intro a m2 ha hn hJ hB
            refine j_iload X dX11_queue_73 rfl ?_
            refine j_iload_n X dX11_queue_75 rfl ?_
            refine j_icmp_ge X 145 dX11_queue_76 (by decide) (fun c_76 => ?_) (fun c_76 => ?_)
            · obtain rfl : q = a := by clear hE hr hR X hB hJ hok; (try simp only [lg_cmp_lt, lg_cmp_gt, lg_cmp_le, lg_cmp_ge] at *); (try simp (disch := omega) only [Int64.le_iff_toInt_le, Int64.lt_iff_toInt_lt, Int32.le_iff_toInt_le, Int32.lt_iff_toInt_lt, fa_eq, fa_lit, fa_litL, nI_toInt, pk_lT, Int32.toInt_toInt64, jadd64, jin, jnoneT] at *); omega
              refine j_aload_n X dX11_queue_145 rfl ?_
              refine j_iconst X dX11_queue_146 0 (by decide) ?_
              refine j_putI X 11 1 (by decide) (by decide) rfl rfl rfl rfl u951 (o66 np) (k66 np) dX11_queue_147 ?_
              refine j_iconst X dX11_queue_150 (-1) (by decide) ?_
              refine j_istore X dX11_queue_151 (by decide) ?_
              refine j_iconst X dX11_queue_153 1 (by decide) ?_
              refine j_istore X dX11_queue_154 (by decide) ?_
              have lp156 : ∀ (n : Nat) (best more : Int32) (m2 : jMem), jeq [89, 90] (jup (jup mem 66 0 0) 66 1 0) m2 → (more = 1 ∧ (∃ pr a rest, qP q q 0 [] = pr ++ a :: rest ∧ jQb q a (m2 89) ∧ jQA (jQcm (fun k => mem 69 (60 * s + i + k)) q) (jQlm (fun k => mem 69 (60 * s + i + k)) q) q pr best (m2 90) ∧ rest.length + 2 ≤ n)) ∨ (more = 0 ∧ (best = nI (jQR (jQcm (fun k => mem 69 (60 * s + i + k)) q) (jQlm (fun k => mem 69 (60 * s + i + k)) q) q).1 ∧ jQb q (jQR (jQcm (fun k => mem 69 (60 * s + i + k)) q) (jQlm (fun k => mem 69 (60 * s + i + k)) q) q).2 (m2 90)) ∧ 1 ≤ n) → J G RX11 cX11_queue 11 0 0 156 (jlv [some (.ref 66), some (.int (nI s)), some (.int (nI i)), some (.int (nI q)), some (.int (nI k)), some (.int 0), some (.int (nI (60 * s + i))), some (.int best), some (.int more)]) [] (jS np) (m2) := by
                intro n
                induction n with
                | zero =>
                  intro best more m2 hJ hI
                  exact absurd (show 1 ≤ 0 from hI.elim (fun z => by obtain ⟨_, _, _, _, _, _, _, h⟩ := z; omega) (fun z => z.2.2)) (by omega)
                | succ n ih156 =>
                  intro best more m2 hJ hI
                  refine j_iload X dX11_queue_156 rfl ?_
                  refine j_if_eq X 225 dX11_queue_158 (by decide) (fun c_158 => ?_) (fun c_158 => ?_)
                  · obtain ⟨-, ⟨hR1, hR2⟩, -⟩ := hI.resolve_left (fun z => by rw [z.1] at c_158; exact absurd c_158 (by decide))
                    refine j_iload X dX11_queue_225 rfl ?_
                    refine j_iconst X dX11_queue_227 (-1) (by decide) ?_
                    refine j_icmp_ne X 236 dX11_queue_228 (by decide) (fun c_228 => ?_) (fun c_228 => absurd (c_228 : nI k = -1) (jnm1 (by omega)))
                    refine j_aload_n X dX11_queue_236 rfl ?_
                    refine j_getR X 11 38 (by decide) (by decide) rfl u988 (o66 np) (k66 np) _ (p66_38 np) dX11_queue_237 ?_
                    refine j_iload X dX11_queue_240 rfl ?_
                    skip
                    refine j_nrm _ (by first | (simp only [fa_lit, pk_mul, nI_add]; done) | (simp only [fa_lit, pk_mul, nI_add]; rfl) | rfl) ?_
                    refine j_ialdN X (o90 np) (k90 np) (by rw [l90]; omega) (by rw [l90]; decide) (m2 90) rfl dX11_queue_242 ?_
                    refine s_iret X hE hr dX11_queue_243 rfl ?_
                    exact ⟨hR2 k hkq, hJ⟩
                  · obtain ⟨-, pr, a, rest, hL, hb, hA, hfu⟩ := hI.resolve_right (fun z => c_158 z.1)
                    obtain ⟨hno, hCh⟩ := nCh_at pr (hL ▸ nCh_all hq1 hq)
                    have hno := nOk_e hno
                    have hlen := hno.1
                    have hwl : qSum (jQcm (fun k => mem 69 (60 * s + i + k)) q) (jQlm (fun k => mem 69 (60 * s + i + k)) q) a ≤ 20000 := by
                      have := (qW_le0 (jQcm_le hok) (jQlm_le hok) (p := a) (by omega)).2
                      unfold qSum
                      omega
                    refine j_aload_n X dX11_queue_161 rfl ?_
                    refine j_iload X dX11_queue_162 rfl ?_
                    refine j_iload_n X dX11_queue_164 rfl ?_
                    refine s_callVi X hR (m_waitsOf np _ (60 * s + i) q (jQcm (fun k => mem 69 (60 * s + i + k)) q) (jQlm (fun k => mem 69 (60 * s + i + k)) q) (nF a) hq (by omega) (jQcm_le hok) (jQlm_le hok) (fun w hw => by rw [hJ 69 (by decide)]; exact jQcm_e hok hw) (fun w hw => by rw [hJ 69 (by decide)]; exact jQlm_e hok hw) (fun i hi => ⟨hb i hi, hno.2 i hi⟩)) rfl 11 (by decide) (o66 np) (k66 np) rfl u1391 u1388 u1390 qp63 u12 hyX11_waitsOf (by decide) (by decide) (Nat.le_of_ble_eq_true rfl) dX11_queue_165 (fun v_165 m_165 h_165 => ?_)
                    obtain ⟨e1, e2⟩ := h_165; have e1 := e1.symm; have e2 := e2.symm; subst e1; subst e2
                    refine j_nrm (nI (qSum (jQcm (fun k => mem 69 (60 * s + i + k)) q) (jQlm (fun k => mem 69 (60 * s + i + k)) q) a)) (by rw [nL_F hlen]) ?_
                    refine j_istore X dX11_queue_168 (by decide) ?_
                    refine j_iload X dX11_queue_170 rfl ?_
                    refine j_if_lt X 182 dX11_queue_172 (by decide) (fun c_172 => ?_) (fun c_172 => ?_)
                    · refine j_iload X dX11_queue_182 rfl ?_
                      refine j_istore X dX11_queue_184 (by decide) ?_
                      refine j_iconst X dX11_queue_186 0 (by decide) ?_
                      refine j_istore X dX11_queue_187 (by decide) ?_
                      have lp189 : ∀ (n : Nat) (b2 : Nat) (m3 : jMem), b2 ≤ q → q + 1 ≤ b2 + n → jeq [90] m2 m3 → (∀ i, i < b2 → m3 90 i = nI (nF a i)) → J G RX11 cX11_queue 11 0 0 189 (jlv [some (.ref 66), some (.int (nI s)), some (.int (nI i)), some (.int (nI q)), some (.int (nI k)), some (.int 0), some (.int (nI (60 * s + i))), some (.int (nI (qSum (jQcm (fun k => mem 69 (60 * s + i + k)) q) (jQlm (fun k => mem 69 (60 * s + i + k)) q) a))), some (.int more), some (.int (nI (qSum (jQcm (fun k => mem 69 (60 * s + i + k)) q) (jQlm (fun k => mem 69 (60 * s + i + k)) q) a))), some (.int (nI b2))]) [] (jS np) (m3) := by
                        intro n
                        induction n with
                        | zero =>
                          intro b2 m3 hb2 hnb hJ3 hC3
                          exact absurd hnb (by omega)
                        | succ n ih189 =>
                          intro b2 m3 hb2 hnb hJ3 hC3
                          refine j_iload X dX11_queue_189 rfl ?_
                          refine j_iload_n X dX11_queue_191 rfl ?_
                          refine j_icmp_ge X 215 dX11_queue_192 (by decide) (fun c_192 => ?_) (fun c_192 => ?_)
                          · obtain rfl : q = b2 := by clear hE hr hR X hJ hok hI hL hb hA hCh hno hC3 hJ3; (try simp only [lg_cmp_lt, lg_cmp_gt, lg_cmp_le, lg_cmp_ge] at *); (try simp (disch := omega) only [Int64.le_iff_toInt_le, Int64.lt_iff_toInt_lt, Int32.le_iff_toInt_le, Int32.lt_iff_toInt_lt, fa_eq, fa_lit, fa_litL, nI_toInt, pk_lT, Int32.toInt_toInt64, jadd64, jin, jnoneT] at *); omega
                            have hA4 := jQA_take hA hwl (by first | exact Or.inl c_172 | exact Or.inr (Int32.not_le.mp c_179)) hC3
                            have hJ4 := hJ.tr (hJ3.mo (T := [89, 90]) (by simp))
                            have hC4 : jQb q a (m3 89) := by rw [hJ3 89 (by decide)]; exact hb
                            rcases hCh with ⟨hr0, hN⟩ | ⟨b, r2, g, hr0, hN, hLb⟩
                            · refine j_aload_n X dX11_queue_215 rfl ?_
                              refine j_iload_n X dX11_queue_216 rfl ?_
                              refine s_callVi X hR (m_nextOrder_no np _ q (nF a) hq1 hq hC4 hno.2 hN) rfl 11 (by decide) (o66 np) (k66 np) rfl u1395 u1392 u1394 qp64 u12 hyX11_nextOrder (by decide) (by decide) (Nat.le_of_ble_eq_true rfl) dX11_queue_217 (fun v_217 m_217 h_217 => ?_)
                              obtain ⟨e1, e2⟩ := h_217; have e1 := e1.symm; have e2 := e2.symm; subst e1; subst e2
                              refine j_istore X dX11_queue_220 (by decide) ?_
                              refine j_goto X 156 dX11_queue_222 (by decide) ?_
                              refine j_lv [some (.ref 66), some (.int (nI s)), some (.int (nI i)), some (.int (nI q)), some (.int (nI k)), some (.int 0), some (.int (nI (60 * s + i))), some (.int _), some (.int _)] ⟨rfl, rfl, rfl, rfl, rfl, rfl, rfl, rfl, rfl, trivial⟩ ?_
                              exact ih156 _ _ _ hJ4 (Or.inr ⟨rfl, jQ_fin hL hr0 hA4, by omega⟩)
                            · refine j_aload_n X dX11_queue_215 rfl ?_
                              refine j_iload_n X dX11_queue_216 rfl ?_
                              refine s_callVi X hR (m_nextOrder_yes np _ q (nF a) g hq1 hq hC4 hno.2 hN) rfl 11 (by decide) (o66 np) (k66 np) rfl u1395 u1392 u1394 qp64 u12 hyX11_nextOrder (by decide) (by decide) (Nat.le_of_ble_eq_true rfl) dX11_queue_217 (fun v_217 m_217 h_217 => ?_)
                              obtain ⟨e1, hJn, hCn⟩ := h_217; have e1 := e1.symm; subst e1
                              refine j_istore X dX11_queue_220 (by decide) ?_
                              refine j_goto X 156 dX11_queue_222 (by decide) ?_
                              refine j_lv [some (.ref 66), some (.int (nI s)), some (.int (nI i)), some (.int (nI q)), some (.int (nI k)), some (.int 0), some (.int (nI (60 * s + i))), some (.int _), some (.int _)] ⟨rfl, rfl, rfl, rfl, rfl, rfl, rfl, rfl, rfl, trivial⟩ ?_
                              exact ih156 _ _ _ (hJ4.tr (hJn.mo (by simp))) (Or.inl ⟨rfl, pr ++ [a], b, r2, by rw [hL, hr0, List.append_assoc]; rfl, fun i hi => by rw [hCn i hi, ← hLb, nF_L hi], by rw [hJn 90 (by decide)]; exact hA4, by rw [hr0, List.length_cons] at hfu; omega⟩)
                          · have hb3 : b2 < q := by clear hE hr hR X hJ hok hI hL hb hA hCh hno hC3 hJ3; (try simp only [lg_cmp_lt, lg_cmp_gt, lg_cmp_le, lg_cmp_ge] at *); (try simp (disch := omega) only [Int64.le_iff_toInt_le, Int64.lt_iff_toInt_lt, Int32.le_iff_toInt_le, Int32.lt_iff_toInt_lt, fa_eq, fa_lit, fa_litL, nI_toInt, pk_lT, Int32.toInt_toInt64, jadd64, jin, jnoneT] at *); omega
                            refine j_aload_n X dX11_queue_195 rfl ?_
                            refine j_getR X 11 38 (by decide) (by decide) rfl u988 (o66 np) (k66 np) _ (p66_38 np) dX11_queue_196 ?_
                            refine j_iload X dX11_queue_199 rfl ?_
                            refine j_aload_n X dX11_queue_201 rfl ?_
                            refine j_getR X 11 37 (by decide) (by decide) rfl u987 (o66 np) (k66 np) _ (p66_37 np) dX11_queue_202 ?_
                            refine j_iload X dX11_queue_205 rfl ?_
                            refine j_nrm _ (by first | (simp only [fa_lit, pk_mul, nI_add]; done) | (simp only [fa_lit, pk_mul, nI_add]; rfl) | rfl) ?_
                            refine j_ialdN X (o89 np) (k89 np) (by rw [l89]; omega) (by rw [l89]; decide) (m3 89) rfl dX11_queue_207 ?_
                            refine j_nrm (nI (nF a b2)) (by rw [hJ3 89 (by decide)]; exact hb b2 hb3) ?_
                            refine j_nrm2 _ (by first | (simp only [fa_lit, pk_mul, nI_add]; done) | (simp only [fa_lit, pk_mul, nI_add]; rfl) | rfl) ?_
                            refine j_iastN X (o90 np) (k90 np) (by rw [l90]; omega) (by rw [l90]; decide) dX11_queue_208 ?_
                            refine j_iinc X dX11_queue_209 rfl 1 rfl ?_
                            refine j_goto X 189 dX11_queue_212 (by decide) ?_
                            refine j_lv [some (.ref 66), some (.int (nI s)), some (.int (nI i)), some (.int (nI q)), some (.int (nI k)), some (.int 0), some (.int (nI (60 * s + i))), some (.int (nI (qSum (jQcm (fun k => mem 69 (60 * s + i + k)) q) (jQlm (fun k => mem 69 (60 * s + i + k)) q) a))), some (.int more), some (.int (nI (qSum (jQcm (fun k => mem 69 (60 * s + i + k)) q) (jQlm (fun k => mem 69 (60 * s + i + k)) q) a))), some (.int (nI (b2 + 1)))] ⟨rfl, rfl, rfl, rfl, rfl, rfl, rfl, rfl, rfl, rfl, (congrArg (fun z => some (Value.int z)) (nI_1 _)), trivial⟩ ?_
                            exact ih189 (b2 + 1) _ (by omega) (by omega) (jeq.up hJ3 (by decide)) (fun i hi => by
                                          by_cases e : i = b2
                                          · subst e; simp [jup, va_up]
                                          · have := hC3 i (by omega)
                                            simp only [jup, va_up, e, if_true, if_false]
                                            exact this)
                      refine j_lv [some (.ref 66), some (.int (nI s)), some (.int (nI i)), some (.int (nI q)), some (.int (nI k)), some (.int 0), some (.int (nI (60 * s + i))), some (.int (nI (qSum (jQcm (fun k => mem 69 (60 * s + i + k)) q) (jQlm (fun k => mem 69 (60 * s + i + k)) q) a))), some (.int more), some (.int (nI (qSum (jQcm (fun k => mem 69 (60 * s + i + k)) q) (jQlm (fun k => mem 69 (60 * s + i + k)) q) a))), some (.int (nI 0))] ⟨rfl, rfl, rfl, rfl, rfl, rfl, rfl, rfl, rfl, rfl, rfl, trivial⟩ ?_
                      exact lp189 (q + 1) 0 m2 (by omega) (by omega) jeq.rf (fun i hi => absurd hi (by omega))
                    · refine j_iload X dX11_queue_175 rfl ?_
                      refine j_iload X dX11_queue_177 rfl ?_
                      refine j_icmp_ge X 215 dX11_queue_179 (by decide) (fun c_179 => ?_) (fun c_179 => ?_)
                      · have hA4 := jQA_keep hA hwl c_172 c_179
                        have hJ4 := hJ
                        have hC4 := hb
                        rcases hCh with ⟨hr0, hN⟩ | ⟨b, r2, g, hr0, hN, hLb⟩
                        · refine j_aload_n X dX11_queue_215 rfl ?_
                          refine j_iload_n X dX11_queue_216 rfl ?_
                          refine s_callVi X hR (m_nextOrder_no np _ q (nF a) hq1 hq hC4 hno.2 hN) rfl 11 (by decide) (o66 np) (k66 np) rfl u1395 u1392 u1394 qp64 u12 hyX11_nextOrder (by decide) (by decide) (Nat.le_of_ble_eq_true rfl) dX11_queue_217 (fun v_217 m_217 h_217 => ?_)
                          obtain ⟨e1, e2⟩ := h_217; have e1 := e1.symm; have e2 := e2.symm; subst e1; subst e2
                          refine j_istore X dX11_queue_220 (by decide) ?_
                          refine j_goto X 156 dX11_queue_222 (by decide) ?_
                          refine j_lv [some (.ref 66), some (.int (nI s)), some (.int (nI i)), some (.int (nI q)), some (.int (nI k)), some (.int 0), some (.int (nI (60 * s + i))), some (.int _), some (.int _)] ⟨rfl, rfl, rfl, rfl, rfl, rfl, rfl, rfl, rfl, trivial⟩ ?_
                          exact ih156 _ _ _ hJ4 (Or.inr ⟨rfl, jQ_fin hL hr0 hA4, by omega⟩)
                        · refine j_aload_n X dX11_queue_215 rfl ?_
                          refine j_iload_n X dX11_queue_216 rfl ?_
                          refine s_callVi X hR (m_nextOrder_yes np _ q (nF a) g hq1 hq hC4 hno.2 hN) rfl 11 (by decide) (o66 np) (k66 np) rfl u1395 u1392 u1394 qp64 u12 hyX11_nextOrder (by decide) (by decide) (Nat.le_of_ble_eq_true rfl) dX11_queue_217 (fun v_217 m_217 h_217 => ?_)
                          obtain ⟨e1, hJn, hCn⟩ := h_217; have e1 := e1.symm; subst e1
                          refine j_istore X dX11_queue_220 (by decide) ?_
                          refine j_goto X 156 dX11_queue_222 (by decide) ?_
                          refine j_lv [some (.ref 66), some (.int (nI s)), some (.int (nI i)), some (.int (nI q)), some (.int (nI k)), some (.int 0), some (.int (nI (60 * s + i))), some (.int _), some (.int _)] ⟨rfl, rfl, rfl, rfl, rfl, rfl, rfl, rfl, rfl, trivial⟩ ?_
                          exact ih156 _ _ _ (hJ4.tr (hJn.mo (by simp))) (Or.inl ⟨rfl, pr ++ [a], b, r2, by rw [hL, hr0, List.append_assoc]; rfl, fun i hi => by rw [hCn i hi, ← hLb, nF_L hi], by rw [hJn 90 (by decide)]; exact hA4, by rw [hr0, List.length_cons] at hfu; omega⟩)
                      · refine j_iload X dX11_queue_182 rfl ?_
                        refine j_istore X dX11_queue_184 (by decide) ?_
                        refine j_iconst X dX11_queue_186 0 (by decide) ?_
                        refine j_istore X dX11_queue_187 (by decide) ?_
                        have lp189 : ∀ (n : Nat) (b2 : Nat) (m3 : jMem), b2 ≤ q → q + 1 ≤ b2 + n → jeq [90] m2 m3 → (∀ i, i < b2 → m3 90 i = nI (nF a i)) → J G RX11 cX11_queue 11 0 0 189 (jlv [some (.ref 66), some (.int (nI s)), some (.int (nI i)), some (.int (nI q)), some (.int (nI k)), some (.int 0), some (.int (nI (60 * s + i))), some (.int (nI (qSum (jQcm (fun k => mem 69 (60 * s + i + k)) q) (jQlm (fun k => mem 69 (60 * s + i + k)) q) a))), some (.int more), some (.int (nI (qSum (jQcm (fun k => mem 69 (60 * s + i + k)) q) (jQlm (fun k => mem 69 (60 * s + i + k)) q) a))), some (.int (nI b2))]) [] (jS np) (m3) := by
                          intro n
                          induction n with
                          | zero =>
                            intro b2 m3 hb2 hnb hJ3 hC3
                            exact absurd hnb (by omega)
                          | succ n ih189 =>
                            intro b2 m3 hb2 hnb hJ3 hC3
                            refine j_iload X dX11_queue_189 rfl ?_
                            refine j_iload_n X dX11_queue_191 rfl ?_
                            refine j_icmp_ge X 215 dX11_queue_192 (by decide) (fun c_192 => ?_) (fun c_192 => ?_)
                            · obtain rfl : q = b2 := by clear hE hr hR X hJ hok hI hL hb hA hCh hno hC3 hJ3; (try simp only [lg_cmp_lt, lg_cmp_gt, lg_cmp_le, lg_cmp_ge] at *); (try simp (disch := omega) only [Int64.le_iff_toInt_le, Int64.lt_iff_toInt_lt, Int32.le_iff_toInt_le, Int32.lt_iff_toInt_lt, fa_eq, fa_lit, fa_litL, nI_toInt, pk_lT, Int32.toInt_toInt64, jadd64, jin, jnoneT] at *); omega
                              have hA4 := jQA_take hA hwl (by first | exact Or.inl c_172 | exact Or.inr (Int32.not_le.mp c_179)) hC3
                              have hJ4 := hJ.tr (hJ3.mo (T := [89, 90]) (by simp))
                              have hC4 : jQb q a (m3 89) := by rw [hJ3 89 (by decide)]; exact hb
                              rcases hCh with ⟨hr0, hN⟩ | ⟨b, r2, g, hr0, hN, hLb⟩
                              · refine j_aload_n X dX11_queue_215 rfl ?_
                                refine j_iload_n X dX11_queue_216 rfl ?_
                                refine s_callVi X hR (m_nextOrder_no np _ q (nF a) hq1 hq hC4 hno.2 hN) rfl 11 (by decide) (o66 np) (k66 np) rfl u1395 u1392 u1394 qp64 u12 hyX11_nextOrder (by decide) (by decide) (Nat.le_of_ble_eq_true rfl) dX11_queue_217 (fun v_217 m_217 h_217 => ?_)
                                obtain ⟨e1, e2⟩ := h_217; have e1 := e1.symm; have e2 := e2.symm; subst e1; subst e2
                                refine j_istore X dX11_queue_220 (by decide) ?_
                                refine j_goto X 156 dX11_queue_222 (by decide) ?_
                                refine j_lv [some (.ref 66), some (.int (nI s)), some (.int (nI i)), some (.int (nI q)), some (.int (nI k)), some (.int 0), some (.int (nI (60 * s + i))), some (.int _), some (.int _)] ⟨rfl, rfl, rfl, rfl, rfl, rfl, rfl, rfl, rfl, trivial⟩ ?_
                                exact ih156 _ _ _ hJ4 (Or.inr ⟨rfl, jQ_fin hL hr0 hA4, by omega⟩)
                              · refine j_aload_n X dX11_queue_215 rfl ?_
                                refine j_iload_n X dX11_queue_216 rfl ?_
                                refine s_callVi X hR (m_nextOrder_yes np _ q (nF a) g hq1 hq hC4 hno.2 hN) rfl 11 (by decide) (o66 np) (k66 np) rfl u1395 u1392 u1394 qp64 u12 hyX11_nextOrder (by decide) (by decide) (Nat.le_of_ble_eq_true rfl) dX11_queue_217 (fun v_217 m_217 h_217 => ?_)
                                obtain ⟨e1, hJn, hCn⟩ := h_217; have e1 := e1.symm; subst e1
                                refine j_istore X dX11_queue_220 (by decide) ?_
                                refine j_goto X 156 dX11_queue_222 (by decide) ?_
                                refine j_lv [some (.ref 66), some (.int (nI s)), some (.int (nI i)), some (.int (nI q)), some (.int (nI k)), some (.int 0), some (.int (nI (60 * s + i))), some (.int _), some (.int _)] ⟨rfl, rfl, rfl, rfl, rfl, rfl, rfl, rfl, rfl, trivial⟩ ?_
                                exact ih156 _ _ _ (hJ4.tr (hJn.mo (by simp))) (Or.inl ⟨rfl, pr ++ [a], b, r2, by rw [hL, hr0, List.append_assoc]; rfl, fun i hi => by rw [hCn i hi, ← hLb, nF_L hi], by rw [hJn 90 (by decide)]; exact hA4, by rw [hr0, List.length_cons] at hfu; omega⟩)
                            · have hb3 : b2 < q := by clear hE hr hR X hJ hok hI hL hb hA hCh hno hC3 hJ3; (try simp only [lg_cmp_lt, lg_cmp_gt, lg_cmp_le, lg_cmp_ge] at *); (try simp (disch := omega) only [Int64.le_iff_toInt_le, Int64.lt_iff_toInt_lt, Int32.le_iff_toInt_le, Int32.lt_iff_toInt_lt, fa_eq, fa_lit, fa_litL, nI_toInt, pk_lT, Int32.toInt_toInt64, jadd64, jin, jnoneT] at *); omega
                              refine j_aload_n X dX11_queue_195 rfl ?_
                              refine j_getR X 11 38 (by decide) (by decide) rfl u988 (o66 np) (k66 np) _ (p66_38 np) dX11_queue_196 ?_
                              refine j_iload X dX11_queue_199 rfl ?_
                              refine j_aload_n X dX11_queue_201 rfl ?_
                              refine j_getR X 11 37 (by decide) (by decide) rfl u987 (o66 np) (k66 np) _ (p66_37 np) dX11_queue_202 ?_
                              refine j_iload X dX11_queue_205 rfl ?_
                              refine j_nrm _ (by first | (simp only [fa_lit, pk_mul, nI_add]; done) | (simp only [fa_lit, pk_mul, nI_add]; rfl) | rfl) ?_
                              refine j_ialdN X (o89 np) (k89 np) (by rw [l89]; omega) (by rw [l89]; decide) (m3 89) rfl dX11_queue_207 ?_
                              refine j_nrm (nI (nF a b2)) (by rw [hJ3 89 (by decide)]; exact hb b2 hb3) ?_
                              refine j_nrm2 _ (by first | (simp only [fa_lit, pk_mul, nI_add]; done) | (simp only [fa_lit, pk_mul, nI_add]; rfl) | rfl) ?_
                              refine j_iastN X (o90 np) (k90 np) (by rw [l90]; omega) (by rw [l90]; decide) dX11_queue_208 ?_
                              refine j_iinc X dX11_queue_209 rfl 1 rfl ?_
                              refine j_goto X 189 dX11_queue_212 (by decide) ?_
                              refine j_lv [some (.ref 66), some (.int (nI s)), some (.int (nI i)), some (.int (nI q)), some (.int (nI k)), some (.int 0), some (.int (nI (60 * s + i))), some (.int (nI (qSum (jQcm (fun k => mem 69 (60 * s + i + k)) q) (jQlm (fun k => mem 69 (60 * s + i + k)) q) a))), some (.int more), some (.int (nI (qSum (jQcm (fun k => mem 69 (60 * s + i + k)) q) (jQlm (fun k => mem 69 (60 * s + i + k)) q) a))), some (.int (nI (b2 + 1)))] ⟨rfl, rfl, rfl, rfl, rfl, rfl, rfl, rfl, rfl, rfl, (congrArg (fun z => some (Value.int z)) (nI_1 _)), trivial⟩ ?_
                              exact ih189 (b2 + 1) _ (by omega) (by omega) (jeq.up hJ3 (by decide)) (fun i hi => by
                                            by_cases e : i = b2
                                            · subst e; simp [jup, va_up]
                                            · have := hC3 i (by omega)
                                              simp only [jup, va_up, e, if_true, if_false]
                                              exact this)
                        refine j_lv [some (.ref 66), some (.int (nI s)), some (.int (nI i)), some (.int (nI q)), some (.int (nI k)), some (.int 0), some (.int (nI (60 * s + i))), some (.int (nI (qSum (jQcm (fun k => mem 69 (60 * s + i + k)) q) (jQlm (fun k => mem 69 (60 * s + i + k)) q) a))), some (.int more), some (.int (nI (qSum (jQcm (fun k => mem 69 (60 * s + i + k)) q) (jQlm (fun k => mem 69 (60 * s + i + k)) q) a))), some (.int (nI 0))] ⟨rfl, rfl, rfl, rfl, rfl, rfl, rfl, rfl, rfl, rfl, rfl, trivial⟩ ?_
                        exact lp189 (q + 1) 0 m2 (by omega) (by omega) jeq.rf (fun i hi => absurd hi (by omega))
              obtain ⟨rest0, hR0⟩ := qP_hd q hq1 hq
              refine j_lv [some (.ref 66), some (.int (nI s)), some (.int (nI i)), some (.int (nI q)), some (.int (nI k)), some (.int 0), some (.int (nI (60 * s + i))), some (.int (-1)), some (.int 1)] ⟨rfl, rfl, rfl, rfl, rfl, rfl, rfl, rfl, rfl, trivial⟩ ?_
              exact lp156 (rest0.length + 2) _ _ _ (jeq.cg (hJ.mo (T := [89, 90]) (by simp)) (by decide)) (Or.inl ⟨rfl, [], List.range q, rest0, hR0, fun i hi => by rw [nF_range hi]; exact hB i hi, Or.inl ⟨rfl, rfl⟩, Nat.le_refl _⟩)
            · have ha2 : a < q := by clear hE hr hR X hB hJ hok; (try simp only [lg_cmp_lt, lg_cmp_gt, lg_cmp_le, lg_cmp_ge] at *); (try simp (disch := omega) only [Int64.le_iff_toInt_le, Int64.lt_iff_toInt_lt, Int32.le_iff_toInt_le, Int32.lt_iff_toInt_lt, fa_eq, fa_lit, fa_litL, nI_toInt, pk_lT, Int32.toInt_toInt64, jadd64, jin, jnoneT] at *); omega
              refine j_aload_n X dX11_queue_79 rfl ?_
              refine j_getR X 11 4 (by decide) (by decide) rfl u954 (o66 np) (k66 np) _ (p66_4 np) dX11_queue_80 ?_
              refine j_iload X dX11_queue_83 rfl ?_
              refine j_iconst X dX11_queue_85 2 (by decide) ?_
              refine j_iload X dX11_queue_86 rfl ?_
              refine j_imul X dX11_queue_88 ?_
              refine j_iadd X dX11_queue_89 ?_
              refine j_nrm _ (by first | (simp only [fa_lit, pk_mul, nI_add]; done) | (simp only [fa_lit, pk_mul, nI_add]; rfl) | rfl) ?_
              refine j_ialdN X (o69 np) (k69 np) (by rw [l69]; omega) (by rw [l69]; decide) (mem 69) (hJ 69 (by decide)) dX11_queue_90 ?_
              refine j_i2l X dX11_queue_91 ?_
              refine j_lconst X dX11_queue_92 0 (by decide) ?_
              refine j_ldc2 X dX11_queue_93 u1118 ?_
              refine s_callSi X hR (m_inI np _ _ _ _ 0 999 rfl rfl) rfl u1087 u1085 u1086 u12 hyX11_in (by decide) (by decide) (Nat.le_of_ble_eq_true rfl) dX11_queue_96 (fun v_96 m_96 h_96 => ?_)
              obtain ⟨e1, e2⟩ := h_96; have e1 := e1.symm; have e2 := e2.symm; subst e1; subst e2
              refine j_ifb_eq X 127 dX11_queue_99 (by decide) (fun c_99 => ?_) (fun c_99 => ?_)
              · exfalso
                have hga := hok a ha2
                first | exact c_99 hga.1 | exact c_124 hga.2
              · refine j_aload_n X dX11_queue_102 rfl ?_
                refine j_getR X 11 4 (by decide) (by decide) rfl u954 (o66 np) (k66 np) _ (p66_4 np) dX11_queue_103 ?_
                refine j_iload X dX11_queue_106 rfl ?_
                refine j_iconst X dX11_queue_108 2 (by decide) ?_
                refine j_iload X dX11_queue_109 rfl ?_
                refine j_imul X dX11_queue_111 ?_
                refine j_iadd X dX11_queue_112 ?_
                refine j_iconst X dX11_queue_113 1 (by decide) ?_
                refine j_iadd X dX11_queue_114 ?_
                refine j_nrm _ (by first | (simp only [fa_lit, pk_mul, nI_add]; done) | (simp only [fa_lit, pk_mul, nI_add]; rfl) | rfl) ?_
                refine j_ialdN X (o69 np) (k69 np) (by rw [l69]; omega) (by rw [l69]; decide) (mem 69) (hJ 69 (by decide)) dX11_queue_115 ?_
                refine j_i2l X dX11_queue_116 ?_
                refine j_lconst X dX11_queue_117 1 (by decide) ?_
                refine j_ldc2 X dX11_queue_118 u1387 ?_
                refine s_callSi X hR (m_inI np _ _ _ _ 1 99 rfl rfl) rfl u1087 u1085 u1086 u12 hyX11_in (by decide) (by decide) (Nat.le_of_ble_eq_true rfl) dX11_queue_121 (fun v_121 m_121 h_121 => ?_)
                obtain ⟨e1, e2⟩ := h_121; have e1 := e1.symm; have e2 := e2.symm; subst e1; subst e2
                refine j_ifb_ne X 130 dX11_queue_124 (by decide) (fun c_124 => ?_) (fun c_124 => ?_)
                · refine j_aload_n X dX11_queue_130 rfl ?_
                  refine j_getR X 11 37 (by decide) (by decide) rfl u987 (o66 np) (k66 np) _ (p66_37 np) dX11_queue_131 ?_
                  refine j_iload X dX11_queue_134 rfl ?_
                  refine j_iload X dX11_queue_136 rfl ?_
                  refine j_nrm2 _ (by first | (simp only [fa_lit, pk_mul, nI_add]; done) | (simp only [fa_lit, pk_mul, nI_add]; rfl) | rfl) ?_
                  refine j_iastN X (o89 np) (k89 np) (by rw [l89]; omega) (by rw [l89]; decide) dX11_queue_138 ?_
                  refine j_iinc X dX11_queue_139 rfl 1 rfl ?_
                  refine j_goto X 73 dX11_queue_142 (by decide) ?_
                  refine j_lv [some (.ref 66), some (.int (nI s)), some (.int (nI i)), some (.int (nI q)), some (.int (nI k)), some (.int 0), some (.int (nI (60 * s + i))), some (.int (nI (a + 1)))] ⟨rfl, rfl, rfl, rfl, rfl, rfl, rfl, (congrArg (fun z => some (Value.int z)) (nI_1 _)), trivial⟩ ?_
                  exact ih73 (a + 1) _ (by omega) (by omega) (jeq.up hJ (by decide)) (fun j hj => by
                                by_cases e : j = a
                                · subst e; simp [jup, va_up]
                                · have := hB j (by omega)
                                  simp only [jup, va_up, e, if_true, if_false]
                                  exact this)
                · exfalso
                  have hga := hok a ha2
                  first | exact c_99 hga.1 | exact c_124 hga.2
        refine j_lv [some (.ref 66), some (.int (nI s)), some (.int (nI i)), some (.int (nI q)), some (.int (nI k)), some (.int 0), some (.int (nI (60 * s + i))), some (.int (nI 0))] ⟨rfl, rfl, rfl, rfl, rfl, rfl, rfl, rfl, trivial⟩ ?_
        exact lp73 (q + 1) 0 _ (by omega) (by omega) jeq.rf (fun a ha => absurd ha (by omega))
      · exfalso
        clear hE hr hR X
        have e1 : (-1 : Int32).toInt = -1 := by decide
        (try simp only [lg_cmp_lt, lg_cmp_gt, lg_cmp_le, lg_cmp_ge] at *); (try simp (disch := omega) only [Int64.le_iff_toInt_le, Int64.lt_iff_toInt_lt, Int32.le_iff_toInt_le, Int32.lt_iff_toInt_lt, fa_eq, fa_lit, fa_litL, nI_toInt, pk_lT, Int32.toInt_toInt64, jadd64, jin, jnoneT] at *); omega
