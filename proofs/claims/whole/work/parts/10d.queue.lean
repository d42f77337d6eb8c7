theorem jmx0 {t c : Nat} (ht : t < 2 ^ 30) (hc : c < 2 ^ 30) : (if (0 : Int32) < nI t - nI c then nI t - nI c else 0) = nI (t - c) := by
  rcases Nat.lt_or_ge c t with h | h
  · rw [pk_sub (Nat.le_of_lt h), if_pos (by rw [show (0 : Int32) = nI 0 from rfl, nI_ltI (by omega) (by omega)]; omega)]
  · rw [show t - c = 0 by omega]
    refine if_neg ?_
    rcases Nat.eq_or_lt_of_le h with e | e
    · subst e
      rw [pk_sub (Nat.le_refl _), Nat.sub_self]
      decide
    · have := pk_sneg hc e
      rw [Int32.not_lt]
      exact Int32.le_of_lt this
theorem jmxI {a b : Nat} (ha : a < 2 ^ 31) (hb : b < 2 ^ 31) : (if nI a < nI b then nI b else nI a) = nI (max a b) := by
  rw [jmaxN]
  by_cases h : a < b
  · rw [if_pos h, if_pos ((nI_ltI ha hb).mpr h)]
  · rw [if_neg h, if_neg (fun z => h ((nI_ltI ha hb).mp z))]
theorem nF_app {p : List Nat} {w i : Nat} : nF (p ++ [w]) i = if i < p.length then nF p i else if i = p.length then w else 0 := by
  unfold nF
  rw [List.getD_eq_getElem?_getD, List.getD_eq_getElem?_getD]
  by_cases h : i < p.length
  · rw [if_pos h, List.getElem?_append_left h]
  · rw [if_neg h, List.getElem?_append_right (by omega)]
    by_cases e : i = p.length
    · subst e
      rw [if_pos rfl, Nat.sub_self]
      rfl
    · rw [if_neg e, List.getElem?_eq_none (by show 1 ≤ _; omega)]
      rfl
/-- the class' state after the works below w were tried at a place -/
def qG (q r P : Nat) (pre : List Nat) (w : Nat) : List (List Nat) := if P.testBit w = true then [] else qP q r (P ||| 2 ^ w) (pre ++ [w])
def qSt (c l : Nat → Nat) (q r P : Nat) (pre : List Nat) (st : Nat × List Nat) (w : Nat) : Nat × List Nat := ((List.range w).flatMap (qG q r P pre)).foldl (qS (qSum c l)) st
theorem qSt_s {c l : Nat → Nat} {q r P w : Nat} {pre : List Nat} {st : Nat × List Nat} : qSt c l q r P pre st (w + 1) = (qG q r P pre w).foldl (qS (qSum c l)) (qSt c l q r P pre st w) := by
  unfold qSt
  rw [List.range_succ, List.flatMap_append, List.foldl_append]
  show ((qG q r P pre w ++ []).foldl _ _) = _
  rw [List.append_nil]
theorem qSt_end {c l : Nat → Nat} {q r P : Nat} {pre : List Nat} {st : Nat × List Nat} : qSt c l q r P pre st q = (qP q (r + 1) P pre).foldl (qS (qSum c l)) st := rfl
theorem qSt_pl {c l : Nat → Nat} {q r P w : Nat} {pre : List Nat} {st : Nat × List Nat} (h : P.testBit w = true) : qSt c l q r P pre st w = qSt c l q r P pre st (w + 1) := by
  rw [qSt_s]
  unfold qG
  rw [if_pos h]
  rfl
theorem qSt_go {c l : Nat → Nat} {q r P w : Nat} {pre : List Nat} {st : Nat × List Nat} (h : ¬ P.testBit w = true) : (qP q r (P ||| 2 ^ w) (pre ++ [w])).foldl (qS (qSum c l)) (qSt c l q r P pre st w) = qSt c l q r P pre st (w + 1) := by
  rw [qSt_s]
  unfold qG
  rw [if_neg h]
theorem qSt_le {c l : Nat → Nat} {q r P w : Nat} {pre : List Nat} {st : Nat × List Nat} : (qSt c l q r P pre st w).1 ≤ st.1 := qS_le _ _
def jExH (mem : jMem) (r q dp P : Nat) (pre : List Nat) (now sum v : Nat) (ord : List Nat) (c l : Nat → Nat) : Prop := dp + r = q ∧ q ≤ 7 ∧ mem 58 5 = nI q ∧ pre.length = dp ∧ (∀ i, i < dp → mem 61 i = nI (nF pre i)) ∧ P < 128 ∧ qC P q = r ∧ qW c l pre (0, 0) = (now, sum) ∧ (∀ w, c w ≤ 999) ∧ (∀ w, l w ≤ 99) ∧ (∀ w, w < q → mem 59 w = nI (c w)) ∧ (∀ w, w < q → mem 60 w = nI (l w)) ∧ mem 58 4 = nI v ∧ v ≤ 2147483647 ∧ sum + qT c now P q < v ∧ (v = 2147483647 ∨ jQb q ord (mem 62))
def jExP (mem : jMem) (q dp : Nat) (F : Nat × List Nat) (m2 : jMem) : Prop := jeq [58, 61, 62] mem m2 ∧ m2 58 5 = nI q ∧ m2 58 4 = nI F.1 ∧ (F.1 = 2147483647 ∨ jQb q F.2 (m2 62)) ∧ ∀ i, i < dp → m2 61 i = mem 61 i
set_option maxRecDepth 4000 in
set_option maxHeartbeats 1000000 in
theorem c_ltake_bad (np : Nat) (mem : jMem) (s i q : Nat) (hs : s < 8) (hq : q ≤ 7) (hi : i + 2 * q ≤ 60) (hno : ¬ jQok (fun k => mem (3 + s) (i + k)) q) : jPi yX4_take cX4_take 5 .boolean 2 [.ref 58, .ref (3 + s), .int (nI i), .int (nI q)] np mem (fun v c => v = 0 ∧ jeq [58, 59, 60] mem c) := by
  refine jPi.of (own := RX4) rfl rfl (Nat.le_of_ble_eq_true rfl) (fun G X hR hr hE => ?_)
  refine j_aload_n X dX4_take_0 rfl ?_
  refine j_iload_n X dX4_take_1 rfl ?_
  refine j_putI X 4 5 (by decide) (by decide) rfl rfl rfl rfl u209 (o58 np) (k58 np) dX4_take_2 ?_
  refine j_iconst X dX4_take_5 0 (by decide) ?_
  refine j_istore X dX4_take_6 (by decide) ?_
  have lp8 : ∀ (n : Nat) (a : Nat) (m2 : jMem), a ≤ q → q + 1 ≤ a + n → jeq [58, 59, 60] mem m2 → jQok (fun k => mem (3 + s) (i + k)) a → J G RX4 cX4_take 5 0 0 8 (jlv [some (.ref 58), some (.ref (3 + s)), some (.int (nI i)), some (.int (nI q)), some (.int (nI a))]) [] (jS np) (m2) := by
    intro n
    induction n with
    | zero =>
      intro a m2 ha hn hJ hB
      exact absurd hn (by omega)
    | succ n ih8 =>
      intro a m2 ha hn hJ hB
      refine j_iload X dX4_take_8 rfl ?_
      refine j_iload_n X dX4_take_10 rfl ?_
      refine j_icmp_ge X 87 dX4_take_11 (by decide) (fun c_11 => ?_) (fun c_11 => ?_)
      · exfalso
        obtain rfl : a = q := by clear hE hr hR X hB hno hJ; (try simp only [lg_cmp_lt, lg_cmp_gt, lg_cmp_le, lg_cmp_ge] at *); (try simp (disch := omega) only [Int64.le_iff_toInt_le, Int64.lt_iff_toInt_lt, Int32.le_iff_toInt_le, Int32.lt_iff_toInt_lt, fa_eq, fa_lit, fa_litL, nI_toInt, pk_lT, Int32.toInt_toInt64, jadd64, jin, jnoneT] at *); omega
        exact hno hB
      · have ha2 : a < q := by clear hE hr hR X hB hJ hno; (try simp only [lg_cmp_lt, lg_cmp_gt, lg_cmp_le, lg_cmp_ge] at *); (try simp (disch := omega) only [Int64.le_iff_toInt_le, Int64.lt_iff_toInt_lt, Int32.le_iff_toInt_le, Int32.lt_iff_toInt_lt, fa_eq, fa_lit, fa_litL, nI_toInt, pk_lT, Int32.toInt_toInt64, jadd64, jin, jnoneT] at *); omega
        refine j_aload_n X dX4_take_14 rfl ?_
        refine j_getR X 4 0 (by decide) (by decide) rfl u202 (o58 np) (k58 np) _ (p58_0 np) dX4_take_15 ?_
        refine j_iload X dX4_take_18 rfl ?_
        refine j_aload_n X dX4_take_20 rfl ?_
        refine j_iload_n X dX4_take_21 rfl ?_
        refine j_iconst X dX4_take_22 2 (by decide) ?_
        refine j_iload X dX4_take_23 rfl ?_
        refine j_imul X dX4_take_25 ?_
        refine j_iadd X dX4_take_26 ?_
        refine j_nrm _ (by first | (simp only [fa_lit, pk_mul, nI_add]; done) | (simp only [fa_lit, pk_mul, nI_add]; rfl) | rfl) ?_
        refine j_ialdN X (o2_r np (by omega)) (k2_r np (by omega)) (by rw [l2_r np (by omega)]; omega) (by rw [l2_r np (by omega)]; decide) (mem (3 + s)) (by first | exact (jeq.up (o := 59) hJ (by decide)) _ (by simp only [List.mem_cons, List.not_mem_nil, or_false]; omega) | exact hJ _ (by simp only [List.mem_cons, List.not_mem_nil, or_false]; omega)) dX4_take_27 ?_
        refine j_nrm2 _ (by first | (simp only [fa_lit, pk_mul, nI_add]; done) | (simp only [fa_lit, pk_mul, nI_add]; rfl) | rfl) ?_
        refine j_iastN X (o59 np) (k59 np) (by rw [l59]; omega) (by rw [l59]; decide) dX4_take_28 ?_
        refine j_aload_n X dX4_take_29 rfl ?_
        refine j_getR X 4 1 (by decide) (by decide) rfl u203 (o58 np) (k58 np) _ (p58_1 np) dX4_take_30 ?_
        refine j_iload X dX4_take_33 rfl ?_
        refine j_aload_n X dX4_take_35 rfl ?_
        refine j_iload_n X dX4_take_36 rfl ?_
        refine j_iconst X dX4_take_37 2 (by decide) ?_
        refine j_iload X dX4_take_38 rfl ?_
        refine j_imul X dX4_take_40 ?_
        refine j_iadd X dX4_take_41 ?_
        refine j_iconst X dX4_take_42 1 (by decide) ?_
        refine j_iadd X dX4_take_43 ?_
        refine j_nrm _ (by first | (simp only [fa_lit, pk_mul, nI_add]; done) | (simp only [fa_lit, pk_mul, nI_add]; rfl) | rfl) ?_
        refine j_ialdN X (o2_r np (by omega)) (k2_r np (by omega)) (by rw [l2_r np (by omega)]; omega) (by rw [l2_r np (by omega)]; decide) (mem (3 + s)) (by first | exact (jeq.up (o := 59) hJ (by decide)) _ (by simp only [List.mem_cons, List.not_mem_nil, or_false]; omega) | exact hJ _ (by simp only [List.mem_cons, List.not_mem_nil, or_false]; omega)) dX4_take_44 ?_
        refine j_nrm2 _ (by first | (simp only [fa_lit, pk_mul, nI_add]; done) | (simp only [fa_lit, pk_mul, nI_add]; rfl) | rfl) ?_
        refine j_iastN X (o60 np) (k60 np) (by rw [l60]; omega) (by rw [l60]; decide) dX4_take_45 ?_
        refine j_aload_n X dX4_take_46 rfl ?_
        refine j_getR X 4 0 (by decide) (by decide) rfl u202 (o58 np) (k58 np) _ (p58_0 np) dX4_take_47 ?_
        refine j_iload X dX4_take_50 rfl ?_
        refine j_nrm _ (by first | (simp only [fa_lit, pk_mul, nI_add]; done) | (simp only [fa_lit, pk_mul, nI_add]; rfl) | rfl) ?_
        refine j_ialdN X (o59 np) (k59 np) (by rw [l59]; omega) (by rw [l59]; decide) _ rfl dX4_take_52 ?_
        refine j_nrm (mem (3 + s) (i + 2 * a)) (by simp [jup, va_up]) ?_
        refine j_iconst X dX4_take_53 0 (by decide) ?_
        refine j_sipush X dX4_take_54 999 (by decide) ?_
        refine s_callNi X hR (c_withinI np _ _ _ _ (0) (999) rfl rfl) rfl u293 (by decide) u292 u1 hyX10_within (by decide) (by decide) (Nat.le_of_ble_eq_true rfl) dX4_take_57 (fun v_57 m_57 h_57 => ?_)
        obtain ⟨e1, e2⟩ := h_57; have e1 := e1.symm; have e2 := e2.symm; subst e1; subst e2
        refine j_ifb_eq X 79 dX4_take_60 (by decide) (fun c_60 => ?_) (fun c_60 => ?_)
        · refine j_iconst X dX4_take_79 0 (by decide) ?_
          refine s_iret X hE hr dX4_take_80 (by first | exact jb_nar | rfl) ?_
          exact ⟨rfl, jeq.up (jeq.up hJ (by decide)) (by decide)⟩
        · refine j_aload_n X dX4_take_63 rfl ?_
          refine j_getR X 4 1 (by decide) (by decide) rfl u203 (o58 np) (k58 np) _ (p58_1 np) dX4_take_64 ?_
          refine j_iload X dX4_take_67 rfl ?_
          refine j_nrm _ (by first | (simp only [fa_lit, pk_mul, nI_add]; done) | (simp only [fa_lit, pk_mul, nI_add]; rfl) | rfl) ?_
          refine j_ialdN X (o60 np) (k60 np) (by rw [l60]; omega) (by rw [l60]; decide) _ rfl dX4_take_69 ?_
          refine j_nrm (mem (3 + s) (i + 2 * a + 1)) (by simp [jup, va_up]) ?_
          refine j_iconst X dX4_take_70 1 (by decide) ?_
          refine j_bipush X dX4_take_71 99 (by decide) ?_
          refine s_callNi X hR (c_withinI np _ _ _ _ (1) (99) rfl rfl) rfl u293 (by decide) u292 u1 hyX10_within (by decide) (by decide) (Nat.le_of_ble_eq_true rfl) dX4_take_73 (fun v_73 m_73 h_73 => ?_)
          obtain ⟨e1, e2⟩ := h_73; have e1 := e1.symm; have e2 := e2.symm; subst e1; subst e2
          refine j_ifb_ne X 81 dX4_take_76 (by decide) (fun c_76 => ?_) (fun c_76 => ?_)
          · refine j_iinc X dX4_take_81 rfl 1 rfl ?_
            refine j_goto X 8 dX4_take_84 (by decide) ?_
            refine j_lv [some (.ref 58), some (.ref (3 + s)), some (.int (nI i)), some (.int (nI q)), some (.int (nI (a + 1)))] ⟨rfl, rfl, rfl, rfl, (congrArg (fun z => some (Value.int z)) (nI_1 _)), trivial⟩ ?_
            exact ih8 (a + 1) _ (by omega) (by omega) (jeq.up (jeq.up hJ (by decide)) (by decide)) (jQok_s hB c_60 c_76)
          · refine j_iconst X dX4_take_79 0 (by decide) ?_
            refine s_iret X hE hr dX4_take_80 (by first | exact jb_nar | rfl) ?_
            exact ⟨rfl, jeq.up (jeq.up hJ (by decide)) (by decide)⟩
  refine j_lv [some (.ref 58), some (.ref (3 + s)), some (.int (nI i)), some (.int (nI q)), some (.int (nI 0))] ⟨rfl, rfl, rfl, rfl, rfl, trivial⟩ ?_
  exact lp8 (q + 1) 0 _ (by omega) (by omega) (jeq.up jeq.rf (by decide)) (fun a ha => absurd ha (by omega))
set_option maxRecDepth 4000 in
set_option maxHeartbeats 1000000 in
theorem c_ltake (np : Nat) (mem : jMem) (s i q : Nat) (hs : s < 8) (hq : q ≤ 7) (hi : i + 2 * q ≤ 60) (hok : jQok (fun k => mem (3 + s) (i + k)) q) : jPi yX4_take cX4_take 5 .boolean 2 [.ref 58, .ref (3 + s), .int (nI i), .int (nI q)] np mem (fun v c => v = 1 ∧ jeq [58, 59, 60] mem c ∧ c 58 5 = nI q ∧ ∀ j, j < q → c 59 j = (fun k => mem (3 + s) (i + k)) (2 * j) ∧ c 60 j = (fun k => mem (3 + s) (i + k)) (2 * j + 1)) := by
  refine jPi.of (own := RX4) rfl rfl (Nat.le_of_ble_eq_true rfl) (fun G X hR hr hE => ?_)
  refine j_aload_n X dX4_take_0 rfl ?_
  refine j_iload_n X dX4_take_1 rfl ?_
  refine j_putI X 4 5 (by decide) (by decide) rfl rfl rfl rfl u209 (o58 np) (k58 np) dX4_take_2 ?_
  refine j_iconst X dX4_take_5 0 (by decide) ?_
  refine j_istore X dX4_take_6 (by decide) ?_
  have lp8 : ∀ (n : Nat) (a : Nat) (m2 : jMem), a ≤ q → q + 1 ≤ a + n → jeq [58, 59, 60] mem m2 → m2 58 5 = nI q → (∀ j, j < a → m2 59 j = (fun k => mem (3 + s) (i + k)) (2 * j) ∧ m2 60 j = (fun k => mem (3 + s) (i + k)) (2 * j + 1)) → J G RX4 cX4_take 5 0 0 8 (jlv [some (.ref 58), some (.ref (3 + s)), some (.int (nI i)), some (.int (nI q)), some (.int (nI a))]) [] (jS np) (m2) := by
    intro n
    induction n with
    | zero =>
      intro a m2 ha hn hJ hW hB
      exact absurd hn (by omega)
    | succ n ih8 =>
      intro a m2 ha hn hJ hW hB
      refine j_iload X dX4_take_8 rfl ?_
      refine j_iload_n X dX4_take_10 rfl ?_
      refine j_icmp_ge X 87 dX4_take_11 (by decide) (fun c_11 => ?_) (fun c_11 => ?_)
      · obtain rfl : q = a := by clear hE hr hR X hB hok hJ hW; (try simp only [lg_cmp_lt, lg_cmp_gt, lg_cmp_le, lg_cmp_ge] at *); (try simp (disch := omega) only [Int64.le_iff_toInt_le, Int64.lt_iff_toInt_lt, Int32.le_iff_toInt_le, Int32.lt_iff_toInt_lt, fa_eq, fa_lit, fa_litL, nI_toInt, pk_lT, Int32.toInt_toInt64, jadd64, jin, jnoneT] at *); omega
        refine j_iconst X dX4_take_87 1 (by decide) ?_
        refine s_iret X hE hr dX4_take_88 (by first | exact jb_nar | rfl) ?_
        exact ⟨rfl, hJ, hW, hB⟩
      · have ha2 : a < q := by clear hE hr hR X hB hJ hok hW; (try simp only [lg_cmp_lt, lg_cmp_gt, lg_cmp_le, lg_cmp_ge] at *); (try simp (disch := omega) only [Int64.le_iff_toInt_le, Int64.lt_iff_toInt_lt, Int32.le_iff_toInt_le, Int32.lt_iff_toInt_lt, fa_eq, fa_lit, fa_litL, nI_toInt, pk_lT, Int32.toInt_toInt64, jadd64, jin, jnoneT] at *); omega
        refine j_aload_n X dX4_take_14 rfl ?_
        refine j_getR X 4 0 (by decide) (by decide) rfl u202 (o58 np) (k58 np) _ (p58_0 np) dX4_take_15 ?_
        refine j_iload X dX4_take_18 rfl ?_
        refine j_aload_n X dX4_take_20 rfl ?_
        refine j_iload_n X dX4_take_21 rfl ?_
        refine j_iconst X dX4_take_22 2 (by decide) ?_
        refine j_iload X dX4_take_23 rfl ?_
        refine j_imul X dX4_take_25 ?_
        refine j_iadd X dX4_take_26 ?_
        refine j_nrm _ (by first | (simp only [fa_lit, pk_mul, nI_add]; done) | (simp only [fa_lit, pk_mul, nI_add]; rfl) | rfl) ?_
        refine j_ialdN X (o2_r np (by omega)) (k2_r np (by omega)) (by rw [l2_r np (by omega)]; omega) (by rw [l2_r np (by omega)]; decide) (mem (3 + s)) (by first | exact (jeq.up (o := 59) hJ (by decide)) _ (by simp only [List.mem_cons, List.not_mem_nil, or_false]; omega) | exact hJ _ (by simp only [List.mem_cons, List.not_mem_nil, or_false]; omega)) dX4_take_27 ?_
        refine j_nrm2 _ (by first | (simp only [fa_lit, pk_mul, nI_add]; done) | (simp only [fa_lit, pk_mul, nI_add]; rfl) | rfl) ?_
        refine j_iastN X (o59 np) (k59 np) (by rw [l59]; omega) (by rw [l59]; decide) dX4_take_28 ?_
        refine j_aload_n X dX4_take_29 rfl ?_
        refine j_getR X 4 1 (by decide) (by decide) rfl u203 (o58 np) (k58 np) _ (p58_1 np) dX4_take_30 ?_
        refine j_iload X dX4_take_33 rfl ?_
        refine j_aload_n X dX4_take_35 rfl ?_
        refine j_iload_n X dX4_take_36 rfl ?_
        refine j_iconst X dX4_take_37 2 (by decide) ?_
        refine j_iload X dX4_take_38 rfl ?_
        refine j_imul X dX4_take_40 ?_
        refine j_iadd X dX4_take_41 ?_
        refine j_iconst X dX4_take_42 1 (by decide) ?_
        refine j_iadd X dX4_take_43 ?_
        refine j_nrm _ (by first | (simp only [fa_lit, pk_mul, nI_add]; done) | (simp only [fa_lit, pk_mul, nI_add]; rfl) | rfl) ?_
        refine j_ialdN X (o2_r np (by omega)) (k2_r np (by omega)) (by rw [l2_r np (by omega)]; omega) (by rw [l2_r np (by omega)]; decide) (mem (3 + s)) (by first | exact (jeq.up (o := 59) hJ (by decide)) _ (by simp only [List.mem_cons, List.not_mem_nil, or_false]; omega) | exact hJ _ (by simp only [List.mem_cons, List.not_mem_nil, or_false]; omega)) dX4_take_44 ?_
        refine j_nrm2 _ (by first | (simp only [fa_lit, pk_mul, nI_add]; done) | (simp only [fa_lit, pk_mul, nI_add]; rfl) | rfl) ?_
        refine j_iastN X (o60 np) (k60 np) (by rw [l60]; omega) (by rw [l60]; decide) dX4_take_45 ?_
        refine j_aload_n X dX4_take_46 rfl ?_
        refine j_getR X 4 0 (by decide) (by decide) rfl u202 (o58 np) (k58 np) _ (p58_0 np) dX4_take_47 ?_
        refine j_iload X dX4_take_50 rfl ?_
        refine j_nrm _ (by first | (simp only [fa_lit, pk_mul, nI_add]; done) | (simp only [fa_lit, pk_mul, nI_add]; rfl) | rfl) ?_
        refine j_ialdN X (o59 np) (k59 np) (by rw [l59]; omega) (by rw [l59]; decide) _ rfl dX4_take_52 ?_
        refine j_nrm (mem (3 + s) (i + 2 * a)) (by simp [jup, va_up]) ?_
        refine j_iconst X dX4_take_53 0 (by decide) ?_
        refine j_sipush X dX4_take_54 999 (by decide) ?_
        refine s_callNi X hR (c_withinI np _ _ _ _ (0) (999) rfl rfl) rfl u293 (by decide) u292 u1 hyX10_within (by decide) (by decide) (Nat.le_of_ble_eq_true rfl) dX4_take_57 (fun v_57 m_57 h_57 => ?_)
        obtain ⟨e1, e2⟩ := h_57; have e1 := e1.symm; have e2 := e2.symm; subst e1; subst e2
        refine j_ifb_eq X 79 dX4_take_60 (by decide) (fun c_60 => ?_) (fun c_60 => ?_)
        · exfalso
          have hga := hok a ha2
          first | exact c_60 hga.1 | exact c_76 hga.2
        · refine j_aload_n X dX4_take_63 rfl ?_
          refine j_getR X 4 1 (by decide) (by decide) rfl u203 (o58 np) (k58 np) _ (p58_1 np) dX4_take_64 ?_
          refine j_iload X dX4_take_67 rfl ?_
          refine j_nrm _ (by first | (simp only [fa_lit, pk_mul, nI_add]; done) | (simp only [fa_lit, pk_mul, nI_add]; rfl) | rfl) ?_
          refine j_ialdN X (o60 np) (k60 np) (by rw [l60]; omega) (by rw [l60]; decide) _ rfl dX4_take_69 ?_
          refine j_nrm (mem (3 + s) (i + 2 * a + 1)) (by simp [jup, va_up]) ?_
          refine j_iconst X dX4_take_70 1 (by decide) ?_
          refine j_bipush X dX4_take_71 99 (by decide) ?_
          refine s_callNi X hR (c_withinI np _ _ _ _ (1) (99) rfl rfl) rfl u293 (by decide) u292 u1 hyX10_within (by decide) (by decide) (Nat.le_of_ble_eq_true rfl) dX4_take_73 (fun v_73 m_73 h_73 => ?_)
          obtain ⟨e1, e2⟩ := h_73; have e1 := e1.symm; have e2 := e2.symm; subst e1; subst e2
          refine j_ifb_ne X 81 dX4_take_76 (by decide) (fun c_76 => ?_) (fun c_76 => ?_)
          · refine j_iinc X dX4_take_81 rfl 1 rfl ?_
            refine j_goto X 8 dX4_take_84 (by decide) ?_
            refine j_lv [some (.ref 58), some (.ref (3 + s)), some (.int (nI i)), some (.int (nI q)), some (.int (nI (a + 1)))] ⟨rfl, rfl, rfl, rfl, (congrArg (fun z => some (Value.int z)) (nI_1 _)), trivial⟩ ?_
            exact ih8 (a + 1) _ (by omega) (by omega) (jeq.up (jeq.up hJ (by decide)) (by decide)) hW (fun j hj => by
                          rcases Nat.lt_or_ge j a with z | z
                          · have hne : ¬ j = a := by omega
                            have := hB j z
                            simp only [jup, va_up, hne, if_true, if_false, Nat.reduceEqDiff]
                            exact this
                          · obtain rfl : j = a := by omega
                            exact ⟨by simp [jup, va_up], by simp [jup, va_up, Nat.add_assoc]⟩)
          · exfalso
            have hga := hok a ha2
            first | exact c_60 hga.1 | exact c_76 hga.2
  refine j_lv [some (.ref 58), some (.ref (3 + s)), some (.int (nI i)), some (.int (nI q)), some (.int (nI 0))] ⟨rfl, rfl, rfl, rfl, rfl, trivial⟩ ?_
  exact lp8 (q + 1) 0 _ (by omega) (by omega) (jeq.up jeq.rf (by decide)) (by simp [jup, va_up]) (fun a ha => absurd ha (by omega))
set_option maxRecDepth 4000 in
set_option maxHeartbeats 1000000 in
theorem c_waitedAt (np : Nat) (mem : jMem) (t P q : Nat) (c : Nat → Nat) (hq : q ≤ 7) (hP : P < 128) (ht : t ≤ 3000) (hW : mem 58 5 = nI q) (hc : ∀ w, c w ≤ 999) (hcm : ∀ w, w < q → mem 59 w = nI (c w)) : jPi yX4_waitedAt cX4_waitedAt 5 .int 2 [.ref 58, .int (nI t), .int (nI P)] np mem (fun v c2 => v = nI (qT c t P q) ∧ c2 = mem) := by
  refine jPi.of (own := RX4) rfl rfl (Nat.le_of_ble_eq_true rfl) (fun G X hR hr hE => ?_)
  refine j_iconst X dX4_waitedAt_0 0 (by decide) ?_
  refine j_istore_n X dX4_waitedAt_1 (by decide) ?_
  refine j_iconst X dX4_waitedAt_2 0 (by decide) ?_
  refine j_istore X dX4_waitedAt_3 (by decide) ?_
  have lp5 : ∀ (n : Nat) (w : Nat), w ≤ q → q + 1 ≤ w + n → J G RX4 cX4_waitedAt 5 0 0 5 (jlv [some (.ref 58), some (.int (nI t)), some (.int (nI P)), some (.int (nI (qT c t P w))), some (.int (nI w))]) [] (jS np) (mem) := by
    intro n
    induction n with
    | zero =>
      intro w hw hn
      exact absurd hn (by omega)
    | succ n ih5 =>
      intro w hw hn
      refine j_iload X dX4_waitedAt_5 rfl ?_
      refine j_aload_n X dX4_waitedAt_7 rfl ?_
      refine j_getF X 4 5 (by decide) (by decide) rfl u209 (o58 np) (k58 np) (mem 58) rfl dX4_waitedAt_8 ?_
      refine j_nrm (nI q) hW ?_
      refine j_icmp_ge X 45 dX4_waitedAt_11 (by decide) (fun c_11 => ?_) (fun c_11 => ?_)
      · obtain rfl : w = q := by clear hE hr hR X hc hcm; (try simp only [lg_cmp_lt, lg_cmp_gt, lg_cmp_le, lg_cmp_ge] at *); (try simp (disch := omega) only [Int64.le_iff_toInt_le, Int64.lt_iff_toInt_lt, Int32.le_iff_toInt_le, Int32.lt_iff_toInt_lt, fa_eq, fa_lit, fa_litL, nI_toInt, pk_lT, Int32.toInt_toInt64, jadd64, jin, jnoneT] at *); omega
        refine j_iload_n X dX4_waitedAt_45 rfl ?_
        refine s_iret X hE hr dX4_waitedAt_46 rfl ?_
        first | exact ⟨rfl, rfl⟩ | (exfalso; clear hE hr hR X; (try simp only [lg_cmp_lt, lg_cmp_gt, lg_cmp_le, lg_cmp_ge] at *); (try simp (disch := omega) only [Int64.le_iff_toInt_le, Int64.lt_iff_toInt_lt, Int32.le_iff_toInt_le, Int32.lt_iff_toInt_lt, fa_eq, fa_lit, fa_litL, nI_toInt, pk_lT, Int32.toInt_toInt64, jadd64, jin, jnoneT] at *); omega)
      · have hw2 : w < q := by clear hE hr hR X hc hcm; (try simp only [lg_cmp_lt, lg_cmp_gt, lg_cmp_le, lg_cmp_ge] at *); (try simp (disch := omega) only [Int64.le_iff_toInt_le, Int64.lt_iff_toInt_lt, Int32.le_iff_toInt_le, Int32.lt_iff_toInt_lt, fa_eq, fa_lit, fa_litL, nI_toInt, pk_lT, Int32.toInt_toInt64, jadd64, jin, jnoneT] at *); omega
        have hcw := hc w
        refine j_iload_n X dX4_waitedAt_14 rfl ?_
        refine j_iload X dX4_waitedAt_15 rfl ?_
        refine s_callNi X hR (c_hasBit np _ _ _) rfl u498 (by decide) u497 u1 hyX10_hasBit (by decide) (by decide) (Nat.le_of_ble_eq_true rfl) dX4_waitedAt_17 (fun v_17 m_17 h_17 => ?_)
        obtain ⟨e1, e2⟩ := h_17; have e1 := e1.symm; have e2 := e2.symm; subst e1; subst e2
        refine j_ifb_ne X 39 dX4_waitedAt_20 (by decide) (fun c_20 => ?_) (fun c_20 => ?_)
        · refine j_iinc X dX4_waitedAt_39 rfl 1 rfl ?_
          refine j_goto X 5 dX4_waitedAt_42 (by decide) ?_
          refine j_lv [some (.ref 58), some (.int (nI t)), some (.int (nI P)), some (.int (nI (qT c t P (w + 1)))), some (.int (nI (w + 1)))] ⟨rfl, rfl, rfl, (congrArg (fun z => some (Value.int z)) (congrArg nI (by first | exact (congrArg (fun z => qT c t P w + z) (if_neg (fun z => c_20 ((jbit (by omega) (by omega)).mpr z)))).symm | exact ((congrArg (fun z => qT c t P w + z) (if_pos ((jbit (by omega) (by omega)).mp c_20))).trans (Nat.add_zero _)).symm))), (congrArg (fun z => some (Value.int z)) (nI_1 _)), trivial⟩ ?_
          exact ih5 (w + 1) (by omega) (by omega)
        · refine j_iload_n X dX4_waitedAt_23 rfl ?_
          refine j_iconst X dX4_waitedAt_24 0 (by decide) ?_
          refine j_iload_n X dX4_waitedAt_25 rfl ?_
          refine j_aload_n X dX4_waitedAt_26 rfl ?_
          refine j_getR X 4 0 (by decide) (by decide) rfl u202 (o58 np) (k58 np) _ (p58_0 np) dX4_waitedAt_27 ?_
          refine j_iload X dX4_waitedAt_30 rfl ?_
          refine j_nrm _ (by first | (simp only [fa_lit, pk_mul, nI_add]; done) | (simp only [fa_lit, pk_mul, nI_add]; rfl) | rfl) ?_
          refine j_ialdN X (o59 np) (k59 np) (by rw [l59]; omega) (by rw [l59]; decide) (mem 59) rfl dX4_waitedAt_32 ?_
          refine j_nrm (nI (c w)) (hcm w hw2) ?_
          refine j_isub X dX4_waitedAt_33 ?_
          refine j_mmax X hR (by decide) u843 (Nat.le_of_ble_eq_true rfl) ⟨Nat.le_refl _, Nat.le_refl _⟩ dX4_waitedAt_34 ?_
          refine j_nrm (nI (t - c w)) (jmx0 (by omega) (by omega)) ?_
          refine j_iadd X dX4_waitedAt_37 ?_
          refine j_nrm (nI (qT c t P w + (t - c w))) (nI_add _ _) ?_
          refine j_istore_n X dX4_waitedAt_38 (by decide) ?_
          refine j_iinc X dX4_waitedAt_39 rfl 1 rfl ?_
          refine j_goto X 5 dX4_waitedAt_42 (by decide) ?_
          refine j_lv [some (.ref 58), some (.int (nI t)), some (.int (nI P)), some (.int (nI (qT c t P (w + 1)))), some (.int (nI (w + 1)))] ⟨rfl, rfl, rfl, (congrArg (fun z => some (Value.int z)) (congrArg nI (by first | exact (congrArg (fun z => qT c t P w + z) (if_neg (fun z => c_20 ((jbit (by omega) (by omega)).mpr z)))).symm | exact ((congrArg (fun z => qT c t P w + z) (if_pos ((jbit (by omega) (by omega)).mp c_20))).trans (Nat.add_zero _)).symm))), (congrArg (fun z => some (Value.int z)) (nI_1 _)), trivial⟩ ?_
          exact ih5 (w + 1) (by omega) (by omega)
  refine j_lv [some (.ref 58), some (.int (nI t)), some (.int (nI P)), some (.int (nI (qT c t P 0))), some (.int (nI 0))] ⟨rfl, rfl, rfl, rfl, rfl, trivial⟩ ?_
  exact lp5 (q + 1) 0 (by omega) (by omega)
set_option maxRecDepth 4000 in
set_option maxHeartbeats 1000000 in
theorem c_extend0 (np : Nat) (mem : jMem) (q dp P : Nat) (pre : List Nat) (now sum v : Nat) (ord : List Nat) (c l : Nat → Nat) (H : jExH mem 0 q dp P pre now sum v ord c l) : jPv yX4_extend cX4_extend 10 3 [.ref 58, .int (nI dp), .int (nI P), .int (nI now), .int (nI sum)] np mem (jExP mem q dp ((qP q 0 P pre).foldl (qS (qSum c l)) (v, ord))) := by
  refine jPv.of (own := RX4) rfl rfl (Nat.le_of_ble_eq_true rfl) (fun G X hR hr hE => ?_)
  obtain ⟨hdr, hq, hW, hpl, hpre, hP, hC, hqw, hc, hl, hcm, hlm, hv, hv2, hlt, hob⟩ := H
  obtain rfl : dp = q := by omega
  have hs1 : qSum c l pre = sum := by unfold qSum; rw [hqw]
  have hst : (qP dp 0 P pre).foldl (qS (qSum c l)) (v, ord) = (sum, pre) := by
    show qS (qSum c l) (v, ord) pre = _
    unfold qS
    rw [hs1, if_pos (show sum < v by omega)]
  refine j_iload_n X dX4_extend_0 rfl ?_
  refine j_aload_n X dX4_extend_1 rfl ?_
  refine j_getF X 4 5 (by decide) (by decide) rfl u209 (o58 np) (k58 np) (mem 58) rfl dX4_extend_2 ?_
  refine j_nrm (nI dp) hW ?_
  refine j_icmp_lt X 32 dX4_extend_5 (by decide) (fun c_5 => absurd c_5 (Int32.not_lt.mpr (Int32.le_refl _))) (fun c_5 => ?_)
  refine j_aload_n X dX4_extend_8 rfl ?_
  refine j_iload X dX4_extend_9 rfl ?_
  refine j_putI X 4 4 (by decide) (by decide) rfl rfl rfl rfl u207 (o58 np) (k58 np) dX4_extend_11 ?_
  refine j_aload_n X dX4_extend_14 rfl ?_
  refine j_getR X 4 2 (by decide) (by decide) rfl u204 (o58 np) (k58 np) _ (p58_2 np) dX4_extend_15 ?_
  refine j_iconst X dX4_extend_18 0 (by decide) ?_
  refine j_aload_n X dX4_extend_19 rfl ?_
  refine j_getR X 4 3 (by decide) (by decide) rfl u205 (o58 np) (k58 np) _ (p58_3 np) dX4_extend_20 ?_
  refine j_iconst X dX4_extend_23 0 (by decide) ?_
  refine j_aload_n X dX4_extend_24 rfl ?_
  refine j_getF X 4 5 (by decide) (by decide) rfl u209 (o58 np) (k58 np) _ rfl dX4_extend_25 ?_
  refine j_nrm (nI dp) hW ?_
  refine j_acopy (sp := 0) (dp := 0) (n := dp) X hR (by decide) u841 (Nat.le_of_ble_eq_true rfl) (o61 np) (k61 np) (o62 np) (k62 np) (by rw [l61]; omega) (by rw [l62]; omega) (by rw [l61]; decide) (by rw [l62]; decide) dX4_extend_28 ?_
  refine s_vret X hE hr dX4_extend_31 ?_
  rw [hst]
  refine ⟨fun j hj => ?_, ?_, ?_, Or.inr (fun j hj => ?_), fun j hj => ?_⟩
  · have h58 : ¬ j = 58 := fun e => hj (by simp [e])
    have h62 : ¬ j = 62 := fun e => hj (by simp [e])
    simp only [va_up, jup, h58, h62, if_false]
  · simp only [va_up, jup, if_true, if_false, Nat.reduceEqDiff]
    exact hW
  · simp [va_up, jup]
  · simp only [va_up, jup, if_true, if_false, Nat.reduceEqDiff]
    rw [pk_cpy_in (by omega) (by omega), Nat.sub_zero, Nat.zero_add]
    exact hpre j hj
  · simp only [va_up, jup, if_true, if_false, Nat.reduceEqDiff]
def jExt (r : Nat) : Prop := ∀ (np : Nat) (mem : jMem) (q dp P : Nat) (pre : List Nat) (now sum v : Nat) (ord : List Nat) (c l : Nat → Nat), jExH mem r q dp P pre now sum v ord c l → jPv yX4_extend cX4_extend 10 (3 + r) [.ref 58, .int (nI dp), .int (nI P), .int (nI now), .int (nI sum)] np mem (jExP mem q dp ((qP q r P pre).foldl (qS (qSum c l)) (v, ord)))
set_option maxRecDepth 4000 in
set_option maxHeartbeats 1000000 in
theorem c_extendS (np : Nat) (mem : jMem) (q dp P : Nat) (pre : List Nat) (now sum v : Nat) (ord : List Nat) (c l : Nat → Nat) (r : Nat) (IH : jExt r) (H : jExH mem (r + 1) q dp P pre now sum v ord c l) : jPv yX4_extend cX4_extend 10 (3 + (r + 1)) [.ref 58, .int (nI dp), .int (nI P), .int (nI now), .int (nI sum)] np mem (jExP mem q dp ((qP q (r + 1) P pre).foldl (qS (qSum c l)) (v, ord))) := by
  refine jPv.of (own := RX4) rfl rfl (Nat.le_of_ble_eq_true rfl) (fun G X hR hr hE => ?_)
  obtain ⟨hdr, hq, hW, hpl, hpre, hP, hC, hqw, hc, hl, hcm, hlm, hv, hv2, hlt, hob⟩ := H
  have hb := qW_le0 hc hl (p := pre) (by omega)
  rw [hqw] at hb
  have hb1 : now ≤ 999 + 99 * pre.length := hb.1
  have hb2 : sum ≤ 1800 * pre.length := hb.2
  refine j_iload_n X dX4_extend_0 rfl ?_
  refine j_aload_n X dX4_extend_1 rfl ?_
  refine j_getF X 4 5 (by decide) (by decide) rfl u209 (o58 np) (k58 np) (mem 58) rfl dX4_extend_2 ?_
  refine j_nrm (nI q) hW ?_
  refine j_icmp_lt X 32 dX4_extend_5 (by decide) (fun c_5 => ?_) (fun c_5 => absurd ((nI_ltI (by omega) (by omega)).mpr (show dp < q by omega)) c_5)
  refine j_iconst X dX4_extend_32 0 (by decide) ?_
  refine j_istore X dX4_extend_33 (by decide) ?_
  have lp35 : ∀ (n : Nat) (w : Nat) (m2 : jMem), w ≤ q → q + 1 ≤ w + n → jeq [58, 61, 62] mem m2 → m2 58 5 = nI q → m2 58 4 = nI (qSt c l q r P pre (v, ord) w).1 → ((qSt c l q r P pre (v, ord) w).1 = 2147483647 ∨ jQb q (qSt c l q r P pre (v, ord) w).2 (m2 62)) → (∀ i, i < dp → m2 61 i = mem 61 i) → J G RX4 cX4_extend 10 0 0 35 (jlv [some (.ref 58), some (.int (nI dp)), some (.int (nI P)), some (.int (nI now)), some (.int (nI sum)), some (.int (nI w))]) [] (jS np) (m2) := by
    intro n
    induction n with
    | zero =>
      intro w m2 hw hn hJ hS5 hS4 hB hO
      exact absurd hn (by omega)
    | succ n ih35 =>
      intro w m2 hw hn hJ hS5 hS4 hB hO
      refine j_iload X dX4_extend_35 rfl ?_
      refine j_aload_n X dX4_extend_37 rfl ?_
      refine j_getF X 4 5 (by decide) (by decide) rfl u209 (o58 np) (k58 np) (m2 58) rfl dX4_extend_38 ?_
      refine j_nrm (nI q) hS5 ?_
      refine j_icmp_ge X 146 dX4_extend_41 (by decide) (fun c_41 => ?_) (fun c_41 => ?_)
      · obtain rfl : w = q := by clear hE hr hR X hc hl hcm hlm hpre hob hJ hB hO hS5 hS4 IH; (try simp only [lg_cmp_lt, lg_cmp_gt, lg_cmp_le, lg_cmp_ge] at *); (try simp (disch := omega) only [Int64.le_iff_toInt_le, Int64.lt_iff_toInt_lt, Int32.le_iff_toInt_le, Int32.lt_iff_toInt_lt, fa_eq, fa_lit, fa_litL, nI_toInt, pk_lT, Int32.toInt_toInt64, jadd64, jin, jnoneT] at *); omega
        refine s_vret X hE hr dX4_extend_146 ?_
        exact ⟨hJ, hS5, hS4, hB, hO⟩
      · have hw2 : w < q := by clear hE hr hR X hc hl hcm hlm hpre hob hJ hB hO hS5 hS4 IH; (try simp only [lg_cmp_lt, lg_cmp_gt, lg_cmp_le, lg_cmp_ge] at *); (try simp (disch := omega) only [Int64.le_iff_toInt_le, Int64.lt_iff_toInt_lt, Int32.le_iff_toInt_le, Int32.lt_iff_toInt_lt, fa_eq, fa_lit, fa_litL, nI_toInt, pk_lT, Int32.toInt_toInt64, jadd64, jin, jnoneT] at *); omega
        have hcw := hc w
        have hlw := hl w
        have hsl := qSt_le (c := c) (l := l) (q := q) (r := r) (P := P) (w := w) (pre := pre) (st := (v, ord))
        have hsl : (qSt c l q r P pre (v, ord) w).1 ≤ v := hsl
        refine j_iload_n X dX4_extend_44 rfl ?_
        refine j_iload X dX4_extend_45 rfl ?_
        refine s_callNi X hR (c_hasBit np _ _ _) rfl u498 (by decide) u497 u1 hyX10_hasBit (by decide) (by omega) (Nat.le_of_ble_eq_true rfl) dX4_extend_47 (fun v_47 m_47 h_47 => ?_)
        obtain ⟨e1, e2⟩ := h_47; have e1 := e1.symm; have e2 := e2.symm; subst e1; subst e2
        refine j_ifb_ne X 140 dX4_extend_50 (by decide) (fun c_50 => ?_) (fun c_50 => ?_)
        · refine j_iinc X dX4_extend_140 rfl 1 rfl ?_
          refine j_goto X 35 dX4_extend_143 (by decide) ?_
          have hpl2 := qSt_pl (c := c) (l := l) (q := q) (r := r) (pre := pre) (st := (v, ord)) ((jbit (by omega) (by omega)).mp c_50)
          refine j_lv [some (.ref 58), some (.int (nI dp)), some (.int (nI P)), some (.int (nI now)), some (.int (nI sum)), some (.int (nI (w + 1)))] ⟨rfl, rfl, rfl, rfl, rfl, (congrArg (fun z => some (Value.int z)) (nI_1 _)), trivial⟩ ?_
          exact ih35 (w + 1) m2 (by omega) (by omega) hJ hS5 (by rw [← hpl2]; exact hS4) (by rw [← hpl2]; exact hB) hO
        · have hnb : ¬ P.testBit w = true := fun z => c_50 ((jbit (by omega) (by omega)).mpr z)
          have hT := qT_le (c := c) (now := (max now (c w) + l w)) (P := (P ||| 2 ^ w)) q
          have hT2 : (max now (c w) + l w) * q ≤ 3000 * 7 := Nat.mul_le_mul (by omega) hq
          have hP2 : (P ||| 2 ^ w) < 128 := Nat.or_lt_two_pow (n := 7) hP (Nat.pow_lt_pow_right (by omega) (by omega))
          refine j_iload_n X dX4_extend_53 rfl ?_
          refine j_aload_n X dX4_extend_54 rfl ?_
          refine j_getR X 4 0 (by decide) (by decide) rfl u202 (o58 np) (k58 np) _ (p58_0 np) dX4_extend_55 ?_
          refine j_iload X dX4_extend_58 rfl ?_
          refine j_nrm _ (by first | (simp only [fa_lit, pk_mul, nI_add]; done) | (simp only [fa_lit, pk_mul, nI_add]; rfl) | rfl) ?_
          refine j_ialdN X (o59 np) (k59 np) (by rw [l59]; omega) (by rw [l59]; decide) (m2 59) rfl dX4_extend_60 ?_
          refine j_nrm (nI (c w)) (by rw [hJ 59 (by decide)]; exact hcm w hw2) ?_
          refine j_mmax X hR (by omega) u843 (Nat.le_of_ble_eq_true rfl) ⟨Nat.le_refl _, Nat.le_refl _⟩ dX4_extend_61 ?_
          refine j_nrm (nI (max now (c w))) (jmxI (by omega) (by omega)) ?_
          refine j_istore X dX4_extend_64 (by decide) ?_
          refine j_iload X dX4_extend_66 rfl ?_
          refine j_aload_n X dX4_extend_68 rfl ?_
          refine j_getR X 4 1 (by decide) (by decide) rfl u203 (o58 np) (k58 np) _ (p58_1 np) dX4_extend_69 ?_
          refine j_iload X dX4_extend_72 rfl ?_
          refine j_nrm _ (by first | (simp only [fa_lit, pk_mul, nI_add]; done) | (simp only [fa_lit, pk_mul, nI_add]; rfl) | rfl) ?_
          refine j_ialdN X (o60 np) (k60 np) (by rw [l60]; omega) (by rw [l60]; decide) (m2 60) rfl dX4_extend_74 ?_
          refine j_nrm (nI (l w)) (by rw [hJ 60 (by decide)]; exact hlm w hw2) ?_
          refine j_iadd X dX4_extend_75 ?_
          refine j_nrm (nI (max now (c w) + l w)) (nI_add _ _) ?_
          refine j_istore X dX4_extend_76 (by decide) ?_
          refine j_iload X dX4_extend_78 rfl ?_
          refine j_iload X dX4_extend_80 rfl ?_
          refine j_iadd X dX4_extend_82 ?_
          refine j_aload_n X dX4_extend_83 rfl ?_
          refine j_getR X 4 0 (by decide) (by decide) rfl u202 (o58 np) (k58 np) _ (p58_0 np) dX4_extend_84 ?_
          refine j_iload X dX4_extend_87 rfl ?_
          refine j_nrm _ (by first | (simp only [fa_lit, pk_mul, nI_add]; done) | (simp only [fa_lit, pk_mul, nI_add]; rfl) | rfl) ?_
          refine j_ialdN X (o59 np) (k59 np) (by rw [l59]; omega) (by rw [l59]; decide) (m2 59) rfl dX4_extend_89 ?_
          refine j_nrm (nI (c w)) (by rw [hJ 59 (by decide)]; exact hcm w hw2) ?_
          refine j_isub X dX4_extend_90 ?_
          refine j_nrm (nI (sum + (max now (c w) - c w))) (by rw [nI_add, pk_sub (by omega), show sum + max now (c w) - c w = (sum + (max now (c w) - c w)) by omega]) ?_
          refine j_istore X dX4_extend_91 (by decide) ?_
          refine j_iload_n X dX4_extend_93 rfl ?_
          refine j_iconst X dX4_extend_94 1 (by decide) ?_
          refine j_iload X dX4_extend_95 rfl ?_
          refine j_ishl X dX4_extend_97 ?_
          refine j_ior X dX4_extend_98 ?_
          refine j_nrm (nI (P ||| 2 ^ w)) (by rw [j1l (by omega), jorN]) ?_
          refine j_istore X dX4_extend_99 (by decide) ?_
          refine j_aload_n X dX4_extend_101 rfl ?_
          refine j_getR X 4 2 (by decide) (by decide) rfl u204 (o58 np) (k58 np) _ (p58_2 np) dX4_extend_102 ?_
          refine j_iload_n X dX4_extend_105 rfl ?_
          refine j_iload X dX4_extend_106 rfl ?_
          refine j_nrm2 _ (by first | (simp only [fa_lit, pk_mul, nI_add]; done) | (simp only [fa_lit, pk_mul, nI_add]; rfl) | rfl) ?_
          refine j_iastN X (o61 np) (k61 np) (n := dp) (by rw [l61]; omega) (by rw [l61]; decide) dX4_extend_108 ?_
          refine j_iload X dX4_extend_109 rfl ?_
          refine j_aload_n X dX4_extend_111 rfl ?_
          refine j_iload X dX4_extend_112 rfl ?_
          refine j_iload X dX4_extend_114 rfl ?_
          refine s_callVi X hR (c_waitedAt np _ (max now (c w) + l w) (P ||| 2 ^ w) q c hq hP2 (by omega) hS5 hc (fun w hw => by rw [show jup m2 61 dp (nI _) 59 = m2 59 from rfl, hJ 59 (by decide)]; exact hcm w hw)) rfl 4 (by decide) (o58 np) (k58 np) rfl u849 u846 u848 qp24 u10 hyX4_waitedAt (by decide) (by omega) (Nat.le_of_ble_eq_true rfl) dX4_extend_116 (fun v_116 m_116 h_116 => ?_)
          obtain ⟨e1, e2⟩ := h_116; have e1 := e1.symm; have e2 := e2.symm; subst e1; subst e2
          refine j_iadd X dX4_extend_119 ?_
          refine j_nrm (nI ((sum + (max now (c w) - c w)) + qT c (max now (c w) + l w) (P ||| 2 ^ w) q)) (nI_add _ _) ?_
          refine j_aload_n X dX4_extend_120 rfl ?_
          refine j_getF X 4 4 (by decide) (by decide) rfl u207 (o58 np) (k58 np) (m2 58) rfl dX4_extend_121 ?_
          refine j_nrm (nI (qSt c l q r P pre (v, ord) w).1) hS4 ?_
          refine j_icmp_ge X 140 dX4_extend_124 (by decide) (fun c_124 => ?_) (fun c_124 => ?_)
          · refine j_iinc X dX4_extend_140 rfl 1 rfl ?_
            refine j_goto X 35 dX4_extend_143 (by decide) ?_
            have hpr2 : (qSt c l q r P pre (v, ord) w) = (qSt c l q r P pre (v, ord) (w + 1)) := by
              rw [← qSt_go hnb]
              refine (qS_no _ _ (fun p hp => ?_)).symm
              have h1 := qLB (c := c) (l := l) r (P ||| 2 ^ w) (pre ++ [w]) ((max now (c w) + l w), (sum + (max now (c w) - c w))) (by rw [qW_app, hqw]; rfl) (by have := qC_s hnb q hw2; omega) p hp
              have h2 := (nI_leI (by omega) (by omega)).mp c_124
              have h3 : (sum + (max now (c w) - c w)) + qT c (max now (c w) + l w) (P ||| 2 ^ w) q ≤ qSum c l p := h1
              omega
            refine j_lv [some (.ref 58), some (.int (nI dp)), some (.int (nI P)), some (.int (nI now)), some (.int (nI sum)), some (.int (nI (w + 1)))] ⟨rfl, rfl, rfl, rfl, rfl, (congrArg (fun z => some (Value.int z)) (nI_1 _)), trivial⟩ ?_
            exact ih35 (w + 1) _ (by omega) (by omega) (jeq.up hJ (by decide)) hS5 (by rw [← hpr2]; exact hS4) (by rw [← hpr2]; exact hB) (fun j hj => by
                          have hne : ¬ j = dp := by omega
                          have := hO j hj
                          simp only [jup, va_up, hne, if_true, if_false]
                          exact this)
          · have hlt2 : (sum + (max now (c w) - c w)) + qT c (max now (c w) + l w) (P ||| 2 ^ w) q < (qSt c l q r P pre (v, ord) w).1 := by
              rcases Nat.lt_or_ge ((sum + (max now (c w) - c w)) + qT c (max now (c w) + l w) (P ||| 2 ^ w) q) (qSt c l q r P pre (v, ord) w).1 with z | z
              · exact z
              · exact absurd ((nI_leI (by omega) (by omega)).mpr z) c_124
            refine j_aload_n X dX4_extend_127 rfl ?_
            refine j_iload_n X dX4_extend_128 rfl ?_
            refine j_iconst X dX4_extend_129 1 (by decide) ?_
            refine j_iadd X dX4_extend_130 ?_
            refine j_nrm (nI (dp + 1)) (nI_1 dp) ?_
            refine j_iload X dX4_extend_131 rfl ?_
            refine j_iload X dX4_extend_133 rfl ?_
            refine j_iload X dX4_extend_135 rfl ?_
            refine s_callVv X hR (IH np _ q (dp + 1) (P ||| 2 ^ w) (pre ++ [w]) (max now (c w) + l w) (sum + (max now (c w) - c w)) (qSt c l q r P pre (v, ord) w).1 (qSt c l q r P pre (v, ord) w).2 c l ⟨by omega, hq, hS5, by rw [List.length_append, hpl]; rfl, fun j hj => by
              rw [nF_app, hpl]
              by_cases e : j < dp
              · have hne : ¬ j = dp := by omega
                rw [if_pos e]
                simp only [jup, va_up, hne, if_true, if_false]
                rw [hO j e]
                exact hpre j e
              · obtain rfl : j = dp := by omega
                rw [if_neg e, if_pos rfl]
                simp [jup, va_up], hP2, by have := qC_s hnb q hw2; omega, by rw [qW_app, hqw]; rfl, hc, hl, fun w hw => by rw [show jup m2 61 dp (nI _) 59 = m2 59 from rfl, hJ 59 (by decide)]; exact hcm w hw, fun w hw => by rw [show jup m2 61 dp (nI _) 60 = m2 60 from rfl, hJ 60 (by decide)]; exact hlm w hw, hS4, by omega, hlt2, hB⟩) rfl 4 (by decide) (o58 np) (k58 np) rfl u840 u837 u839 qp23 u10 hyX4_extend (by decide) (by omega) (Nat.le_of_ble_eq_true rfl) dX4_extend_137 (fun m_137 h_137 => ?_)
            obtain ⟨hJ5, hS55, hS45, hB5, hO5⟩ := h_137
            refine j_iinc X dX4_extend_140 rfl 1 rfl ?_
            refine j_goto X 35 dX4_extend_143 (by decide) ?_
            refine j_lv [some (.ref 58), some (.int (nI dp)), some (.int (nI P)), some (.int (nI now)), some (.int (nI sum)), some (.int (nI (w + 1)))] ⟨rfl, rfl, rfl, rfl, rfl, (congrArg (fun z => some (Value.int z)) (nI_1 _)), trivial⟩ ?_
            exact ih35 (w + 1) _ (by omega) (by omega) (((jeq.up hJ (by decide)) : jeq [58, 61, 62] mem _).tr hJ5) hS55 (by rw [← qSt_go hnb]; exact hS45) (by rw [← qSt_go hnb]; exact hB5) (fun j hj => by
                          have hne : ¬ j = dp := by omega
                          rw [hO5 j (by omega)]
                          have := hO j hj
                          simp only [jup, va_up, hne, if_true, if_false]
                          exact this)
  refine j_lv [some (.ref 58), some (.int (nI dp)), some (.int (nI P)), some (.int (nI now)), some (.int (nI sum)), some (.int (nI 0))] ⟨rfl, rfl, rfl, rfl, rfl, rfl, trivial⟩ ?_
  exact lp35 (q + 1) 0 mem (by omega) (by omega) jeq.rf hW hv hob (fun _ _ => rfl)
