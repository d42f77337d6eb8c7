set_option maxRecDepth 4000 in
set_option maxHeartbeats 1000000 in
theorem c_lies_p (np : Nat) (mem : jMem) (p f : Int32) (hn : np ≤ 12) (hp : mem 0 12 = nI np) (h : ¬ jin p 0 ((np : Int) - 1)) : jPi yX10_lies cX10_lies 8 .int 5 [.ref 0, .int p, .int f] np mem (fun v c => v = -1000001 ∧ c = mem) := by
  refine jPi.of (own := RX10) rfl rfl (Nat.le_of_ble_eq_true rfl) (fun G X hR hr hE => ?_)
  refine j_aload_n X dX10_lies_0 rfl ?_
  refine j_iload_n X dX10_lies_1 rfl ?_
  refine s_callVa X hR (c_paperAt_null np _ p hn hp h) rfl 10 (by decide) (o0 np) (k0 np) rfl u435 u432 u434 qp2 u1 hyX10_paperAt (by decide) (by decide) (Nat.le_of_ble_eq_true rfl) dX10_lies_2 (fun v_2 m_2 h_2 => ?_)
  obtain ⟨e1, e2⟩ := h_2; have e1 := e1.symm; have e2 := e2.symm; subst e1; subst e2
  refine j_astore_nN X dX10_lies_5 (by decide) ?_
  refine j_aload_nN X dX10_lies_6 rfl ?_
  refine j_ifnullN X 17 dX10_lies_7 (by decide) ?_
  refine j_ldc X dX10_lies_17 u295 ?_
  refine s_iret X hE hr dX10_lies_19 rfl ?_
  first | exact ⟨rfl, rfl⟩ | (exfalso; clear hE hr hR X; (try simp only [lg_cmp_lt, lg_cmp_gt, lg_cmp_le, lg_cmp_ge] at *); (try simp (disch := omega) only [Int64.le_iff_toInt_le, Int64.lt_iff_toInt_lt, Int32.le_iff_toInt_le, Int32.lt_iff_toInt_lt, fa_eq, fa_lit, fa_litL, nI_toInt, pk_lT, Int32.toInt_toInt64, jadd64, jin, jnoneT] at *); omega)
set_option maxRecDepth 4000 in
set_option maxHeartbeats 1000000 in
theorem c_lies_bad (np : Nat) (mem : jMem) (p : Nat) (f : Int32) (hn : np ≤ 12) (hp : mem 0 12 = nI np) (hp2 : p < np) (h : ¬ jin f 0 3) : jPi yX10_lies cX10_lies 8 .int 5 [.ref 0, .int (nI p), .int f] np mem (fun v c => v = -1000001 ∧ c = mem) := by
  refine jPi.of (own := RX10) rfl rfl (Nat.le_of_ble_eq_true rfl) (fun G X hR hr hE => ?_)
  refine j_aload_n X dX10_lies_0 rfl ?_
  refine j_iload_n X dX10_lies_1 rfl ?_
  refine s_callVa X hR (c_paperAt np _ p hn hp hp2) rfl 10 (by decide) (o0 np) (k0 np) rfl u435 u432 u434 qp2 u1 hyX10_paperAt (by decide) (by decide) (Nat.le_of_ble_eq_true rfl) dX10_lies_2 (fun v_2 m_2 h_2 => ?_)
  obtain ⟨e1, e2⟩ := h_2; have e1 := e1.symm; have e2 := e2.symm; subst e1; subst e2
  refine j_astore_n X dX10_lies_5 (by decide) ?_
  refine j_aload_n X dX10_lies_6 rfl ?_
  refine j_ifnullR X 17 dX10_lies_7 (by decide) ?_
  refine j_iload_n X dX10_lies_10 rfl ?_
  refine s_callSi X hR (c_isField np _ _) rfl u529 u527 u528 u1 hyX10_isField (by decide) (by decide) (Nat.le_of_ble_eq_true rfl) dX10_lies_11 (fun v_11 m_11 h_11 => ?_)
  obtain ⟨e1, e2⟩ := h_11; have e1 := e1.symm; have e2 := e2.symm; subst e1; subst e2
  refine j_ifb_ne X 20 dX10_lies_14 (by decide) (fun c_14 => ?_) (fun c_14 => ?_)
  · exfalso
    clear hE hr hR X
    (try simp only [lg_cmp_lt, lg_cmp_gt, lg_cmp_le, lg_cmp_ge] at *); (try simp (disch := omega) only [Int64.le_iff_toInt_le, Int64.lt_iff_toInt_lt, Int32.le_iff_toInt_le, Int32.lt_iff_toInt_lt, fa_eq, fa_lit, fa_litL, nI_toInt, pk_lT, Int32.toInt_toInt64, jadd64, jin, jnoneT] at *); omega
  · refine j_ldc X dX10_lies_17 u295 ?_
    refine s_iret X hE hr dX10_lies_19 rfl ?_
    first | exact ⟨rfl, rfl⟩ | (exfalso; clear hE hr hR X; (try simp only [lg_cmp_lt, lg_cmp_gt, lg_cmp_le, lg_cmp_ge] at *); (try simp (disch := omega) only [Int64.le_iff_toInt_le, Int64.lt_iff_toInt_lt, Int32.le_iff_toInt_le, Int32.lt_iff_toInt_lt, fa_eq, fa_lit, fa_litL, nI_toInt, pk_lT, Int32.toInt_toInt64, jadd64, jin, jnoneT] at *); omega)
set_option maxRecDepth 4000 in
set_option maxHeartbeats 1000000 in
theorem c_lies0 (np : Nat) (mem : jMem) (p : Nat) (hn : np ≤ 12) (hp : mem 0 12 = nI np) (hp2 : p < np) (hN : mem (92 + 2 * p) 0 = nI p) (o q : Nat) (ho : o < 4) (hpo : mem (92 + 2 * p) 1 = nI o) (hq : q ≤ 6) (hc : mem 24 o = nI q) (hd2 : ∀ j, j < q → 0 ≤ (mem (15 + o) j).toInt) : jPi yX10_lies cX10_lies 8 .int 5 [.ref 0, .int (nI p), .int 0] np mem (fun v c => v = nI (jCnt (fun x => jSeal (jJoin (jJoin (jLeaf (nI p) 0 (nI x)) (jLeaf (nI p) 1 (mem (93 + 2 * p) 1))) (jJoin (jLeaf (nI p) 2 (mem (93 + 2 * p) 2)) (jLeaf (nI p) 3 (mem (93 + 2 * p) 3)))) (jKey (mem (15 + o)) (mem (20 + o)) q (nI o) (mem (92 + 2 * p) 4)) = (jSeal (jRootC (mem (93 + 2 * p)) p) (jKey (mem (15 + o)) (mem (20 + o)) q (nI o) (mem (92 + 2 * p) 4)))) 1000) ∧ c = mem) := by
  refine jPi.of (own := RX10) rfl rfl (Nat.le_of_ble_eq_true rfl) (fun G X hR hr hE => ?_)
  refine j_aload_n X dX10_lies_0 rfl ?_
  refine j_iload_n X dX10_lies_1 rfl ?_
  refine s_callVa X hR (c_paperAt np _ p hn hp hp2) rfl 10 (by decide) (o0 np) (k0 np) rfl u435 u432 u434 qp2 u1 hyX10_paperAt (by decide) (by decide) (Nat.le_of_ble_eq_true rfl) dX10_lies_2 (fun v_2 m_2 h_2 => ?_)
  obtain ⟨e1, e2⟩ := h_2; have e1 := e1.symm; have e2 := e2.symm; subst e1; subst e2
  refine j_astore_n X dX10_lies_5 (by decide) ?_
  refine j_aload_n X dX10_lies_6 rfl ?_
  refine j_ifnullR X 17 dX10_lies_7 (by decide) ?_
  refine j_iload_n X dX10_lies_10 rfl ?_
  refine s_callSi X hR (c_isField np _ _) rfl u529 u527 u528 u1 hyX10_isField (by decide) (by decide) (Nat.le_of_ble_eq_true rfl) dX10_lies_11 (fun v_11 m_11 h_11 => ?_)
  obtain ⟨e1, e2⟩ := h_11; have e1 := e1.symm; have e2 := e2.symm; subst e1; subst e2
  refine j_ifb_ne X 20 dX10_lies_14 (by decide) (fun c_14 => ?_) (fun c_14 => ?_)
  · refine j_aload_n X dX10_lies_20 rfl ?_
    refine j_aload_n X dX10_lies_21 rfl ?_
    refine s_callVi X hR (c_keyOf np _ p hp2 o q ho hpo hq hc hd2) rfl 10 (by decide) (o0 np) (k0 np) rfl u474 u471 u473 qp3 u1 hyX10_keyOf (by decide) (by decide) (Nat.le_of_ble_eq_true rfl) dX10_lies_22 (fun v_22 m_22 h_22 => ?_)
    obtain ⟨e1, e2⟩ := h_22; have e1 := e1.symm; have e2 := e2.symm; subst e1; subst e2
    refine j_istore X dX10_lies_25 (by decide) ?_
    refine j_aload_n X dX10_lies_27 rfl ?_
    refine s_callVi X hR (c_root np _ p _ hp2 hN rfl) rfl 6 (by decide) (oP np (by omega)) (kP np _) rfl u469 u466 u467 u468 u14 hyX6_root (by decide) (by decide) (Nat.le_of_ble_eq_true rfl) dX10_lies_28 (fun v_28 m_28 h_28 => ?_)
    obtain ⟨e1, e2⟩ := h_28; have e1 := e1.symm; have e2 := e2.symm; subst e1; subst e2
    refine j_iload X dX10_lies_31 rfl ?_
    refine s_callSi X hR (c_seal np _ _ _) rfl u477 u475 u476 u1 hyX10_seal (by decide) (by decide) (Nat.le_of_ble_eq_true rfl) dX10_lies_33 (fun v_33 m_33 h_33 => ?_)
    obtain ⟨e1, e2⟩ := h_33; have e1 := e1.symm; have e2 := e2.symm; subst e1; subst e2
    refine j_istore X dX10_lies_36 (by decide) ?_
    refine j_iconst X dX10_lies_38 0 (by decide) ?_
    refine j_istore X dX10_lies_39 (by decide) ?_
    refine j_iconst X dX10_lies_41 0 (by decide) ?_
    refine j_istore X dX10_lies_42 (by decide) ?_
    have lp44 : ∀ (n : Nat) (j : Nat), j ≤ 1000 → 1001 ≤ j + n → J G RX10 cX10_lies 8 0 0 44 (jlv [some (.ref 0), some (.int (nI p)), some (.int 0), some (.ref (92 + 2 * p)), some (.int (jKey (mem (15 + o)) (mem (20 + o)) q (nI o) (mem (92 + 2 * p) 4))), some (.int (jSeal (jRootC (mem (93 + 2 * p)) p) (jKey (mem (15 + o)) (mem (20 + o)) q (nI o) (mem (92 + 2 * p) 4)))), some (.int (nI (jCnt (fun x => jSeal (jJoin (jJoin (jLeaf (nI p) 0 (nI x)) (jLeaf (nI p) 1 (mem (93 + 2 * p) 1))) (jJoin (jLeaf (nI p) 2 (mem (93 + 2 * p) 2)) (jLeaf (nI p) 3 (mem (93 + 2 * p) 3)))) (jKey (mem (15 + o)) (mem (20 + o)) q (nI o) (mem (92 + 2 * p) 4)) = (jSeal (jRootC (mem (93 + 2 * p)) p) (jKey (mem (15 + o)) (mem (20 + o)) q (nI o) (mem (92 + 2 * p) 4)))) j))), some (.int (nI j))]) [] (jS np) (mem) := by
      intro n
      induction n with
      | zero =>
        intro j hj hn2
        exact absurd hn2 (by omega)
      | succ n ih44 =>
        intro j hj hn2
        refine j_iload X dX10_lies_44 rfl ?_
        refine j_sipush X dX10_lies_46 999 (by decide) ?_
        refine j_icmp_gt X 78 dX10_lies_49 (by decide) (fun c_49 => ?_) (fun c_49 => ?_)
        · obtain rfl : j = 1000 := by clear hE hr hR X; (try simp only [lg_cmp_lt, lg_cmp_gt, lg_cmp_le, lg_cmp_ge] at *); (try simp (disch := omega) only [Int64.le_iff_toInt_le, Int64.lt_iff_toInt_lt, Int32.le_iff_toInt_le, Int32.lt_iff_toInt_lt, fa_eq, fa_lit, fa_litL, nI_toInt, pk_lT, Int32.toInt_toInt64, jadd64, jin, jnoneT] at *); omega
          refine j_iload X dX10_lies_78 rfl ?_
          refine s_iret X hE hr dX10_lies_80 rfl ?_
          first | exact ⟨rfl, rfl⟩ | (exfalso; clear hE hr hR X; (try simp only [lg_cmp_lt, lg_cmp_gt, lg_cmp_le, lg_cmp_ge] at *); (try simp (disch := omega) only [Int64.le_iff_toInt_le, Int64.lt_iff_toInt_lt, Int32.le_iff_toInt_le, Int32.lt_iff_toInt_lt, fa_eq, fa_lit, fa_litL, nI_toInt, pk_lT, Int32.toInt_toInt64, jadd64, jin, jnoneT] at *); omega)
        · have hj2 : j < 1000 := by clear hE hr hR X; (try simp only [lg_cmp_lt, lg_cmp_gt, lg_cmp_le, lg_cmp_ge] at *); (try simp (disch := omega) only [Int64.le_iff_toInt_le, Int64.lt_iff_toInt_lt, Int32.le_iff_toInt_le, Int32.lt_iff_toInt_lt, fa_eq, fa_lit, fa_litL, nI_toInt, pk_lT, Int32.toInt_toInt64, jadd64, jin, jnoneT] at *); omega
          refine j_aload_n X dX10_lies_52 rfl ?_
          refine j_iload_n X dX10_lies_53 rfl ?_
          refine j_iload X dX10_lies_54 rfl ?_
          refine s_callVi X hR (c_rootWith0 np _ p (nI j) _ hp2 hN rfl) rfl 6 (by decide) (oP np (by omega)) (kP np _) rfl u533 u530 u531 u532 u14 hyX6_rootWith (by decide) (by decide) (Nat.le_of_ble_eq_true rfl) dX10_lies_56 (fun v_56 m_56 h_56 => ?_)
          obtain ⟨e1, e2⟩ := h_56; have e1 := e1.symm; have e2 := e2.symm; subst e1; subst e2
          refine j_iload X dX10_lies_59 rfl ?_
          refine s_callSi X hR (c_seal np _ _ _) rfl u477 u475 u476 u1 hyX10_seal (by decide) (by decide) (Nat.le_of_ble_eq_true rfl) dX10_lies_61 (fun v_61 m_61 h_61 => ?_)
          obtain ⟨e1, e2⟩ := h_61; have e1 := e1.symm; have e2 := e2.symm; subst e1; subst e2
          refine j_iload X dX10_lies_64 rfl ?_
          refine j_icmp_ne X 72 dX10_lies_66 (by decide) (fun c_66 => ?_) (fun c_66 => ?_)
          · refine j_iinc X dX10_lies_72 rfl 1 rfl ?_
            refine j_goto X 44 dX10_lies_75 (by decide) ?_
            refine j_lv [some (.ref 0), some (.int (nI p)), some (.int 0), some (.ref (92 + 2 * p)), some (.int (jKey (mem (15 + o)) (mem (20 + o)) q (nI o) (mem (92 + 2 * p) 4))), some (.int (jSeal (jRootC (mem (93 + 2 * p)) p) (jKey (mem (15 + o)) (mem (20 + o)) q (nI o) (mem (92 + 2 * p) 4)))), some (.int (nI (jCnt (fun x => jSeal (jJoin (jJoin (jLeaf (nI p) 0 (nI x)) (jLeaf (nI p) 1 (mem (93 + 2 * p) 1))) (jJoin (jLeaf (nI p) 2 (mem (93 + 2 * p) 2)) (jLeaf (nI p) 3 (mem (93 + 2 * p) 3)))) (jKey (mem (15 + o)) (mem (20 + o)) q (nI o) (mem (92 + 2 * p) 4)) = (jSeal (jRootC (mem (93 + 2 * p)) p) (jKey (mem (15 + o)) (mem (20 + o)) q (nI o) (mem (92 + 2 * p) 4)))) (j + 1)))), some (.int (nI (j + 1)))] ⟨rfl, rfl, rfl, rfl, rfl, rfl, (congrArg (fun z => some (Value.int z)) (by first | exact jCnt_t (g := (fun x => jSeal (jJoin (jJoin (jLeaf (nI p) 0 (nI x)) (jLeaf (nI p) 1 (mem (93 + 2 * p) 1))) (jJoin (jLeaf (nI p) 2 (mem (93 + 2 * p) 2)) (jLeaf (nI p) 3 (mem (93 + 2 * p) 3)))) (jKey (mem (15 + o)) (mem (20 + o)) q (nI o) (mem (92 + 2 * p) 4)) = (jSeal (jRootC (mem (93 + 2 * p)) p) (jKey (mem (15 + o)) (mem (20 + o)) q (nI o) (mem (92 + 2 * p) 4))))) c_66 | exact jCnt_f0 (g := (fun x => jSeal (jJoin (jJoin (jLeaf (nI p) 0 (nI x)) (jLeaf (nI p) 1 (mem (93 + 2 * p) 1))) (jJoin (jLeaf (nI p) 2 (mem (93 + 2 * p) 2)) (jLeaf (nI p) 3 (mem (93 + 2 * p) 3)))) (jKey (mem (15 + o)) (mem (20 + o)) q (nI o) (mem (92 + 2 * p) 4)) = (jSeal (jRootC (mem (93 + 2 * p)) p) (jKey (mem (15 + o)) (mem (20 + o)) q (nI o) (mem (92 + 2 * p) 4))))) c_66)), (congrArg (fun z => some (Value.int z)) (nI_1 _)), trivial⟩ ?_
            exact ih44 (j + 1) (by omega) (by omega)
          · refine j_iinc X dX10_lies_69 rfl 1 rfl ?_
            refine j_iinc X dX10_lies_72 rfl 1 rfl ?_
            refine j_goto X 44 dX10_lies_75 (by decide) ?_
            refine j_lv [some (.ref 0), some (.int (nI p)), some (.int 0), some (.ref (92 + 2 * p)), some (.int (jKey (mem (15 + o)) (mem (20 + o)) q (nI o) (mem (92 + 2 * p) 4))), some (.int (jSeal (jRootC (mem (93 + 2 * p)) p) (jKey (mem (15 + o)) (mem (20 + o)) q (nI o) (mem (92 + 2 * p) 4)))), some (.int (nI (jCnt (fun x => jSeal (jJoin (jJoin (jLeaf (nI p) 0 (nI x)) (jLeaf (nI p) 1 (mem (93 + 2 * p) 1))) (jJoin (jLeaf (nI p) 2 (mem (93 + 2 * p) 2)) (jLeaf (nI p) 3 (mem (93 + 2 * p) 3)))) (jKey (mem (15 + o)) (mem (20 + o)) q (nI o) (mem (92 + 2 * p) 4)) = (jSeal (jRootC (mem (93 + 2 * p)) p) (jKey (mem (15 + o)) (mem (20 + o)) q (nI o) (mem (92 + 2 * p) 4)))) (j + 1)))), some (.int (nI (j + 1)))] ⟨rfl, rfl, rfl, rfl, rfl, rfl, (congrArg (fun z => some (Value.int z)) (by first | exact jCnt_t (g := (fun x => jSeal (jJoin (jJoin (jLeaf (nI p) 0 (nI x)) (jLeaf (nI p) 1 (mem (93 + 2 * p) 1))) (jJoin (jLeaf (nI p) 2 (mem (93 + 2 * p) 2)) (jLeaf (nI p) 3 (mem (93 + 2 * p) 3)))) (jKey (mem (15 + o)) (mem (20 + o)) q (nI o) (mem (92 + 2 * p) 4)) = (jSeal (jRootC (mem (93 + 2 * p)) p) (jKey (mem (15 + o)) (mem (20 + o)) q (nI o) (mem (92 + 2 * p) 4))))) c_66 | exact jCnt_f0 (g := (fun x => jSeal (jJoin (jJoin (jLeaf (nI p) 0 (nI x)) (jLeaf (nI p) 1 (mem (93 + 2 * p) 1))) (jJoin (jLeaf (nI p) 2 (mem (93 + 2 * p) 2)) (jLeaf (nI p) 3 (mem (93 + 2 * p) 3)))) (jKey (mem (15 + o)) (mem (20 + o)) q (nI o) (mem (92 + 2 * p) 4)) = (jSeal (jRootC (mem (93 + 2 * p)) p) (jKey (mem (15 + o)) (mem (20 + o)) q (nI o) (mem (92 + 2 * p) 4))))) c_66)), (congrArg (fun z => some (Value.int z)) (nI_1 _)), trivial⟩ ?_
            exact ih44 (j + 1) (by omega) (by omega)
    refine j_lv [some (.ref 0), some (.int (nI p)), some (.int 0), some (.ref (92 + 2 * p)), some (.int (jKey (mem (15 + o)) (mem (20 + o)) q (nI o) (mem (92 + 2 * p) 4))), some (.int (jSeal (jRootC (mem (93 + 2 * p)) p) (jKey (mem (15 + o)) (mem (20 + o)) q (nI o) (mem (92 + 2 * p) 4)))), some (.int (nI (jCnt (fun x => jSeal (jJoin (jJoin (jLeaf (nI p) 0 (nI x)) (jLeaf (nI p) 1 (mem (93 + 2 * p) 1))) (jJoin (jLeaf (nI p) 2 (mem (93 + 2 * p) 2)) (jLeaf (nI p) 3 (mem (93 + 2 * p) 3)))) (jKey (mem (15 + o)) (mem (20 + o)) q (nI o) (mem (92 + 2 * p) 4)) = (jSeal (jRootC (mem (93 + 2 * p)) p) (jKey (mem (15 + o)) (mem (20 + o)) q (nI o) (mem (92 + 2 * p) 4)))) 0))), some (.int (nI 0))] ⟨rfl, rfl, rfl, rfl, rfl, rfl, rfl, rfl, trivial⟩ ?_
    exact lp44 1001 0 (by omega) (by omega)
  · exfalso
    clear hE hr hR X
    (try simp only [lg_cmp_lt, lg_cmp_gt, lg_cmp_le, lg_cmp_ge] at *); (try simp (disch := omega) only [Int64.le_iff_toInt_le, Int64.lt_iff_toInt_lt, Int32.le_iff_toInt_le, Int32.lt_iff_toInt_lt, fa_eq, fa_lit, fa_litL, nI_toInt, pk_lT, Int32.toInt_toInt64, jadd64, jin, jnoneT] at *); omega
set_option maxRecDepth 4000 in
set_option maxHeartbeats 1000000 in
theorem c_lies1 (np : Nat) (mem : jMem) (p : Nat) (hn : np ≤ 12) (hp : mem 0 12 = nI np) (hp2 : p < np) (hN : mem (92 + 2 * p) 0 = nI p) (o q : Nat) (ho : o < 4) (hpo : mem (92 + 2 * p) 1 = nI o) (hq : q ≤ 6) (hc : mem 24 o = nI q) (hd2 : ∀ j, j < q → 0 ≤ (mem (15 + o) j).toInt) : jPi yX10_lies cX10_lies 8 .int 5 [.ref 0, .int (nI p), .int 1] np mem (fun v c => v = nI (jCnt (fun x => jSeal (jJoin (jJoin (jLeaf (nI p) 0 (mem (93 + 2 * p) 0)) (jLeaf (nI p) 1 (nI x))) (jJoin (jLeaf (nI p) 2 (mem (93 + 2 * p) 2)) (jLeaf (nI p) 3 (mem (93 + 2 * p) 3)))) (jKey (mem (15 + o)) (mem (20 + o)) q (nI o) (mem (92 + 2 * p) 4)) = (jSeal (jRootC (mem (93 + 2 * p)) p) (jKey (mem (15 + o)) (mem (20 + o)) q (nI o) (mem (92 + 2 * p) 4)))) 1000) ∧ c = mem) := by
  refine jPi.of (own := RX10) rfl rfl (Nat.le_of_ble_eq_true rfl) (fun G X hR hr hE => ?_)
  refine j_aload_n X dX10_lies_0 rfl ?_
  refine j_iload_n X dX10_lies_1 rfl ?_
  refine s_callVa X hR (c_paperAt np _ p hn hp hp2) rfl 10 (by decide) (o0 np) (k0 np) rfl u435 u432 u434 qp2 u1 hyX10_paperAt (by decide) (by decide) (Nat.le_of_ble_eq_true rfl) dX10_lies_2 (fun v_2 m_2 h_2 => ?_)
  obtain ⟨e1, e2⟩ := h_2; have e1 := e1.symm; have e2 := e2.symm; subst e1; subst e2
  refine j_astore_n X dX10_lies_5 (by decide) ?_
  refine j_aload_n X dX10_lies_6 rfl ?_
  refine j_ifnullR X 17 dX10_lies_7 (by decide) ?_
  refine j_iload_n X dX10_lies_10 rfl ?_
  refine s_callSi X hR (c_isField np _ _) rfl u529 u527 u528 u1 hyX10_isField (by decide) (by decide) (Nat.le_of_ble_eq_true rfl) dX10_lies_11 (fun v_11 m_11 h_11 => ?_)
  obtain ⟨e1, e2⟩ := h_11; have e1 := e1.symm; have e2 := e2.symm; subst e1; subst e2
  refine j_ifb_ne X 20 dX10_lies_14 (by decide) (fun c_14 => ?_) (fun c_14 => ?_)
  · refine j_aload_n X dX10_lies_20 rfl ?_
    refine j_aload_n X dX10_lies_21 rfl ?_
    refine s_callVi X hR (c_keyOf np _ p hp2 o q ho hpo hq hc hd2) rfl 10 (by decide) (o0 np) (k0 np) rfl u474 u471 u473 qp3 u1 hyX10_keyOf (by decide) (by decide) (Nat.le_of_ble_eq_true rfl) dX10_lies_22 (fun v_22 m_22 h_22 => ?_)
    obtain ⟨e1, e2⟩ := h_22; have e1 := e1.symm; have e2 := e2.symm; subst e1; subst e2
    refine j_istore X dX10_lies_25 (by decide) ?_
    refine j_aload_n X dX10_lies_27 rfl ?_
    refine s_callVi X hR (c_root np _ p _ hp2 hN rfl) rfl 6 (by decide) (oP np (by omega)) (kP np _) rfl u469 u466 u467 u468 u14 hyX6_root (by decide) (by decide) (Nat.le_of_ble_eq_true rfl) dX10_lies_28 (fun v_28 m_28 h_28 => ?_)
    obtain ⟨e1, e2⟩ := h_28; have e1 := e1.symm; have e2 := e2.symm; subst e1; subst e2
    refine j_iload X dX10_lies_31 rfl ?_
    refine s_callSi X hR (c_seal np _ _ _) rfl u477 u475 u476 u1 hyX10_seal (by decide) (by decide) (Nat.le_of_ble_eq_true rfl) dX10_lies_33 (fun v_33 m_33 h_33 => ?_)
    obtain ⟨e1, e2⟩ := h_33; have e1 := e1.symm; have e2 := e2.symm; subst e1; subst e2
    refine j_istore X dX10_lies_36 (by decide) ?_
    refine j_iconst X dX10_lies_38 0 (by decide) ?_
    refine j_istore X dX10_lies_39 (by decide) ?_
    refine j_iconst X dX10_lies_41 0 (by decide) ?_
    refine j_istore X dX10_lies_42 (by decide) ?_
    have lp44 : ∀ (n : Nat) (j : Nat), j ≤ 1000 → 1001 ≤ j + n → J G RX10 cX10_lies 8 0 0 44 (jlv [some (.ref 0), some (.int (nI p)), some (.int 1), some (.ref (92 + 2 * p)), some (.int (jKey (mem (15 + o)) (mem (20 + o)) q (nI o) (mem (92 + 2 * p) 4))), some (.int (jSeal (jRootC (mem (93 + 2 * p)) p) (jKey (mem (15 + o)) (mem (20 + o)) q (nI o) (mem (92 + 2 * p) 4)))), some (.int (nI (jCnt (fun x => jSeal (jJoin (jJoin (jLeaf (nI p) 0 (mem (93 + 2 * p) 0)) (jLeaf (nI p) 1 (nI x))) (jJoin (jLeaf (nI p) 2 (mem (93 + 2 * p) 2)) (jLeaf (nI p) 3 (mem (93 + 2 * p) 3)))) (jKey (mem (15 + o)) (mem (20 + o)) q (nI o) (mem (92 + 2 * p) 4)) = (jSeal (jRootC (mem (93 + 2 * p)) p) (jKey (mem (15 + o)) (mem (20 + o)) q (nI o) (mem (92 + 2 * p) 4)))) j))), some (.int (nI j))]) [] (jS np) (mem) := by
      intro n
      induction n with
      | zero =>
        intro j hj hn2
        exact absurd hn2 (by omega)
      | succ n ih44 =>
        intro j hj hn2
        refine j_iload X dX10_lies_44 rfl ?_
        refine j_sipush X dX10_lies_46 999 (by decide) ?_
        refine j_icmp_gt X 78 dX10_lies_49 (by decide) (fun c_49 => ?_) (fun c_49 => ?_)
        · obtain rfl : j = 1000 := by clear hE hr hR X; (try simp only [lg_cmp_lt, lg_cmp_gt, lg_cmp_le, lg_cmp_ge] at *); (try simp (disch := omega) only [Int64.le_iff_toInt_le, Int64.lt_iff_toInt_lt, Int32.le_iff_toInt_le, Int32.lt_iff_toInt_lt, fa_eq, fa_lit, fa_litL, nI_toInt, pk_lT, Int32.toInt_toInt64, jadd64, jin, jnoneT] at *); omega
          refine j_iload X dX10_lies_78 rfl ?_
          refine s_iret X hE hr dX10_lies_80 rfl ?_
          first | exact ⟨rfl, rfl⟩ | (exfalso; clear hE hr hR X; (try simp only [lg_cmp_lt, lg_cmp_gt, lg_cmp_le, lg_cmp_ge] at *); (try simp (disch := omega) only [Int64.le_iff_toInt_le, Int64.lt_iff_toInt_lt, Int32.le_iff_toInt_le, Int32.lt_iff_toInt_lt, fa_eq, fa_lit, fa_litL, nI_toInt, pk_lT, Int32.toInt_toInt64, jadd64, jin, jnoneT] at *); omega)
        · have hj2 : j < 1000 := by clear hE hr hR X; (try simp only [lg_cmp_lt, lg_cmp_gt, lg_cmp_le, lg_cmp_ge] at *); (try simp (disch := omega) only [Int64.le_iff_toInt_le, Int64.lt_iff_toInt_lt, Int32.le_iff_toInt_le, Int32.lt_iff_toInt_lt, fa_eq, fa_lit, fa_litL, nI_toInt, pk_lT, Int32.toInt_toInt64, jadd64, jin, jnoneT] at *); omega
          refine j_aload_n X dX10_lies_52 rfl ?_
          refine j_iload_n X dX10_lies_53 rfl ?_
          refine j_iload X dX10_lies_54 rfl ?_
          refine s_callVi X hR (c_rootWith1 np _ p (nI j) _ hp2 hN rfl) rfl 6 (by decide) (oP np (by omega)) (kP np _) rfl u533 u530 u531 u532 u14 hyX6_rootWith (by decide) (by decide) (Nat.le_of_ble_eq_true rfl) dX10_lies_56 (fun v_56 m_56 h_56 => ?_)
          obtain ⟨e1, e2⟩ := h_56; have e1 := e1.symm; have e2 := e2.symm; subst e1; subst e2
          refine j_iload X dX10_lies_59 rfl ?_
          refine s_callSi X hR (c_seal np _ _ _) rfl u477 u475 u476 u1 hyX10_seal (by decide) (by decide) (Nat.le_of_ble_eq_true rfl) dX10_lies_61 (fun v_61 m_61 h_61 => ?_)
          obtain ⟨e1, e2⟩ := h_61; have e1 := e1.symm; have e2 := e2.symm; subst e1; subst e2
          refine j_iload X dX10_lies_64 rfl ?_
          refine j_icmp_ne X 72 dX10_lies_66 (by decide) (fun c_66 => ?_) (fun c_66 => ?_)
          · refine j_iinc X dX10_lies_72 rfl 1 rfl ?_
            refine j_goto X 44 dX10_lies_75 (by decide) ?_
            refine j_lv [some (.ref 0), some (.int (nI p)), some (.int 1), some (.ref (92 + 2 * p)), some (.int (jKey (mem (15 + o)) (mem (20 + o)) q (nI o) (mem (92 + 2 * p) 4))), some (.int (jSeal (jRootC (mem (93 + 2 * p)) p) (jKey (mem (15 + o)) (mem (20 + o)) q (nI o) (mem (92 + 2 * p) 4)))), some (.int (nI (jCnt (fun x => jSeal (jJoin (jJoin (jLeaf (nI p) 0 (mem (93 + 2 * p) 0)) (jLeaf (nI p) 1 (nI x))) (jJoin (jLeaf (nI p) 2 (mem (93 + 2 * p) 2)) (jLeaf (nI p) 3 (mem (93 + 2 * p) 3)))) (jKey (mem (15 + o)) (mem (20 + o)) q (nI o) (mem (92 + 2 * p) 4)) = (jSeal (jRootC (mem (93 + 2 * p)) p) (jKey (mem (15 + o)) (mem (20 + o)) q (nI o) (mem (92 + 2 * p) 4)))) (j + 1)))), some (.int (nI (j + 1)))] ⟨rfl, rfl, rfl, rfl, rfl, rfl, (congrArg (fun z => some (Value.int z)) (by first | exact jCnt_t (g := (fun x => jSeal (jJoin (jJoin (jLeaf (nI p) 0 (mem (93 + 2 * p) 0)) (jLeaf (nI p) 1 (nI x))) (jJoin (jLeaf (nI p) 2 (mem (93 + 2 * p) 2)) (jLeaf (nI p) 3 (mem (93 + 2 * p) 3)))) (jKey (mem (15 + o)) (mem (20 + o)) q (nI o) (mem (92 + 2 * p) 4)) = (jSeal (jRootC (mem (93 + 2 * p)) p) (jKey (mem (15 + o)) (mem (20 + o)) q (nI o) (mem (92 + 2 * p) 4))))) c_66 | exact jCnt_f0 (g := (fun x => jSeal (jJoin (jJoin (jLeaf (nI p) 0 (mem (93 + 2 * p) 0)) (jLeaf (nI p) 1 (nI x))) (jJoin (jLeaf (nI p) 2 (mem (93 + 2 * p) 2)) (jLeaf (nI p) 3 (mem (93 + 2 * p) 3)))) (jKey (mem (15 + o)) (mem (20 + o)) q (nI o) (mem (92 + 2 * p) 4)) = (jSeal (jRootC (mem (93 + 2 * p)) p) (jKey (mem (15 + o)) (mem (20 + o)) q (nI o) (mem (92 + 2 * p) 4))))) c_66)), (congrArg (fun z => some (Value.int z)) (nI_1 _)), trivial⟩ ?_
            exact ih44 (j + 1) (by omega) (by omega)
          · refine j_iinc X dX10_lies_69 rfl 1 rfl ?_
            refine j_iinc X dX10_lies_72 rfl 1 rfl ?_
            refine j_goto X 44 dX10_lies_75 (by decide) ?_
            refine j_lv [some (.ref 0), some (.int (nI p)), some (.int 1), some (.ref (92 + 2 * p)), some (.int (jKey (mem (15 + o)) (mem (20 + o)) q (nI o) (mem (92 + 2 * p) 4))), some (.int (jSeal (jRootC (mem (93 + 2 * p)) p) (jKey (mem (15 + o)) (mem (20 + o)) q (nI o) (mem (92 + 2 * p) 4)))), some (.int (nI (jCnt (fun x => jSeal (jJoin (jJoin (jLeaf (nI p) 0 (mem (93 + 2 * p) 0)) (jLeaf (nI p) 1 (nI x))) (jJoin (jLeaf (nI p) 2 (mem (93 + 2 * p) 2)) (jLeaf (nI p) 3 (mem (93 + 2 * p) 3)))) (jKey (mem (15 + o)) (mem (20 + o)) q (nI o) (mem (92 + 2 * p) 4)) = (jSeal (jRootC (mem (93 + 2 * p)) p) (jKey (mem (15 + o)) (mem (20 + o)) q (nI o) (mem (92 + 2 * p) 4)))) (j + 1)))), some (.int (nI (j + 1)))] ⟨rfl, rfl, rfl, rfl, rfl, rfl, (congrArg (fun z => some (Value.int z)) (by first | exact jCnt_t (g := (fun x => jSeal (jJoin (jJoin (jLeaf (nI p) 0 (mem (93 + 2 * p) 0)) (jLeaf (nI p) 1 (nI x))) (jJoin (jLeaf (nI p) 2 (mem (93 + 2 * p) 2)) (jLeaf (nI p) 3 (mem (93 + 2 * p) 3)))) (jKey (mem (15 + o)) (mem (20 + o)) q (nI o) (mem (92 + 2 * p) 4)) = (jSeal (jRootC (mem (93 + 2 * p)) p) (jKey (mem (15 + o)) (mem (20 + o)) q (nI o) (mem (92 + 2 * p) 4))))) c_66 | exact jCnt_f0 (g := (fun x => jSeal (jJoin (jJoin (jLeaf (nI p) 0 (mem (93 + 2 * p) 0)) (jLeaf (nI p) 1 (nI x))) (jJoin (jLeaf (nI p) 2 (mem (93 + 2 * p) 2)) (jLeaf (nI p) 3 (mem (93 + 2 * p) 3)))) (jKey (mem (15 + o)) (mem (20 + o)) q (nI o) (mem (92 + 2 * p) 4)) = (jSeal (jRootC (mem (93 + 2 * p)) p) (jKey (mem (15 + o)) (mem (20 + o)) q (nI o) (mem (92 + 2 * p) 4))))) c_66)), (congrArg (fun z => some (Value.int z)) (nI_1 _)), trivial⟩ ?_
            exact ih44 (j + 1) (by omega) (by omega)
    refine j_lv [some (.ref 0), some (.int (nI p)), some (.int 1), some (.ref (92 + 2 * p)), some (.int (jKey (mem (15 + o)) (mem (20 + o)) q (nI o) (mem (92 + 2 * p) 4))), some (.int (jSeal (jRootC (mem (93 + 2 * p)) p) (jKey (mem (15 + o)) (mem (20 + o)) q (nI o) (mem (92 + 2 * p) 4)))), some (.int (nI (jCnt (fun x => jSeal (jJoin (jJoin (jLeaf (nI p) 0 (mem (93 + 2 * p) 0)) (jLeaf (nI p) 1 (nI x))) (jJoin (jLeaf (nI p) 2 (mem (93 + 2 * p) 2)) (jLeaf (nI p) 3 (mem (93 + 2 * p) 3)))) (jKey (mem (15 + o)) (mem (20 + o)) q (nI o) (mem (92 + 2 * p) 4)) = (jSeal (jRootC (mem (93 + 2 * p)) p) (jKey (mem (15 + o)) (mem (20 + o)) q (nI o) (mem (92 + 2 * p) 4)))) 0))), some (.int (nI 0))] ⟨rfl, rfl, rfl, rfl, rfl, rfl, rfl, rfl, trivial⟩ ?_
    exact lp44 1001 0 (by omega) (by omega)
  · exfalso
    clear hE hr hR X
    (try simp only [lg_cmp_lt, lg_cmp_gt, lg_cmp_le, lg_cmp_ge] at *); (try simp (disch := omega) only [Int64.le_iff_toInt_le, Int64.lt_iff_toInt_lt, Int32.le_iff_toInt_le, Int32.lt_iff_toInt_lt, fa_eq, fa_lit, fa_litL, nI_toInt, pk_lT, Int32.toInt_toInt64, jadd64, jin, jnoneT] at *); omega
set_option maxRecDepth 4000 in
set_option maxHeartbeats 1000000 in
theorem c_lies2 (np : Nat) (mem : jMem) (p : Nat) (hn : np ≤ 12) (hp : mem 0 12 = nI np) (hp2 : p < np) (hN : mem (92 + 2 * p) 0 = nI p) (o q : Nat) (ho : o < 4) (hpo : mem (92 + 2 * p) 1 = nI o) (hq : q ≤ 6) (hc : mem 24 o = nI q) (hd2 : ∀ j, j < q → 0 ≤ (mem (15 + o) j).toInt) : jPi yX10_lies cX10_lies 8 .int 5 [.ref 0, .int (nI p), .int 2] np mem (fun v c => v = nI (jCnt (fun x => jSeal (jJoin (jJoin (jLeaf (nI p) 0 (mem (93 + 2 * p) 0)) (jLeaf (nI p) 1 (mem (93 + 2 * p) 1))) (jJoin (jLeaf (nI p) 2 (nI x)) (jLeaf (nI p) 3 (mem (93 + 2 * p) 3)))) (jKey (mem (15 + o)) (mem (20 + o)) q (nI o) (mem (92 + 2 * p) 4)) = (jSeal (jRootC (mem (93 + 2 * p)) p) (jKey (mem (15 + o)) (mem (20 + o)) q (nI o) (mem (92 + 2 * p) 4)))) 1000) ∧ c = mem) := by
  refine jPi.of (own := RX10) rfl rfl (Nat.le_of_ble_eq_true rfl) (fun G X hR hr hE => ?_)
  refine j_aload_n X dX10_lies_0 rfl ?_
  refine j_iload_n X dX10_lies_1 rfl ?_
  refine s_callVa X hR (c_paperAt np _ p hn hp hp2) rfl 10 (by decide) (o0 np) (k0 np) rfl u435 u432 u434 qp2 u1 hyX10_paperAt (by decide) (by decide) (Nat.le_of_ble_eq_true rfl) dX10_lies_2 (fun v_2 m_2 h_2 => ?_)
  obtain ⟨e1, e2⟩ := h_2; have e1 := e1.symm; have e2 := e2.symm; subst e1; subst e2
  refine j_astore_n X dX10_lies_5 (by decide) ?_
  refine j_aload_n X dX10_lies_6 rfl ?_
  refine j_ifnullR X 17 dX10_lies_7 (by decide) ?_
  refine j_iload_n X dX10_lies_10 rfl ?_
  refine s_callSi X hR (c_isField np _ _) rfl u529 u527 u528 u1 hyX10_isField (by decide) (by decide) (Nat.le_of_ble_eq_true rfl) dX10_lies_11 (fun v_11 m_11 h_11 => ?_)
  obtain ⟨e1, e2⟩ := h_11; have e1 := e1.symm; have e2 := e2.symm; subst e1; subst e2
  refine j_ifb_ne X 20 dX10_lies_14 (by decide) (fun c_14 => ?_) (fun c_14 => ?_)
  · refine j_aload_n X dX10_lies_20 rfl ?_
    refine j_aload_n X dX10_lies_21 rfl ?_
    refine s_callVi X hR (c_keyOf np _ p hp2 o q ho hpo hq hc hd2) rfl 10 (by decide) (o0 np) (k0 np) rfl u474 u471 u473 qp3 u1 hyX10_keyOf (by decide) (by decide) (Nat.le_of_ble_eq_true rfl) dX10_lies_22 (fun v_22 m_22 h_22 => ?_)
    obtain ⟨e1, e2⟩ := h_22; have e1 := e1.symm; have e2 := e2.symm; subst e1; subst e2
    refine j_istore X dX10_lies_25 (by decide) ?_
    refine j_aload_n X dX10_lies_27 rfl ?_
    refine s_callVi X hR (c_root np _ p _ hp2 hN rfl) rfl 6 (by decide) (oP np (by omega)) (kP np _) rfl u469 u466 u467 u468 u14 hyX6_root (by decide) (by decide) (Nat.le_of_ble_eq_true rfl) dX10_lies_28 (fun v_28 m_28 h_28 => ?_)
    obtain ⟨e1, e2⟩ := h_28; have e1 := e1.symm; have e2 := e2.symm; subst e1; subst e2
    refine j_iload X dX10_lies_31 rfl ?_
    refine s_callSi X hR (c_seal np _ _ _) rfl u477 u475 u476 u1 hyX10_seal (by decide) (by decide) (Nat.le_of_ble_eq_true rfl) dX10_lies_33 (fun v_33 m_33 h_33 => ?_)
    obtain ⟨e1, e2⟩ := h_33; have e1 := e1.symm; have e2 := e2.symm; subst e1; subst e2
    refine j_istore X dX10_lies_36 (by decide) ?_
    refine j_iconst X dX10_lies_38 0 (by decide) ?_
    refine j_istore X dX10_lies_39 (by decide) ?_
    refine j_iconst X dX10_lies_41 0 (by decide) ?_
    refine j_istore X dX10_lies_42 (by decide) ?_
    have lp44 : ∀ (n : Nat) (j : Nat), j ≤ 1000 → 1001 ≤ j + n → J G RX10 cX10_lies 8 0 0 44 (jlv [some (.ref 0), some (.int (nI p)), some (.int 2), some (.ref (92 + 2 * p)), some (.int (jKey (mem (15 + o)) (mem (20 + o)) q (nI o) (mem (92 + 2 * p) 4))), some (.int (jSeal (jRootC (mem (93 + 2 * p)) p) (jKey (mem (15 + o)) (mem (20 + o)) q (nI o) (mem (92 + 2 * p) 4)))), some (.int (nI (jCnt (fun x => jSeal (jJoin (jJoin (jLeaf (nI p) 0 (mem (93 + 2 * p) 0)) (jLeaf (nI p) 1 (mem (93 + 2 * p) 1))) (jJoin (jLeaf (nI p) 2 (nI x)) (jLeaf (nI p) 3 (mem (93 + 2 * p) 3)))) (jKey (mem (15 + o)) (mem (20 + o)) q (nI o) (mem (92 + 2 * p) 4)) = (jSeal (jRootC (mem (93 + 2 * p)) p) (jKey (mem (15 + o)) (mem (20 + o)) q (nI o) (mem (92 + 2 * p) 4)))) j))), some (.int (nI j))]) [] (jS np) (mem) := by
      intro n
      induction n with
      | zero =>
        intro j hj hn2
        exact absurd hn2 (by omega)
      | succ n ih44 =>
        intro j hj hn2
        refine j_iload X dX10_lies_44 rfl ?_
        refine j_sipush X dX10_lies_46 999 (by decide) ?_
        refine j_icmp_gt X 78 dX10_lies_49 (by decide) (fun c_49 => ?_) (fun c_49 => ?_)
        · obtain rfl : j = 1000 := by clear hE hr hR X; (try simp only [lg_cmp_lt, lg_cmp_gt, lg_cmp_le, lg_cmp_ge] at *); (try simp (disch := omega) only [Int64.le_iff_toInt_le, Int64.lt_iff_toInt_lt, Int32.le_iff_toInt_le, Int32.lt_iff_toInt_lt, fa_eq, fa_lit, fa_litL, nI_toInt, pk_lT, Int32.toInt_toInt64, jadd64, jin, jnoneT] at *); omega
          refine j_iload X dX10_lies_78 rfl ?_
          refine s_iret X hE hr dX10_lies_80 rfl ?_
          first | exact ⟨rfl, rfl⟩ | (exfalso; clear hE hr hR X; (try simp only [lg_cmp_lt, lg_cmp_gt, lg_cmp_le, lg_cmp_ge] at *); (try simp (disch := omega) only [Int64.le_iff_toInt_le, Int64.lt_iff_toInt_lt, Int32.le_iff_toInt_le, Int32.lt_iff_toInt_lt, fa_eq, fa_lit, fa_litL, nI_toInt, pk_lT, Int32.toInt_toInt64, jadd64, jin, jnoneT] at *); omega)
        · have hj2 : j < 1000 := by clear hE hr hR X; (try simp only [lg_cmp_lt, lg_cmp_gt, lg_cmp_le, lg_cmp_ge] at *); (try simp (disch := omega) only [Int64.le_iff_toInt_le, Int64.lt_iff_toInt_lt, Int32.le_iff_toInt_le, Int32.lt_iff_toInt_lt, fa_eq, fa_lit, fa_litL, nI_toInt, pk_lT, Int32.toInt_toInt64, jadd64, jin, jnoneT] at *); omega
          refine j_aload_n X dX10_lies_52 rfl ?_
          refine j_iload_n X dX10_lies_53 rfl ?_
          refine j_iload X dX10_lies_54 rfl ?_
          refine s_callVi X hR (c_rootWith2 np _ p (nI j) _ hp2 hN rfl) rfl 6 (by decide) (oP np (by omega)) (kP np _) rfl u533 u530 u531 u532 u14 hyX6_rootWith (by decide) (by decide) (Nat.le_of_ble_eq_true rfl) dX10_lies_56 (fun v_56 m_56 h_56 => ?_)
          obtain ⟨e1, e2⟩ := h_56; have e1 := e1.symm; have e2 := e2.symm; subst e1; subst e2
          refine j_iload X dX10_lies_59 rfl ?_
          refine s_callSi X hR (c_seal np _ _ _) rfl u477 u475 u476 u1 hyX10_seal (by decide) (by decide) (Nat.le_of_ble_eq_true rfl) dX10_lies_61 (fun v_61 m_61 h_61 => ?_)
          obtain ⟨e1, e2⟩ := h_61; have e1 := e1.symm; have e2 := e2.symm; subst e1; subst e2
          refine j_iload X dX10_lies_64 rfl ?_
          refine j_icmp_ne X 72 dX10_lies_66 (by decide) (fun c_66 => ?_) (fun c_66 => ?_)
          · refine j_iinc X dX10_lies_72 rfl 1 rfl ?_
            refine j_goto X 44 dX10_lies_75 (by decide) ?_
            refine j_lv [some (.ref 0), some (.int (nI p)), some (.int 2), some (.ref (92 + 2 * p)), some (.int (jKey (mem (15 + o)) (mem (20 + o)) q (nI o) (mem (92 + 2 * p) 4))), some (.int (jSeal (jRootC (mem (93 + 2 * p)) p) (jKey (mem (15 + o)) (mem (20 + o)) q (nI o) (mem (92 + 2 * p) 4)))), some (.int (nI (jCnt (fun x => jSeal (jJoin (jJoin (jLeaf (nI p) 0 (mem (93 + 2 * p) 0)) (jLeaf (nI p) 1 (mem (93 + 2 * p) 1))) (jJoin (jLeaf (nI p) 2 (nI x)) (jLeaf (nI p) 3 (mem (93 + 2 * p) 3)))) (jKey (mem (15 + o)) (mem (20 + o)) q (nI o) (mem (92 + 2 * p) 4)) = (jSeal (jRootC (mem (93 + 2 * p)) p) (jKey (mem (15 + o)) (mem (20 + o)) q (nI o) (mem (92 + 2 * p) 4)))) (j + 1)))), some (.int (nI (j + 1)))] ⟨rfl, rfl, rfl, rfl, rfl, rfl, (congrArg (fun z => some (Value.int z)) (by first | exact jCnt_t (g := (fun x => jSeal (jJoin (jJoin (jLeaf (nI p) 0 (mem (93 + 2 * p) 0)) (jLeaf (nI p) 1 (mem (93 + 2 * p) 1))) (jJoin (jLeaf (nI p) 2 (nI x)) (jLeaf (nI p) 3 (mem (93 + 2 * p) 3)))) (jKey (mem (15 + o)) (mem (20 + o)) q (nI o) (mem (92 + 2 * p) 4)) = (jSeal (jRootC (mem (93 + 2 * p)) p) (jKey (mem (15 + o)) (mem (20 + o)) q (nI o) (mem (92 + 2 * p) 4))))) c_66 | exact jCnt_f0 (g := (fun x => jSeal (jJoin (jJoin (jLeaf (nI p) 0 (mem (93 + 2 * p) 0)) (jLeaf (nI p) 1 (mem (93 + 2 * p) 1))) (jJoin (jLeaf (nI p) 2 (nI x)) (jLeaf (nI p) 3 (mem (93 + 2 * p) 3)))) (jKey (mem (15 + o)) (mem (20 + o)) q (nI o) (mem (92 + 2 * p) 4)) = (jSeal (jRootC (mem (93 + 2 * p)) p) (jKey (mem (15 + o)) (mem (20 + o)) q (nI o) (mem (92 + 2 * p) 4))))) c_66)), (congrArg (fun z => some (Value.int z)) (nI_1 _)), trivial⟩ ?_
            exact ih44 (j + 1) (by omega) (by omega)
          · refine j_iinc X dX10_lies_69 rfl 1 rfl ?_
            refine j_iinc X dX10_lies_72 rfl 1 rfl ?_
            refine j_goto X 44 dX10_lies_75 (by decide) ?_
            refine j_lv [some (.ref 0), some (.int (nI p)), some (.int 2), some (.ref (92 + 2 * p)), some (.int (jKey (mem (15 + o)) (mem (20 + o)) q (nI o) (mem (92 + 2 * p) 4))), some (.int (jSeal (jRootC (mem (93 + 2 * p)) p) (jKey (mem (15 + o)) (mem (20 + o)) q (nI o) (mem (92 + 2 * p) 4)))), some (.int (nI (jCnt (fun x => jSeal (jJoin (jJoin (jLeaf (nI p) 0 (mem (93 + 2 * p) 0)) (jLeaf (nI p) 1 (mem (93 + 2 * p) 1))) (jJoin (jLeaf (nI p) 2 (nI x)) (jLeaf (nI p) 3 (mem (93 + 2 * p) 3)))) (jKey (mem (15 + o)) (mem (20 + o)) q (nI o) (mem (92 + 2 * p) 4)) = (jSeal (jRootC (mem (93 + 2 * p)) p) (jKey (mem (15 + o)) (mem (20 + o)) q (nI o) (mem (92 + 2 * p) 4)))) (j + 1)))), some (.int (nI (j + 1)))] ⟨rfl, rfl, rfl, rfl, rfl, rfl, (congrArg (fun z => some (Value.int z)) (by first | exact jCnt_t (g := (fun x => jSeal (jJoin (jJoin (jLeaf (nI p) 0 (mem (93 + 2 * p) 0)) (jLeaf (nI p) 1 (mem (93 + 2 * p) 1))) (jJoin (jLeaf (nI p) 2 (nI x)) (jLeaf (nI p) 3 (mem (93 + 2 * p) 3)))) (jKey (mem (15 + o)) (mem (20 + o)) q (nI o) (mem (92 + 2 * p) 4)) = (jSeal (jRootC (mem (93 + 2 * p)) p) (jKey (mem (15 + o)) (mem (20 + o)) q (nI o) (mem (92 + 2 * p) 4))))) c_66 | exact jCnt_f0 (g := (fun x => jSeal (jJoin (jJoin (jLeaf (nI p) 0 (mem (93 + 2 * p) 0)) (jLeaf (nI p) 1 (mem (93 + 2 * p) 1))) (jJoin (jLeaf (nI p) 2 (nI x)) (jLeaf (nI p) 3 (mem (93 + 2 * p) 3)))) (jKey (mem (15 + o)) (mem (20 + o)) q (nI o) (mem (92 + 2 * p) 4)) = (jSeal (jRootC (mem (93 + 2 * p)) p) (jKey (mem (15 + o)) (mem (20 + o)) q (nI o) (mem (92 + 2 * p) 4))))) c_66)), (congrArg (fun z => some (Value.int z)) (nI_1 _)), trivial⟩ ?_
            exact ih44 (j + 1) (by omega) (by omega)
    refine j_lv [some (.ref 0), some (.int (nI p)), some (.int 2), some (.ref (92 + 2 * p)), some (.int (jKey (mem (15 + o)) (mem (20 + o)) q (nI o) (mem (92 + 2 * p) 4))), some (.int (jSeal (jRootC (mem (93 + 2 * p)) p) (jKey (mem (15 + o)) (mem (20 + o)) q (nI o) (mem (92 + 2 * p) 4)))), some (.int (nI (jCnt (fun x => jSeal (jJoin (jJoin (jLeaf (nI p) 0 (mem (93 + 2 * p) 0)) (jLeaf (nI p) 1 (mem (93 + 2 * p) 1))) (jJoin (jLeaf (nI p) 2 (nI x)) (jLeaf (nI p) 3 (mem (93 + 2 * p) 3)))) (jKey (mem (15 + o)) (mem (20 + o)) q (nI o) (mem (92 + 2 * p) 4)) = (jSeal (jRootC (mem (93 + 2 * p)) p) (jKey (mem (15 + o)) (mem (20 + o)) q (nI o) (mem (92 + 2 * p) 4)))) 0))), some (.int (nI 0))] ⟨rfl, rfl, rfl, rfl, rfl, rfl, rfl, rfl, trivial⟩ ?_
    exact lp44 1001 0 (by omega) (by omega)
  · exfalso
    clear hE hr hR X
    (try simp only [lg_cmp_lt, lg_cmp_gt, lg_cmp_le, lg_cmp_ge] at *); (try simp (disch := omega) only [Int64.le_iff_toInt_le, Int64.lt_iff_toInt_lt, Int32.le_iff_toInt_le, Int32.lt_iff_toInt_lt, fa_eq, fa_lit, fa_litL, nI_toInt, pk_lT, Int32.toInt_toInt64, jadd64, jin, jnoneT] at *); omega
set_option maxRecDepth 4000 in
set_option maxHeartbeats 1000000 in
theorem c_lies3 (np : Nat) (mem : jMem) (p : Nat) (hn : np ≤ 12) (hp : mem 0 12 = nI np) (hp2 : p < np) (hN : mem (92 + 2 * p) 0 = nI p) (o q : Nat) (ho : o < 4) (hpo : mem (92 + 2 * p) 1 = nI o) (hq : q ≤ 6) (hc : mem 24 o = nI q) (hd2 : ∀ j, j < q → 0 ≤ (mem (15 + o) j).toInt) : jPi yX10_lies cX10_lies 8 .int 5 [.ref 0, .int (nI p), .int 3] np mem (fun v c => v = nI (jCnt (fun x => jSeal (jJoin (jJoin (jLeaf (nI p) 0 (mem (93 + 2 * p) 0)) (jLeaf (nI p) 1 (mem (93 + 2 * p) 1))) (jJoin (jLeaf (nI p) 2 (mem (93 + 2 * p) 2)) (jLeaf (nI p) 3 (nI x)))) (jKey (mem (15 + o)) (mem (20 + o)) q (nI o) (mem (92 + 2 * p) 4)) = (jSeal (jRootC (mem (93 + 2 * p)) p) (jKey (mem (15 + o)) (mem (20 + o)) q (nI o) (mem (92 + 2 * p) 4)))) 1000) ∧ c = mem) := by
  refine jPi.of (own := RX10) rfl rfl (Nat.le_of_ble_eq_true rfl) (fun G X hR hr hE => ?_)
  refine j_aload_n X dX10_lies_0 rfl ?_
  refine j_iload_n X dX10_lies_1 rfl ?_
  refine s_callVa X hR (c_paperAt np _ p hn hp hp2) rfl 10 (by decide) (o0 np) (k0 np) rfl u435 u432 u434 qp2 u1 hyX10_paperAt (by decide) (by decide) (Nat.le_of_ble_eq_true rfl) dX10_lies_2 (fun v_2 m_2 h_2 => ?_)
  obtain ⟨e1, e2⟩ := h_2; have e1 := e1.symm; have e2 := e2.symm; subst e1; subst e2
  refine j_astore_n X dX10_lies_5 (by decide) ?_
  refine j_aload_n X dX10_lies_6 rfl ?_
  refine j_ifnullR X 17 dX10_lies_7 (by decide) ?_
  refine j_iload_n X dX10_lies_10 rfl ?_
  refine s_callSi X hR (c_isField np _ _) rfl u529 u527 u528 u1 hyX10_isField (by decide) (by decide) (Nat.le_of_ble_eq_true rfl) dX10_lies_11 (fun v_11 m_11 h_11 => ?_)
  obtain ⟨e1, e2⟩ := h_11; have e1 := e1.symm; have e2 := e2.symm; subst e1; subst e2
  refine j_ifb_ne X 20 dX10_lies_14 (by decide) (fun c_14 => ?_) (fun c_14 => ?_)
  · refine j_aload_n X dX10_lies_20 rfl ?_
    refine j_aload_n X dX10_lies_21 rfl ?_
    refine s_callVi X hR (c_keyOf np _ p hp2 o q ho hpo hq hc hd2) rfl 10 (by decide) (o0 np) (k0 np) rfl u474 u471 u473 qp3 u1 hyX10_keyOf (by decide) (by decide) (Nat.le_of_ble_eq_true rfl) dX10_lies_22 (fun v_22 m_22 h_22 => ?_)
    obtain ⟨e1, e2⟩ := h_22; have e1 := e1.symm; have e2 := e2.symm; subst e1; subst e2
    refine j_istore X dX10_lies_25 (by decide) ?_
    refine j_aload_n X dX10_lies_27 rfl ?_
    refine s_callVi X hR (c_root np _ p _ hp2 hN rfl) rfl 6 (by decide) (oP np (by omega)) (kP np _) rfl u469 u466 u467 u468 u14 hyX6_root (by decide) (by decide) (Nat.le_of_ble_eq_true rfl) dX10_lies_28 (fun v_28 m_28 h_28 => ?_)
    obtain ⟨e1, e2⟩ := h_28; have e1 := e1.symm; have e2 := e2.symm; subst e1; subst e2
    refine j_iload X dX10_lies_31 rfl ?_
    refine s_callSi X hR (c_seal np _ _ _) rfl u477 u475 u476 u1 hyX10_seal (by decide) (by decide) (Nat.le_of_ble_eq_true rfl) dX10_lies_33 (fun v_33 m_33 h_33 => ?_)
    obtain ⟨e1, e2⟩ := h_33; have e1 := e1.symm; have e2 := e2.symm; subst e1; subst e2
    refine j_istore X dX10_lies_36 (by decide) ?_
    refine j_iconst X dX10_lies_38 0 (by decide) ?_
    refine j_istore X dX10_lies_39 (by decide) ?_
    refine j_iconst X dX10_lies_41 0 (by decide) ?_
    refine j_istore X dX10_lies_42 (by decide) ?_
    have lp44 : ∀ (n : Nat) (j : Nat), j ≤ 1000 → 1001 ≤ j + n → J G RX10 cX10_lies 8 0 0 44 (jlv [some (.ref 0), some (.int (nI p)), some (.int 3), some (.ref (92 + 2 * p)), some (.int (jKey (mem (15 + o)) (mem (20 + o)) q (nI o) (mem (92 + 2 * p) 4))), some (.int (jSeal (jRootC (mem (93 + 2 * p)) p) (jKey (mem (15 + o)) (mem (20 + o)) q (nI o) (mem (92 + 2 * p) 4)))), some (.int (nI (jCnt (fun x => jSeal (jJoin (jJoin (jLeaf (nI p) 0 (mem (93 + 2 * p) 0)) (jLeaf (nI p) 1 (mem (93 + 2 * p) 1))) (jJoin (jLeaf (nI p) 2 (mem (93 + 2 * p) 2)) (jLeaf (nI p) 3 (nI x)))) (jKey (mem (15 + o)) (mem (20 + o)) q (nI o) (mem (92 + 2 * p) 4)) = (jSeal (jRootC (mem (93 + 2 * p)) p) (jKey (mem (15 + o)) (mem (20 + o)) q (nI o) (mem (92 + 2 * p) 4)))) j))), some (.int (nI j))]) [] (jS np) (mem) := by
      intro n
      induction n with
      | zero =>
        intro j hj hn2
        exact absurd hn2 (by omega)
      | succ n ih44 =>
        intro j hj hn2
        refine j_iload X dX10_lies_44 rfl ?_
        refine j_sipush X dX10_lies_46 999 (by decide) ?_
        refine j_icmp_gt X 78 dX10_lies_49 (by decide) (fun c_49 => ?_) (fun c_49 => ?_)
        · obtain rfl : j = 1000 := by clear hE hr hR X; (try simp only [lg_cmp_lt, lg_cmp_gt, lg_cmp_le, lg_cmp_ge] at *); (try simp (disch := omega) only [Int64.le_iff_toInt_le, Int64.lt_iff_toInt_lt, Int32.le_iff_toInt_le, Int32.lt_iff_toInt_lt, fa_eq, fa_lit, fa_litL, nI_toInt, pk_lT, Int32.toInt_toInt64, jadd64, jin, jnoneT] at *); omega
          refine j_iload X dX10_lies_78 rfl ?_
          refine s_iret X hE hr dX10_lies_80 rfl ?_
          first | exact ⟨rfl, rfl⟩ | (exfalso; clear hE hr hR X; (try simp only [lg_cmp_lt, lg_cmp_gt, lg_cmp_le, lg_cmp_ge] at *); (try simp (disch := omega) only [Int64.le_iff_toInt_le, Int64.lt_iff_toInt_lt, Int32.le_iff_toInt_le, Int32.lt_iff_toInt_lt, fa_eq, fa_lit, fa_litL, nI_toInt, pk_lT, Int32.toInt_toInt64, jadd64, jin, jnoneT] at *); omega)
        · have hj2 : j < 1000 := by clear hE hr hR X; (try simp only [lg_cmp_lt, lg_cmp_gt, lg_cmp_le, lg_cmp_ge] at *); (try simp (disch := omega) only [Int64.le_iff_toInt_le, Int64.lt_iff_toInt_lt, Int32.le_iff_toInt_le, Int32.lt_iff_toInt_lt, fa_eq, fa_lit, fa_litL, nI_toInt, pk_lT, Int32.toInt_toInt64, jadd64, jin, jnoneT] at *); omega
          refine j_aload_n X dX10_lies_52 rfl ?_
          refine j_iload_n X dX10_lies_53 rfl ?_
          refine j_iload X dX10_lies_54 rfl ?_
          refine s_callVi X hR (c_rootWith3 np _ p (nI j) _ hp2 hN rfl) rfl 6 (by decide) (oP np (by omega)) (kP np _) rfl u533 u530 u531 u532 u14 hyX6_rootWith (by decide) (by decide) (Nat.le_of_ble_eq_true rfl) dX10_lies_56 (fun v_56 m_56 h_56 => ?_)
          obtain ⟨e1, e2⟩ := h_56; have e1 := e1.symm; have e2 := e2.symm; subst e1; subst e2
          refine j_iload X dX10_lies_59 rfl ?_
          refine s_callSi X hR (c_seal np _ _ _) rfl u477 u475 u476 u1 hyX10_seal (by decide) (by decide) (Nat.le_of_ble_eq_true rfl) dX10_lies_61 (fun v_61 m_61 h_61 => ?_)
          obtain ⟨e1, e2⟩ := h_61; have e1 := e1.symm; have e2 := e2.symm; subst e1; subst e2
          refine j_iload X dX10_lies_64 rfl ?_
          refine j_icmp_ne X 72 dX10_lies_66 (by decide) (fun c_66 => ?_) (fun c_66 => ?_)
          · refine j_iinc X dX10_lies_72 rfl 1 rfl ?_
            refine j_goto X 44 dX10_lies_75 (by decide) ?_
            refine j_lv [some (.ref 0), some (.int (nI p)), some (.int 3), some (.ref (92 + 2 * p)), some (.int (jKey (mem (15 + o)) (mem (20 + o)) q (nI o) (mem (92 + 2 * p) 4))), some (.int (jSeal (jRootC (mem (93 + 2 * p)) p) (jKey (mem (15 + o)) (mem (20 + o)) q (nI o) (mem (92 + 2 * p) 4)))), some (.int (nI (jCnt (fun x => jSeal (jJoin (jJoin (jLeaf (nI p) 0 (mem (93 + 2 * p) 0)) (jLeaf (nI p) 1 (mem (93 + 2 * p) 1))) (jJoin (jLeaf (nI p) 2 (mem (93 + 2 * p) 2)) (jLeaf (nI p) 3 (nI x)))) (jKey (mem (15 + o)) (mem (20 + o)) q (nI o) (mem (92 + 2 * p) 4)) = (jSeal (jRootC (mem (93 + 2 * p)) p) (jKey (mem (15 + o)) (mem (20 + o)) q (nI o) (mem (92 + 2 * p) 4)))) (j + 1)))), some (.int (nI (j + 1)))] ⟨rfl, rfl, rfl, rfl, rfl, rfl, (congrArg (fun z => some (Value.int z)) (by first | exact jCnt_t (g := (fun x => jSeal (jJoin (jJoin (jLeaf (nI p) 0 (mem (93 + 2 * p) 0)) (jLeaf (nI p) 1 (mem (93 + 2 * p) 1))) (jJoin (jLeaf (nI p) 2 (mem (93 + 2 * p) 2)) (jLeaf (nI p) 3 (nI x)))) (jKey (mem (15 + o)) (mem (20 + o)) q (nI o) (mem (92 + 2 * p) 4)) = (jSeal (jRootC (mem (93 + 2 * p)) p) (jKey (mem (15 + o)) (mem (20 + o)) q (nI o) (mem (92 + 2 * p) 4))))) c_66 | exact jCnt_f0 (g := (fun x => jSeal (jJoin (jJoin (jLeaf (nI p) 0 (mem (93 + 2 * p) 0)) (jLeaf (nI p) 1 (mem (93 + 2 * p) 1))) (jJoin (jLeaf (nI p) 2 (mem (93 + 2 * p) 2)) (jLeaf (nI p) 3 (nI x)))) (jKey (mem (15 + o)) (mem (20 + o)) q (nI o) (mem (92 + 2 * p) 4)) = (jSeal (jRootC (mem (93 + 2 * p)) p) (jKey (mem (15 + o)) (mem (20 + o)) q (nI o) (mem (92 + 2 * p) 4))))) c_66)), (congrArg (fun z => some (Value.int z)) (nI_1 _)), trivial⟩ ?_
            exact ih44 (j + 1) (by omega) (by omega)
          · refine j_iinc X dX10_lies_69 rfl 1 rfl ?_
            refine j_iinc X dX10_lies_72 rfl 1 rfl ?_
            refine j_goto X 44 dX10_lies_75 (by decide) ?_
            refine j_lv [some (.ref 0), some (.int (nI p)), some (.int 3), some (.ref (92 + 2 * p)), some (.int (jKey (mem (15 + o)) (mem (20 + o)) q (nI o) (mem (92 + 2 * p) 4))), some (.int (jSeal (jRootC (mem (93 + 2 * p)) p) (jKey (mem (15 + o)) (mem (20 + o)) q (nI o) (mem (92 + 2 * p) 4)))), some (.int (nI (jCnt (fun x => jSeal (jJoin (jJoin (jLeaf (nI p) 0 (mem (93 + 2 * p) 0)) (jLeaf (nI p) 1 (mem (93 + 2 * p) 1))) (jJoin (jLeaf (nI p) 2 (mem (93 + 2 * p) 2)) (jLeaf (nI p) 3 (nI x)))) (jKey (mem (15 + o)) (mem (20 + o)) q (nI o) (mem (92 + 2 * p) 4)) = (jSeal (jRootC (mem (93 + 2 * p)) p) (jKey (mem (15 + o)) (mem (20 + o)) q (nI o) (mem (92 + 2 * p) 4)))) (j + 1)))), some (.int (nI (j + 1)))] ⟨rfl, rfl, rfl, rfl, rfl, rfl, (congrArg (fun z => some (Value.int z)) (by first | exact jCnt_t (g := (fun x => jSeal (jJoin (jJoin (jLeaf (nI p) 0 (mem (93 + 2 * p) 0)) (jLeaf (nI p) 1 (mem (93 + 2 * p) 1))) (jJoin (jLeaf (nI p) 2 (mem (93 + 2 * p) 2)) (jLeaf (nI p) 3 (nI x)))) (jKey (mem (15 + o)) (mem (20 + o)) q (nI o) (mem (92 + 2 * p) 4)) = (jSeal (jRootC (mem (93 + 2 * p)) p) (jKey (mem (15 + o)) (mem (20 + o)) q (nI o) (mem (92 + 2 * p) 4))))) c_66 | exact jCnt_f0 (g := (fun x => jSeal (jJoin (jJoin (jLeaf (nI p) 0 (mem (93 + 2 * p) 0)) (jLeaf (nI p) 1 (mem (93 + 2 * p) 1))) (jJoin (jLeaf (nI p) 2 (mem (93 + 2 * p) 2)) (jLeaf (nI p) 3 (nI x)))) (jKey (mem (15 + o)) (mem (20 + o)) q (nI o) (mem (92 + 2 * p) 4)) = (jSeal (jRootC (mem (93 + 2 * p)) p) (jKey (mem (15 + o)) (mem (20 + o)) q (nI o) (mem (92 + 2 * p) 4))))) c_66)), (congrArg (fun z => some (Value.int z)) (nI_1 _)), trivial⟩ ?_
            exact ih44 (j + 1) (by omega) (by omega)
    refine j_lv [some (.ref 0), some (.int (nI p)), some (.int 3), some (.ref (92 + 2 * p)), some (.int (jKey (mem (15 + o)) (mem (20 + o)) q (nI o) (mem (92 + 2 * p) 4))), some (.int (jSeal (jRootC (mem (93 + 2 * p)) p) (jKey (mem (15 + o)) (mem (20 + o)) q (nI o) (mem (92 + 2 * p) 4)))), some (.int (nI (jCnt (fun x => jSeal (jJoin (jJoin (jLeaf (nI p) 0 (mem (93 + 2 * p) 0)) (jLeaf (nI p) 1 (mem (93 + 2 * p) 1))) (jJoin (jLeaf (nI p) 2 (mem (93 + 2 * p) 2)) (jLeaf (nI p) 3 (nI x)))) (jKey (mem (15 + o)) (mem (20 + o)) q (nI o) (mem (92 + 2 * p) 4)) = (jSeal (jRootC (mem (93 + 2 * p)) p) (jKey (mem (15 + o)) (mem (20 + o)) q (nI o) (mem (92 + 2 * p) 4)))) 0))), some (.int (nI 0))] ⟨rfl, rfl, rfl, rfl, rfl, rfl, rfl, rfl, trivial⟩ ?_
    exact lp44 1001 0 (by omega) (by omega)
  · exfalso
    clear hE hr hR X
    (try simp only [lg_cmp_lt, lg_cmp_gt, lg_cmp_le, lg_cmp_ge] at *); (try simp (disch := omega) only [Int64.le_iff_toInt_le, Int64.lt_iff_toInt_lt, Int32.le_iff_toInt_le, Int32.lt_iff_toInt_lt, fa_eq, fa_lit, fa_litL, nI_toInt, pk_lT, Int32.toInt_toInt64, jadd64, jin, jnoneT] at *); omega
set_option maxRecDepth 4000 in
set_option maxHeartbeats 1000000 in
theorem c_over_p (np : Nat) (mem : jMem) (p f b : Int32) (hn : np ≤ 12) (hp : mem 0 12 = nI np) (h : ¬ jin p 0 ((np : Int) - 1)) : jPi yX10_over cX10_over 6 .int 3 [.ref 0, .int p, .int f, .int b] np mem (fun v c => v = -1000001 ∧ c = mem) := by
  refine jPi.of (own := RX10) rfl rfl (Nat.le_of_ble_eq_true rfl) (fun G X hR hr hE => ?_)
  refine j_aload_n X dX10_over_0 rfl ?_
  refine j_iload_n X dX10_over_1 rfl ?_
  refine s_callVa X hR (c_paperAt_null np _ p hn hp h) rfl 10 (by decide) (o0 np) (k0 np) rfl u435 u432 u434 qp2 u1 hyX10_paperAt (by decide) (by decide) (Nat.le_of_ble_eq_true rfl) dX10_over_2 (fun v_2 m_2 h_2 => ?_)
  obtain ⟨e1, e2⟩ := h_2; have e1 := e1.symm; have e2 := e2.symm; subst e1; subst e2
  refine j_astoreN X dX10_over_5 (by decide) ?_
  refine j_aloadN X dX10_over_7 rfl ?_
  refine j_ifnullN X 30 dX10_over_9 (by decide) ?_
  refine j_ldc X dX10_over_30 u295 ?_
  refine s_iret X hE hr dX10_over_32 rfl ?_
  first | exact ⟨rfl, rfl⟩ | (exfalso; clear hE hr hR X; (try simp only [lg_cmp_lt, lg_cmp_gt, lg_cmp_le, lg_cmp_ge] at *); (try simp (disch := omega) only [Int64.le_iff_toInt_le, Int64.lt_iff_toInt_lt, Int32.le_iff_toInt_le, Int32.lt_iff_toInt_lt, fa_eq, fa_lit, fa_litL, nI_toInt, pk_lT, Int32.toInt_toInt64, jadd64, jin, jnoneT] at *); omega)
set_option maxRecDepth 4000 in
set_option maxHeartbeats 1000000 in
theorem c_over_bad (np : Nat) (mem : jMem) (p : Nat) (f b : Int32) (hn : np ≤ 12) (hp : mem 0 12 = nI np) (hp2 : p < np) (h : ¬ (jin f 0 3 ∧ jin b 0 999)) : jPi yX10_over cX10_over 6 .int 3 [.ref 0, .int (nI p), .int f, .int b] np mem (fun v c => v = -1000001 ∧ c = mem) := by
  refine jPi.of (own := RX10) rfl rfl (Nat.le_of_ble_eq_true rfl) (fun G X hR hr hE => ?_)
  refine j_aload_n X dX10_over_0 rfl ?_
  refine j_iload_n X dX10_over_1 rfl ?_
  refine s_callVa X hR (c_paperAt np _ p hn hp hp2) rfl 10 (by decide) (o0 np) (k0 np) rfl u435 u432 u434 qp2 u1 hyX10_paperAt (by decide) (by decide) (Nat.le_of_ble_eq_true rfl) dX10_over_2 (fun v_2 m_2 h_2 => ?_)
  obtain ⟨e1, e2⟩ := h_2; have e1 := e1.symm; have e2 := e2.symm; subst e1; subst e2
  refine j_astore X dX10_over_5 (by decide) ?_
  refine j_aload X dX10_over_7 rfl ?_
  refine j_ifnullR X 30 dX10_over_9 (by decide) ?_
  refine j_iload_n X dX10_over_12 rfl ?_
  refine s_callSi X hR (c_isField np _ _) rfl u529 u527 u528 u1 hyX10_isField (by decide) (by decide) (Nat.le_of_ble_eq_true rfl) dX10_over_13 (fun v_13 m_13 h_13 => ?_)
  obtain ⟨e1, e2⟩ := h_13; have e1 := e1.symm; have e2 := e2.symm; subst e1; subst e2
  refine j_ifb_eq X 30 dX10_over_16 (by decide) (fun c_16 => ?_) (fun c_16 => ?_)
  · refine j_ldc X dX10_over_30 u295 ?_
    refine s_iret X hE hr dX10_over_32 rfl ?_
    first | exact ⟨rfl, rfl⟩ | (exfalso; clear hE hr hR X; (try simp only [lg_cmp_lt, lg_cmp_gt, lg_cmp_le, lg_cmp_ge] at *); (try simp (disch := omega) only [Int64.le_iff_toInt_le, Int64.lt_iff_toInt_lt, Int32.le_iff_toInt_le, Int32.lt_iff_toInt_lt, fa_eq, fa_lit, fa_litL, nI_toInt, pk_lT, Int32.toInt_toInt64, jadd64, jin, jnoneT] at *); omega)
  · refine j_iload_n X dX10_over_19 rfl ?_
    refine j_iconst X dX10_over_20 0 (by decide) ?_
    refine j_sipush X dX10_over_21 999 (by decide) ?_
    refine s_callSi X hR (c_withinI np _ _ _ _ (0) (999) rfl rfl) rfl u293 u294 u292 u1 hyX10_within (by decide) (by decide) (Nat.le_of_ble_eq_true rfl) dX10_over_24 (fun v_24 m_24 h_24 => ?_)
    obtain ⟨e1, e2⟩ := h_24; have e1 := e1.symm; have e2 := e2.symm; subst e1; subst e2
    refine j_ifb_ne X 33 dX10_over_27 (by decide) (fun c_27 => ?_) (fun c_27 => ?_)
    · exfalso
      clear hE hr hR X
      (try simp only [lg_cmp_lt, lg_cmp_gt, lg_cmp_le, lg_cmp_ge] at *); (try simp (disch := omega) only [Int64.le_iff_toInt_le, Int64.lt_iff_toInt_lt, Int32.le_iff_toInt_le, Int32.lt_iff_toInt_lt, fa_eq, fa_lit, fa_litL, nI_toInt, pk_lT, Int32.toInt_toInt64, jadd64, jin, jnoneT] at *); omega
    · refine j_ldc X dX10_over_30 u295 ?_
      refine s_iret X hE hr dX10_over_32 rfl ?_
      first | exact ⟨rfl, rfl⟩ | (exfalso; clear hE hr hR X; (try simp only [lg_cmp_lt, lg_cmp_gt, lg_cmp_le, lg_cmp_ge] at *); (try simp (disch := omega) only [Int64.le_iff_toInt_le, Int64.lt_iff_toInt_lt, Int32.le_iff_toInt_le, Int32.lt_iff_toInt_lt, fa_eq, fa_lit, fa_litL, nI_toInt, pk_lT, Int32.toInt_toInt64, jadd64, jin, jnoneT] at *); omega)
set_option maxRecDepth 4000 in
set_option maxHeartbeats 1000000 in
theorem c_isOver_p (np : Nat) (mem : jMem) (p f b x : Int32) (hn : np ≤ 12) (hp : mem 0 12 = nI np) (h : ¬ jin p 0 ((np : Int) - 1)) : jPi yX10_isOver cX10_isOver 6 .int 3 [.ref 0, .int p, .int f, .int b, .int x] np mem (fun v c => v = -1000001 ∧ c = mem) := by
  refine jPi.of (own := RX10) rfl rfl (Nat.le_of_ble_eq_true rfl) (fun G X hR hr hE => ?_)
  refine j_aload_n X dX10_isOver_0 rfl ?_
  refine j_iload_n X dX10_isOver_1 rfl ?_
  refine s_callVa X hR (c_paperAt_null np _ p hn hp h) rfl 10 (by decide) (o0 np) (k0 np) rfl u435 u432 u434 qp2 u1 hyX10_paperAt (by decide) (by decide) (Nat.le_of_ble_eq_true rfl) dX10_isOver_2 (fun v_2 m_2 h_2 => ?_)
  obtain ⟨e1, e2⟩ := h_2; have e1 := e1.symm; have e2 := e2.symm; subst e1; subst e2
  refine j_astoreN X dX10_isOver_5 (by decide) ?_
  refine j_aloadN X dX10_isOver_7 rfl ?_
  refine j_ifnullN X 41 dX10_isOver_9 (by decide) ?_
  refine j_ldc X dX10_isOver_41 u295 ?_
  refine s_iret X hE hr dX10_isOver_43 rfl ?_
  first | exact ⟨rfl, rfl⟩ | (exfalso; clear hE hr hR X; (try simp only [lg_cmp_lt, lg_cmp_gt, lg_cmp_le, lg_cmp_ge] at *); (try simp (disch := omega) only [Int64.le_iff_toInt_le, Int64.lt_iff_toInt_lt, Int32.le_iff_toInt_le, Int32.lt_iff_toInt_lt, fa_eq, fa_lit, fa_litL, nI_toInt, pk_lT, Int32.toInt_toInt64, jadd64, jin, jnoneT] at *); omega)
set_option maxRecDepth 4000 in
set_option maxHeartbeats 1000000 in
theorem c_isOver_bad (np : Nat) (mem : jMem) (p : Nat) (f b x : Int32) (hn : np ≤ 12) (hp : mem 0 12 = nI np) (hp2 : p < np) (h : ¬ (jin f 0 3 ∧ jin b 0 999 ∧ jin x 0 65520)) : jPi yX10_isOver cX10_isOver 6 .int 3 [.ref 0, .int (nI p), .int f, .int b, .int x] np mem (fun v c => v = -1000001 ∧ c = mem) := by
  refine jPi.of (own := RX10) rfl rfl (Nat.le_of_ble_eq_true rfl) (fun G X hR hr hE => ?_)
  refine j_aload_n X dX10_isOver_0 rfl ?_
  refine j_iload_n X dX10_isOver_1 rfl ?_
  refine s_callVa X hR (c_paperAt np _ p hn hp hp2) rfl 10 (by decide) (o0 np) (k0 np) rfl u435 u432 u434 qp2 u1 hyX10_paperAt (by decide) (by decide) (Nat.le_of_ble_eq_true rfl) dX10_isOver_2 (fun v_2 m_2 h_2 => ?_)
  obtain ⟨e1, e2⟩ := h_2; have e1 := e1.symm; have e2 := e2.symm; subst e1; subst e2
  refine j_astore X dX10_isOver_5 (by decide) ?_
  refine j_aload X dX10_isOver_7 rfl ?_
  refine j_ifnullR X 41 dX10_isOver_9 (by decide) ?_
  refine j_iload_n X dX10_isOver_12 rfl ?_
  refine s_callSi X hR (c_isField np _ _) rfl u529 u527 u528 u1 hyX10_isField (by decide) (by decide) (Nat.le_of_ble_eq_true rfl) dX10_isOver_13 (fun v_13 m_13 h_13 => ?_)
  obtain ⟨e1, e2⟩ := h_13; have e1 := e1.symm; have e2 := e2.symm; subst e1; subst e2
  refine j_ifb_eq X 41 dX10_isOver_16 (by decide) (fun c_16 => ?_) (fun c_16 => ?_)
  · refine j_ldc X dX10_isOver_41 u295 ?_
    refine s_iret X hE hr dX10_isOver_43 rfl ?_
    first | exact ⟨rfl, rfl⟩ | (exfalso; clear hE hr hR X; (try simp only [lg_cmp_lt, lg_cmp_gt, lg_cmp_le, lg_cmp_ge] at *); (try simp (disch := omega) only [Int64.le_iff_toInt_le, Int64.lt_iff_toInt_lt, Int32.le_iff_toInt_le, Int32.lt_iff_toInt_lt, fa_eq, fa_lit, fa_litL, nI_toInt, pk_lT, Int32.toInt_toInt64, jadd64, jin, jnoneT] at *); omega)
  · refine j_iload_n X dX10_isOver_19 rfl ?_
    refine j_iconst X dX10_isOver_20 0 (by decide) ?_
    refine j_sipush X dX10_isOver_21 999 (by decide) ?_
    refine s_callSi X hR (c_withinI np _ _ _ _ (0) (999) rfl rfl) rfl u293 u294 u292 u1 hyX10_within (by decide) (by decide) (Nat.le_of_ble_eq_true rfl) dX10_isOver_24 (fun v_24 m_24 h_24 => ?_)
    obtain ⟨e1, e2⟩ := h_24; have e1 := e1.symm; have e2 := e2.symm; subst e1; subst e2
    refine j_ifb_eq X 41 dX10_isOver_27 (by decide) (fun c_27 => ?_) (fun c_27 => ?_)
    · refine j_ldc X dX10_isOver_41 u295 ?_
      refine s_iret X hE hr dX10_isOver_43 rfl ?_
      first | exact ⟨rfl, rfl⟩ | (exfalso; clear hE hr hR X; (try simp only [lg_cmp_lt, lg_cmp_gt, lg_cmp_le, lg_cmp_ge] at *); (try simp (disch := omega) only [Int64.le_iff_toInt_le, Int64.lt_iff_toInt_lt, Int32.le_iff_toInt_le, Int32.lt_iff_toInt_lt, fa_eq, fa_lit, fa_litL, nI_toInt, pk_lT, Int32.toInt_toInt64, jadd64, jin, jnoneT] at *); omega)
    · refine j_iload X dX10_isOver_30 rfl ?_
      refine j_iconst X dX10_isOver_32 0 (by decide) ?_
      refine j_ldc X dX10_isOver_33 u356 ?_
      refine s_callSi X hR (c_withinI np _ _ _ _ (0) (65520) rfl rfl) rfl u293 u294 u292 u1 hyX10_within (by decide) (by decide) (Nat.le_of_ble_eq_true rfl) dX10_isOver_35 (fun v_35 m_35 h_35 => ?_)
      obtain ⟨e1, e2⟩ := h_35; have e1 := e1.symm; have e2 := e2.symm; subst e1; subst e2
      refine j_ifb_ne X 44 dX10_isOver_38 (by decide) (fun c_38 => ?_) (fun c_38 => ?_)
      · exfalso
        clear hE hr hR X
        (try simp only [lg_cmp_lt, lg_cmp_gt, lg_cmp_le, lg_cmp_ge] at *); (try simp (disch := omega) only [Int64.le_iff_toInt_le, Int64.lt_iff_toInt_lt, Int32.le_iff_toInt_le, Int32.lt_iff_toInt_lt, fa_eq, fa_lit, fa_litL, nI_toInt, pk_lT, Int32.toInt_toInt64, jadd64, jin, jnoneT] at *); omega
      · refine j_ldc X dX10_isOver_41 u295 ?_
        refine s_iret X hE hr dX10_isOver_43 rfl ?_
        first | exact ⟨rfl, rfl⟩ | (exfalso; clear hE hr hR X; (try simp only [lg_cmp_lt, lg_cmp_gt, lg_cmp_le, lg_cmp_ge] at *); (try simp (disch := omega) only [Int64.le_iff_toInt_le, Int64.lt_iff_toInt_lt, Int32.le_iff_toInt_le, Int32.lt_iff_toInt_lt, fa_eq, fa_lit, fa_litL, nI_toInt, pk_lT, Int32.toInt_toInt64, jadd64, jin, jnoneT] at *); omega)
set_option maxRecDepth 4000 in
set_option maxHeartbeats 1000000 in
theorem c_over0_state (np : Nat) (mem : jMem) (p b w : Nat) (hn : np ≤ 12) (hp : mem 0 12 = nI np) (hp2 : p < np) (hN : mem (92 + 2 * p) 0 = nI p) (hw : mem (93 + 2 * p) 0 = nI w) (hw2 : w ≤ 999) (hb : b ≤ 999) (hlt : w < b) : jPi yX10_over cX10_over 6 .int 3 [.ref 0, .int (nI p), .int 0, .int (nI b)] np mem (fun v c => v = -1000002 ∧ c = mem) := by
  refine jPi.of (own := RX10) rfl rfl (Nat.le_of_ble_eq_true rfl) (fun G X hR hr hE => ?_)
  refine j_aload_n X dX10_over_0 rfl ?_
  refine j_iload_n X dX10_over_1 rfl ?_
  refine s_callVa X hR (c_paperAt np _ p hn hp hp2) rfl 10 (by decide) (o0 np) (k0 np) rfl u435 u432 u434 qp2 u1 hyX10_paperAt (by decide) (by decide) (Nat.le_of_ble_eq_true rfl) dX10_over_2 (fun v_2 m_2 h_2 => ?_)
  obtain ⟨e1, e2⟩ := h_2; have e1 := e1.symm; have e2 := e2.symm; subst e1; subst e2
  refine j_astore X dX10_over_5 (by decide) ?_
  refine j_aload X dX10_over_7 rfl ?_
  refine j_ifnullR X 30 dX10_over_9 (by decide) ?_
  refine j_iload_n X dX10_over_12 rfl ?_
  refine s_callSi X hR (c_isField np _ _) rfl u529 u527 u528 u1 hyX10_isField (by decide) (by decide) (Nat.le_of_ble_eq_true rfl) dX10_over_13 (fun v_13 m_13 h_13 => ?_)
  obtain ⟨e1, e2⟩ := h_13; have e1 := e1.symm; have e2 := e2.symm; subst e1; subst e2
  refine j_ifb_eq X 30 dX10_over_16 (by decide) (fun c_16 => ?_) (fun c_16 => ?_)
  · exfalso
    clear hE hr hR X
    (try simp only [lg_cmp_lt, lg_cmp_gt, lg_cmp_le, lg_cmp_ge] at *); (try simp (disch := omega) only [Int64.le_iff_toInt_le, Int64.lt_iff_toInt_lt, Int32.le_iff_toInt_le, Int32.lt_iff_toInt_lt, fa_eq, fa_lit, fa_litL, nI_toInt, pk_lT, Int32.toInt_toInt64, jadd64, jin, jnoneT] at *); omega
  · refine j_iload_n X dX10_over_19 rfl ?_
    refine j_iconst X dX10_over_20 0 (by decide) ?_
    refine j_sipush X dX10_over_21 999 (by decide) ?_
    refine s_callSi X hR (c_withinI np _ _ _ _ (0) (999) rfl rfl) rfl u293 u294 u292 u1 hyX10_within (by decide) (by decide) (Nat.le_of_ble_eq_true rfl) dX10_over_24 (fun v_24 m_24 h_24 => ?_)
    obtain ⟨e1, e2⟩ := h_24; have e1 := e1.symm; have e2 := e2.symm; subst e1; subst e2
    refine j_ifb_ne X 33 dX10_over_27 (by decide) (fun c_27 => ?_) (fun c_27 => ?_)
    · refine j_aload X dX10_over_33 rfl ?_
      refine j_getR X 6 6 (by decide) (by decide) rfl u408 (oP np (by omega)) (kP np _) _ (pP_f np _) dX10_over_35 ?_
      refine j_iload_n X dX10_over_38 rfl ?_
      refine j_nrm _ (by first | (simp only [fa_lit, pk_mul, nI_add]; done) | (simp only [fa_lit, pk_mul, nI_add]; rfl) | rfl) ?_
      refine j_ialdN X (oPf np (by omega)) (kPf np _) (by rw [lPf]; omega) (by rw [lPf]; decide) (mem (93 + 2 * p)) rfl dX10_over_39 ?_
      refine j_nrm (nI w) hw ?_
      refine j_istore X dX10_over_40 (by decide) ?_
      refine j_iload X dX10_over_42 rfl ?_
      refine j_iload_n X dX10_over_44 rfl ?_
      refine j_icmp_ge X 53 dX10_over_45 (by decide) (fun c_45 => ?_) (fun c_45 => ?_)
      · exfalso
        clear hE hr hR X
        (try simp only [lg_cmp_lt, lg_cmp_gt, lg_cmp_le, lg_cmp_ge] at *); (try simp (disch := omega) only [Int64.le_iff_toInt_le, Int64.lt_iff_toInt_lt, Int32.le_iff_toInt_le, Int32.lt_iff_toInt_lt, fa_eq, fa_lit, fa_litL, nI_toInt, pk_lT, Int32.toInt_toInt64, jadd64, jin, jnoneT] at *); omega
      · refine j_ldc X dX10_over_48 u374 ?_
        refine j_goto X 66 dX10_over_50 (by decide) ?_
        refine s_iret X hE hr dX10_over_66 rfl ?_
        first | exact ⟨rfl, rfl⟩ | (exfalso; clear hE hr hR X; (try simp only [lg_cmp_lt, lg_cmp_gt, lg_cmp_le, lg_cmp_ge] at *); (try simp (disch := omega) only [Int64.le_iff_toInt_le, Int64.lt_iff_toInt_lt, Int32.le_iff_toInt_le, Int32.lt_iff_toInt_lt, fa_eq, fa_lit, fa_litL, nI_toInt, pk_lT, Int32.toInt_toInt64, jadd64, jin, jnoneT] at *); omega)
    · exfalso
      clear hE hr hR X
      (try simp only [lg_cmp_lt, lg_cmp_gt, lg_cmp_le, lg_cmp_ge] at *); (try simp (disch := omega) only [Int64.le_iff_toInt_le, Int64.lt_iff_toInt_lt, Int32.le_iff_toInt_le, Int32.lt_iff_toInt_lt, fa_eq, fa_lit, fa_litL, nI_toInt, pk_lT, Int32.toInt_toInt64, jadd64, jin, jnoneT] at *); omega
set_option maxRecDepth 4000 in
set_option maxHeartbeats 1000000 in
theorem c_over0 (np : Nat) (mem : jMem) (p b w : Nat) (hn : np ≤ 12) (hp : mem 0 12 = nI np) (hp2 : p < np) (hN : mem (92 + 2 * p) 0 = nI p) (hw : mem (93 + 2 * p) 0 = nI w) (hw2 : w ≤ 999) (hb : b ≤ 999) (hlt : b ≤ w) : jPi yX10_over cX10_over 6 .int 3 [.ref 0, .int (nI p), .int 0, .int (nI b)] np mem (fun v c => v = jSteps (101 * nI p + 17 * 0 + 1) (w - b) ∧ c = mem) := by
  refine jPi.of (own := RX10) rfl rfl (Nat.le_of_ble_eq_true rfl) (fun G X hR hr hE => ?_)
  refine j_aload_n X dX10_over_0 rfl ?_
  refine j_iload_n X dX10_over_1 rfl ?_
  refine s_callVa X hR (c_paperAt np _ p hn hp hp2) rfl 10 (by decide) (o0 np) (k0 np) rfl u435 u432 u434 qp2 u1 hyX10_paperAt (by decide) (by decide) (Nat.le_of_ble_eq_true rfl) dX10_over_2 (fun v_2 m_2 h_2 => ?_)
  obtain ⟨e1, e2⟩ := h_2; have e1 := e1.symm; have e2 := e2.symm; subst e1; subst e2
  refine j_astore X dX10_over_5 (by decide) ?_
  refine j_aload X dX10_over_7 rfl ?_
  refine j_ifnullR X 30 dX10_over_9 (by decide) ?_
  refine j_iload_n X dX10_over_12 rfl ?_
  refine s_callSi X hR (c_isField np _ _) rfl u529 u527 u528 u1 hyX10_isField (by decide) (by decide) (Nat.le_of_ble_eq_true rfl) dX10_over_13 (fun v_13 m_13 h_13 => ?_)
  obtain ⟨e1, e2⟩ := h_13; have e1 := e1.symm; have e2 := e2.symm; subst e1; subst e2
  refine j_ifb_eq X 30 dX10_over_16 (by decide) (fun c_16 => ?_) (fun c_16 => ?_)
  · exfalso
    clear hE hr hR X
    (try simp only [lg_cmp_lt, lg_cmp_gt, lg_cmp_le, lg_cmp_ge] at *); (try simp (disch := omega) only [Int64.le_iff_toInt_le, Int64.lt_iff_toInt_lt, Int32.le_iff_toInt_le, Int32.lt_iff_toInt_lt, fa_eq, fa_lit, fa_litL, nI_toInt, pk_lT, Int32.toInt_toInt64, jadd64, jin, jnoneT] at *); omega
  · refine j_iload_n X dX10_over_19 rfl ?_
    refine j_iconst X dX10_over_20 0 (by decide) ?_
    refine j_sipush X dX10_over_21 999 (by decide) ?_
    refine s_callSi X hR (c_withinI np _ _ _ _ (0) (999) rfl rfl) rfl u293 u294 u292 u1 hyX10_within (by decide) (by decide) (Nat.le_of_ble_eq_true rfl) dX10_over_24 (fun v_24 m_24 h_24 => ?_)
    obtain ⟨e1, e2⟩ := h_24; have e1 := e1.symm; have e2 := e2.symm; subst e1; subst e2
    refine j_ifb_ne X 33 dX10_over_27 (by decide) (fun c_27 => ?_) (fun c_27 => ?_)
    · refine j_aload X dX10_over_33 rfl ?_
      refine j_getR X 6 6 (by decide) (by decide) rfl u408 (oP np (by omega)) (kP np _) _ (pP_f np _) dX10_over_35 ?_
      refine j_iload_n X dX10_over_38 rfl ?_
      refine j_nrm _ (by first | (simp only [fa_lit, pk_mul, nI_add]; done) | (simp only [fa_lit, pk_mul, nI_add]; rfl) | rfl) ?_
      refine j_ialdN X (oPf np (by omega)) (kPf np _) (by rw [lPf]; omega) (by rw [lPf]; decide) (mem (93 + 2 * p)) rfl dX10_over_39 ?_
      refine j_nrm (nI w) hw ?_
      refine j_istore X dX10_over_40 (by decide) ?_
      refine j_iload X dX10_over_42 rfl ?_
      refine j_iload_n X dX10_over_44 rfl ?_
      refine j_icmp_ge X 53 dX10_over_45 (by decide) (fun c_45 => ?_) (fun c_45 => ?_)
      · refine j_aload X dX10_over_53 rfl ?_
        refine j_iload_n X dX10_over_55 rfl ?_
        refine s_callVi X hR (c_chainBeginning np _ p _ hp2 hN) rfl 6 (by decide) (oP np (by omega)) (kP np _) rfl u443 u538 u441 u442 u14 hyX6_chainBeginning (by decide) (by decide) (Nat.le_of_ble_eq_true rfl) dX10_over_56 (fun v_56 m_56 h_56 => ?_)
        obtain ⟨e1, e2⟩ := h_56; have e1 := e1.symm; have e2 := e2.symm; subst e1; subst e2
        refine j_nrm (nI (101 * p + 17 * 0 + 1)) (jbeg_n p 0) ?_
        refine j_iload X dX10_over_59 rfl ?_
        refine j_iload_n X dX10_over_61 rfl ?_
        refine j_isub X dX10_over_62 ?_
        refine j_nrm _ (pk_sub hlt) ?_
        refine s_callSi X hR (c_steps np _ (101 * p + 17 * 0 + 1) (w - b) (by omega) (by omega)) rfl u446 u539 u445 u1 hyX10_steps (by decide) (by decide) (Nat.le_of_ble_eq_true rfl) dX10_over_63 (fun v_63 m_63 h_63 => ?_)
        obtain ⟨e1, e2⟩ := h_63; have e1 := e1.symm; have e2 := e2.symm; subst e1; subst e2
        refine s_iret X hE hr dX10_over_66 rfl ?_
        exact ⟨by rw [← jbeg_n p 0]; rfl, rfl⟩
      · exfalso
        clear hE hr hR X
        (try simp only [lg_cmp_lt, lg_cmp_gt, lg_cmp_le, lg_cmp_ge] at *); (try simp (disch := omega) only [Int64.le_iff_toInt_le, Int64.lt_iff_toInt_lt, Int32.le_iff_toInt_le, Int32.lt_iff_toInt_lt, fa_eq, fa_lit, fa_litL, nI_toInt, pk_lT, Int32.toInt_toInt64, jadd64, jin, jnoneT] at *); omega
    · exfalso
      clear hE hr hR X
      (try simp only [lg_cmp_lt, lg_cmp_gt, lg_cmp_le, lg_cmp_ge] at *); (try simp (disch := omega) only [Int64.le_iff_toInt_le, Int64.lt_iff_toInt_lt, Int32.le_iff_toInt_le, Int32.lt_iff_toInt_lt, fa_eq, fa_lit, fa_litL, nI_toInt, pk_lT, Int32.toInt_toInt64, jadd64, jin, jnoneT] at *); omega
set_option maxRecDepth 4000 in
set_option maxHeartbeats 1000000 in
theorem c_isOver0 (np : Nat) (mem : jMem) (p b w x : Nat) (hn : np ≤ 12) (hp : mem 0 12 = nI np) (hp2 : p < np) (hN : mem (92 + 2 * p) 0 = nI p) (hw : mem (93 + 2 * p) 0 = nI w) (hw2 : w ≤ 999) (hb : b ≤ 999) (hx : x ≤ 65520) : jPi yX10_isOver cX10_isOver 6 .int 3 [.ref 0, .int (nI p), .int 0, .int (nI b), .int (nI x)] np mem (fun v c => v = jb (jSteps (nI x) (b + 1) = jSteps (101 * nI p + 17 * 0 + 1) (w + 1)) ∧ c = mem) := by
  refine jPi.of (own := RX10) rfl rfl (Nat.le_of_ble_eq_true rfl) (fun G X hR hr hE => ?_)
  refine j_aload_n X dX10_isOver_0 rfl ?_
  refine j_iload_n X dX10_isOver_1 rfl ?_
  refine s_callVa X hR (c_paperAt np _ p hn hp hp2) rfl 10 (by decide) (o0 np) (k0 np) rfl u435 u432 u434 qp2 u1 hyX10_paperAt (by decide) (by decide) (Nat.le_of_ble_eq_true rfl) dX10_isOver_2 (fun v_2 m_2 h_2 => ?_)
  obtain ⟨e1, e2⟩ := h_2; have e1 := e1.symm; have e2 := e2.symm; subst e1; subst e2
  refine j_astore X dX10_isOver_5 (by decide) ?_
  refine j_aload X dX10_isOver_7 rfl ?_
  refine j_ifnullR X 41 dX10_isOver_9 (by decide) ?_
  refine j_iload_n X dX10_isOver_12 rfl ?_
  refine s_callSi X hR (c_isField np _ _) rfl u529 u527 u528 u1 hyX10_isField (by decide) (by decide) (Nat.le_of_ble_eq_true rfl) dX10_isOver_13 (fun v_13 m_13 h_13 => ?_)
  obtain ⟨e1, e2⟩ := h_13; have e1 := e1.symm; have e2 := e2.symm; subst e1; subst e2
  refine j_ifb_eq X 41 dX10_isOver_16 (by decide) (fun c_16 => ?_) (fun c_16 => ?_)
  · exfalso
    clear hE hr hR X
    (try simp only [lg_cmp_lt, lg_cmp_gt, lg_cmp_le, lg_cmp_ge] at *); (try simp (disch := omega) only [Int64.le_iff_toInt_le, Int64.lt_iff_toInt_lt, Int32.le_iff_toInt_le, Int32.lt_iff_toInt_lt, fa_eq, fa_lit, fa_litL, nI_toInt, pk_lT, Int32.toInt_toInt64, jadd64, jin, jnoneT] at *); omega
  · refine j_iload_n X dX10_isOver_19 rfl ?_
    refine j_iconst X dX10_isOver_20 0 (by decide) ?_
    refine j_sipush X dX10_isOver_21 999 (by decide) ?_
    refine s_callSi X hR (c_withinI np _ _ _ _ (0) (999) rfl rfl) rfl u293 u294 u292 u1 hyX10_within (by decide) (by decide) (Nat.le_of_ble_eq_true rfl) dX10_isOver_24 (fun v_24 m_24 h_24 => ?_)
    obtain ⟨e1, e2⟩ := h_24; have e1 := e1.symm; have e2 := e2.symm; subst e1; subst e2
    refine j_ifb_eq X 41 dX10_isOver_27 (by decide) (fun c_27 => ?_) (fun c_27 => ?_)
    · exfalso
      clear hE hr hR X
      (try simp only [lg_cmp_lt, lg_cmp_gt, lg_cmp_le, lg_cmp_ge] at *); (try simp (disch := omega) only [Int64.le_iff_toInt_le, Int64.lt_iff_toInt_lt, Int32.le_iff_toInt_le, Int32.lt_iff_toInt_lt, fa_eq, fa_lit, fa_litL, nI_toInt, pk_lT, Int32.toInt_toInt64, jadd64, jin, jnoneT] at *); omega
    · refine j_iload X dX10_isOver_30 rfl ?_
      refine j_iconst X dX10_isOver_32 0 (by decide) ?_
      refine j_ldc X dX10_isOver_33 u356 ?_
      refine s_callSi X hR (c_withinI np _ _ _ _ (0) (65520) rfl rfl) rfl u293 u294 u292 u1 hyX10_within (by decide) (by decide) (Nat.le_of_ble_eq_true rfl) dX10_isOver_35 (fun v_35 m_35 h_35 => ?_)
      obtain ⟨e1, e2⟩ := h_35; have e1 := e1.symm; have e2 := e2.symm; subst e1; subst e2
      refine j_ifb_ne X 44 dX10_isOver_38 (by decide) (fun c_38 => ?_) (fun c_38 => ?_)
      · refine j_iload X dX10_isOver_44 rfl ?_
        refine j_iload_n X dX10_isOver_46 rfl ?_
        refine j_iconst X dX10_isOver_47 1 (by decide) ?_
        refine j_iadd X dX10_isOver_48 ?_
        refine j_nrm (nI (b + 1)) (nI_1 b) ?_
        refine s_callSi X hR (c_steps np _ x (b + 1) hx (by omega)) rfl u446 u539 u445 u1 hyX10_steps (by decide) (by decide) (Nat.le_of_ble_eq_true rfl) dX10_isOver_49 (fun v_49 m_49 h_49 => ?_)
        obtain ⟨e1, e2⟩ := h_49; have e1 := e1.symm; have e2 := e2.symm; subst e1; subst e2
        refine j_aload X dX10_isOver_52 rfl ?_
        refine j_iload_n X dX10_isOver_54 rfl ?_
        refine s_callVi X hR (c_chainEnd0 np _ p w _ hp2 hN rfl hn hw hw2) rfl 6 (by decide) (oP np (by omega)) (kP np _) rfl u439 u436 u437 u438 u14 hyX6_chainEnd (by decide) (by decide) (Nat.le_of_ble_eq_true rfl) dX10_isOver_55 (fun v_55 m_55 h_55 => ?_)
        obtain ⟨e1, e2⟩ := h_55; have e1 := e1.symm; have e2 := e2.symm; subst e1; subst e2
        refine j_icmp_ne X 65 dX10_isOver_58 (by decide) (fun c_58 => ?_) (fun c_58 => ?_)
        · refine j_iconst X dX10_isOver_65 0 (by decide) ?_
          refine s_iret X hE hr dX10_isOver_66 rfl ?_
          refine ⟨?_, rfl⟩
          first | exact (jb_t c_58).symm | exact (jb_f c_58).symm
        · refine j_iconst X dX10_isOver_61 1 (by decide) ?_
          refine j_goto X 66 dX10_isOver_62 (by decide) ?_
          refine s_iret X hE hr dX10_isOver_66 rfl ?_
          refine ⟨?_, rfl⟩
          first | exact (jb_t c_58).symm | exact (jb_f c_58).symm
      · exfalso
        clear hE hr hR X
        (try simp only [lg_cmp_lt, lg_cmp_gt, lg_cmp_le, lg_cmp_ge] at *); (try simp (disch := omega) only [Int64.le_iff_toInt_le, Int64.lt_iff_toInt_lt, Int32.le_iff_toInt_le, Int32.lt_iff_toInt_lt, fa_eq, fa_lit, fa_litL, nI_toInt, pk_lT, Int32.toInt_toInt64, jadd64, jin, jnoneT] at *); omega
set_option maxRecDepth 4000 in
set_option maxHeartbeats 1000000 in
theorem c_over1_state (np : Nat) (mem : jMem) (p b w : Nat) (hn : np ≤ 12) (hp : mem 0 12 = nI np) (hp2 : p < np) (hN : mem (92 + 2 * p) 0 = nI p) (hw : mem (93 + 2 * p) 1 = nI w) (hw2 : w ≤ 999) (hb : b ≤ 999) (hlt : w < b) : jPi yX10_over cX10_over 6 .int 3 [.ref 0, .int (nI p), .int 1, .int (nI b)] np mem (fun v c => v = -1000002 ∧ c = mem) := by
  refine jPi.of (own := RX10) rfl rfl (Nat.le_of_ble_eq_true rfl) (fun G X hR hr hE => ?_)
  refine j_aload_n X dX10_over_0 rfl ?_
  refine j_iload_n X dX10_over_1 rfl ?_
  refine s_callVa X hR (c_paperAt np _ p hn hp hp2) rfl 10 (by decide) (o0 np) (k0 np) rfl u435 u432 u434 qp2 u1 hyX10_paperAt (by decide) (by decide) (Nat.le_of_ble_eq_true rfl) dX10_over_2 (fun v_2 m_2 h_2 => ?_)
  obtain ⟨e1, e2⟩ := h_2; have e1 := e1.symm; have e2 := e2.symm; subst e1; subst e2
  refine j_astore X dX10_over_5 (by decide) ?_
  refine j_aload X dX10_over_7 rfl ?_
  refine j_ifnullR X 30 dX10_over_9 (by decide) ?_
  refine j_iload_n X dX10_over_12 rfl ?_
  refine s_callSi X hR (c_isField np _ _) rfl u529 u527 u528 u1 hyX10_isField (by decide) (by decide) (Nat.le_of_ble_eq_true rfl) dX10_over_13 (fun v_13 m_13 h_13 => ?_)
  obtain ⟨e1, e2⟩ := h_13; have e1 := e1.symm; have e2 := e2.symm; subst e1; subst e2
  refine j_ifb_eq X 30 dX10_over_16 (by decide) (fun c_16 => ?_) (fun c_16 => ?_)
  · exfalso
    clear hE hr hR X
    (try simp only [lg_cmp_lt, lg_cmp_gt, lg_cmp_le, lg_cmp_ge] at *); (try simp (disch := omega) only [Int64.le_iff_toInt_le, Int64.lt_iff_toInt_lt, Int32.le_iff_toInt_le, Int32.lt_iff_toInt_lt, fa_eq, fa_lit, fa_litL, nI_toInt, pk_lT, Int32.toInt_toInt64, jadd64, jin, jnoneT] at *); omega
  · refine j_iload_n X dX10_over_19 rfl ?_
    refine j_iconst X dX10_over_20 0 (by decide) ?_
    refine j_sipush X dX10_over_21 999 (by decide) ?_
    refine s_callSi X hR (c_withinI np _ _ _ _ (0) (999) rfl rfl) rfl u293 u294 u292 u1 hyX10_within (by decide) (by decide) (Nat.le_of_ble_eq_true rfl) dX10_over_24 (fun v_24 m_24 h_24 => ?_)
    obtain ⟨e1, e2⟩ := h_24; have e1 := e1.symm; have e2 := e2.symm; subst e1; subst e2
    refine j_ifb_ne X 33 dX10_over_27 (by decide) (fun c_27 => ?_) (fun c_27 => ?_)
    · refine j_aload X dX10_over_33 rfl ?_
      refine j_getR X 6 6 (by decide) (by decide) rfl u408 (oP np (by omega)) (kP np _) _ (pP_f np _) dX10_over_35 ?_
      refine j_iload_n X dX10_over_38 rfl ?_
      refine j_nrm _ (by first | (simp only [fa_lit, pk_mul, nI_add]; done) | (simp only [fa_lit, pk_mul, nI_add]; rfl) | rfl) ?_
      refine j_ialdN X (oPf np (by omega)) (kPf np _) (by rw [lPf]; omega) (by rw [lPf]; decide) (mem (93 + 2 * p)) rfl dX10_over_39 ?_
      refine j_nrm (nI w) hw ?_
      refine j_istore X dX10_over_40 (by decide) ?_
      refine j_iload X dX10_over_42 rfl ?_
      refine j_iload_n X dX10_over_44 rfl ?_
      refine j_icmp_ge X 53 dX10_over_45 (by decide) (fun c_45 => ?_) (fun c_45 => ?_)
      · exfalso
        clear hE hr hR X
        (try simp only [lg_cmp_lt, lg_cmp_gt, lg_cmp_le, lg_cmp_ge] at *); (try simp (disch := omega) only [Int64.le_iff_toInt_le, Int64.lt_iff_toInt_lt, Int32.le_iff_toInt_le, Int32.lt_iff_toInt_lt, fa_eq, fa_lit, fa_litL, nI_toInt, pk_lT, Int32.toInt_toInt64, jadd64, jin, jnoneT] at *); omega
      · refine j_ldc X dX10_over_48 u374 ?_
        refine j_goto X 66 dX10_over_50 (by decide) ?_
        refine s_iret X hE hr dX10_over_66 rfl ?_
        first | exact ⟨rfl, rfl⟩ | (exfalso; clear hE hr hR X; (try simp only [lg_cmp_lt, lg_cmp_gt, lg_cmp_le, lg_cmp_ge] at *); (try simp (disch := omega) only [Int64.le_iff_toInt_le, Int64.lt_iff_toInt_lt, Int32.le_iff_toInt_le, Int32.lt_iff_toInt_lt, fa_eq, fa_lit, fa_litL, nI_toInt, pk_lT, Int32.toInt_toInt64, jadd64, jin, jnoneT] at *); omega)
    · exfalso
      clear hE hr hR X
      (try simp only [lg_cmp_lt, lg_cmp_gt, lg_cmp_le, lg_cmp_ge] at *); (try simp (disch := omega) only [Int64.le_iff_toInt_le, Int64.lt_iff_toInt_lt, Int32.le_iff_toInt_le, Int32.lt_iff_toInt_lt, fa_eq, fa_lit, fa_litL, nI_toInt, pk_lT, Int32.toInt_toInt64, jadd64, jin, jnoneT] at *); omega
set_option maxRecDepth 4000 in
set_option maxHeartbeats 1000000 in
theorem c_over1 (np : Nat) (mem : jMem) (p b w : Nat) (hn : np ≤ 12) (hp : mem 0 12 = nI np) (hp2 : p < np) (hN : mem (92 + 2 * p) 0 = nI p) (hw : mem (93 + 2 * p) 1 = nI w) (hw2 : w ≤ 999) (hb : b ≤ 999) (hlt : b ≤ w) : jPi yX10_over cX10_over 6 .int 3 [.ref 0, .int (nI p), .int 1, .int (nI b)] np mem (fun v c => v = jSteps (101 * nI p + 17 * 1 + 1) (w - b) ∧ c = mem) := by
  refine jPi.of (own := RX10) rfl rfl (Nat.le_of_ble_eq_true rfl) (fun G X hR hr hE => ?_)
  refine j_aload_n X dX10_over_0 rfl ?_
  refine j_iload_n X dX10_over_1 rfl ?_
  refine s_callVa X hR (c_paperAt np _ p hn hp hp2) rfl 10 (by decide) (o0 np) (k0 np) rfl u435 u432 u434 qp2 u1 hyX10_paperAt (by decide) (by decide) (Nat.le_of_ble_eq_true rfl) dX10_over_2 (fun v_2 m_2 h_2 => ?_)
  obtain ⟨e1, e2⟩ := h_2; have e1 := e1.symm; have e2 := e2.symm; subst e1; subst e2
  refine j_astore X dX10_over_5 (by decide) ?_
  refine j_aload X dX10_over_7 rfl ?_
  refine j_ifnullR X 30 dX10_over_9 (by decide) ?_
  refine j_iload_n X dX10_over_12 rfl ?_
  refine s_callSi X hR (c_isField np _ _) rfl u529 u527 u528 u1 hyX10_isField (by decide) (by decide) (Nat.le_of_ble_eq_true rfl) dX10_over_13 (fun v_13 m_13 h_13 => ?_)
  obtain ⟨e1, e2⟩ := h_13; have e1 := e1.symm; have e2 := e2.symm; subst e1; subst e2
  refine j_ifb_eq X 30 dX10_over_16 (by decide) (fun c_16 => ?_) (fun c_16 => ?_)
  · exfalso
    clear hE hr hR X
    (try simp only [lg_cmp_lt, lg_cmp_gt, lg_cmp_le, lg_cmp_ge] at *); (try simp (disch := omega) only [Int64.le_iff_toInt_le, Int64.lt_iff_toInt_lt, Int32.le_iff_toInt_le, Int32.lt_iff_toInt_lt, fa_eq, fa_lit, fa_litL, nI_toInt, pk_lT, Int32.toInt_toInt64, jadd64, jin, jnoneT] at *); omega
  · refine j_iload_n X dX10_over_19 rfl ?_
    refine j_iconst X dX10_over_20 0 (by decide) ?_
    refine j_sipush X dX10_over_21 999 (by decide) ?_
    refine s_callSi X hR (c_withinI np _ _ _ _ (0) (999) rfl rfl) rfl u293 u294 u292 u1 hyX10_within (by decide) (by decide) (Nat.le_of_ble_eq_true rfl) dX10_over_24 (fun v_24 m_24 h_24 => ?_)
    obtain ⟨e1, e2⟩ := h_24; have e1 := e1.symm; have e2 := e2.symm; subst e1; subst e2
    refine j_ifb_ne X 33 dX10_over_27 (by decide) (fun c_27 => ?_) (fun c_27 => ?_)
    · refine j_aload X dX10_over_33 rfl ?_
      refine j_getR X 6 6 (by decide) (by decide) rfl u408 (oP np (by omega)) (kP np _) _ (pP_f np _) dX10_over_35 ?_
      refine j_iload_n X dX10_over_38 rfl ?_
      refine j_nrm _ (by first | (simp only [fa_lit, pk_mul, nI_add]; done) | (simp only [fa_lit, pk_mul, nI_add]; rfl) | rfl) ?_
      refine j_ialdN X (oPf np (by omega)) (kPf np _) (by rw [lPf]; omega) (by rw [lPf]; decide) (mem (93 + 2 * p)) rfl dX10_over_39 ?_
      refine j_nrm (nI w) hw ?_
      refine j_istore X dX10_over_40 (by decide) ?_
      refine j_iload X dX10_over_42 rfl ?_
      refine j_iload_n X dX10_over_44 rfl ?_
      refine j_icmp_ge X 53 dX10_over_45 (by decide) (fun c_45 => ?_) (fun c_45 => ?_)
      · refine j_aload X dX10_over_53 rfl ?_
        refine j_iload_n X dX10_over_55 rfl ?_
        refine s_callVi X hR (c_chainBeginning np _ p _ hp2 hN) rfl 6 (by decide) (oP np (by omega)) (kP np _) rfl u443 u538 u441 u442 u14 hyX6_chainBeginning (by decide) (by decide) (Nat.le_of_ble_eq_true rfl) dX10_over_56 (fun v_56 m_56 h_56 => ?_)
        obtain ⟨e1, e2⟩ := h_56; have e1 := e1.symm; have e2 := e2.symm; subst e1; subst e2
        refine j_nrm (nI (101 * p + 17 * 1 + 1)) (jbeg_n p 1) ?_
        refine j_iload X dX10_over_59 rfl ?_
        refine j_iload_n X dX10_over_61 rfl ?_
        refine j_isub X dX10_over_62 ?_
        refine j_nrm _ (pk_sub hlt) ?_
        refine s_callSi X hR (c_steps np _ (101 * p + 17 * 1 + 1) (w - b) (by omega) (by omega)) rfl u446 u539 u445 u1 hyX10_steps (by decide) (by decide) (Nat.le_of_ble_eq_true rfl) dX10_over_63 (fun v_63 m_63 h_63 => ?_)
        obtain ⟨e1, e2⟩ := h_63; have e1 := e1.symm; have e2 := e2.symm; subst e1; subst e2
        refine s_iret X hE hr dX10_over_66 rfl ?_
        exact ⟨by rw [← jbeg_n p 1]; rfl, rfl⟩
      · exfalso
        clear hE hr hR X
        (try simp only [lg_cmp_lt, lg_cmp_gt, lg_cmp_le, lg_cmp_ge] at *); (try simp (disch := omega) only [Int64.le_iff_toInt_le, Int64.lt_iff_toInt_lt, Int32.le_iff_toInt_le, Int32.lt_iff_toInt_lt, fa_eq, fa_lit, fa_litL, nI_toInt, pk_lT, Int32.toInt_toInt64, jadd64, jin, jnoneT] at *); omega
    · exfalso
      clear hE hr hR X
      (try simp only [lg_cmp_lt, lg_cmp_gt, lg_cmp_le, lg_cmp_ge] at *); (try simp (disch := omega) only [Int64.le_iff_toInt_le, Int64.lt_iff_toInt_lt, Int32.le_iff_toInt_le, Int32.lt_iff_toInt_lt, fa_eq, fa_lit, fa_litL, nI_toInt, pk_lT, Int32.toInt_toInt64, jadd64, jin, jnoneT] at *); omega
set_option maxRecDepth 4000 in
set_option maxHeartbeats 1000000 in
theorem c_isOver1 (np : Nat) (mem : jMem) (p b w x : Nat) (hn : np ≤ 12) (hp : mem 0 12 = nI np) (hp2 : p < np) (hN : mem (92 + 2 * p) 0 = nI p) (hw : mem (93 + 2 * p) 1 = nI w) (hw2 : w ≤ 999) (hb : b ≤ 999) (hx : x ≤ 65520) : jPi yX10_isOver cX10_isOver 6 .int 3 [.ref 0, .int (nI p), .int 1, .int (nI b), .int (nI x)] np mem (fun v c => v = jb (jSteps (nI x) (b + 1) = jSteps (101 * nI p + 17 * 1 + 1) (w + 1)) ∧ c = mem) := by
  refine jPi.of (own := RX10) rfl rfl (Nat.le_of_ble_eq_true rfl) (fun G X hR hr hE => ?_)
  refine j_aload_n X dX10_isOver_0 rfl ?_
  refine j_iload_n X dX10_isOver_1 rfl ?_
  refine s_callVa X hR (c_paperAt np _ p hn hp hp2) rfl 10 (by decide) (o0 np) (k0 np) rfl u435 u432 u434 qp2 u1 hyX10_paperAt (by decide) (by decide) (Nat.le_of_ble_eq_true rfl) dX10_isOver_2 (fun v_2 m_2 h_2 => ?_)
  obtain ⟨e1, e2⟩ := h_2; have e1 := e1.symm; have e2 := e2.symm; subst e1; subst e2
  refine j_astore X dX10_isOver_5 (by decide) ?_
  refine j_aload X dX10_isOver_7 rfl ?_
  refine j_ifnullR X 41 dX10_isOver_9 (by decide) ?_
  refine j_iload_n X dX10_isOver_12 rfl ?_
  refine s_callSi X hR (c_isField np _ _) rfl u529 u527 u528 u1 hyX10_isField (by decide) (by decide) (Nat.le_of_ble_eq_true rfl) dX10_isOver_13 (fun v_13 m_13 h_13 => ?_)
  obtain ⟨e1, e2⟩ := h_13; have e1 := e1.symm; have e2 := e2.symm; subst e1; subst e2
  refine j_ifb_eq X 41 dX10_isOver_16 (by decide) (fun c_16 => ?_) (fun c_16 => ?_)
  · exfalso
    clear hE hr hR X
    (try simp only [lg_cmp_lt, lg_cmp_gt, lg_cmp_le, lg_cmp_ge] at *); (try simp (disch := omega) only [Int64.le_iff_toInt_le, Int64.lt_iff_toInt_lt, Int32.le_iff_toInt_le, Int32.lt_iff_toInt_lt, fa_eq, fa_lit, fa_litL, nI_toInt, pk_lT, Int32.toInt_toInt64, jadd64, jin, jnoneT] at *); omega
  · refine j_iload_n X dX10_isOver_19 rfl ?_
    refine j_iconst X dX10_isOver_20 0 (by decide) ?_
    refine j_sipush X dX10_isOver_21 999 (by decide) ?_
    refine s_callSi X hR (c_withinI np _ _ _ _ (0) (999) rfl rfl) rfl u293 u294 u292 u1 hyX10_within (by decide) (by decide) (Nat.le_of_ble_eq_true rfl) dX10_isOver_24 (fun v_24 m_24 h_24 => ?_)
    obtain ⟨e1, e2⟩ := h_24; have e1 := e1.symm; have e2 := e2.symm; subst e1; subst e2
    refine j_ifb_eq X 41 dX10_isOver_27 (by decide) (fun c_27 => ?_) (fun c_27 => ?_)
    · exfalso
      clear hE hr hR X
      (try simp only [lg_cmp_lt, lg_cmp_gt, lg_cmp_le, lg_cmp_ge] at *); (try simp (disch := omega) only [Int64.le_iff_toInt_le, Int64.lt_iff_toInt_lt, Int32.le_iff_toInt_le, Int32.lt_iff_toInt_lt, fa_eq, fa_lit, fa_litL, nI_toInt, pk_lT, Int32.toInt_toInt64, jadd64, jin, jnoneT] at *); omega
    · refine j_iload X dX10_isOver_30 rfl ?_
      refine j_iconst X dX10_isOver_32 0 (by decide) ?_
      refine j_ldc X dX10_isOver_33 u356 ?_
      refine s_callSi X hR (c_withinI np _ _ _ _ (0) (65520) rfl rfl) rfl u293 u294 u292 u1 hyX10_within (by decide) (by decide) (Nat.le_of_ble_eq_true rfl) dX10_isOver_35 (fun v_35 m_35 h_35 => ?_)
      obtain ⟨e1, e2⟩ := h_35; have e1 := e1.symm; have e2 := e2.symm; subst e1; subst e2
      refine j_ifb_ne X 44 dX10_isOver_38 (by decide) (fun c_38 => ?_) (fun c_38 => ?_)
      · refine j_iload X dX10_isOver_44 rfl ?_
        refine j_iload_n X dX10_isOver_46 rfl ?_
        refine j_iconst X dX10_isOver_47 1 (by decide) ?_
        refine j_iadd X dX10_isOver_48 ?_
        refine j_nrm (nI (b + 1)) (nI_1 b) ?_
        refine s_callSi X hR (c_steps np _ x (b + 1) hx (by omega)) rfl u446 u539 u445 u1 hyX10_steps (by decide) (by decide) (Nat.le_of_ble_eq_true rfl) dX10_isOver_49 (fun v_49 m_49 h_49 => ?_)
        obtain ⟨e1, e2⟩ := h_49; have e1 := e1.symm; have e2 := e2.symm; subst e1; subst e2
        refine j_aload X dX10_isOver_52 rfl ?_
        refine j_iload_n X dX10_isOver_54 rfl ?_
        refine s_callVi X hR (c_chainEnd1 np _ p w _ hp2 hN rfl hn hw hw2) rfl 6 (by decide) (oP np (by omega)) (kP np _) rfl u439 u436 u437 u438 u14 hyX6_chainEnd (by decide) (by decide) (Nat.le_of_ble_eq_true rfl) dX10_isOver_55 (fun v_55 m_55 h_55 => ?_)
        obtain ⟨e1, e2⟩ := h_55; have e1 := e1.symm; have e2 := e2.symm; subst e1; subst e2
        refine j_icmp_ne X 65 dX10_isOver_58 (by decide) (fun c_58 => ?_) (fun c_58 => ?_)
        · refine j_iconst X dX10_isOver_65 0 (by decide) ?_
          refine s_iret X hE hr dX10_isOver_66 rfl ?_
          refine ⟨?_, rfl⟩
          first | exact (jb_t c_58).symm | exact (jb_f c_58).symm
        · refine j_iconst X dX10_isOver_61 1 (by decide) ?_
          refine j_goto X 66 dX10_isOver_62 (by decide) ?_
          refine s_iret X hE hr dX10_isOver_66 rfl ?_
          refine ⟨?_, rfl⟩
          first | exact (jb_t c_58).symm | exact (jb_f c_58).symm
      · exfalso
        clear hE hr hR X
        (try simp only [lg_cmp_lt, lg_cmp_gt, lg_cmp_le, lg_cmp_ge] at *); (try simp (disch := omega) only [Int64.le_iff_toInt_le, Int64.lt_iff_toInt_lt, Int32.le_iff_toInt_le, Int32.lt_iff_toInt_lt, fa_eq, fa_lit, fa_litL, nI_toInt, pk_lT, Int32.toInt_toInt64, jadd64, jin, jnoneT] at *); omega
set_option maxRecDepth 4000 in
set_option maxHeartbeats 1000000 in
theorem c_over2_state (np : Nat) (mem : jMem) (p b w : Nat) (hn : np ≤ 12) (hp : mem 0 12 = nI np) (hp2 : p < np) (hN : mem (92 + 2 * p) 0 = nI p) (hw : mem (93 + 2 * p) 2 = nI w) (hw2 : w ≤ 999) (hb : b ≤ 999) (hlt : w < b) : jPi yX10_over cX10_over 6 .int 3 [.ref 0, .int (nI p), .int 2, .int (nI b)] np mem (fun v c => v = -1000002 ∧ c = mem) := by
  refine jPi.of (own := RX10) rfl rfl (Nat.le_of_ble_eq_true rfl) (fun G X hR hr hE => ?_)
  refine j_aload_n X dX10_over_0 rfl ?_
  refine j_iload_n X dX10_over_1 rfl ?_
  refine s_callVa X hR (c_paperAt np _ p hn hp hp2) rfl 10 (by decide) (o0 np) (k0 np) rfl u435 u432 u434 qp2 u1 hyX10_paperAt (by decide) (by decide) (Nat.le_of_ble_eq_true rfl) dX10_over_2 (fun v_2 m_2 h_2 => ?_)
  obtain ⟨e1, e2⟩ := h_2; have e1 := e1.symm; have e2 := e2.symm; subst e1; subst e2
  refine j_astore X dX10_over_5 (by decide) ?_
  refine j_aload X dX10_over_7 rfl ?_
  refine j_ifnullR X 30 dX10_over_9 (by decide) ?_
  refine j_iload_n X dX10_over_12 rfl ?_
  refine s_callSi X hR (c_isField np _ _) rfl u529 u527 u528 u1 hyX10_isField (by decide) (by decide) (Nat.le_of_ble_eq_true rfl) dX10_over_13 (fun v_13 m_13 h_13 => ?_)
  obtain ⟨e1, e2⟩ := h_13; have e1 := e1.symm; have e2 := e2.symm; subst e1; subst e2
  refine j_ifb_eq X 30 dX10_over_16 (by decide) (fun c_16 => ?_) (fun c_16 => ?_)
  · exfalso
    clear hE hr hR X
    (try simp only [lg_cmp_lt, lg_cmp_gt, lg_cmp_le, lg_cmp_ge] at *); (try simp (disch := omega) only [Int64.le_iff_toInt_le, Int64.lt_iff_toInt_lt, Int32.le_iff_toInt_le, Int32.lt_iff_toInt_lt, fa_eq, fa_lit, fa_litL, nI_toInt, pk_lT, Int32.toInt_toInt64, jadd64, jin, jnoneT] at *); omega
  · refine j_iload_n X dX10_over_19 rfl ?_
    refine j_iconst X dX10_over_20 0 (by decide) ?_
    refine j_sipush X dX10_over_21 999 (by decide) ?_
    refine s_callSi X hR (c_withinI np _ _ _ _ (0) (999) rfl rfl) rfl u293 u294 u292 u1 hyX10_within (by decide) (by decide) (Nat.le_of_ble_eq_true rfl) dX10_over_24 (fun v_24 m_24 h_24 => ?_)
    obtain ⟨e1, e2⟩ := h_24; have e1 := e1.symm; have e2 := e2.symm; subst e1; subst e2
    refine j_ifb_ne X 33 dX10_over_27 (by decide) (fun c_27 => ?_) (fun c_27 => ?_)
    · refine j_aload X dX10_over_33 rfl ?_
      refine j_getR X 6 6 (by decide) (by decide) rfl u408 (oP np (by omega)) (kP np _) _ (pP_f np _) dX10_over_35 ?_
      refine j_iload_n X dX10_over_38 rfl ?_
      refine j_nrm _ (by first | (simp only [fa_lit, pk_mul, nI_add]; done) | (simp only [fa_lit, pk_mul, nI_add]; rfl) | rfl) ?_
      refine j_ialdN X (oPf np (by omega)) (kPf np _) (by rw [lPf]; omega) (by rw [lPf]; decide) (mem (93 + 2 * p)) rfl dX10_over_39 ?_
      refine j_nrm (nI w) hw ?_
      refine j_istore X dX10_over_40 (by decide) ?_
      refine j_iload X dX10_over_42 rfl ?_
      refine j_iload_n X dX10_over_44 rfl ?_
      refine j_icmp_ge X 53 dX10_over_45 (by decide) (fun c_45 => ?_) (fun c_45 => ?_)
      · exfalso
        clear hE hr hR X
        (try simp only [lg_cmp_lt, lg_cmp_gt, lg_cmp_le, lg_cmp_ge] at *); (try simp (disch := omega) only [Int64.le_iff_toInt_le, Int64.lt_iff_toInt_lt, Int32.le_iff_toInt_le, Int32.lt_iff_toInt_lt, fa_eq, fa_lit, fa_litL, nI_toInt, pk_lT, Int32.toInt_toInt64, jadd64, jin, jnoneT] at *); omega
      · refine j_ldc X dX10_over_48 u374 ?_
        refine j_goto X 66 dX10_over_50 (by decide) ?_
        refine s_iret X hE hr dX10_over_66 rfl ?_
        first | exact ⟨rfl, rfl⟩ | (exfalso; clear hE hr hR X; (try simp only [lg_cmp_lt, lg_cmp_gt, lg_cmp_le, lg_cmp_ge] at *); (try simp (disch := omega) only [Int64.le_iff_toInt_le, Int64.lt_iff_toInt_lt, Int32.le_iff_toInt_le, Int32.lt_iff_toInt_lt, fa_eq, fa_lit, fa_litL, nI_toInt, pk_lT, Int32.toInt_toInt64, jadd64, jin, jnoneT] at *); omega)
    · exfalso
      clear hE hr hR X
      (try simp only [lg_cmp_lt, lg_cmp_gt, lg_cmp_le, lg_cmp_ge] at *); (try simp (disch := omega) only [Int64.le_iff_toInt_le, Int64.lt_iff_toInt_lt, Int32.le_iff_toInt_le, Int32.lt_iff_toInt_lt, fa_eq, fa_lit, fa_litL, nI_toInt, pk_lT, Int32.toInt_toInt64, jadd64, jin, jnoneT] at *); omega
set_option maxRecDepth 4000 in
set_option maxHeartbeats 1000000 in
theorem c_over2 (np : Nat) (mem : jMem) (p b w : Nat) (hn : np ≤ 12) (hp : mem 0 12 = nI np) (hp2 : p < np) (hN : mem (92 + 2 * p) 0 = nI p) (hw : mem (93 + 2 * p) 2 = nI w) (hw2 : w ≤ 999) (hb : b ≤ 999) (hlt : b ≤ w) : jPi yX10_over cX10_over 6 .int 3 [.ref 0, .int (nI p), .int 2, .int (nI b)] np mem (fun v c => v = jSteps (101 * nI p + 17 * 2 + 1) (w - b) ∧ c = mem) := by
  refine jPi.of (own := RX10) rfl rfl (Nat.le_of_ble_eq_true rfl) (fun G X hR hr hE => ?_)
  refine j_aload_n X dX10_over_0 rfl ?_
  refine j_iload_n X dX10_over_1 rfl ?_
  refine s_callVa X hR (c_paperAt np _ p hn hp hp2) rfl 10 (by decide) (o0 np) (k0 np) rfl u435 u432 u434 qp2 u1 hyX10_paperAt (by decide) (by decide) (Nat.le_of_ble_eq_true rfl) dX10_over_2 (fun v_2 m_2 h_2 => ?_)
  obtain ⟨e1, e2⟩ := h_2; have e1 := e1.symm; have e2 := e2.symm; subst e1; subst e2
  refine j_astore X dX10_over_5 (by decide) ?_
  refine j_aload X dX10_over_7 rfl ?_
  refine j_ifnullR X 30 dX10_over_9 (by decide) ?_
  refine j_iload_n X dX10_over_12 rfl ?_
  refine s_callSi X hR (c_isField np _ _) rfl u529 u527 u528 u1 hyX10_isField (by decide) (by decide) (Nat.le_of_ble_eq_true rfl) dX10_over_13 (fun v_13 m_13 h_13 => ?_)
  obtain ⟨e1, e2⟩ := h_13; have e1 := e1.symm; have e2 := e2.symm; subst e1; subst e2
  refine j_ifb_eq X 30 dX10_over_16 (by decide) (fun c_16 => ?_) (fun c_16 => ?_)
  · exfalso
    clear hE hr hR X
    (try simp only [lg_cmp_lt, lg_cmp_gt, lg_cmp_le, lg_cmp_ge] at *); (try simp (disch := omega) only [Int64.le_iff_toInt_le, Int64.lt_iff_toInt_lt, Int32.le_iff_toInt_le, Int32.lt_iff_toInt_lt, fa_eq, fa_lit, fa_litL, nI_toInt, pk_lT, Int32.toInt_toInt64, jadd64, jin, jnoneT] at *); omega
  · refine j_iload_n X dX10_over_19 rfl ?_
    refine j_iconst X dX10_over_20 0 (by decide) ?_
    refine j_sipush X dX10_over_21 999 (by decide) ?_
    refine s_callSi X hR (c_withinI np _ _ _ _ (0) (999) rfl rfl) rfl u293 u294 u292 u1 hyX10_within (by decide) (by decide) (Nat.le_of_ble_eq_true rfl) dX10_over_24 (fun v_24 m_24 h_24 => ?_)
    obtain ⟨e1, e2⟩ := h_24; have e1 := e1.symm; have e2 := e2.symm; subst e1; subst e2
    refine j_ifb_ne X 33 dX10_over_27 (by decide) (fun c_27 => ?_) (fun c_27 => ?_)
    · refine j_aload X dX10_over_33 rfl ?_
      refine j_getR X 6 6 (by decide) (by decide) rfl u408 (oP np (by omega)) (kP np _) _ (pP_f np _) dX10_over_35 ?_
      refine j_iload_n X dX10_over_38 rfl ?_
      refine j_nrm _ (by first | (simp only [fa_lit, pk_mul, nI_add]; done) | (simp only [fa_lit, pk_mul, nI_add]; rfl) | rfl) ?_
      refine j_ialdN X (oPf np (by omega)) (kPf np _) (by rw [lPf]; omega) (by rw [lPf]; decide) (mem (93 + 2 * p)) rfl dX10_over_39 ?_
      refine j_nrm (nI w) hw ?_
      refine j_istore X dX10_over_40 (by decide) ?_
      refine j_iload X dX10_over_42 rfl ?_
      refine j_iload_n X dX10_over_44 rfl ?_
      refine j_icmp_ge X 53 dX10_over_45 (by decide) (fun c_45 => ?_) (fun c_45 => ?_)
      · refine j_aload X dX10_over_53 rfl ?_
        refine j_iload_n X dX10_over_55 rfl ?_
        refine s_callVi X hR (c_chainBeginning np _ p _ hp2 hN) rfl 6 (by decide) (oP np (by omega)) (kP np _) rfl u443 u538 u441 u442 u14 hyX6_chainBeginning (by decide) (by decide) (Nat.le_of_ble_eq_true rfl) dX10_over_56 (fun v_56 m_56 h_56 => ?_)
        obtain ⟨e1, e2⟩ := h_56; have e1 := e1.symm; have e2 := e2.symm; subst e1; subst e2
        refine j_nrm (nI (101 * p + 17 * 2 + 1)) (jbeg_n p 2) ?_
        refine j_iload X dX10_over_59 rfl ?_
        refine j_iload_n X dX10_over_61 rfl ?_
        refine j_isub X dX10_over_62 ?_
        refine j_nrm _ (pk_sub hlt) ?_
        refine s_callSi X hR (c_steps np _ (101 * p + 17 * 2 + 1) (w - b) (by omega) (by omega)) rfl u446 u539 u445 u1 hyX10_steps (by decide) (by decide) (Nat.le_of_ble_eq_true rfl) dX10_over_63 (fun v_63 m_63 h_63 => ?_)
        obtain ⟨e1, e2⟩ := h_63; have e1 := e1.symm; have e2 := e2.symm; subst e1; subst e2
        refine s_iret X hE hr dX10_over_66 rfl ?_
        exact ⟨by rw [← jbeg_n p 2]; rfl, rfl⟩
      · exfalso
        clear hE hr hR X
        (try simp only [lg_cmp_lt, lg_cmp_gt, lg_cmp_le, lg_cmp_ge] at *); (try simp (disch := omega) only [Int64.le_iff_toInt_le, Int64.lt_iff_toInt_lt, Int32.le_iff_toInt_le, Int32.lt_iff_toInt_lt, fa_eq, fa_lit, fa_litL, nI_toInt, pk_lT, Int32.toInt_toInt64, jadd64, jin, jnoneT] at *); omega
    · exfalso
      clear hE hr hR X
      (try simp only [lg_cmp_lt, lg_cmp_gt, lg_cmp_le, lg_cmp_ge] at *); (try simp (disch := omega) only [Int64.le_iff_toInt_le, Int64.lt_iff_toInt_lt, Int32.le_iff_toInt_le, Int32.lt_iff_toInt_lt, fa_eq, fa_lit, fa_litL, nI_toInt, pk_lT, Int32.toInt_toInt64, jadd64, jin, jnoneT] at *); omega
set_option maxRecDepth 4000 in
set_option maxHeartbeats 1000000 in
theorem c_isOver2 (np : Nat) (mem : jMem) (p b w x : Nat) (hn : np ≤ 12) (hp : mem 0 12 = nI np) (hp2 : p < np) (hN : mem (92 + 2 * p) 0 = nI p) (hw : mem (93 + 2 * p) 2 = nI w) (hw2 : w ≤ 999) (hb : b ≤ 999) (hx : x ≤ 65520) : jPi yX10_isOver cX10_isOver 6 .int 3 [.ref 0, .int (nI p), .int 2, .int (nI b), .int (nI x)] np mem (fun v c => v = jb (jSteps (nI x) (b + 1) = jSteps (101 * nI p + 17 * 2 + 1) (w + 1)) ∧ c = mem) := by
  refine jPi.of (own := RX10) rfl rfl (Nat.le_of_ble_eq_true rfl) (fun G X hR hr hE => ?_)
  refine j_aload_n X dX10_isOver_0 rfl ?_
  refine j_iload_n X dX10_isOver_1 rfl ?_
  refine s_callVa X hR (c_paperAt np _ p hn hp hp2) rfl 10 (by decide) (o0 np) (k0 np) rfl u435 u432 u434 qp2 u1 hyX10_paperAt (by decide) (by decide) (Nat.le_of_ble_eq_true rfl) dX10_isOver_2 (fun v_2 m_2 h_2 => ?_)
  obtain ⟨e1, e2⟩ := h_2; have e1 := e1.symm; have e2 := e2.symm; subst e1; subst e2
  refine j_astore X dX10_isOver_5 (by decide) ?_
  refine j_aload X dX10_isOver_7 rfl ?_
  refine j_ifnullR X 41 dX10_isOver_9 (by decide) ?_
  refine j_iload_n X dX10_isOver_12 rfl ?_
  refine s_callSi X hR (c_isField np _ _) rfl u529 u527 u528 u1 hyX10_isField (by decide) (by decide) (Nat.le_of_ble_eq_true rfl) dX10_isOver_13 (fun v_13 m_13 h_13 => ?_)
  obtain ⟨e1, e2⟩ := h_13; have e1 := e1.symm; have e2 := e2.symm; subst e1; subst e2
  refine j_ifb_eq X 41 dX10_isOver_16 (by decide) (fun c_16 => ?_) (fun c_16 => ?_)
  · exfalso
    clear hE hr hR X
    (try simp only [lg_cmp_lt, lg_cmp_gt, lg_cmp_le, lg_cmp_ge] at *); (try simp (disch := omega) only [Int64.le_iff_toInt_le, Int64.lt_iff_toInt_lt, Int32.le_iff_toInt_le, Int32.lt_iff_toInt_lt, fa_eq, fa_lit, fa_litL, nI_toInt, pk_lT, Int32.toInt_toInt64, jadd64, jin, jnoneT] at *); omega
  · refine j_iload_n X dX10_isOver_19 rfl ?_
    refine j_iconst X dX10_isOver_20 0 (by decide) ?_
    refine j_sipush X dX10_isOver_21 999 (by decide) ?_
    refine s_callSi X hR (c_withinI np _ _ _ _ (0) (999) rfl rfl) rfl u293 u294 u292 u1 hyX10_within (by decide) (by decide) (Nat.le_of_ble_eq_true rfl) dX10_isOver_24 (fun v_24 m_24 h_24 => ?_)
    obtain ⟨e1, e2⟩ := h_24; have e1 := e1.symm; have e2 := e2.symm; subst e1; subst e2
    refine j_ifb_eq X 41 dX10_isOver_27 (by decide) (fun c_27 => ?_) (fun c_27 => ?_)
    · exfalso
      clear hE hr hR X
      (try simp only [lg_cmp_lt, lg_cmp_gt, lg_cmp_le, lg_cmp_ge] at *); (try simp (disch := omega) only [Int64.le_iff_toInt_le, Int64.lt_iff_toInt_lt, Int32.le_iff_toInt_le, Int32.lt_iff_toInt_lt, fa_eq, fa_lit, fa_litL, nI_toInt, pk_lT, Int32.toInt_toInt64, jadd64, jin, jnoneT] at *); omega
    · refine j_iload X dX10_isOver_30 rfl ?_
      refine j_iconst X dX10_isOver_32 0 (by decide) ?_
      refine j_ldc X dX10_isOver_33 u356 ?_
      refine s_callSi X hR (c_withinI np _ _ _ _ (0) (65520) rfl rfl) rfl u293 u294 u292 u1 hyX10_within (by decide) (by decide) (Nat.le_of_ble_eq_true rfl) dX10_isOver_35 (fun v_35 m_35 h_35 => ?_)
      obtain ⟨e1, e2⟩ := h_35; have e1 := e1.symm; have e2 := e2.symm; subst e1; subst e2
      refine j_ifb_ne X 44 dX10_isOver_38 (by decide) (fun c_38 => ?_) (fun c_38 => ?_)
      · refine j_iload X dX10_isOver_44 rfl ?_
        refine j_iload_n X dX10_isOver_46 rfl ?_
        refine j_iconst X dX10_isOver_47 1 (by decide) ?_
        refine j_iadd X dX10_isOver_48 ?_
        refine j_nrm (nI (b + 1)) (nI_1 b) ?_
        refine s_callSi X hR (c_steps np _ x (b + 1) hx (by omega)) rfl u446 u539 u445 u1 hyX10_steps (by decide) (by decide) (Nat.le_of_ble_eq_true rfl) dX10_isOver_49 (fun v_49 m_49 h_49 => ?_)
        obtain ⟨e1, e2⟩ := h_49; have e1 := e1.symm; have e2 := e2.symm; subst e1; subst e2
        refine j_aload X dX10_isOver_52 rfl ?_
        refine j_iload_n X dX10_isOver_54 rfl ?_
        refine s_callVi X hR (c_chainEnd2 np _ p w _ hp2 hN rfl hn hw hw2) rfl 6 (by decide) (oP np (by omega)) (kP np _) rfl u439 u436 u437 u438 u14 hyX6_chainEnd (by decide) (by decide) (Nat.le_of_ble_eq_true rfl) dX10_isOver_55 (fun v_55 m_55 h_55 => ?_)
        obtain ⟨e1, e2⟩ := h_55; have e1 := e1.symm; have e2 := e2.symm; subst e1; subst e2
        refine j_icmp_ne X 65 dX10_isOver_58 (by decide) (fun c_58 => ?_) (fun c_58 => ?_)
        · refine j_iconst X dX10_isOver_65 0 (by decide) ?_
          refine s_iret X hE hr dX10_isOver_66 rfl ?_
          refine ⟨?_, rfl⟩
          first | exact (jb_t c_58).symm | exact (jb_f c_58).symm
        · refine j_iconst X dX10_isOver_61 1 (by decide) ?_
          refine j_goto X 66 dX10_isOver_62 (by decide) ?_
          refine s_iret X hE hr dX10_isOver_66 rfl ?_
          refine ⟨?_, rfl⟩
          first | exact (jb_t c_58).symm | exact (jb_f c_58).symm
      · exfalso
        clear hE hr hR X
        (try simp only [lg_cmp_lt, lg_cmp_gt, lg_cmp_le, lg_cmp_ge] at *); (try simp (disch := omega) only [Int64.le_iff_toInt_le, Int64.lt_iff_toInt_lt, Int32.le_iff_toInt_le, Int32.lt_iff_toInt_lt, fa_eq, fa_lit, fa_litL, nI_toInt, pk_lT, Int32.toInt_toInt64, jadd64, jin, jnoneT] at *); omega
set_option maxRecDepth 4000 in
set_option maxHeartbeats 1000000 in
theorem c_over3_state (np : Nat) (mem : jMem) (p b w : Nat) (hn : np ≤ 12) (hp : mem 0 12 = nI np) (hp2 : p < np) (hN : mem (92 + 2 * p) 0 = nI p) (hw : mem (93 + 2 * p) 3 = nI w) (hw2 : w ≤ 999) (hb : b ≤ 999) (hlt : w < b) : jPi yX10_over cX10_over 6 .int 3 [.ref 0, .int (nI p), .int 3, .int (nI b)] np mem (fun v c => v = -1000002 ∧ c = mem) := by
  refine jPi.of (own := RX10) rfl rfl (Nat.le_of_ble_eq_true rfl) (fun G X hR hr hE => ?_)
  refine j_aload_n X dX10_over_0 rfl ?_
  refine j_iload_n X dX10_over_1 rfl ?_
  refine s_callVa X hR (c_paperAt np _ p hn hp hp2) rfl 10 (by decide) (o0 np) (k0 np) rfl u435 u432 u434 qp2 u1 hyX10_paperAt (by decide) (by decide) (Nat.le_of_ble_eq_true rfl) dX10_over_2 (fun v_2 m_2 h_2 => ?_)
  obtain ⟨e1, e2⟩ := h_2; have e1 := e1.symm; have e2 := e2.symm; subst e1; subst e2
  refine j_astore X dX10_over_5 (by decide) ?_
  refine j_aload X dX10_over_7 rfl ?_
  refine j_ifnullR X 30 dX10_over_9 (by decide) ?_
  refine j_iload_n X dX10_over_12 rfl ?_
  refine s_callSi X hR (c_isField np _ _) rfl u529 u527 u528 u1 hyX10_isField (by decide) (by decide) (Nat.le_of_ble_eq_true rfl) dX10_over_13 (fun v_13 m_13 h_13 => ?_)
  obtain ⟨e1, e2⟩ := h_13; have e1 := e1.symm; have e2 := e2.symm; subst e1; subst e2
  refine j_ifb_eq X 30 dX10_over_16 (by decide) (fun c_16 => ?_) (fun c_16 => ?_)
  · exfalso
    clear hE hr hR X
    (try simp only [lg_cmp_lt, lg_cmp_gt, lg_cmp_le, lg_cmp_ge] at *); (try simp (disch := omega) only [Int64.le_iff_toInt_le, Int64.lt_iff_toInt_lt, Int32.le_iff_toInt_le, Int32.lt_iff_toInt_lt, fa_eq, fa_lit, fa_litL, nI_toInt, pk_lT, Int32.toInt_toInt64, jadd64, jin, jnoneT] at *); omega
  · refine j_iload_n X dX10_over_19 rfl ?_
    refine j_iconst X dX10_over_20 0 (by decide) ?_
    refine j_sipush X dX10_over_21 999 (by decide) ?_
    refine s_callSi X hR (c_withinI np _ _ _ _ (0) (999) rfl rfl) rfl u293 u294 u292 u1 hyX10_within (by decide) (by decide) (Nat.le_of_ble_eq_true rfl) dX10_over_24 (fun v_24 m_24 h_24 => ?_)
    obtain ⟨e1, e2⟩ := h_24; have e1 := e1.symm; have e2 := e2.symm; subst e1; subst e2
    refine j_ifb_ne X 33 dX10_over_27 (by decide) (fun c_27 => ?_) (fun c_27 => ?_)
    · refine j_aload X dX10_over_33 rfl ?_
      refine j_getR X 6 6 (by decide) (by decide) rfl u408 (oP np (by omega)) (kP np _) _ (pP_f np _) dX10_over_35 ?_
      refine j_iload_n X dX10_over_38 rfl ?_
      refine j_nrm _ (by first | (simp only [fa_lit, pk_mul, nI_add]; done) | (simp only [fa_lit, pk_mul, nI_add]; rfl) | rfl) ?_
      refine j_ialdN X (oPf np (by omega)) (kPf np _) (by rw [lPf]; omega) (by rw [lPf]; decide) (mem (93 + 2 * p)) rfl dX10_over_39 ?_
      refine j_nrm (nI w) hw ?_
      refine j_istore X dX10_over_40 (by decide) ?_
      refine j_iload X dX10_over_42 rfl ?_
      refine j_iload_n X dX10_over_44 rfl ?_
      refine j_icmp_ge X 53 dX10_over_45 (by decide) (fun c_45 => ?_) (fun c_45 => ?_)
      · exfalso
        clear hE hr hR X
        (try simp only [lg_cmp_lt, lg_cmp_gt, lg_cmp_le, lg_cmp_ge] at *); (try simp (disch := omega) only [Int64.le_iff_toInt_le, Int64.lt_iff_toInt_lt, Int32.le_iff_toInt_le, Int32.lt_iff_toInt_lt, fa_eq, fa_lit, fa_litL, nI_toInt, pk_lT, Int32.toInt_toInt64, jadd64, jin, jnoneT] at *); omega
      · refine j_ldc X dX10_over_48 u374 ?_
        refine j_goto X 66 dX10_over_50 (by decide) ?_
        refine s_iret X hE hr dX10_over_66 rfl ?_
        first | exact ⟨rfl, rfl⟩ | (exfalso; clear hE hr hR X; (try simp only [lg_cmp_lt, lg_cmp_gt, lg_cmp_le, lg_cmp_ge] at *); (try simp (disch := omega) only [Int64.le_iff_toInt_le, Int64.lt_iff_toInt_lt, Int32.le_iff_toInt_le, Int32.lt_iff_toInt_lt, fa_eq, fa_lit, fa_litL, nI_toInt, pk_lT, Int32.toInt_toInt64, jadd64, jin, jnoneT] at *); omega)
    · exfalso
      clear hE hr hR X
      (try simp only [lg_cmp_lt, lg_cmp_gt, lg_cmp_le, lg_cmp_ge] at *); (try simp (disch := omega) only [Int64.le_iff_toInt_le, Int64.lt_iff_toInt_lt, Int32.le_iff_toInt_le, Int32.lt_iff_toInt_lt, fa_eq, fa_lit, fa_litL, nI_toInt, pk_lT, Int32.toInt_toInt64, jadd64, jin, jnoneT] at *); omega
set_option maxRecDepth 4000 in
set_option maxHeartbeats 1000000 in
theorem c_over3 (np : Nat) (mem : jMem) (p b w : Nat) (hn : np ≤ 12) (hp : mem 0 12 = nI np) (hp2 : p < np) (hN : mem (92 + 2 * p) 0 = nI p) (hw : mem (93 + 2 * p) 3 = nI w) (hw2 : w ≤ 999) (hb : b ≤ 999) (hlt : b ≤ w) : jPi yX10_over cX10_over 6 .int 3 [.ref 0, .int (nI p), .int 3, .int (nI b)] np mem (fun v c => v = jSteps (101 * nI p + 17 * 3 + 1) (w - b) ∧ c = mem) := by
  refine jPi.of (own := RX10) rfl rfl (Nat.le_of_ble_eq_true rfl) (fun G X hR hr hE => ?_)
  refine j_aload_n X dX10_over_0 rfl ?_
  refine j_iload_n X dX10_over_1 rfl ?_
  refine s_callVa X hR (c_paperAt np _ p hn hp hp2) rfl 10 (by decide) (o0 np) (k0 np) rfl u435 u432 u434 qp2 u1 hyX10_paperAt (by decide) (by decide) (Nat.le_of_ble_eq_true rfl) dX10_over_2 (fun v_2 m_2 h_2 => ?_)
  obtain ⟨e1, e2⟩ := h_2; have e1 := e1.symm; have e2 := e2.symm; subst e1; subst e2
  refine j_astore X dX10_over_5 (by decide) ?_
  refine j_aload X dX10_over_7 rfl ?_
  refine j_ifnullR X 30 dX10_over_9 (by decide) ?_
  refine j_iload_n X dX10_over_12 rfl ?_
  refine s_callSi X hR (c_isField np _ _) rfl u529 u527 u528 u1 hyX10_isField (by decide) (by decide) (Nat.le_of_ble_eq_true rfl) dX10_over_13 (fun v_13 m_13 h_13 => ?_)
  obtain ⟨e1, e2⟩ := h_13; have e1 := e1.symm; have e2 := e2.symm; subst e1; subst e2
  refine j_ifb_eq X 30 dX10_over_16 (by decide) (fun c_16 => ?_) (fun c_16 => ?_)
  · exfalso
    clear hE hr hR X
    (try simp only [lg_cmp_lt, lg_cmp_gt, lg_cmp_le, lg_cmp_ge] at *); (try simp (disch := omega) only [Int64.le_iff_toInt_le, Int64.lt_iff_toInt_lt, Int32.le_iff_toInt_le, Int32.lt_iff_toInt_lt, fa_eq, fa_lit, fa_litL, nI_toInt, pk_lT, Int32.toInt_toInt64, jadd64, jin, jnoneT] at *); omega
  · refine j_iload_n X dX10_over_19 rfl ?_
    refine j_iconst X dX10_over_20 0 (by decide) ?_
    refine j_sipush X dX10_over_21 999 (by decide) ?_
    refine s_callSi X hR (c_withinI np _ _ _ _ (0) (999) rfl rfl) rfl u293 u294 u292 u1 hyX10_within (by decide) (by decide) (Nat.le_of_ble_eq_true rfl) dX10_over_24 (fun v_24 m_24 h_24 => ?_)
    obtain ⟨e1, e2⟩ := h_24; have e1 := e1.symm; have e2 := e2.symm; subst e1; subst e2
    refine j_ifb_ne X 33 dX10_over_27 (by decide) (fun c_27 => ?_) (fun c_27 => ?_)
    · refine j_aload X dX10_over_33 rfl ?_
      refine j_getR X 6 6 (by decide) (by decide) rfl u408 (oP np (by omega)) (kP np _) _ (pP_f np _) dX10_over_35 ?_
      refine j_iload_n X dX10_over_38 rfl ?_
      refine j_nrm _ (by first | (simp only [fa_lit, pk_mul, nI_add]; done) | (simp only [fa_lit, pk_mul, nI_add]; rfl) | rfl) ?_
      refine j_ialdN X (oPf np (by omega)) (kPf np _) (by rw [lPf]; omega) (by rw [lPf]; decide) (mem (93 + 2 * p)) rfl dX10_over_39 ?_
      refine j_nrm (nI w) hw ?_
      refine j_istore X dX10_over_40 (by decide) ?_
      refine j_iload X dX10_over_42 rfl ?_
      refine j_iload_n X dX10_over_44 rfl ?_
      refine j_icmp_ge X 53 dX10_over_45 (by decide) (fun c_45 => ?_) (fun c_45 => ?_)
      · refine j_aload X dX10_over_53 rfl ?_
        refine j_iload_n X dX10_over_55 rfl ?_
        refine s_callVi X hR (c_chainBeginning np _ p _ hp2 hN) rfl 6 (by decide) (oP np (by omega)) (kP np _) rfl u443 u538 u441 u442 u14 hyX6_chainBeginning (by decide) (by decide) (Nat.le_of_ble_eq_true rfl) dX10_over_56 (fun v_56 m_56 h_56 => ?_)
        obtain ⟨e1, e2⟩ := h_56; have e1 := e1.symm; have e2 := e2.symm; subst e1; subst e2
        refine j_nrm (nI (101 * p + 17 * 3 + 1)) (jbeg_n p 3) ?_
        refine j_iload X dX10_over_59 rfl ?_
        refine j_iload_n X dX10_over_61 rfl ?_
        refine j_isub X dX10_over_62 ?_
        refine j_nrm _ (pk_sub hlt) ?_
        refine s_callSi X hR (c_steps np _ (101 * p + 17 * 3 + 1) (w - b) (by omega) (by omega)) rfl u446 u539 u445 u1 hyX10_steps (by decide) (by decide) (Nat.le_of_ble_eq_true rfl) dX10_over_63 (fun v_63 m_63 h_63 => ?_)
        obtain ⟨e1, e2⟩ := h_63; have e1 := e1.symm; have e2 := e2.symm; subst e1; subst e2
        refine s_iret X hE hr dX10_over_66 rfl ?_
        exact ⟨by rw [← jbeg_n p 3]; rfl, rfl⟩
      · exfalso
        clear hE hr hR X
        (try simp only [lg_cmp_lt, lg_cmp_gt, lg_cmp_le, lg_cmp_ge] at *); (try simp (disch := omega) only [Int64.le_iff_toInt_le, Int64.lt_iff_toInt_lt, Int32.le_iff_toInt_le, Int32.lt_iff_toInt_lt, fa_eq, fa_lit, fa_litL, nI_toInt, pk_lT, Int32.toInt_toInt64, jadd64, jin, jnoneT] at *); omega
    · exfalso
      clear hE hr hR X
      (try simp only [lg_cmp_lt, lg_cmp_gt, lg_cmp_le, lg_cmp_ge] at *); (try simp (disch := omega) only [Int64.le_iff_toInt_le, Int64.lt_iff_toInt_lt, Int32.le_iff_toInt_le, Int32.lt_iff_toInt_lt, fa_eq, fa_lit, fa_litL, nI_toInt, pk_lT, Int32.toInt_toInt64, jadd64, jin, jnoneT] at *); omega
set_option maxRecDepth 4000 in
set_option maxHeartbeats 1000000 in
theorem c_isOver3 (np : Nat) (mem : jMem) (p b w x : Nat) (hn : np ≤ 12) (hp : mem 0 12 = nI np) (hp2 : p < np) (hN : mem (92 + 2 * p) 0 = nI p) (hw : mem (93 + 2 * p) 3 = nI w) (hw2 : w ≤ 999) (hb : b ≤ 999) (hx : x ≤ 65520) : jPi yX10_isOver cX10_isOver 6 .int 3 [.ref 0, .int (nI p), .int 3, .int (nI b), .int (nI x)] np mem (fun v c => v = jb (jSteps (nI x) (b + 1) = jSteps (101 * nI p + 17 * 3 + 1) (w + 1)) ∧ c = mem) := by
  refine jPi.of (own := RX10) rfl rfl (Nat.le_of_ble_eq_true rfl) (fun G X hR hr hE => ?_)
  refine j_aload_n X dX10_isOver_0 rfl ?_
  refine j_iload_n X dX10_isOver_1 rfl ?_
  refine s_callVa X hR (c_paperAt np _ p hn hp hp2) rfl 10 (by decide) (o0 np) (k0 np) rfl u435 u432 u434 qp2 u1 hyX10_paperAt (by decide) (by decide) (Nat.le_of_ble_eq_true rfl) dX10_isOver_2 (fun v_2 m_2 h_2 => ?_)
  obtain ⟨e1, e2⟩ := h_2; have e1 := e1.symm; have e2 := e2.symm; subst e1; subst e2
  refine j_astore X dX10_isOver_5 (by decide) ?_
  refine j_aload X dX10_isOver_7 rfl ?_
  refine j_ifnullR X 41 dX10_isOver_9 (by decide) ?_
  refine j_iload_n X dX10_isOver_12 rfl ?_
  refine s_callSi X hR (c_isField np _ _) rfl u529 u527 u528 u1 hyX10_isField (by decide) (by decide) (Nat.le_of_ble_eq_true rfl) dX10_isOver_13 (fun v_13 m_13 h_13 => ?_)
  obtain ⟨e1, e2⟩ := h_13; have e1 := e1.symm; have e2 := e2.symm; subst e1; subst e2
  refine j_ifb_eq X 41 dX10_isOver_16 (by decide) (fun c_16 => ?_) (fun c_16 => ?_)
  · exfalso
    clear hE hr hR X
    (try simp only [lg_cmp_lt, lg_cmp_gt, lg_cmp_le, lg_cmp_ge] at *); (try simp (disch := omega) only [Int64.le_iff_toInt_le, Int64.lt_iff_toInt_lt, Int32.le_iff_toInt_le, Int32.lt_iff_toInt_lt, fa_eq, fa_lit, fa_litL, nI_toInt, pk_lT, Int32.toInt_toInt64, jadd64, jin, jnoneT] at *); omega
  · refine j_iload_n X dX10_isOver_19 rfl ?_
    refine j_iconst X dX10_isOver_20 0 (by decide) ?_
    refine j_sipush X dX10_isOver_21 999 (by decide) ?_
    refine s_callSi X hR (c_withinI np _ _ _ _ (0) (999) rfl rfl) rfl u293 u294 u292 u1 hyX10_within (by decide) (by decide) (Nat.le_of_ble_eq_true rfl) dX10_isOver_24 (fun v_24 m_24 h_24 => ?_)
    obtain ⟨e1, e2⟩ := h_24; have e1 := e1.symm; have e2 := e2.symm; subst e1; subst e2
    refine j_ifb_eq X 41 dX10_isOver_27 (by decide) (fun c_27 => ?_) (fun c_27 => ?_)
    · exfalso
      clear hE hr hR X
      (try simp only [lg_cmp_lt, lg_cmp_gt, lg_cmp_le, lg_cmp_ge] at *); (try simp (disch := omega) only [Int64.le_iff_toInt_le, Int64.lt_iff_toInt_lt, Int32.le_iff_toInt_le, Int32.lt_iff_toInt_lt, fa_eq, fa_lit, fa_litL, nI_toInt, pk_lT, Int32.toInt_toInt64, jadd64, jin, jnoneT] at *); omega
    · refine j_iload X dX10_isOver_30 rfl ?_
      refine j_iconst X dX10_isOver_32 0 (by decide) ?_
      refine j_ldc X dX10_isOver_33 u356 ?_
      refine s_callSi X hR (c_withinI np _ _ _ _ (0) (65520) rfl rfl) rfl u293 u294 u292 u1 hyX10_within (by decide) (by decide) (Nat.le_of_ble_eq_true rfl) dX10_isOver_35 (fun v_35 m_35 h_35 => ?_)
      obtain ⟨e1, e2⟩ := h_35; have e1 := e1.symm; have e2 := e2.symm; subst e1; subst e2
      refine j_ifb_ne X 44 dX10_isOver_38 (by decide) (fun c_38 => ?_) (fun c_38 => ?_)
      · refine j_iload X dX10_isOver_44 rfl ?_
        refine j_iload_n X dX10_isOver_46 rfl ?_
        refine j_iconst X dX10_isOver_47 1 (by decide) ?_
        refine j_iadd X dX10_isOver_48 ?_
        refine j_nrm (nI (b + 1)) (nI_1 b) ?_
        refine s_callSi X hR (c_steps np _ x (b + 1) hx (by omega)) rfl u446 u539 u445 u1 hyX10_steps (by decide) (by decide) (Nat.le_of_ble_eq_true rfl) dX10_isOver_49 (fun v_49 m_49 h_49 => ?_)
        obtain ⟨e1, e2⟩ := h_49; have e1 := e1.symm; have e2 := e2.symm; subst e1; subst e2
        refine j_aload X dX10_isOver_52 rfl ?_
        refine j_iload_n X dX10_isOver_54 rfl ?_
        refine s_callVi X hR (c_chainEnd3 np _ p w _ hp2 hN rfl hn hw hw2) rfl 6 (by decide) (oP np (by omega)) (kP np _) rfl u439 u436 u437 u438 u14 hyX6_chainEnd (by decide) (by decide) (Nat.le_of_ble_eq_true rfl) dX10_isOver_55 (fun v_55 m_55 h_55 => ?_)
        obtain ⟨e1, e2⟩ := h_55; have e1 := e1.symm; have e2 := e2.symm; subst e1; subst e2
        refine j_icmp_ne X 65 dX10_isOver_58 (by decide) (fun c_58 => ?_) (fun c_58 => ?_)
        · refine j_iconst X dX10_isOver_65 0 (by decide) ?_
          refine s_iret X hE hr dX10_isOver_66 rfl ?_
          refine ⟨?_, rfl⟩
          first | exact (jb_t c_58).symm | exact (jb_f c_58).symm
        · refine j_iconst X dX10_isOver_61 1 (by decide) ?_
          refine j_goto X 66 dX10_isOver_62 (by decide) ?_
          refine s_iret X hE hr dX10_isOver_66 rfl ?_
          refine ⟨?_, rfl⟩
          first | exact (jb_t c_58).symm | exact (jb_f c_58).symm
      · exfalso
        clear hE hr hR X
        (try simp only [lg_cmp_lt, lg_cmp_gt, lg_cmp_le, lg_cmp_ge] at *); (try simp (disch := omega) only [Int64.le_iff_toInt_le, Int64.lt_iff_toInt_lt, Int32.le_iff_toInt_le, Int32.lt_iff_toInt_lt, fa_eq, fa_lit, fa_litL, nI_toInt, pk_lT, Int32.toInt_toInt64, jadd64, jin, jnoneT] at *); omega
set_option maxRecDepth 4000 in
set_option maxHeartbeats 1000000 in
theorem c_power (np : Nat) (mem : jMem) (x : Int32) (k : Nat) (hk : k < 2 ^ 31) : jPi yX10_power cX10_power 4 .int 1 [.int x, .int (nI k)] np mem (fun v c => v = jPow x 47 k ∧ c = mem) := by
  refine jPi.of (own := RX10) rfl rfl (Nat.le_of_ble_eq_true rfl) (fun G X hR hr hE => ?_)
  refine j_iconst X dX10_power_0 1 (by decide) ?_
  refine j_istore_n X dX10_power_1 (by decide) ?_
  refine j_iconst X dX10_power_2 0 (by decide) ?_
  refine j_istore_n X dX10_power_3 (by decide) ?_
  have lp4 : ∀ (n : Nat) (j : Nat), j ≤ k → k + 1 ≤ j + n → J G RX10 cX10_power 4 0 0 4 (jlv [some (.int x), some (.int (nI k)), some (.int (jPow x 47 j)), some (.int (nI j))]) [] (jS np) (mem) := by
    intro n
    induction n with
    | zero =>
      intro j hj hn
      exact absurd hn (by omega)
    | succ n ih4 =>
      intro j hj hn
      refine j_iload_n X dX10_power_4 rfl ?_
      refine j_iload_n X dX10_power_5 rfl ?_
      refine j_icmp_ge X 22 dX10_power_6 (by decide) (fun c_6 => ?_) (fun c_6 => ?_)
      · obtain rfl : j = k := by clear hE hr hR X; (try simp only [lg_cmp_lt, lg_cmp_gt, lg_cmp_le, lg_cmp_ge] at *); (try simp (disch := omega) only [Int64.le_iff_toInt_le, Int64.lt_iff_toInt_lt, Int32.le_iff_toInt_le, Int32.lt_iff_toInt_lt, fa_eq, fa_lit, fa_litL, nI_toInt, pk_lT, Int32.toInt_toInt64, jadd64, jin, jnoneT] at *); omega
        refine j_iload_n X dX10_power_22 rfl ?_
        refine s_iret X hE hr dX10_power_23 rfl ?_
        first | exact ⟨rfl, rfl⟩ | (exfalso; clear hE hr hR X; (try simp only [lg_cmp_lt, lg_cmp_gt, lg_cmp_le, lg_cmp_ge] at *); (try simp (disch := omega) only [Int64.le_iff_toInt_le, Int64.lt_iff_toInt_lt, Int32.le_iff_toInt_le, Int32.lt_iff_toInt_lt, fa_eq, fa_lit, fa_litL, nI_toInt, pk_lT, Int32.toInt_toInt64, jadd64, jin, jnoneT] at *); omega)
      · have hj2 : j < k := by clear hE hr hR X; (try simp only [lg_cmp_lt, lg_cmp_gt, lg_cmp_le, lg_cmp_ge] at *); (try simp (disch := omega) only [Int64.le_iff_toInt_le, Int64.lt_iff_toInt_lt, Int32.le_iff_toInt_le, Int32.lt_iff_toInt_lt, fa_eq, fa_lit, fa_litL, nI_toInt, pk_lT, Int32.toInt_toInt64, jadd64, jin, jnoneT] at *); omega
        refine j_iload_n X dX10_power_9 rfl ?_
        refine j_iload_n X dX10_power_10 rfl ?_
        refine j_imul X dX10_power_11 ?_
        refine j_bipush X dX10_power_12 47 (by decide) ?_
        refine j_irem X dX10_power_14 (by decide) ?_
        refine j_istore_n X dX10_power_15 (by decide) ?_
        refine j_iinc X dX10_power_16 rfl 1 rfl ?_
        refine j_goto X 4 dX10_power_19 (by decide) ?_
        refine j_lv [some (.int x), some (.int (nI k)), some (.int (jPow x 47 (j + 1))), some (.int (nI (j + 1)))] ⟨rfl, rfl, rfl, (congrArg (fun z => some (Value.int z)) (nI_1 _)), trivial⟩ ?_
        exact ih4 (j + 1) (by omega) (by omega)
  refine j_lv [some (.int x), some (.int (nI k)), some (.int (jPow x 47 0)), some (.int (nI 0))] ⟨rfl, rfl, rfl, rfl, trivial⟩ ?_
  exact lp4 (k + 1) 0 (by omega) (by omega)
set_option maxRecDepth 4000 in
set_option maxHeartbeats 1000000 in
theorem c_signOf (np : Nat) (mem : jMem) (b w : Nat) (hb : b < 6) (hw : mem 28 b = nI w) (hw2 : w ≤ 22) : jPi yX10_signOf cX10_signOf 2 .int 2 [.ref 0, .int (nI b)] np mem (fun v c => v = jPow 4 47 w ∧ c = mem) := by
  refine jPi.of (own := RX10) rfl rfl (Nat.le_of_ble_eq_true rfl) (fun G X hR hr hE => ?_)
  refine j_iconst X dX10_signOf_0 4 (by decide) ?_
  refine j_aload_n X dX10_signOf_1 rfl ?_
  refine j_getR X 10 3 (by decide) (by decide) rfl u241 (o0 np) (k0 np) _ (p0_3 np) dX10_signOf_2 ?_
  refine j_iload_n X dX10_signOf_5 rfl ?_
  refine j_nrm _ (by first | (simp only [fa_lit, pk_mul, nI_add]; done) | (simp only [fa_lit, pk_mul, nI_add]; rfl) | rfl) ?_
  refine j_ialdN X (o28 np) (k28 np) (by rw [l28]; omega) (by rw [l28]; decide) (mem 28) rfl dX10_signOf_6 ?_
  refine j_nrm (nI w) hw ?_
  refine s_callSi X hR (c_power np _ _ w (by omega)) rfl u557 u555 u556 u1 hyX10_power (by decide) (by decide) (Nat.le_of_ble_eq_true rfl) dX10_signOf_7 (fun v_7 m_7 h_7 => ?_)
  obtain ⟨e1, e2⟩ := h_7; have e1 := e1.symm; have e2 := e2.symm; subst e1; subst e2
  refine s_iret X hE hr dX10_signOf_10 rfl ?_
  first | exact ⟨rfl, rfl⟩ | (exfalso; clear hE hr hR X; (try simp only [lg_cmp_lt, lg_cmp_gt, lg_cmp_le, lg_cmp_ge] at *); (try simp (disch := omega) only [Int64.le_iff_toInt_le, Int64.lt_iff_toInt_lt, Int32.le_iff_toInt_le, Int32.lt_iff_toInt_lt, fa_eq, fa_lit, fa_litL, nI_toInt, pk_lT, Int32.toInt_toInt64, jadd64, jin, jnoneT] at *); omega)
set_option maxRecDepth 4000 in
set_option maxHeartbeats 1000000 in
theorem c_isTaken (np : Nat) (mem : jMem) (b w y s : Nat) (t : Int32) (hb : b < 6) (hw : mem 28 b = nI w) (hw2 : w ≤ 22) (hy : y ≤ 22) (hs : s ≤ 22) : jPi yX10_isTaken cX10_isTaken 5 .boolean 3 [.ref 0, .int (nI b), .int t, .int (nI y), .int (nI s)] np mem (fun v c => v = jb (jPow 4 47 s = jRem (t * jPow (jPow 4 47 w) 47 y) 47) ∧ c = mem) := by
  refine jPi.of (own := RX10) rfl rfl (Nat.le_of_ble_eq_true rfl) (fun G X hR hr hE => ?_)
  refine j_iconst X dX10_isTaken_0 4 (by decide) ?_
  refine j_iload X dX10_isTaken_1 rfl ?_
  refine s_callSi X hR (c_power np _ _ s (by omega)) rfl u557 u555 u556 u1 hyX10_power (by decide) (by decide) (Nat.le_of_ble_eq_true rfl) dX10_isTaken_3 (fun v_3 m_3 h_3 => ?_)
  obtain ⟨e1, e2⟩ := h_3; have e1 := e1.symm; have e2 := e2.symm; subst e1; subst e2
  refine j_iload_n X dX10_isTaken_6 rfl ?_
  refine j_aload_n X dX10_isTaken_7 rfl ?_
  refine j_iload_n X dX10_isTaken_8 rfl ?_
  refine s_callVi X hR (c_signOf np _ b w hb hw hw2) rfl 10 (by decide) (o0 np) (k0 np) rfl u554 u551 u553 qp7 u1 hyX10_signOf (by decide) (by decide) (Nat.le_of_ble_eq_true rfl) dX10_isTaken_9 (fun v_9 m_9 h_9 => ?_)
  obtain ⟨e1, e2⟩ := h_9; have e1 := e1.symm; have e2 := e2.symm; subst e1; subst e2
  refine j_iload_n X dX10_isTaken_12 rfl ?_
  refine s_callSi X hR (c_power np _ _ y (by omega)) rfl u557 u555 u556 u1 hyX10_power (by decide) (by decide) (Nat.le_of_ble_eq_true rfl) dX10_isTaken_13 (fun v_13 m_13 h_13 => ?_)
  obtain ⟨e1, e2⟩ := h_13; have e1 := e1.symm; have e2 := e2.symm; subst e1; subst e2
  refine j_imul X dX10_isTaken_16 ?_
  refine j_bipush X dX10_isTaken_17 47 (by decide) ?_
  refine j_irem X dX10_isTaken_19 (by decide) ?_
  refine j_icmp_ne X 27 dX10_isTaken_20 (by decide) (fun c_20 => ?_) (fun c_20 => ?_)
  · refine j_iconst X dX10_isTaken_27 0 (by decide) ?_
    refine s_iret X hE hr dX10_isTaken_28 (by first | exact jb_nar | rfl) ?_
    refine ⟨?_, rfl⟩
    first | exact (jb_t c_20).symm | exact (jb_f c_20).symm
  · refine j_iconst X dX10_isTaken_23 1 (by decide) ?_
    refine j_goto X 28 dX10_isTaken_24 (by decide) ?_
    refine s_iret X hE hr dX10_isTaken_28 (by first | exact jb_nar | rfl) ?_
    refine ⟨?_, rfl⟩
    first | exact (jb_t c_20).symm | exact (jb_f c_20).symm
set_option maxRecDepth 4000 in
set_option maxHeartbeats 1000000 in
theorem c_secret_bad (np : Nat) (mem : jMem) (b x : Int32) (h : ¬ (jin b 0 5 ∧ jin x 0 22)) : jPi yX10_secret cX10_secret 3 .int 3 [.ref 0, .int b, .int x] np mem (fun v c => v = -1000001 ∧ c = mem) := by
  refine jPi.of (own := RX10) rfl rfl (Nat.le_of_ble_eq_true rfl) (fun G X hR hr hE => ?_)
  refine j_iload_n X dX10_secret_0 rfl ?_
  refine s_callSi X hR (c_isBearer np _ _) rfl u550 u548 u549 u1 hyX10_isBearer (by decide) (by decide) (Nat.le_of_ble_eq_true rfl) dX10_secret_1 (fun v_1 m_1 h_1 => ?_)
  obtain ⟨e1, e2⟩ := h_1; have e1 := e1.symm; have e2 := e2.symm; subst e1; subst e2
  refine j_ifb_eq X 17 dX10_secret_4 (by decide) (fun c_4 => ?_) (fun c_4 => ?_)
  · refine j_ldc X dX10_secret_17 u295 ?_
    refine s_iret X hE hr dX10_secret_19 rfl ?_
    first | exact ⟨rfl, rfl⟩ | (exfalso; clear hE hr hR X; (try simp only [lg_cmp_lt, lg_cmp_gt, lg_cmp_le, lg_cmp_ge] at *); (try simp (disch := omega) only [Int64.le_iff_toInt_le, Int64.lt_iff_toInt_lt, Int32.le_iff_toInt_le, Int32.lt_iff_toInt_lt, fa_eq, fa_lit, fa_litL, nI_toInt, pk_lT, Int32.toInt_toInt64, jadd64, jin, jnoneT] at *); omega)
  · refine j_iload_n X dX10_secret_7 rfl ?_
    refine j_iconst X dX10_secret_8 0 (by decide) ?_
    refine j_bipush X dX10_secret_9 22 (by decide) ?_
    refine s_callSi X hR (c_withinI np _ _ _ _ (0) (22) rfl rfl) rfl u293 u294 u292 u1 hyX10_within (by decide) (by decide) (Nat.le_of_ble_eq_true rfl) dX10_secret_11 (fun v_11 m_11 h_11 => ?_)
    obtain ⟨e1, e2⟩ := h_11; have e1 := e1.symm; have e2 := e2.symm; subst e1; subst e2
    refine j_ifb_ne X 20 dX10_secret_14 (by decide) (fun c_14 => ?_) (fun c_14 => ?_)
    · exfalso
      clear hE hr hR X
      (try simp only [lg_cmp_lt, lg_cmp_gt, lg_cmp_le, lg_cmp_ge] at *); (try simp (disch := omega) only [Int64.le_iff_toInt_le, Int64.lt_iff_toInt_lt, Int32.le_iff_toInt_le, Int32.lt_iff_toInt_lt, fa_eq, fa_lit, fa_litL, nI_toInt, pk_lT, Int32.toInt_toInt64, jadd64, jin, jnoneT] at *); omega
    · refine j_ldc X dX10_secret_17 u295 ?_
      refine s_iret X hE hr dX10_secret_19 rfl ?_
      first | exact ⟨rfl, rfl⟩ | (exfalso; clear hE hr hR X; (try simp only [lg_cmp_lt, lg_cmp_gt, lg_cmp_le, lg_cmp_ge] at *); (try simp (disch := omega) only [Int64.le_iff_toInt_le, Int64.lt_iff_toInt_lt, Int32.le_iff_toInt_le, Int32.lt_iff_toInt_lt, fa_eq, fa_lit, fa_litL, nI_toInt, pk_lT, Int32.toInt_toInt64, jadd64, jin, jnoneT] at *); omega)
set_option maxRecDepth 4000 in
set_option maxHeartbeats 1000000 in
theorem c_secret0 (np : Nat) (mem : jMem) (b w : Nat) (hb : b < 6) (hw : mem 28 b = nI w) (hw2 : w ≤ 22) : jPi yX10_secret cX10_secret 3 .int 3 [.ref 0, .int (nI b), .int 0] np mem (fun v c => v = jPow 4 47 w ∧ c = mem) := by
  refine jPi.of (own := RX10) rfl rfl (Nat.le_of_ble_eq_true rfl) (fun G X hR hr hE => ?_)
  refine j_iload_n X dX10_secret_0 rfl ?_
  refine s_callSi X hR (c_isBearer np _ _) rfl u550 u548 u549 u1 hyX10_isBearer (by decide) (by decide) (Nat.le_of_ble_eq_true rfl) dX10_secret_1 (fun v_1 m_1 h_1 => ?_)
  obtain ⟨e1, e2⟩ := h_1; have e1 := e1.symm; have e2 := e2.symm; subst e1; subst e2
  refine j_ifb_eq X 17 dX10_secret_4 (by decide) (fun c_4 => ?_) (fun c_4 => ?_)
  · exfalso
    clear hE hr hR X
    (try simp only [lg_cmp_lt, lg_cmp_gt, lg_cmp_le, lg_cmp_ge] at *); (try simp (disch := omega) only [Int64.le_iff_toInt_le, Int64.lt_iff_toInt_lt, Int32.le_iff_toInt_le, Int32.lt_iff_toInt_lt, fa_eq, fa_lit, fa_litL, nI_toInt, pk_lT, Int32.toInt_toInt64, jadd64, jin, jnoneT] at *); omega
  · refine j_iload_n X dX10_secret_7 rfl ?_
    refine j_iconst X dX10_secret_8 0 (by decide) ?_
    refine j_bipush X dX10_secret_9 22 (by decide) ?_
    refine s_callSi X hR (c_withinI np _ _ _ _ (0) (22) rfl rfl) rfl u293 u294 u292 u1 hyX10_within (by decide) (by decide) (Nat.le_of_ble_eq_true rfl) dX10_secret_11 (fun v_11 m_11 h_11 => ?_)
    obtain ⟨e1, e2⟩ := h_11; have e1 := e1.symm; have e2 := e2.symm; subst e1; subst e2
    refine j_ifb_ne X 20 dX10_secret_14 (by decide) (fun c_14 => ?_) (fun c_14 => ?_)
    · refine j_iload_n X dX10_secret_20 rfl ?_
      refine j_if_eq X 31 dX10_secret_21 (by decide) (fun c_21 => ?_) (fun c_21 => absurd c_21 (by decide))
      refine j_aload_n X dX10_secret_31 rfl ?_
      refine j_iload_n X dX10_secret_32 rfl ?_
      refine s_callVi X hR (c_signOf np _ b w hb hw hw2) rfl 10 (by decide) (o0 np) (k0 np) rfl u554 u551 u553 qp7 u1 hyX10_signOf (by decide) (by decide) (Nat.le_of_ble_eq_true rfl) dX10_secret_33 (fun v_33 m_33 h_33 => ?_)
      obtain ⟨e1, e2⟩ := h_33; have e1 := e1.symm; have e2 := e2.symm; subst e1; subst e2
      refine s_iret X hE hr dX10_secret_36 rfl ?_
      first | exact ⟨rfl, rfl⟩ | (exfalso; clear hE hr hR X; (try simp only [lg_cmp_lt, lg_cmp_gt, lg_cmp_le, lg_cmp_ge] at *); (try simp (disch := omega) only [Int64.le_iff_toInt_le, Int64.lt_iff_toInt_lt, Int32.le_iff_toInt_le, Int32.lt_iff_toInt_lt, fa_eq, fa_lit, fa_litL, nI_toInt, pk_lT, Int32.toInt_toInt64, jadd64, jin, jnoneT] at *); omega)
    · exfalso
      clear hE hr hR X
      (try simp only [lg_cmp_lt, lg_cmp_gt, lg_cmp_le, lg_cmp_ge] at *); (try simp (disch := omega) only [Int64.le_iff_toInt_le, Int64.lt_iff_toInt_lt, Int32.le_iff_toInt_le, Int32.lt_iff_toInt_lt, fa_eq, fa_lit, fa_litL, nI_toInt, pk_lT, Int32.toInt_toInt64, jadd64, jin, jnoneT] at *); omega
set_option maxRecDepth 4000 in
set_option maxHeartbeats 1000000 in
theorem c_secret1 (np : Nat) (mem : jMem) (b x : Nat) (hb : b < 6) (hx : 0 < x) (hx2 : x ≤ 22) : jPi yX10_secret cX10_secret 3 .int 3 [.ref 0, .int (nI b), .int (nI x)] np mem (fun v c => v = jPow 4 47 x ∧ c = jup mem 28 b (nI x)) := by
  refine jPi.of (own := RX10) rfl rfl (Nat.le_of_ble_eq_true rfl) (fun G X hR hr hE => ?_)
  refine j_iload_n X dX10_secret_0 rfl ?_
  refine s_callSi X hR (c_isBearer np _ _) rfl u550 u548 u549 u1 hyX10_isBearer (by decide) (by decide) (Nat.le_of_ble_eq_true rfl) dX10_secret_1 (fun v_1 m_1 h_1 => ?_)
  obtain ⟨e1, e2⟩ := h_1; have e1 := e1.symm; have e2 := e2.symm; subst e1; subst e2
  refine j_ifb_eq X 17 dX10_secret_4 (by decide) (fun c_4 => ?_) (fun c_4 => ?_)
  · exfalso
    clear hE hr hR X
    (try simp only [lg_cmp_lt, lg_cmp_gt, lg_cmp_le, lg_cmp_ge] at *); (try simp (disch := omega) only [Int64.le_iff_toInt_le, Int64.lt_iff_toInt_lt, Int32.le_iff_toInt_le, Int32.lt_iff_toInt_lt, fa_eq, fa_lit, fa_litL, nI_toInt, pk_lT, Int32.toInt_toInt64, jadd64, jin, jnoneT] at *); omega
  · refine j_iload_n X dX10_secret_7 rfl ?_
    refine j_iconst X dX10_secret_8 0 (by decide) ?_
    refine j_bipush X dX10_secret_9 22 (by decide) ?_
    refine s_callSi X hR (c_withinI np _ _ _ _ (0) (22) rfl rfl) rfl u293 u294 u292 u1 hyX10_within (by decide) (by decide) (Nat.le_of_ble_eq_true rfl) dX10_secret_11 (fun v_11 m_11 h_11 => ?_)
    obtain ⟨e1, e2⟩ := h_11; have e1 := e1.symm; have e2 := e2.symm; subst e1; subst e2
    refine j_ifb_ne X 20 dX10_secret_14 (by decide) (fun c_14 => ?_) (fun c_14 => ?_)
    · refine j_iload_n X dX10_secret_20 rfl ?_
      refine j_if_eq X 31 dX10_secret_21 (by decide) (fun c_21 => absurd c_21 (by rw [show (0 : Int32) = nI 0 from rfl, nI_eq (by omega) (by omega)]; omega)) (fun c_21 => ?_)
      refine j_aload_n X dX10_secret_24 rfl ?_
      refine j_getR X 10 3 (by decide) (by decide) rfl u241 (o0 np) (k0 np) _ (p0_3 np) dX10_secret_25 ?_
      refine j_iload_n X dX10_secret_28 rfl ?_
      refine j_iload_n X dX10_secret_29 rfl ?_
      refine j_nrm2 _ (by first | (simp only [fa_lit, pk_mul, nI_add]; done) | (simp only [fa_lit, pk_mul, nI_add]; rfl) | rfl) ?_
      refine j_iastN X (o28 np) (k28 np) (by rw [l28]; omega) (by rw [l28]; decide) dX10_secret_30 ?_
      refine j_aload_n X dX10_secret_31 rfl ?_
      refine j_iload_n X dX10_secret_32 rfl ?_
      refine s_callVi X hR (c_signOf np _ b x hb (by simp [jup, va_up]) hx2) rfl 10 (by decide) (o0 np) (k0 np) rfl u554 u551 u553 qp7 u1 hyX10_signOf (by decide) (by decide) (Nat.le_of_ble_eq_true rfl) dX10_secret_33 (fun v_33 m_33 h_33 => ?_)
      obtain ⟨e1, e2⟩ := h_33; have e1 := e1.symm; have e2 := e2.symm; subst e1; subst e2
      refine s_iret X hE hr dX10_secret_36 rfl ?_
      first | exact ⟨rfl, rfl⟩ | (exfalso; clear hE hr hR X; (try simp only [lg_cmp_lt, lg_cmp_gt, lg_cmp_le, lg_cmp_ge] at *); (try simp (disch := omega) only [Int64.le_iff_toInt_le, Int64.lt_iff_toInt_lt, Int32.le_iff_toInt_le, Int32.lt_iff_toInt_lt, fa_eq, fa_lit, fa_litL, nI_toInt, pk_lT, Int32.toInt_toInt64, jadd64, jin, jnoneT] at *); omega)
    · exfalso
      clear hE hr hR X
      (try simp only [lg_cmp_lt, lg_cmp_gt, lg_cmp_le, lg_cmp_ge] at *); (try simp (disch := omega) only [Int64.le_iff_toInt_le, Int64.lt_iff_toInt_lt, Int32.le_iff_toInt_le, Int32.lt_iff_toInt_lt, fa_eq, fa_lit, fa_litL, nI_toInt, pk_lT, Int32.toInt_toInt64, jadd64, jin, jnoneT] at *); omega
set_option maxRecDepth 4000 in
set_option maxHeartbeats 1000000 in
theorem c_answer_bad (np : Nat) (mem : jMem) (b r c w : Int32) (h : ¬ (jin b 0 5 ∧ jin r 0 22 ∧ jin c 0 22 ∧ jin w 0 1)) : jPi yX10_answer cX10_answer 5 .int 3 [.ref 0, .int b, .int r, .int c, .int w] np mem (fun v c => v = -1000001 ∧ c = mem) := by
  refine jPi.of (own := RX10) rfl rfl (Nat.le_of_ble_eq_true rfl) (fun G X hR hr hE => ?_)
  refine j_iload_n X dX10_answer_0 rfl ?_
  refine s_callSi X hR (c_isBearer np _ _) rfl u550 u548 u549 u1 hyX10_isBearer (by decide) (by decide) (Nat.le_of_ble_eq_true rfl) dX10_answer_1 (fun v_1 m_1 h_1 => ?_)
  obtain ⟨e1, e2⟩ := h_1; have e1 := e1.symm; have e2 := e2.symm; subst e1; subst e2
  refine j_ifb_eq X 37 dX10_answer_4 (by decide) (fun c_4 => ?_) (fun c_4 => ?_)
  · refine j_ldc X dX10_answer_37 u295 ?_
    refine s_iret X hE hr dX10_answer_39 rfl ?_
    first | exact ⟨rfl, rfl⟩ | (exfalso; clear hE hr hR X; (try simp only [lg_cmp_lt, lg_cmp_gt, lg_cmp_le, lg_cmp_ge] at *); (try simp (disch := omega) only [Int64.le_iff_toInt_le, Int64.lt_iff_toInt_lt, Int32.le_iff_toInt_le, Int32.lt_iff_toInt_lt, fa_eq, fa_lit, fa_litL, nI_toInt, pk_lT, Int32.toInt_toInt64, jadd64, jin, jnoneT] at *); omega)
  · refine j_iload_n X dX10_answer_7 rfl ?_
    refine j_iconst X dX10_answer_8 0 (by decide) ?_
    refine j_bipush X dX10_answer_9 22 (by decide) ?_
    refine s_callSi X hR (c_withinI np _ _ _ _ (0) (22) rfl rfl) rfl u293 u294 u292 u1 hyX10_within (by decide) (by decide) (Nat.le_of_ble_eq_true rfl) dX10_answer_11 (fun v_11 m_11 h_11 => ?_)
    obtain ⟨e1, e2⟩ := h_11; have e1 := e1.symm; have e2 := e2.symm; subst e1; subst e2
    refine j_ifb_eq X 37 dX10_answer_14 (by decide) (fun c_14 => ?_) (fun c_14 => ?_)
    · refine j_ldc X dX10_answer_37 u295 ?_
      refine s_iret X hE hr dX10_answer_39 rfl ?_
      first | exact ⟨rfl, rfl⟩ | (exfalso; clear hE hr hR X; (try simp only [lg_cmp_lt, lg_cmp_gt, lg_cmp_le, lg_cmp_ge] at *); (try simp (disch := omega) only [Int64.le_iff_toInt_le, Int64.lt_iff_toInt_lt, Int32.le_iff_toInt_le, Int32.lt_iff_toInt_lt, fa_eq, fa_lit, fa_litL, nI_toInt, pk_lT, Int32.toInt_toInt64, jadd64, jin, jnoneT] at *); omega)
    · refine j_iload_n X dX10_answer_17 rfl ?_
      refine j_iconst X dX10_answer_18 0 (by decide) ?_
      refine j_bipush X dX10_answer_19 22 (by decide) ?_
      refine s_callSi X hR (c_withinI np _ _ _ _ (0) (22) rfl rfl) rfl u293 u294 u292 u1 hyX10_within (by decide) (by decide) (Nat.le_of_ble_eq_true rfl) dX10_answer_21 (fun v_21 m_21 h_21 => ?_)
      obtain ⟨e1, e2⟩ := h_21; have e1 := e1.symm; have e2 := e2.symm; subst e1; subst e2
      refine j_ifb_eq X 37 dX10_answer_24 (by decide) (fun c_24 => ?_) (fun c_24 => ?_)
      · refine j_ldc X dX10_answer_37 u295 ?_
        refine s_iret X hE hr dX10_answer_39 rfl ?_
        first | exact ⟨rfl, rfl⟩ | (exfalso; clear hE hr hR X; (try simp only [lg_cmp_lt, lg_cmp_gt, lg_cmp_le, lg_cmp_ge] at *); (try simp (disch := omega) only [Int64.le_iff_toInt_le, Int64.lt_iff_toInt_lt, Int32.le_iff_toInt_le, Int32.lt_iff_toInt_lt, fa_eq, fa_lit, fa_litL, nI_toInt, pk_lT, Int32.toInt_toInt64, jadd64, jin, jnoneT] at *); omega)
      · refine j_iload X dX10_answer_27 rfl ?_
        refine j_iconst X dX10_answer_29 0 (by decide) ?_
        refine j_iconst X dX10_answer_30 1 (by decide) ?_
        refine s_callSi X hR (c_withinI np _ _ _ _ (0) (1) rfl rfl) rfl u293 u294 u292 u1 hyX10_within (by decide) (by decide) (Nat.le_of_ble_eq_true rfl) dX10_answer_31 (fun v_31 m_31 h_31 => ?_)
        obtain ⟨e1, e2⟩ := h_31; have e1 := e1.symm; have e2 := e2.symm; subst e1; subst e2
        refine j_ifb_ne X 40 dX10_answer_34 (by decide) (fun c_34 => ?_) (fun c_34 => ?_)
        · exfalso
          clear hE hr hR X
          (try simp only [lg_cmp_lt, lg_cmp_gt, lg_cmp_le, lg_cmp_ge] at *); (try simp (disch := omega) only [Int64.le_iff_toInt_le, Int64.lt_iff_toInt_lt, Int32.le_iff_toInt_le, Int32.lt_iff_toInt_lt, fa_eq, fa_lit, fa_litL, nI_toInt, pk_lT, Int32.toInt_toInt64, jadd64, jin, jnoneT] at *); omega
        · refine j_ldc X dX10_answer_37 u295 ?_
          refine s_iret X hE hr dX10_answer_39 rfl ?_
          first | exact ⟨rfl, rfl⟩ | (exfalso; clear hE hr hR X; (try simp only [lg_cmp_lt, lg_cmp_gt, lg_cmp_le, lg_cmp_ge] at *); (try simp (disch := omega) only [Int64.le_iff_toInt_le, Int64.lt_iff_toInt_lt, Int32.le_iff_toInt_le, Int32.lt_iff_toInt_lt, fa_eq, fa_lit, fa_litL, nI_toInt, pk_lT, Int32.toInt_toInt64, jadd64, jin, jnoneT] at *); omega)
set_option maxRecDepth 4000 in
set_option maxHeartbeats 1000000 in
theorem c_answer0 (np : Nat) (mem : jMem) (b r : Nat) (y : Int32) (hb : b < 6) (hr2 : r ≤ 22) (hy : jin y 0 22) : jPi yX10_answer cX10_answer 5 .int 3 [.ref 0, .int (nI b), .int (nI r), .int y, .int 0] np mem (fun v c => v = jPow 4 47 r ∧ c = mem) := by
  refine jPi.of (own := RX10) rfl rfl (Nat.le_of_ble_eq_true rfl) (fun G X hR hr hE => ?_)
  refine j_iload_n X dX10_answer_0 rfl ?_
  refine s_callSi X hR (c_isBearer np _ _) rfl u550 u548 u549 u1 hyX10_isBearer (by decide) (by decide) (Nat.le_of_ble_eq_true rfl) dX10_answer_1 (fun v_1 m_1 h_1 => ?_)
  obtain ⟨e1, e2⟩ := h_1; have e1 := e1.symm; have e2 := e2.symm; subst e1; subst e2
  refine j_ifb_eq X 37 dX10_answer_4 (by decide) (fun c_4 => ?_) (fun c_4 => ?_)
  · exfalso
    clear hE hr hR X
    (try simp only [lg_cmp_lt, lg_cmp_gt, lg_cmp_le, lg_cmp_ge] at *); (try simp (disch := omega) only [Int64.le_iff_toInt_le, Int64.lt_iff_toInt_lt, Int32.le_iff_toInt_le, Int32.lt_iff_toInt_lt, fa_eq, fa_lit, fa_litL, nI_toInt, pk_lT, Int32.toInt_toInt64, jadd64, jin, jnoneT] at *); omega
  · refine j_iload_n X dX10_answer_7 rfl ?_
    refine j_iconst X dX10_answer_8 0 (by decide) ?_
    refine j_bipush X dX10_answer_9 22 (by decide) ?_
    refine s_callSi X hR (c_withinI np _ _ _ _ (0) (22) rfl rfl) rfl u293 u294 u292 u1 hyX10_within (by decide) (by decide) (Nat.le_of_ble_eq_true rfl) dX10_answer_11 (fun v_11 m_11 h_11 => ?_)
    obtain ⟨e1, e2⟩ := h_11; have e1 := e1.symm; have e2 := e2.symm; subst e1; subst e2
    refine j_ifb_eq X 37 dX10_answer_14 (by decide) (fun c_14 => ?_) (fun c_14 => ?_)
    · exfalso
      clear hE hr hR X
      (try simp only [lg_cmp_lt, lg_cmp_gt, lg_cmp_le, lg_cmp_ge] at *); (try simp (disch := omega) only [Int64.le_iff_toInt_le, Int64.lt_iff_toInt_lt, Int32.le_iff_toInt_le, Int32.lt_iff_toInt_lt, fa_eq, fa_lit, fa_litL, nI_toInt, pk_lT, Int32.toInt_toInt64, jadd64, jin, jnoneT] at *); omega
    · refine j_iload_n X dX10_answer_17 rfl ?_
      refine j_iconst X dX10_answer_18 0 (by decide) ?_
      refine j_bipush X dX10_answer_19 22 (by decide) ?_
      refine s_callSi X hR (c_withinI np _ _ _ _ (0) (22) rfl rfl) rfl u293 u294 u292 u1 hyX10_within (by decide) (by decide) (Nat.le_of_ble_eq_true rfl) dX10_answer_21 (fun v_21 m_21 h_21 => ?_)
      obtain ⟨e1, e2⟩ := h_21; have e1 := e1.symm; have e2 := e2.symm; subst e1; subst e2
      refine j_ifb_eq X 37 dX10_answer_24 (by decide) (fun c_24 => ?_) (fun c_24 => ?_)
      · exfalso
        clear hE hr hR X
        (try simp only [lg_cmp_lt, lg_cmp_gt, lg_cmp_le, lg_cmp_ge] at *); (try simp (disch := omega) only [Int64.le_iff_toInt_le, Int64.lt_iff_toInt_lt, Int32.le_iff_toInt_le, Int32.lt_iff_toInt_lt, fa_eq, fa_lit, fa_litL, nI_toInt, pk_lT, Int32.toInt_toInt64, jadd64, jin, jnoneT] at *); omega
      · refine j_iload X dX10_answer_27 rfl ?_
        refine j_iconst X dX10_answer_29 0 (by decide) ?_
        refine j_iconst X dX10_answer_30 1 (by decide) ?_
        refine s_callSi X hR (c_withinI np _ _ _ _ (0) (1) rfl rfl) rfl u293 u294 u292 u1 hyX10_within (by decide) (by decide) (Nat.le_of_ble_eq_true rfl) dX10_answer_31 (fun v_31 m_31 h_31 => ?_)
        obtain ⟨e1, e2⟩ := h_31; have e1 := e1.symm; have e2 := e2.symm; subst e1; subst e2
        refine j_ifb_ne X 40 dX10_answer_34 (by decide) (fun c_34 => ?_) (fun c_34 => ?_)
        · refine j_iload X dX10_answer_40 rfl ?_
          refine j_if_ne X 53 dX10_answer_42 (by decide) (fun c_42 => absurd c_42 (by decide)) (fun c_42 => ?_)
          refine j_iconst X dX10_answer_45 4 (by decide) ?_
          refine j_iload_n X dX10_answer_46 rfl ?_
          refine s_callSi X hR (c_power np _ _ r (by omega)) rfl u557 u555 u556 u1 hyX10_power (by decide) (by decide) (Nat.le_of_ble_eq_true rfl) dX10_answer_47 (fun v_47 m_47 h_47 => ?_)
          obtain ⟨e1, e2⟩ := h_47; have e1 := e1.symm; have e2 := e2.symm; subst e1; subst e2
          refine j_goto X 66 dX10_answer_50 (by decide) ?_
          refine s_iret X hE hr dX10_answer_66 rfl ?_
          first | exact ⟨rfl, rfl⟩ | (exfalso; clear hE hr hR X; (try simp only [lg_cmp_lt, lg_cmp_gt, lg_cmp_le, lg_cmp_ge] at *); (try simp (disch := omega) only [Int64.le_iff_toInt_le, Int64.lt_iff_toInt_lt, Int32.le_iff_toInt_le, Int32.lt_iff_toInt_lt, fa_eq, fa_lit, fa_litL, nI_toInt, pk_lT, Int32.toInt_toInt64, jadd64, jin, jnoneT] at *); omega)
        · exfalso
          clear hE hr hR X
          (try simp only [lg_cmp_lt, lg_cmp_gt, lg_cmp_le, lg_cmp_ge] at *); (try simp (disch := omega) only [Int64.le_iff_toInt_le, Int64.lt_iff_toInt_lt, Int32.le_iff_toInt_le, Int32.lt_iff_toInt_lt, fa_eq, fa_lit, fa_litL, nI_toInt, pk_lT, Int32.toInt_toInt64, jadd64, jin, jnoneT] at *); omega
set_option maxRecDepth 4000 in
set_option maxHeartbeats 1000000 in
theorem c_answer1 (np : Nat) (mem : jMem) (b : Nat) (r y : Int32) (hb : b < 6) (hr2 : jin r 0 22) (hy : jin y 0 22) : jPi yX10_answer cX10_answer 5 .int 3 [.ref 0, .int (nI b), .int r, .int y, .int 1] np mem (fun v c => v = jRem (r + y * mem 28 b) 23 ∧ c = mem) := by
  refine jPi.of (own := RX10) rfl rfl (Nat.le_of_ble_eq_true rfl) (fun G X hR hr hE => ?_)
  refine j_iload_n X dX10_answer_0 rfl ?_
  refine s_callSi X hR (c_isBearer np _ _) rfl u550 u548 u549 u1 hyX10_isBearer (by decide) (by decide) (Nat.le_of_ble_eq_true rfl) dX10_answer_1 (fun v_1 m_1 h_1 => ?_)
  obtain ⟨e1, e2⟩ := h_1; have e1 := e1.symm; have e2 := e2.symm; subst e1; subst e2
  refine j_ifb_eq X 37 dX10_answer_4 (by decide) (fun c_4 => ?_) (fun c_4 => ?_)
  · exfalso
    clear hE hr hR X
    (try simp only [lg_cmp_lt, lg_cmp_gt, lg_cmp_le, lg_cmp_ge] at *); (try simp (disch := omega) only [Int64.le_iff_toInt_le, Int64.lt_iff_toInt_lt, Int32.le_iff_toInt_le, Int32.lt_iff_toInt_lt, fa_eq, fa_lit, fa_litL, nI_toInt, pk_lT, Int32.toInt_toInt64, jadd64, jin, jnoneT] at *); omega
  · refine j_iload_n X dX10_answer_7 rfl ?_
    refine j_iconst X dX10_answer_8 0 (by decide) ?_
    refine j_bipush X dX10_answer_9 22 (by decide) ?_
    refine s_callSi X hR (c_withinI np _ _ _ _ (0) (22) rfl rfl) rfl u293 u294 u292 u1 hyX10_within (by decide) (by decide) (Nat.le_of_ble_eq_true rfl) dX10_answer_11 (fun v_11 m_11 h_11 => ?_)
    obtain ⟨e1, e2⟩ := h_11; have e1 := e1.symm; have e2 := e2.symm; subst e1; subst e2
    refine j_ifb_eq X 37 dX10_answer_14 (by decide) (fun c_14 => ?_) (fun c_14 => ?_)
    · exfalso
      clear hE hr hR X
      (try simp only [lg_cmp_lt, lg_cmp_gt, lg_cmp_le, lg_cmp_ge] at *); (try simp (disch := omega) only [Int64.le_iff_toInt_le, Int64.lt_iff_toInt_lt, Int32.le_iff_toInt_le, Int32.lt_iff_toInt_lt, fa_eq, fa_lit, fa_litL, nI_toInt, pk_lT, Int32.toInt_toInt64, jadd64, jin, jnoneT] at *); omega
    · refine j_iload_n X dX10_answer_17 rfl ?_
      refine j_iconst X dX10_answer_18 0 (by decide) ?_
      refine j_bipush X dX10_answer_19 22 (by decide) ?_
      refine s_callSi X hR (c_withinI np _ _ _ _ (0) (22) rfl rfl) rfl u293 u294 u292 u1 hyX10_within (by decide) (by decide) (Nat.le_of_ble_eq_true rfl) dX10_answer_21 (fun v_21 m_21 h_21 => ?_)
      obtain ⟨e1, e2⟩ := h_21; have e1 := e1.symm; have e2 := e2.symm; subst e1; subst e2
      refine j_ifb_eq X 37 dX10_answer_24 (by decide) (fun c_24 => ?_) (fun c_24 => ?_)
      · exfalso
        clear hE hr hR X
        (try simp only [lg_cmp_lt, lg_cmp_gt, lg_cmp_le, lg_cmp_ge] at *); (try simp (disch := omega) only [Int64.le_iff_toInt_le, Int64.lt_iff_toInt_lt, Int32.le_iff_toInt_le, Int32.lt_iff_toInt_lt, fa_eq, fa_lit, fa_litL, nI_toInt, pk_lT, Int32.toInt_toInt64, jadd64, jin, jnoneT] at *); omega
      · refine j_iload X dX10_answer_27 rfl ?_
        refine j_iconst X dX10_answer_29 0 (by decide) ?_
        refine j_iconst X dX10_answer_30 1 (by decide) ?_
        refine s_callSi X hR (c_withinI np _ _ _ _ (0) (1) rfl rfl) rfl u293 u294 u292 u1 hyX10_within (by decide) (by decide) (Nat.le_of_ble_eq_true rfl) dX10_answer_31 (fun v_31 m_31 h_31 => ?_)
        obtain ⟨e1, e2⟩ := h_31; have e1 := e1.symm; have e2 := e2.symm; subst e1; subst e2
        refine j_ifb_ne X 40 dX10_answer_34 (by decide) (fun c_34 => ?_) (fun c_34 => ?_)
        · refine j_iload X dX10_answer_40 rfl ?_
          refine j_if_ne X 53 dX10_answer_42 (by decide) (fun c_42 => ?_) (fun c_42 => absurd c_42 (by decide))
          refine j_iload_n X dX10_answer_53 rfl ?_
          refine j_iload_n X dX10_answer_54 rfl ?_
          refine j_aload_n X dX10_answer_55 rfl ?_
          refine j_getR X 10 3 (by decide) (by decide) rfl u241 (o0 np) (k0 np) _ (p0_3 np) dX10_answer_56 ?_
          refine j_iload_n X dX10_answer_59 rfl ?_
          refine j_nrm _ (by first | (simp only [fa_lit, pk_mul, nI_add]; done) | (simp only [fa_lit, pk_mul, nI_add]; rfl) | rfl) ?_
          refine j_ialdN X (o28 np) (k28 np) (by rw [l28]; omega) (by rw [l28]; decide) (mem 28) rfl dX10_answer_60 ?_
          refine j_imul X dX10_answer_61 ?_
          refine j_iadd X dX10_answer_62 ?_
          refine j_bipush X dX10_answer_63 23 (by decide) ?_
          refine j_irem X dX10_answer_65 (by decide) ?_
          refine s_iret X hE hr dX10_answer_66 rfl ?_
          first | exact ⟨rfl, rfl⟩ | (exfalso; clear hE hr hR X; (try simp only [lg_cmp_lt, lg_cmp_gt, lg_cmp_le, lg_cmp_ge] at *); (try simp (disch := omega) only [Int64.le_iff_toInt_le, Int64.lt_iff_toInt_lt, Int32.le_iff_toInt_le, Int32.lt_iff_toInt_lt, fa_eq, fa_lit, fa_litL, nI_toInt, pk_lT, Int32.toInt_toInt64, jadd64, jin, jnoneT] at *); omega)
        · exfalso
          clear hE hr hR X
          (try simp only [lg_cmp_lt, lg_cmp_gt, lg_cmp_le, lg_cmp_ge] at *); (try simp (disch := omega) only [Int64.le_iff_toInt_le, Int64.lt_iff_toInt_lt, Int32.le_iff_toInt_le, Int32.lt_iff_toInt_lt, fa_eq, fa_lit, fa_litL, nI_toInt, pk_lT, Int32.toInt_toInt64, jadd64, jin, jnoneT] at *); omega
set_option maxRecDepth 4000 in
set_option maxHeartbeats 1000000 in
theorem c_taken_bad (np : Nat) (mem : jMem) (b t y s : Int32) (h : ¬ (jin b 0 5 ∧ jin t 0 46 ∧ jin y 0 22 ∧ jin s 0 22)) : jPi yX10_taken cX10_taken 5 .int 4 [.ref 0, .int b, .int t, .int y, .int s] np mem (fun v c => v = -1000001 ∧ c = mem) := by
  refine jPi.of (own := RX10) rfl rfl (Nat.le_of_ble_eq_true rfl) (fun G X hR hr hE => ?_)
  refine j_iload_n X dX10_taken_0 rfl ?_
  refine s_callSi X hR (c_isBearer np _ _) rfl u550 u548 u549 u1 hyX10_isBearer (by decide) (by decide) (Nat.le_of_ble_eq_true rfl) dX10_taken_1 (fun v_1 m_1 h_1 => ?_)
  obtain ⟨e1, e2⟩ := h_1; have e1 := e1.symm; have e2 := e2.symm; subst e1; subst e2
  refine j_ifb_eq X 38 dX10_taken_4 (by decide) (fun c_4 => ?_) (fun c_4 => ?_)
  · refine j_ldc X dX10_taken_38 u295 ?_
    refine s_iret X hE hr dX10_taken_40 rfl ?_
    first | exact ⟨rfl, rfl⟩ | (exfalso; clear hE hr hR X; (try simp only [lg_cmp_lt, lg_cmp_gt, lg_cmp_le, lg_cmp_ge] at *); (try simp (disch := omega) only [Int64.le_iff_toInt_le, Int64.lt_iff_toInt_lt, Int32.le_iff_toInt_le, Int32.lt_iff_toInt_lt, fa_eq, fa_lit, fa_litL, nI_toInt, pk_lT, Int32.toInt_toInt64, jadd64, jin, jnoneT] at *); omega)
  · refine j_iload_n X dX10_taken_7 rfl ?_
    refine j_iconst X dX10_taken_8 0 (by decide) ?_
    refine j_bipush X dX10_taken_9 46 (by decide) ?_
    refine s_callSi X hR (c_withinI np _ _ _ _ (0) (46) rfl rfl) rfl u293 u294 u292 u1 hyX10_within (by decide) (by decide) (Nat.le_of_ble_eq_true rfl) dX10_taken_11 (fun v_11 m_11 h_11 => ?_)
    obtain ⟨e1, e2⟩ := h_11; have e1 := e1.symm; have e2 := e2.symm; subst e1; subst e2
    refine j_ifb_eq X 38 dX10_taken_14 (by decide) (fun c_14 => ?_) (fun c_14 => ?_)
    · refine j_ldc X dX10_taken_38 u295 ?_
      refine s_iret X hE hr dX10_taken_40 rfl ?_
      first | exact ⟨rfl, rfl⟩ | (exfalso; clear hE hr hR X; (try simp only [lg_cmp_lt, lg_cmp_gt, lg_cmp_le, lg_cmp_ge] at *); (try simp (disch := omega) only [Int64.le_iff_toInt_le, Int64.lt_iff_toInt_lt, Int32.le_iff_toInt_le, Int32.lt_iff_toInt_lt, fa_eq, fa_lit, fa_litL, nI_toInt, pk_lT, Int32.toInt_toInt64, jadd64, jin, jnoneT] at *); omega)
    · refine j_iload_n X dX10_taken_17 rfl ?_
      refine j_iconst X dX10_taken_18 0 (by decide) ?_
      refine j_bipush X dX10_taken_19 22 (by decide) ?_
      refine s_callSi X hR (c_withinI np _ _ _ _ (0) (22) rfl rfl) rfl u293 u294 u292 u1 hyX10_within (by decide) (by decide) (Nat.le_of_ble_eq_true rfl) dX10_taken_21 (fun v_21 m_21 h_21 => ?_)
      obtain ⟨e1, e2⟩ := h_21; have e1 := e1.symm; have e2 := e2.symm; subst e1; subst e2
      refine j_ifb_eq X 38 dX10_taken_24 (by decide) (fun c_24 => ?_) (fun c_24 => ?_)
      · refine j_ldc X dX10_taken_38 u295 ?_
        refine s_iret X hE hr dX10_taken_40 rfl ?_
        first | exact ⟨rfl, rfl⟩ | (exfalso; clear hE hr hR X; (try simp only [lg_cmp_lt, lg_cmp_gt, lg_cmp_le, lg_cmp_ge] at *); (try simp (disch := omega) only [Int64.le_iff_toInt_le, Int64.lt_iff_toInt_lt, Int32.le_iff_toInt_le, Int32.lt_iff_toInt_lt, fa_eq, fa_lit, fa_litL, nI_toInt, pk_lT, Int32.toInt_toInt64, jadd64, jin, jnoneT] at *); omega)
      · refine j_iload X dX10_taken_27 rfl ?_
        refine j_iconst X dX10_taken_29 0 (by decide) ?_
        refine j_bipush X dX10_taken_30 22 (by decide) ?_
        refine s_callSi X hR (c_withinI np _ _ _ _ (0) (22) rfl rfl) rfl u293 u294 u292 u1 hyX10_within (by decide) (by decide) (Nat.le_of_ble_eq_true rfl) dX10_taken_32 (fun v_32 m_32 h_32 => ?_)
        obtain ⟨e1, e2⟩ := h_32; have e1 := e1.symm; have e2 := e2.symm; subst e1; subst e2
        refine j_ifb_ne X 41 dX10_taken_35 (by decide) (fun c_35 => ?_) (fun c_35 => ?_)
        · exfalso
          clear hE hr hR X
          (try simp only [lg_cmp_lt, lg_cmp_gt, lg_cmp_le, lg_cmp_ge] at *); (try simp (disch := omega) only [Int64.le_iff_toInt_le, Int64.lt_iff_toInt_lt, Int32.le_iff_toInt_le, Int32.lt_iff_toInt_lt, fa_eq, fa_lit, fa_litL, nI_toInt, pk_lT, Int32.toInt_toInt64, jadd64, jin, jnoneT] at *); omega
        · refine j_ldc X dX10_taken_38 u295 ?_
          refine s_iret X hE hr dX10_taken_40 rfl ?_
          first | exact ⟨rfl, rfl⟩ | (exfalso; clear hE hr hR X; (try simp only [lg_cmp_lt, lg_cmp_gt, lg_cmp_le, lg_cmp_ge] at *); (try simp (disch := omega) only [Int64.le_iff_toInt_le, Int64.lt_iff_toInt_lt, Int32.le_iff_toInt_le, Int32.lt_iff_toInt_lt, fa_eq, fa_lit, fa_litL, nI_toInt, pk_lT, Int32.toInt_toInt64, jadd64, jin, jnoneT] at *); omega)
set_option maxRecDepth 4000 in
set_option maxHeartbeats 1000000 in
theorem c_taken (np : Nat) (mem : jMem) (b w y s : Nat) (t : Int32) (hb : b < 6) (hw : mem 28 b = nI w) (hw2 : w ≤ 22) (ht : jin t 0 46) (hy : y ≤ 22) (hs : s ≤ 22) : jPi yX10_taken cX10_taken 5 .int 4 [.ref 0, .int (nI b), .int t, .int (nI y), .int (nI s)] np mem (fun v c => v = jb (jPow 4 47 s = jRem (t * jPow (jPow 4 47 w) 47 y) 47) ∧ c = mem) := by
  refine jPi.of (own := RX10) rfl rfl (Nat.le_of_ble_eq_true rfl) (fun G X hR hr hE => ?_)
  refine j_iload_n X dX10_taken_0 rfl ?_
  refine s_callSi X hR (c_isBearer np _ _) rfl u550 u548 u549 u1 hyX10_isBearer (by decide) (by decide) (Nat.le_of_ble_eq_true rfl) dX10_taken_1 (fun v_1 m_1 h_1 => ?_)
  obtain ⟨e1, e2⟩ := h_1; have e1 := e1.symm; have e2 := e2.symm; subst e1; subst e2
  refine j_ifb_eq X 38 dX10_taken_4 (by decide) (fun c_4 => ?_) (fun c_4 => ?_)
  · exfalso
    clear hE hr hR X
    (try simp only [lg_cmp_lt, lg_cmp_gt, lg_cmp_le, lg_cmp_ge] at *); (try simp (disch := omega) only [Int64.le_iff_toInt_le, Int64.lt_iff_toInt_lt, Int32.le_iff_toInt_le, Int32.lt_iff_toInt_lt, fa_eq, fa_lit, fa_litL, nI_toInt, pk_lT, Int32.toInt_toInt64, jadd64, jin, jnoneT] at *); omega
  · refine j_iload_n X dX10_taken_7 rfl ?_
    refine j_iconst X dX10_taken_8 0 (by decide) ?_
    refine j_bipush X dX10_taken_9 46 (by decide) ?_
    refine s_callSi X hR (c_withinI np _ _ _ _ (0) (46) rfl rfl) rfl u293 u294 u292 u1 hyX10_within (by decide) (by decide) (Nat.le_of_ble_eq_true rfl) dX10_taken_11 (fun v_11 m_11 h_11 => ?_)
    obtain ⟨e1, e2⟩ := h_11; have e1 := e1.symm; have e2 := e2.symm; subst e1; subst e2
    refine j_ifb_eq X 38 dX10_taken_14 (by decide) (fun c_14 => ?_) (fun c_14 => ?_)
    · exfalso
      clear hE hr hR X
      (try simp only [lg_cmp_lt, lg_cmp_gt, lg_cmp_le, lg_cmp_ge] at *); (try simp (disch := omega) only [Int64.le_iff_toInt_le, Int64.lt_iff_toInt_lt, Int32.le_iff_toInt_le, Int32.lt_iff_toInt_lt, fa_eq, fa_lit, fa_litL, nI_toInt, pk_lT, Int32.toInt_toInt64, jadd64, jin, jnoneT] at *); omega
    · refine j_iload_n X dX10_taken_17 rfl ?_
      refine j_iconst X dX10_taken_18 0 (by decide) ?_
      refine j_bipush X dX10_taken_19 22 (by decide) ?_
      refine s_callSi X hR (c_withinI np _ _ _ _ (0) (22) rfl rfl) rfl u293 u294 u292 u1 hyX10_within (by decide) (by decide) (Nat.le_of_ble_eq_true rfl) dX10_taken_21 (fun v_21 m_21 h_21 => ?_)
      obtain ⟨e1, e2⟩ := h_21; have e1 := e1.symm; have e2 := e2.symm; subst e1; subst e2
      refine j_ifb_eq X 38 dX10_taken_24 (by decide) (fun c_24 => ?_) (fun c_24 => ?_)
      · exfalso
        clear hE hr hR X
        (try simp only [lg_cmp_lt, lg_cmp_gt, lg_cmp_le, lg_cmp_ge] at *); (try simp (disch := omega) only [Int64.le_iff_toInt_le, Int64.lt_iff_toInt_lt, Int32.le_iff_toInt_le, Int32.lt_iff_toInt_lt, fa_eq, fa_lit, fa_litL, nI_toInt, pk_lT, Int32.toInt_toInt64, jadd64, jin, jnoneT] at *); omega
      · refine j_iload X dX10_taken_27 rfl ?_
        refine j_iconst X dX10_taken_29 0 (by decide) ?_
        refine j_bipush X dX10_taken_30 22 (by decide) ?_
        refine s_callSi X hR (c_withinI np _ _ _ _ (0) (22) rfl rfl) rfl u293 u294 u292 u1 hyX10_within (by decide) (by decide) (Nat.le_of_ble_eq_true rfl) dX10_taken_32 (fun v_32 m_32 h_32 => ?_)
        obtain ⟨e1, e2⟩ := h_32; have e1 := e1.symm; have e2 := e2.symm; subst e1; subst e2
        refine j_ifb_ne X 41 dX10_taken_35 (by decide) (fun c_35 => ?_) (fun c_35 => ?_)
        · refine j_aload_n X dX10_taken_41 rfl ?_
          refine j_iload_n X dX10_taken_42 rfl ?_
          refine j_iload_n X dX10_taken_43 rfl ?_
          refine j_iload_n X dX10_taken_44 rfl ?_
          refine j_iload X dX10_taken_45 rfl ?_
          refine s_callVi X hR (c_isTaken np _ b w y s t hb hw hw2 hy hs) rfl 10 (by decide) (o0 np) (k0 np) rfl u569 u566 u568 qp8 u1 hyX10_isTaken (by decide) (by decide) (Nat.le_of_ble_eq_true rfl) dX10_taken_47 (fun v_47 m_47 h_47 => ?_)
          obtain ⟨e1, e2⟩ := h_47; have e1 := e1.symm; have e2 := e2.symm; subst e1; subst e2
          refine j_ifb_eq X 57 dX10_taken_50 (by decide) (fun c_50 => ?_) (fun c_50 => ?_)
          · refine j_iconst X dX10_taken_57 0 (by decide) ?_
            refine s_iret X hE hr dX10_taken_58 rfl ?_
            refine ⟨?_, rfl⟩
            first | exact (jb_t c_50).symm | exact (jb_f c_50).symm
          · refine j_iconst X dX10_taken_53 1 (by decide) ?_
            refine j_goto X 58 dX10_taken_54 (by decide) ?_
            refine s_iret X hE hr dX10_taken_58 rfl ?_
            refine ⟨?_, rfl⟩
            first | exact (jb_t c_50).symm | exact (jb_f c_50).symm
        · exfalso
          clear hE hr hR X
          (try simp only [lg_cmp_lt, lg_cmp_gt, lg_cmp_le, lg_cmp_ge] at *); (try simp (disch := omega) only [Int64.le_iff_toInt_le, Int64.lt_iff_toInt_lt, Int32.le_iff_toInt_le, Int32.lt_iff_toInt_lt, fa_eq, fa_lit, fa_litL, nI_toInt, pk_lT, Int32.toInt_toInt64, jadd64, jin, jnoneT] at *); omega
set_option maxRecDepth 4000 in
set_option maxHeartbeats 1000000 in
theorem c_odds_bad (np : Nat) (mem : jMem) (b t s : Int32) (h : ¬ (jin b 0 5 ∧ jin t 0 46 ∧ jin s 0 22)) : jPi yX10_odds cX10_odds 6 .int 4 [.ref 0, .int b, .int t, .int s] np mem (fun v c => v = -1000001 ∧ c = mem) := by
  refine jPi.of (own := RX10) rfl rfl (Nat.le_of_ble_eq_true rfl) (fun G X hR hr hE => ?_)
  refine j_iload_n X dX10_odds_0 rfl ?_
  refine s_callSi X hR (c_isBearer np _ _) rfl u550 u548 u549 u1 hyX10_isBearer (by decide) (by decide) (Nat.le_of_ble_eq_true rfl) dX10_odds_1 (fun v_1 m_1 h_1 => ?_)
  obtain ⟨e1, e2⟩ := h_1; have e1 := e1.symm; have e2 := e2.symm; subst e1; subst e2
  refine j_ifb_eq X 27 dX10_odds_4 (by decide) (fun c_4 => ?_) (fun c_4 => ?_)
  · refine j_ldc X dX10_odds_27 u295 ?_
    refine s_iret X hE hr dX10_odds_29 rfl ?_
    first | exact ⟨rfl, rfl⟩ | (exfalso; clear hE hr hR X; (try simp only [lg_cmp_lt, lg_cmp_gt, lg_cmp_le, lg_cmp_ge] at *); (try simp (disch := omega) only [Int64.le_iff_toInt_le, Int64.lt_iff_toInt_lt, Int32.le_iff_toInt_le, Int32.lt_iff_toInt_lt, fa_eq, fa_lit, fa_litL, nI_toInt, pk_lT, Int32.toInt_toInt64, jadd64, jin, jnoneT] at *); omega)
  · refine j_iload_n X dX10_odds_7 rfl ?_
    refine j_iconst X dX10_odds_8 0 (by decide) ?_
    refine j_bipush X dX10_odds_9 46 (by decide) ?_
    refine s_callSi X hR (c_withinI np _ _ _ _ (0) (46) rfl rfl) rfl u293 u294 u292 u1 hyX10_within (by decide) (by decide) (Nat.le_of_ble_eq_true rfl) dX10_odds_11 (fun v_11 m_11 h_11 => ?_)
    obtain ⟨e1, e2⟩ := h_11; have e1 := e1.symm; have e2 := e2.symm; subst e1; subst e2
    refine j_ifb_eq X 27 dX10_odds_14 (by decide) (fun c_14 => ?_) (fun c_14 => ?_)
    · refine j_ldc X dX10_odds_27 u295 ?_
      refine s_iret X hE hr dX10_odds_29 rfl ?_
      first | exact ⟨rfl, rfl⟩ | (exfalso; clear hE hr hR X; (try simp only [lg_cmp_lt, lg_cmp_gt, lg_cmp_le, lg_cmp_ge] at *); (try simp (disch := omega) only [Int64.le_iff_toInt_le, Int64.lt_iff_toInt_lt, Int32.le_iff_toInt_le, Int32.lt_iff_toInt_lt, fa_eq, fa_lit, fa_litL, nI_toInt, pk_lT, Int32.toInt_toInt64, jadd64, jin, jnoneT] at *); omega)
    · refine j_iload_n X dX10_odds_17 rfl ?_
      refine j_iconst X dX10_odds_18 0 (by decide) ?_
      refine j_bipush X dX10_odds_19 22 (by decide) ?_
      refine s_callSi X hR (c_withinI np _ _ _ _ (0) (22) rfl rfl) rfl u293 u294 u292 u1 hyX10_within (by decide) (by decide) (Nat.le_of_ble_eq_true rfl) dX10_odds_21 (fun v_21 m_21 h_21 => ?_)
      obtain ⟨e1, e2⟩ := h_21; have e1 := e1.symm; have e2 := e2.symm; subst e1; subst e2
      refine j_ifb_ne X 30 dX10_odds_24 (by decide) (fun c_24 => ?_) (fun c_24 => ?_)
      · exfalso
        clear hE hr hR X
        (try simp only [lg_cmp_lt, lg_cmp_gt, lg_cmp_le, lg_cmp_ge] at *); (try simp (disch := omega) only [Int64.le_iff_toInt_le, Int64.lt_iff_toInt_lt, Int32.le_iff_toInt_le, Int32.lt_iff_toInt_lt, fa_eq, fa_lit, fa_litL, nI_toInt, pk_lT, Int32.toInt_toInt64, jadd64, jin, jnoneT] at *); omega
      · refine j_ldc X dX10_odds_27 u295 ?_
        refine s_iret X hE hr dX10_odds_29 rfl ?_
        first | exact ⟨rfl, rfl⟩ | (exfalso; clear hE hr hR X; (try simp only [lg_cmp_lt, lg_cmp_gt, lg_cmp_le, lg_cmp_ge] at *); (try simp (disch := omega) only [Int64.le_iff_toInt_le, Int64.lt_iff_toInt_lt, Int32.le_iff_toInt_le, Int32.lt_iff_toInt_lt, fa_eq, fa_lit, fa_litL, nI_toInt, pk_lT, Int32.toInt_toInt64, jadd64, jin, jnoneT] at *); omega)
set_option maxRecDepth 4000 in
set_option maxHeartbeats 1000000 in
theorem c_odds (np : Nat) (mem : jMem) (b w s : Nat) (t : Int32) (hb : b < 6) (hw : mem 28 b = nI w) (hw2 : w ≤ 22) (ht : jin t 0 46) (hs : s ≤ 22) : jPi yX10_odds cX10_odds 6 .int 4 [.ref 0, .int (nI b), .int t, .int (nI s)] np mem (fun v c => v = nI (jCnt (fun y => jPow 4 47 s = jRem (t * jPow (jPow 4 47 w) 47 y) 47) 23) ∧ c = mem) := by
  refine jPi.of (own := RX10) rfl rfl (Nat.le_of_ble_eq_true rfl) (fun G X hR hr hE => ?_)
  refine j_iload_n X dX10_odds_0 rfl ?_
  refine s_callSi X hR (c_isBearer np _ _) rfl u550 u548 u549 u1 hyX10_isBearer (by decide) (by decide) (Nat.le_of_ble_eq_true rfl) dX10_odds_1 (fun v_1 m_1 h_1 => ?_)
  obtain ⟨e1, e2⟩ := h_1; have e1 := e1.symm; have e2 := e2.symm; subst e1; subst e2
  refine j_ifb_eq X 27 dX10_odds_4 (by decide) (fun c_4 => ?_) (fun c_4 => ?_)
  · exfalso
    clear hE hr hR X
    (try simp only [lg_cmp_lt, lg_cmp_gt, lg_cmp_le, lg_cmp_ge] at *); (try simp (disch := omega) only [Int64.le_iff_toInt_le, Int64.lt_iff_toInt_lt, Int32.le_iff_toInt_le, Int32.lt_iff_toInt_lt, fa_eq, fa_lit, fa_litL, nI_toInt, pk_lT, Int32.toInt_toInt64, jadd64, jin, jnoneT] at *); omega
  · refine j_iload_n X dX10_odds_7 rfl ?_
    refine j_iconst X dX10_odds_8 0 (by decide) ?_
    refine j_bipush X dX10_odds_9 46 (by decide) ?_
    refine s_callSi X hR (c_withinI np _ _ _ _ (0) (46) rfl rfl) rfl u293 u294 u292 u1 hyX10_within (by decide) (by decide) (Nat.le_of_ble_eq_true rfl) dX10_odds_11 (fun v_11 m_11 h_11 => ?_)
    obtain ⟨e1, e2⟩ := h_11; have e1 := e1.symm; have e2 := e2.symm; subst e1; subst e2
    refine j_ifb_eq X 27 dX10_odds_14 (by decide) (fun c_14 => ?_) (fun c_14 => ?_)
    · exfalso
      clear hE hr hR X
      (try simp only [lg_cmp_lt, lg_cmp_gt, lg_cmp_le, lg_cmp_ge] at *); (try simp (disch := omega) only [Int64.le_iff_toInt_le, Int64.lt_iff_toInt_lt, Int32.le_iff_toInt_le, Int32.lt_iff_toInt_lt, fa_eq, fa_lit, fa_litL, nI_toInt, pk_lT, Int32.toInt_toInt64, jadd64, jin, jnoneT] at *); omega
    · refine j_iload_n X dX10_odds_17 rfl ?_
      refine j_iconst X dX10_odds_18 0 (by decide) ?_
      refine j_bipush X dX10_odds_19 22 (by decide) ?_
      refine s_callSi X hR (c_withinI np _ _ _ _ (0) (22) rfl rfl) rfl u293 u294 u292 u1 hyX10_within (by decide) (by decide) (Nat.le_of_ble_eq_true rfl) dX10_odds_21 (fun v_21 m_21 h_21 => ?_)
      obtain ⟨e1, e2⟩ := h_21; have e1 := e1.symm; have e2 := e2.symm; subst e1; subst e2
      refine j_ifb_ne X 30 dX10_odds_24 (by decide) (fun c_24 => ?_) (fun c_24 => ?_)
      · refine j_iconst X dX10_odds_30 0 (by decide) ?_
        refine j_istore X dX10_odds_31 (by decide) ?_
        refine j_iconst X dX10_odds_33 0 (by decide) ?_
        refine j_istore X dX10_odds_34 (by decide) ?_
        have lp36 : ∀ (n : Nat) (j : Nat), j ≤ 23 → 24 ≤ j + n → J G RX10 cX10_odds 6 0 0 36 (jlv [some (.ref 0), some (.int (nI b)), some (.int t), some (.int (nI s)), some (.int (nI (jCnt (fun y => jPow 4 47 s = jRem (t * jPow (jPow 4 47 w) 47 y) 47) j))), some (.int (nI j))]) [] (jS np) (mem) := by
          intro n
          induction n with
          | zero =>
            intro j hj hn
            exact absurd hn (by omega)
          | succ n ih36 =>
            intro j hj hn
            refine j_iload X dX10_odds_36 rfl ?_
            refine j_bipush X dX10_odds_38 23 (by decide) ?_
            refine j_icmp_ge X 64 dX10_odds_40 (by decide) (fun c_40 => ?_) (fun c_40 => ?_)
            · obtain rfl : j = 23 := by clear hE hr hR X; (try simp only [lg_cmp_lt, lg_cmp_gt, lg_cmp_le, lg_cmp_ge] at *); (try simp (disch := omega) only [Int64.le_iff_toInt_le, Int64.lt_iff_toInt_lt, Int32.le_iff_toInt_le, Int32.lt_iff_toInt_lt, fa_eq, fa_lit, fa_litL, nI_toInt, pk_lT, Int32.toInt_toInt64, jadd64, jin, jnoneT] at *); omega
              refine j_iload X dX10_odds_64 rfl ?_
              refine s_iret X hE hr dX10_odds_66 rfl ?_
              first | exact ⟨rfl, rfl⟩ | (exfalso; clear hE hr hR X; (try simp only [lg_cmp_lt, lg_cmp_gt, lg_cmp_le, lg_cmp_ge] at *); (try simp (disch := omega) only [Int64.le_iff_toInt_le, Int64.lt_iff_toInt_lt, Int32.le_iff_toInt_le, Int32.lt_iff_toInt_lt, fa_eq, fa_lit, fa_litL, nI_toInt, pk_lT, Int32.toInt_toInt64, jadd64, jin, jnoneT] at *); omega)
            · have hj2 : j < 23 := by clear hE hr hR X; (try simp only [lg_cmp_lt, lg_cmp_gt, lg_cmp_le, lg_cmp_ge] at *); (try simp (disch := omega) only [Int64.le_iff_toInt_le, Int64.lt_iff_toInt_lt, Int32.le_iff_toInt_le, Int32.lt_iff_toInt_lt, fa_eq, fa_lit, fa_litL, nI_toInt, pk_lT, Int32.toInt_toInt64, jadd64, jin, jnoneT] at *); omega
              refine j_aload_n X dX10_odds_43 rfl ?_
              refine j_iload_n X dX10_odds_44 rfl ?_
              refine j_iload_n X dX10_odds_45 rfl ?_
              refine j_iload X dX10_odds_46 rfl ?_
              refine j_iload_n X dX10_odds_48 rfl ?_
              refine s_callVi X hR (c_isTaken np _ b w j s t hb hw hw2 (by omega) hs) rfl 10 (by decide) (o0 np) (k0 np) rfl u569 u566 u568 qp8 u1 hyX10_isTaken (by decide) (by decide) (Nat.le_of_ble_eq_true rfl) dX10_odds_49 (fun v_49 m_49 h_49 => ?_)
              obtain ⟨e1, e2⟩ := h_49; have e1 := e1.symm; have e2 := e2.symm; subst e1; subst e2
              refine j_ifb_eq X 58 dX10_odds_52 (by decide) (fun c_52 => ?_) (fun c_52 => ?_)
              · refine j_iinc X dX10_odds_58 rfl 1 rfl ?_
                refine j_goto X 36 dX10_odds_61 (by decide) ?_
                refine j_lv [some (.ref 0), some (.int (nI b)), some (.int t), some (.int (nI s)), some (.int (nI (jCnt (fun y => jPow 4 47 s = jRem (t * jPow (jPow 4 47 w) 47 y) 47) (j + 1)))), some (.int (nI (j + 1)))] ⟨rfl, rfl, rfl, rfl, (congrArg (fun z => some (Value.int z)) (by first | exact jCnt_t (g := (fun y => jPow 4 47 s = jRem (t * jPow (jPow 4 47 w) 47 y) 47)) c_52 | exact jCnt_f0 (g := (fun y => jPow 4 47 s = jRem (t * jPow (jPow 4 47 w) 47 y) 47)) c_52)), (congrArg (fun z => some (Value.int z)) (nI_1 _)), trivial⟩ ?_
                exact ih36 (j + 1) (by omega) (by omega)
              · refine j_iinc X dX10_odds_55 rfl 1 rfl ?_
                refine j_iinc X dX10_odds_58 rfl 1 rfl ?_
                refine j_goto X 36 dX10_odds_61 (by decide) ?_
                refine j_lv [some (.ref 0), some (.int (nI b)), some (.int t), some (.int (nI s)), some (.int (nI (jCnt (fun y => jPow 4 47 s = jRem (t * jPow (jPow 4 47 w) 47 y) 47) (j + 1)))), some (.int (nI (j + 1)))] ⟨rfl, rfl, rfl, rfl, (congrArg (fun z => some (Value.int z)) (by first | exact jCnt_t (g := (fun y => jPow 4 47 s = jRem (t * jPow (jPow 4 47 w) 47 y) 47)) c_52 | exact jCnt_f0 (g := (fun y => jPow 4 47 s = jRem (t * jPow (jPow 4 47 w) 47 y) 47)) c_52)), (congrArg (fun z => some (Value.int z)) (nI_1 _)), trivial⟩ ?_
                exact ih36 (j + 1) (by omega) (by omega)
        refine j_lv [some (.ref 0), some (.int (nI b)), some (.int t), some (.int (nI s)), some (.int (nI (jCnt (fun y => jPow 4 47 s = jRem (t * jPow (jPow 4 47 w) 47 y) 47) 0))), some (.int (nI 0))] ⟨rfl, rfl, rfl, rfl, rfl, rfl, trivial⟩ ?_
        exact lp36 24 0 (by omega) (by omega)
      · exfalso
        clear hE hr hR X
        (try simp only [lg_cmp_lt, lg_cmp_gt, lg_cmp_le, lg_cmp_ge] at *); (try simp (disch := omega) only [Int64.le_iff_toInt_le, Int64.lt_iff_toInt_lt, Int32.le_iff_toInt_le, Int32.lt_iff_toInt_lt, fa_eq, fa_lit, fa_litL, nI_toInt, pk_lT, Int32.toInt_toInt64, jadd64, jin, jnoneT] at *); omega
set_option maxRecDepth 4000 in
set_option maxHeartbeats 1000000 in
theorem c_partOf (np : Nat) (mem : jMem) (s f : Int32) (k : Nat) (hk : 1 ≤ k) (hk2 : k ≤ 4) : jPi yX2_partOf cX2_partOf 6 .int 1 [.int s, .int (nI k), .int f] np mem (fun v c => v = (jPart s f (k - 1)).1 ∧ c = mem) := by
  refine jPi.of (own := RX2) rfl rfl (Nat.le_of_ble_eq_true rfl) (fun G X hR hr hE => ?_)
  refine j_iload_n X dX2_partOf_0 rfl ?_
  refine j_istore_n X dX2_partOf_1 (by decide) ?_
  refine j_iconst X dX2_partOf_2 1 (by decide) ?_
  refine j_istore X dX2_partOf_3 (by decide) ?_
  refine j_iconst X dX2_partOf_5 1 (by decide) ?_
  refine j_istore X dX2_partOf_6 (by decide) ?_
  have lp8 : ∀ (n : Nat) (j : Nat), j + 1 ≤ k → k ≤ j + n → J G RX2 cX2_partOf 6 0 0 8 (jlv [some (.int s), some (.int (nI k)), some (.int f), some (.int (jPart s f j).1), some (.int (jPart s f j).2), some (.int (nI (j + 1)))]) [] (jS np) (mem) := by
    intro n
    induction n with
    | zero =>
      intro j hj hn
      exact absurd hn (by omega)
    | succ n ih8 =>
      intro j hj hn
      refine j_iload X dX2_partOf_8 rfl ?_
      refine j_iload_n X dX2_partOf_10 rfl ?_
      refine j_icmp_ge X 58 dX2_partOf_11 (by decide) (fun c_11 => ?_) (fun c_11 => ?_)
      · obtain rfl : k = j + 1 := by clear hE hr hR X; (try simp only [lg_cmp_lt, lg_cmp_gt, lg_cmp_le, lg_cmp_ge] at *); (try simp (disch := omega) only [Int64.le_iff_toInt_le, Int64.lt_iff_toInt_lt, Int32.le_iff_toInt_le, Int32.lt_iff_toInt_lt, fa_eq, fa_lit, fa_litL, nI_toInt, pk_lT, Int32.toInt_toInt64, jadd64, jin, jnoneT] at *); omega
        refine j_iload_n X dX2_partOf_58 rfl ?_
        refine s_iret X hE hr dX2_partOf_59 rfl ?_
        first | exact ⟨rfl, rfl⟩ | (exfalso; clear hE hr hR X; (try simp only [lg_cmp_lt, lg_cmp_gt, lg_cmp_le, lg_cmp_ge] at *); (try simp (disch := omega) only [Int64.le_iff_toInt_le, Int64.lt_iff_toInt_lt, Int32.le_iff_toInt_le, Int32.lt_iff_toInt_lt, fa_eq, fa_lit, fa_litL, nI_toInt, pk_lT, Int32.toInt_toInt64, jadd64, jin, jnoneT] at *); omega)
      · have hj2 : j + 1 < k := by clear hE hr hR X; (try simp only [lg_cmp_lt, lg_cmp_gt, lg_cmp_le, lg_cmp_ge] at *); (try simp (disch := omega) only [Int64.le_iff_toInt_le, Int64.lt_iff_toInt_lt, Int32.le_iff_toInt_le, Int32.lt_iff_toInt_lt, fa_eq, fa_lit, fa_litL, nI_toInt, pk_lT, Int32.toInt_toInt64, jadd64, jin, jnoneT] at *); omega
        refine j_iload X dX2_partOf_14 rfl ?_
        refine j_iload_n X dX2_partOf_16 rfl ?_
        refine j_imul X dX2_partOf_17 ?_
        refine j_sipush X dX2_partOf_18 257 (by decide) ?_
        refine j_irem X dX2_partOf_21 (by decide) ?_
        refine j_istore X dX2_partOf_22 (by decide) ?_
        refine j_iload_n X dX2_partOf_24 rfl ?_
        refine j_iload_n X dX2_partOf_25 rfl ?_
        refine j_iload X dX2_partOf_26 rfl ?_
        refine j_iconst X dX2_partOf_28 3 (by decide) ?_
        refine j_iadd X dX2_partOf_29 ?_
        refine j_imul X dX2_partOf_30 ?_
        refine j_bipush X dX2_partOf_31 11 (by decide) ?_
        refine j_iload X dX2_partOf_33 rfl ?_
        refine j_imul X dX2_partOf_35 ?_
        refine j_iadd X dX2_partOf_36 ?_
        refine j_iconst X dX2_partOf_37 5 (by decide) ?_
        refine j_iadd X dX2_partOf_38 ?_
        refine j_sipush X dX2_partOf_39 257 (by decide) ?_
        refine j_irem X dX2_partOf_42 (by decide) ?_
        refine j_iload X dX2_partOf_43 rfl ?_
        refine j_imul X dX2_partOf_45 ?_
        refine j_iadd X dX2_partOf_46 ?_
        refine j_sipush X dX2_partOf_47 257 (by decide) ?_
        refine j_irem X dX2_partOf_50 (by decide) ?_
        refine j_istore_n X dX2_partOf_51 (by decide) ?_
        refine j_iinc X dX2_partOf_52 rfl 1 rfl ?_
        refine j_goto X 8 dX2_partOf_55 (by decide) ?_
        refine j_lv [some (.int s), some (.int (nI k)), some (.int f), some (.int (jPart s f (j + 1)).1), some (.int (jPart s f (j + 1)).2), some (.int (nI ((j + 1) + 1)))] ⟨rfl, rfl, rfl, rfl, rfl, (congrArg (fun z => some (Value.int z)) (nI_1 _)), trivial⟩ ?_
        exact ih8 (j + 1) (by omega) (by omega)
  refine j_lv [some (.int s), some (.int (nI k)), some (.int f), some (.int (jPart s f 0).1), some (.int (jPart s f 0).2), some (.int (nI (0 + 1)))] ⟨rfl, rfl, rfl, rfl, rfl, rfl, trivial⟩ ?_
  exact lp8 k 0 (by omega) (by omega)
set_option maxRecDepth 4000 in
set_option maxHeartbeats 1000000 in
theorem c_part_bad (np : Nat) (mem : jMem) (s k f : Int32) (h : ¬ (jin s 0 256 ∧ jin k 1 4 ∧ jin f 1 6)) : jPi yX10_part cX10_part 4 .int 2 [.ref 0, .int s, .int k, .int f] np mem (fun v c => v = -1000001 ∧ c = mem) := by
  refine jPi.of (own := RX10) rfl rfl (Nat.le_of_ble_eq_true rfl) (fun G X hR hr hE => ?_)
  refine j_iload_n X dX10_part_0 rfl ?_
  refine j_iconst X dX10_part_1 0 (by decide) ?_
  refine j_sipush X dX10_part_2 256 (by decide) ?_
  refine s_callSi X hR (c_withinI np _ _ _ _ (0) (256) rfl rfl) rfl u293 u294 u292 u1 hyX10_within (by decide) (by decide) (Nat.le_of_ble_eq_true rfl) dX10_part_5 (fun v_5 m_5 h_5 => ?_)
  obtain ⟨e1, e2⟩ := h_5; have e1 := e1.symm; have e2 := e2.symm; subst e1; subst e2
  refine j_ifb_eq X 30 dX10_part_8 (by decide) (fun c_8 => ?_) (fun c_8 => ?_)
  · refine j_ldc X dX10_part_30 u295 ?_
    refine s_iret X hE hr dX10_part_32 rfl ?_
    first | exact ⟨rfl, rfl⟩ | (exfalso; clear hE hr hR X; (try simp only [lg_cmp_lt, lg_cmp_gt, lg_cmp_le, lg_cmp_ge] at *); (try simp (disch := omega) only [Int64.le_iff_toInt_le, Int64.lt_iff_toInt_lt, Int32.le_iff_toInt_le, Int32.lt_iff_toInt_lt, fa_eq, fa_lit, fa_litL, nI_toInt, pk_lT, Int32.toInt_toInt64, jadd64, jin, jnoneT] at *); omega)
  · refine j_iload_n X dX10_part_11 rfl ?_
    refine j_iconst X dX10_part_12 1 (by decide) ?_
    refine j_iconst X dX10_part_13 4 (by decide) ?_
    refine s_callSi X hR (c_withinI np _ _ _ _ (1) (4) rfl rfl) rfl u293 u294 u292 u1 hyX10_within (by decide) (by decide) (Nat.le_of_ble_eq_true rfl) dX10_part_14 (fun v_14 m_14 h_14 => ?_)
    obtain ⟨e1, e2⟩ := h_14; have e1 := e1.symm; have e2 := e2.symm; subst e1; subst e2
    refine j_ifb_eq X 30 dX10_part_17 (by decide) (fun c_17 => ?_) (fun c_17 => ?_)
    · refine j_ldc X dX10_part_30 u295 ?_
      refine s_iret X hE hr dX10_part_32 rfl ?_
      first | exact ⟨rfl, rfl⟩ | (exfalso; clear hE hr hR X; (try simp only [lg_cmp_lt, lg_cmp_gt, lg_cmp_le, lg_cmp_ge] at *); (try simp (disch := omega) only [Int64.le_iff_toInt_le, Int64.lt_iff_toInt_lt, Int32.le_iff_toInt_le, Int32.lt_iff_toInt_lt, fa_eq, fa_lit, fa_litL, nI_toInt, pk_lT, Int32.toInt_toInt64, jadd64, jin, jnoneT] at *); omega)
    · refine j_iload_n X dX10_part_20 rfl ?_
      refine j_iconst X dX10_part_21 1 (by decide) ?_
      refine j_bipush X dX10_part_22 6 (by decide) ?_
      refine s_callSi X hR (c_withinI np _ _ _ _ (1) (6) rfl rfl) rfl u293 u294 u292 u1 hyX10_within (by decide) (by decide) (Nat.le_of_ble_eq_true rfl) dX10_part_24 (fun v_24 m_24 h_24 => ?_)
      obtain ⟨e1, e2⟩ := h_24; have e1 := e1.symm; have e2 := e2.symm; subst e1; subst e2
      refine j_ifb_ne X 33 dX10_part_27 (by decide) (fun c_27 => ?_) (fun c_27 => ?_)
      · exfalso
        clear hE hr hR X
        (try simp only [lg_cmp_lt, lg_cmp_gt, lg_cmp_le, lg_cmp_ge] at *); (try simp (disch := omega) only [Int64.le_iff_toInt_le, Int64.lt_iff_toInt_lt, Int32.le_iff_toInt_le, Int32.lt_iff_toInt_lt, fa_eq, fa_lit, fa_litL, nI_toInt, pk_lT, Int32.toInt_toInt64, jadd64, jin, jnoneT] at *); omega
      · refine j_ldc X dX10_part_30 u295 ?_
        refine s_iret X hE hr dX10_part_32 rfl ?_
        first | exact ⟨rfl, rfl⟩ | (exfalso; clear hE hr hR X; (try simp only [lg_cmp_lt, lg_cmp_gt, lg_cmp_le, lg_cmp_ge] at *); (try simp (disch := omega) only [Int64.le_iff_toInt_le, Int64.lt_iff_toInt_lt, Int32.le_iff_toInt_le, Int32.lt_iff_toInt_lt, fa_eq, fa_lit, fa_litL, nI_toInt, pk_lT, Int32.toInt_toInt64, jadd64, jin, jnoneT] at *); omega)
set_option maxRecDepth 4000 in
set_option maxHeartbeats 1000000 in
theorem c_part (np : Nat) (mem : jMem) (s f : Int32) (k : Nat) (hs : jin s 0 256) (hk : 1 ≤ k) (hk2 : k ≤ 4) (hf : jin f 1 6) : jPi yX10_part cX10_part 4 .int 2 [.ref 0, .int s, .int (nI k), .int f] np mem (fun v c => v = (jPart s f (k - 1)).1 ∧ c = mem) := by
  refine jPi.of (own := RX10) rfl rfl (Nat.le_of_ble_eq_true rfl) (fun G X hR hr hE => ?_)
  refine j_iload_n X dX10_part_0 rfl ?_
  refine j_iconst X dX10_part_1 0 (by decide) ?_
  refine j_sipush X dX10_part_2 256 (by decide) ?_
  refine s_callSi X hR (c_withinI np _ _ _ _ (0) (256) rfl rfl) rfl u293 u294 u292 u1 hyX10_within (by decide) (by decide) (Nat.le_of_ble_eq_true rfl) dX10_part_5 (fun v_5 m_5 h_5 => ?_)
  obtain ⟨e1, e2⟩ := h_5; have e1 := e1.symm; have e2 := e2.symm; subst e1; subst e2
  refine j_ifb_eq X 30 dX10_part_8 (by decide) (fun c_8 => ?_) (fun c_8 => ?_)
  · exfalso
    clear hE hr hR X
    (try simp only [lg_cmp_lt, lg_cmp_gt, lg_cmp_le, lg_cmp_ge] at *); (try simp (disch := omega) only [Int64.le_iff_toInt_le, Int64.lt_iff_toInt_lt, Int32.le_iff_toInt_le, Int32.lt_iff_toInt_lt, fa_eq, fa_lit, fa_litL, nI_toInt, pk_lT, Int32.toInt_toInt64, jadd64, jin, jnoneT] at *); omega
  · refine j_iload_n X dX10_part_11 rfl ?_
    refine j_iconst X dX10_part_12 1 (by decide) ?_
    refine j_iconst X dX10_part_13 4 (by decide) ?_
    refine s_callSi X hR (c_withinI np _ _ _ _ (1) (4) rfl rfl) rfl u293 u294 u292 u1 hyX10_within (by decide) (by decide) (Nat.le_of_ble_eq_true rfl) dX10_part_14 (fun v_14 m_14 h_14 => ?_)
    obtain ⟨e1, e2⟩ := h_14; have e1 := e1.symm; have e2 := e2.symm; subst e1; subst e2
    refine j_ifb_eq X 30 dX10_part_17 (by decide) (fun c_17 => ?_) (fun c_17 => ?_)
    · exfalso
      clear hE hr hR X
      (try simp only [lg_cmp_lt, lg_cmp_gt, lg_cmp_le, lg_cmp_ge] at *); (try simp (disch := omega) only [Int64.le_iff_toInt_le, Int64.lt_iff_toInt_lt, Int32.le_iff_toInt_le, Int32.lt_iff_toInt_lt, fa_eq, fa_lit, fa_litL, nI_toInt, pk_lT, Int32.toInt_toInt64, jadd64, jin, jnoneT] at *); omega
    · refine j_iload_n X dX10_part_20 rfl ?_
      refine j_iconst X dX10_part_21 1 (by decide) ?_
      refine j_bipush X dX10_part_22 6 (by decide) ?_
      refine s_callSi X hR (c_withinI np _ _ _ _ (1) (6) rfl rfl) rfl u293 u294 u292 u1 hyX10_within (by decide) (by decide) (Nat.le_of_ble_eq_true rfl) dX10_part_24 (fun v_24 m_24 h_24 => ?_)
      obtain ⟨e1, e2⟩ := h_24; have e1 := e1.symm; have e2 := e2.symm; subst e1; subst e2
      refine j_ifb_ne X 33 dX10_part_27 (by decide) (fun c_27 => ?_) (fun c_27 => ?_)
      · refine j_iload_n X dX10_part_33 rfl ?_
        refine j_iload_n X dX10_part_34 rfl ?_
        refine j_iload_n X dX10_part_35 rfl ?_
        refine s_callSi X hR (c_partOf np _ _ _ k hk hk2) rfl u580 u578 u579 u5 hyX2_partOf (by decide) (by decide) (Nat.le_of_ble_eq_true rfl) dX10_part_36 (fun v_36 m_36 h_36 => ?_)
        obtain ⟨e1, e2⟩ := h_36; have e1 := e1.symm; have e2 := e2.symm; subst e1; subst e2
        refine s_iret X hE hr dX10_part_39 rfl ?_
        first | exact ⟨rfl, rfl⟩ | (exfalso; clear hE hr hR X; (try simp only [lg_cmp_lt, lg_cmp_gt, lg_cmp_le, lg_cmp_ge] at *); (try simp (disch := omega) only [Int64.le_iff_toInt_le, Int64.lt_iff_toInt_lt, Int32.le_iff_toInt_le, Int32.lt_iff_toInt_lt, fa_eq, fa_lit, fa_litL, nI_toInt, pk_lT, Int32.toInt_toInt64, jadd64, jin, jnoneT] at *); omega)
      · exfalso
        clear hE hr hR X
        (try simp only [lg_cmp_lt, lg_cmp_gt, lg_cmp_le, lg_cmp_ge] at *); (try simp (disch := omega) only [Int64.le_iff_toInt_le, Int64.lt_iff_toInt_lt, Int32.le_iff_toInt_le, Int32.lt_iff_toInt_lt, fa_eq, fa_lit, fa_litL, nI_toInt, pk_lT, Int32.toInt_toInt64, jadd64, jin, jnoneT] at *); omega
set_option maxRecDepth 4000 in
set_option maxHeartbeats 1000000 in
theorem c_book_bad (np : Nat) (mem : jMem) (d t : Int32) (h : ¬ (jin d 0 3 ∧ jin t 0 999)) : jPi yX10_book cX10_book 4 .int 3 [.ref 0, .int d, .int t] np mem (fun v c => v = -1000001 ∧ c = mem) := by
  refine jPi.of (own := RX10) rfl rfl (Nat.le_of_ble_eq_true rfl) (fun G X hR hr hE => ?_)
  refine j_iload_n X dX10_book_0 rfl ?_
  refine s_callSi X hR (c_isDoor np _ _) rfl u612 u610 u611 u1 hyX10_isDoor (by decide) (by decide) (Nat.le_of_ble_eq_true rfl) dX10_book_1 (fun v_1 m_1 h_1 => ?_)
  obtain ⟨e1, e2⟩ := h_1; have e1 := e1.symm; have e2 := e2.symm; subst e1; subst e2
  refine j_ifb_eq X 14 dX10_book_4 (by decide) (fun c_4 => ?_) (fun c_4 => ?_)
  · refine j_ldc X dX10_book_14 u295 ?_
    refine s_iret X hE hr dX10_book_16 rfl ?_
    first | exact ⟨rfl, rfl⟩ | (exfalso; clear hE hr hR X; (try simp only [lg_cmp_lt, lg_cmp_gt, lg_cmp_le, lg_cmp_ge] at *); (try simp (disch := omega) only [Int64.le_iff_toInt_le, Int64.lt_iff_toInt_lt, Int32.le_iff_toInt_le, Int32.lt_iff_toInt_lt, fa_eq, fa_lit, fa_litL, nI_toInt, pk_lT, Int32.toInt_toInt64, jadd64, jin, jnoneT] at *); omega)
  · refine j_iload_n X dX10_book_7 rfl ?_
    refine s_callSi X hR (c_isDay np _ _) rfl u355 u353 u354 u1 hyX10_isDay (by decide) (by decide) (Nat.le_of_ble_eq_true rfl) dX10_book_8 (fun v_8 m_8 h_8 => ?_)
    obtain ⟨e1, e2⟩ := h_8; have e1 := e1.symm; have e2 := e2.symm; subst e1; subst e2
    refine j_ifb_ne X 17 dX10_book_11 (by decide) (fun c_11 => ?_) (fun c_11 => ?_)
    · exfalso
      clear hE hr hR X
      (try simp only [lg_cmp_lt, lg_cmp_gt, lg_cmp_le, lg_cmp_ge] at *); (try simp (disch := omega) only [Int64.le_iff_toInt_le, Int64.lt_iff_toInt_lt, Int32.le_iff_toInt_le, Int32.lt_iff_toInt_lt, fa_eq, fa_lit, fa_litL, nI_toInt, pk_lT, Int32.toInt_toInt64, jadd64, jin, jnoneT] at *); omega
    · refine j_ldc X dX10_book_14 u295 ?_
      refine s_iret X hE hr dX10_book_16 rfl ?_
      first | exact ⟨rfl, rfl⟩ | (exfalso; clear hE hr hR X; (try simp only [lg_cmp_lt, lg_cmp_gt, lg_cmp_le, lg_cmp_ge] at *); (try simp (disch := omega) only [Int64.le_iff_toInt_le, Int64.lt_iff_toInt_lt, Int32.le_iff_toInt_le, Int32.lt_iff_toInt_lt, fa_eq, fa_lit, fa_litL, nI_toInt, pk_lT, Int32.toInt_toInt64, jadd64, jin, jnoneT] at *); omega)
set_option maxRecDepth 4000 in
set_option maxHeartbeats 1000000 in
theorem c_book (np : Nat) (mem : jMem) (d : Nat) (t : Int32) (hd : d < 4) (ht : jin t 0 999) : jPi yX10_book cX10_book 4 .int 3 [.ref 0, .int (nI d), .int t] np mem (fun v c => v = mem 33 d ∧ c = jup mem 33 d t) := by
  refine jPi.of (own := RX10) rfl rfl (Nat.le_of_ble_eq_true rfl) (fun G X hR hr hE => ?_)
  refine j_iload_n X dX10_book_0 rfl ?_
  refine s_callSi X hR (c_isDoor np _ _) rfl u612 u610 u611 u1 hyX10_isDoor (by decide) (by decide) (Nat.le_of_ble_eq_true rfl) dX10_book_1 (fun v_1 m_1 h_1 => ?_)
  obtain ⟨e1, e2⟩ := h_1; have e1 := e1.symm; have e2 := e2.symm; subst e1; subst e2
  refine j_ifb_eq X 14 dX10_book_4 (by decide) (fun c_4 => ?_) (fun c_4 => ?_)
  · exfalso
    clear hE hr hR X
    (try simp only [lg_cmp_lt, lg_cmp_gt, lg_cmp_le, lg_cmp_ge] at *); (try simp (disch := omega) only [Int64.le_iff_toInt_le, Int64.lt_iff_toInt_lt, Int32.le_iff_toInt_le, Int32.lt_iff_toInt_lt, fa_eq, fa_lit, fa_litL, nI_toInt, pk_lT, Int32.toInt_toInt64, jadd64, jin, jnoneT] at *); omega
  · refine j_iload_n X dX10_book_7 rfl ?_
    refine s_callSi X hR (c_isDay np _ _) rfl u355 u353 u354 u1 hyX10_isDay (by decide) (by decide) (Nat.le_of_ble_eq_true rfl) dX10_book_8 (fun v_8 m_8 h_8 => ?_)
    obtain ⟨e1, e2⟩ := h_8; have e1 := e1.symm; have e2 := e2.symm; subst e1; subst e2
    refine j_ifb_ne X 17 dX10_book_11 (by decide) (fun c_11 => ?_) (fun c_11 => ?_)
    · refine j_aload_n X dX10_book_17 rfl ?_
      refine j_getR X 10 5 (by decide) (by decide) rfl u243 (o0 np) (k0 np) _ (p0_5 np) dX10_book_18 ?_
      refine j_getR X 3 0 (by decide) (by decide) rfl u104 (o32 np) (k32 np) _ (p32_0 np) dX10_book_21 ?_
      refine j_iload_n X dX10_book_24 rfl ?_
      refine j_nrm _ (by first | (simp only [fa_lit, pk_mul, nI_add]; done) | (simp only [fa_lit, pk_mul, nI_add]; rfl) | rfl) ?_
      refine j_ialdN X (o33 np) (k33 np) (by rw [l33]; omega) (by rw [l33]; decide) (mem 33) rfl dX10_book_25 ?_
      refine j_istore_n X dX10_book_26 (by decide) ?_
      refine j_aload_n X dX10_book_27 rfl ?_
      refine j_getR X 10 5 (by decide) (by decide) rfl u243 (o0 np) (k0 np) _ (p0_5 np) dX10_book_28 ?_
      refine j_getR X 3 0 (by decide) (by decide) rfl u104 (o32 np) (k32 np) _ (p32_0 np) dX10_book_31 ?_
      refine j_iload_n X dX10_book_34 rfl ?_
      refine j_iload_n X dX10_book_35 rfl ?_
      refine j_nrm2 _ (by first | (simp only [fa_lit, pk_mul, nI_add]; done) | (simp only [fa_lit, pk_mul, nI_add]; rfl) | rfl) ?_
      refine j_iastN X (o33 np) (k33 np) (by rw [l33]; omega) (by rw [l33]; decide) dX10_book_36 ?_
      refine j_iload_n X dX10_book_37 rfl ?_
      refine s_iret X hE hr dX10_book_38 rfl ?_
      first | exact ⟨rfl, rfl⟩ | (exfalso; clear hE hr hR X; (try simp only [lg_cmp_lt, lg_cmp_gt, lg_cmp_le, lg_cmp_ge] at *); (try simp (disch := omega) only [Int64.le_iff_toInt_le, Int64.lt_iff_toInt_lt, Int32.le_iff_toInt_le, Int32.lt_iff_toInt_lt, fa_eq, fa_lit, fa_litL, nI_toInt, pk_lT, Int32.toInt_toInt64, jadd64, jin, jnoneT] at *); omega)
    · exfalso
      clear hE hr hR X
      (try simp only [lg_cmp_lt, lg_cmp_gt, lg_cmp_le, lg_cmp_ge] at *); (try simp (disch := omega) only [Int64.le_iff_toInt_le, Int64.lt_iff_toInt_lt, Int32.le_iff_toInt_le, Int32.lt_iff_toInt_lt, fa_eq, fa_lit, fa_litL, nI_toInt, pk_lT, Int32.toInt_toInt64, jadd64, jin, jnoneT] at *); omega
set_option maxRecDepth 4000 in
set_option maxHeartbeats 1000000 in
theorem c_revoke_p (np : Nat) (mem : jMem) (p d : Int32) (hn : np ≤ 12) (hp : mem 0 12 = nI np) (h : ¬ jin p 0 ((np : Int) - 1)) : jPi yX10_revoke cX10_revoke 4 .int 3 [.ref 0, .int p, .int d] np mem (fun v c => v = -1000001 ∧ c = mem) := by
  refine jPi.of (own := RX10) rfl rfl (Nat.le_of_ble_eq_true rfl) (fun G X hR hr hE => ?_)
  refine j_aload_n X dX10_revoke_0 rfl ?_
  refine j_iload_n X dX10_revoke_1 rfl ?_
  refine s_callVa X hR (c_paperAt_null np _ p hn hp h) rfl 10 (by decide) (o0 np) (k0 np) rfl u435 u432 u434 qp2 u1 hyX10_paperAt (by decide) (by decide) (Nat.le_of_ble_eq_true rfl) dX10_revoke_2 (fun v_2 m_2 h_2 => ?_)
  obtain ⟨e1, e2⟩ := h_2; have e1 := e1.symm; have e2 := e2.symm; subst e1; subst e2
  refine j_astore_nN X dX10_revoke_5 (by decide) ?_
  refine j_aload_nN X dX10_revoke_6 rfl ?_
  refine j_ifnullN X 17 dX10_revoke_7 (by decide) ?_
  refine j_ldc X dX10_revoke_17 u295 ?_
  refine s_iret X hE hr dX10_revoke_19 rfl ?_
  first | exact ⟨rfl, rfl⟩ | (exfalso; clear hE hr hR X; (try simp only [lg_cmp_lt, lg_cmp_gt, lg_cmp_le, lg_cmp_ge] at *); (try simp (disch := omega) only [Int64.le_iff_toInt_le, Int64.lt_iff_toInt_lt, Int32.le_iff_toInt_le, Int32.lt_iff_toInt_lt, fa_eq, fa_lit, fa_litL, nI_toInt, pk_lT, Int32.toInt_toInt64, jadd64, jin, jnoneT] at *); omega)
set_option maxRecDepth 4000 in
set_option maxHeartbeats 1000000 in
theorem c_revoke_bad (np : Nat) (mem : jMem) (p : Nat) (d : Int32) (hn : np ≤ 12) (hp : mem 0 12 = nI np) (hp2 : p < np) (h : ¬ jin d 0 999) : jPi yX10_revoke cX10_revoke 4 .int 3 [.ref 0, .int (nI p), .int d] np mem (fun v c => v = -1000001 ∧ c = mem) := by
  refine jPi.of (own := RX10) rfl rfl (Nat.le_of_ble_eq_true rfl) (fun G X hR hr hE => ?_)
  refine j_aload_n X dX10_revoke_0 rfl ?_
  refine j_iload_n X dX10_revoke_1 rfl ?_
  refine s_callVa X hR (c_paperAt np _ p hn hp hp2) rfl 10 (by decide) (o0 np) (k0 np) rfl u435 u432 u434 qp2 u1 hyX10_paperAt (by decide) (by decide) (Nat.le_of_ble_eq_true rfl) dX10_revoke_2 (fun v_2 m_2 h_2 => ?_)
  obtain ⟨e1, e2⟩ := h_2; have e1 := e1.symm; have e2 := e2.symm; subst e1; subst e2
  refine j_astore_n X dX10_revoke_5 (by decide) ?_
  refine j_aload_n X dX10_revoke_6 rfl ?_
  refine j_ifnullR X 17 dX10_revoke_7 (by decide) ?_
  refine j_iload_n X dX10_revoke_10 rfl ?_
  refine s_callSi X hR (c_isDay np _ _) rfl u355 u353 u354 u1 hyX10_isDay (by decide) (by decide) (Nat.le_of_ble_eq_true rfl) dX10_revoke_11 (fun v_11 m_11 h_11 => ?_)
  obtain ⟨e1, e2⟩ := h_11; have e1 := e1.symm; have e2 := e2.symm; subst e1; subst e2
  refine j_ifb_ne X 20 dX10_revoke_14 (by decide) (fun c_14 => ?_) (fun c_14 => ?_)
  · exfalso
    clear hE hr hR X
    (try simp only [lg_cmp_lt, lg_cmp_gt, lg_cmp_le, lg_cmp_ge] at *); (try simp (disch := omega) only [Int64.le_iff_toInt_le, Int64.lt_iff_toInt_lt, Int32.le_iff_toInt_le, Int32.lt_iff_toInt_lt, fa_eq, fa_lit, fa_litL, nI_toInt, pk_lT, Int32.toInt_toInt64, jadd64, jin, jnoneT] at *); omega
  · refine j_ldc X dX10_revoke_17 u295 ?_
    refine s_iret X hE hr dX10_revoke_19 rfl ?_
    first | exact ⟨rfl, rfl⟩ | (exfalso; clear hE hr hR X; (try simp only [lg_cmp_lt, lg_cmp_gt, lg_cmp_le, lg_cmp_ge] at *); (try simp (disch := omega) only [Int64.le_iff_toInt_le, Int64.lt_iff_toInt_lt, Int32.le_iff_toInt_le, Int32.lt_iff_toInt_lt, fa_eq, fa_lit, fa_litL, nI_toInt, pk_lT, Int32.toInt_toInt64, jadd64, jin, jnoneT] at *); omega)
set_option maxRecDepth 4000 in
set_option maxHeartbeats 1000000 in
theorem c_revoke_state (np : Nat) (mem : jMem) (p : Nat) (d : Int32) (hn : np ≤ 12) (hp : mem 0 12 = nI np) (hp2 : p < np) (hd : jin d 0 999) (hv : ¬ mem (92 + 2 * p) 7 = 1000) : jPi yX10_revoke cX10_revoke 4 .int 3 [.ref 0, .int (nI p), .int d] np mem (fun v c => v = -1000002 ∧ c = mem) := by
  refine jPi.of (own := RX10) rfl rfl (Nat.le_of_ble_eq_true rfl) (fun G X hR hr hE => ?_)
  refine j_aload_n X dX10_revoke_0 rfl ?_
  refine j_iload_n X dX10_revoke_1 rfl ?_
  refine s_callVa X hR (c_paperAt np _ p hn hp hp2) rfl 10 (by decide) (o0 np) (k0 np) rfl u435 u432 u434 qp2 u1 hyX10_paperAt (by decide) (by decide) (Nat.le_of_ble_eq_true rfl) dX10_revoke_2 (fun v_2 m_2 h_2 => ?_)
  obtain ⟨e1, e2⟩ := h_2; have e1 := e1.symm; have e2 := e2.symm; subst e1; subst e2
  refine j_astore_n X dX10_revoke_5 (by decide) ?_
  refine j_aload_n X dX10_revoke_6 rfl ?_
  refine j_ifnullR X 17 dX10_revoke_7 (by decide) ?_
  refine j_iload_n X dX10_revoke_10 rfl ?_
  refine s_callSi X hR (c_isDay np _ _) rfl u355 u353 u354 u1 hyX10_isDay (by decide) (by decide) (Nat.le_of_ble_eq_true rfl) dX10_revoke_11 (fun v_11 m_11 h_11 => ?_)
  obtain ⟨e1, e2⟩ := h_11; have e1 := e1.symm; have e2 := e2.symm; subst e1; subst e2
  refine j_ifb_ne X 20 dX10_revoke_14 (by decide) (fun c_14 => ?_) (fun c_14 => ?_)
  · refine j_aload_n X dX10_revoke_20 rfl ?_
    refine j_getF X 6 7 (by decide) (by decide) rfl u410 (oP np (by omega)) (kP np _) (mem (92 + 2 * p)) rfl dX10_revoke_21 ?_
    refine j_sipush X dX10_revoke_24 1000 (by decide) ?_
    refine j_icmp_eq X 33 dX10_revoke_27 (by decide) (fun c_27 => ?_) (fun c_27 => ?_)
    · exact absurd c_27 hv
    · refine j_ldc X dX10_revoke_30 u374 ?_
      refine s_iret X hE hr dX10_revoke_32 rfl ?_
      first | exact ⟨rfl, rfl⟩ | (exfalso; clear hE hr hR X; (try simp only [lg_cmp_lt, lg_cmp_gt, lg_cmp_le, lg_cmp_ge] at *); (try simp (disch := omega) only [Int64.le_iff_toInt_le, Int64.lt_iff_toInt_lt, Int32.le_iff_toInt_le, Int32.lt_iff_toInt_lt, fa_eq, fa_lit, fa_litL, nI_toInt, pk_lT, Int32.toInt_toInt64, jadd64, jin, jnoneT] at *); omega)
  · exfalso
    clear hE hr hR X
    (try simp only [lg_cmp_lt, lg_cmp_gt, lg_cmp_le, lg_cmp_ge] at *); (try simp (disch := omega) only [Int64.le_iff_toInt_le, Int64.lt_iff_toInt_lt, Int32.le_iff_toInt_le, Int32.lt_iff_toInt_lt, fa_eq, fa_lit, fa_litL, nI_toInt, pk_lT, Int32.toInt_toInt64, jadd64, jin, jnoneT] at *); omega
set_option maxRecDepth 4000 in
set_option maxHeartbeats 1000000 in
theorem c_revoke (np : Nat) (mem : jMem) (p : Nat) (d : Int32) (hn : np ≤ 12) (hp : mem 0 12 = nI np) (hp2 : p < np) (hd : jin d 0 999) (hv : mem (92 + 2 * p) 7 = 1000) : jPi yX10_revoke cX10_revoke 4 .int 3 [.ref 0, .int (nI p), .int d] np mem (fun v c => v = 1 ∧ c = jup mem (92 + 2 * p) 7 d) := by
  refine jPi.of (own := RX10) rfl rfl (Nat.le_of_ble_eq_true rfl) (fun G X hR hr hE => ?_)
  refine j_aload_n X dX10_revoke_0 rfl ?_
  refine j_iload_n X dX10_revoke_1 rfl ?_
  refine s_callVa X hR (c_paperAt np _ p hn hp hp2) rfl 10 (by decide) (o0 np) (k0 np) rfl u435 u432 u434 qp2 u1 hyX10_paperAt (by decide) (by decide) (Nat.le_of_ble_eq_true rfl) dX10_revoke_2 (fun v_2 m_2 h_2 => ?_)
  obtain ⟨e1, e2⟩ := h_2; have e1 := e1.symm; have e2 := e2.symm; subst e1; subst e2
  refine j_astore_n X dX10_revoke_5 (by decide) ?_
  refine j_aload_n X dX10_revoke_6 rfl ?_
  refine j_ifnullR X 17 dX10_revoke_7 (by decide) ?_
  refine j_iload_n X dX10_revoke_10 rfl ?_
  refine s_callSi X hR (c_isDay np _ _) rfl u355 u353 u354 u1 hyX10_isDay (by decide) (by decide) (Nat.le_of_ble_eq_true rfl) dX10_revoke_11 (fun v_11 m_11 h_11 => ?_)
  obtain ⟨e1, e2⟩ := h_11; have e1 := e1.symm; have e2 := e2.symm; subst e1; subst e2
  refine j_ifb_ne X 20 dX10_revoke_14 (by decide) (fun c_14 => ?_) (fun c_14 => ?_)
  · refine j_aload_n X dX10_revoke_20 rfl ?_
    refine j_getF X 6 7 (by decide) (by decide) rfl u410 (oP np (by omega)) (kP np _) (mem (92 + 2 * p)) rfl dX10_revoke_21 ?_
    refine j_sipush X dX10_revoke_24 1000 (by decide) ?_
    refine j_icmp_eq X 33 dX10_revoke_27 (by decide) (fun c_27 => ?_) (fun c_27 => ?_)
    · refine j_aload_n X dX10_revoke_33 rfl ?_
      refine j_iload_n X dX10_revoke_34 rfl ?_
      refine j_putI X 6 7 (by decide) (by decide) rfl rfl rfl rfl u410 (oP np (by omega)) (kP np _) dX10_revoke_35 ?_
      refine j_iconst X dX10_revoke_38 1 (by decide) ?_
      refine s_iret X hE hr dX10_revoke_39 rfl ?_
      first | exact ⟨rfl, rfl⟩ | (exfalso; clear hE hr hR X; (try simp only [lg_cmp_lt, lg_cmp_gt, lg_cmp_le, lg_cmp_ge] at *); (try simp (disch := omega) only [Int64.le_iff_toInt_le, Int64.lt_iff_toInt_lt, Int32.le_iff_toInt_le, Int32.lt_iff_toInt_lt, fa_eq, fa_lit, fa_litL, nI_toInt, pk_lT, Int32.toInt_toInt64, jadd64, jin, jnoneT] at *); omega)
    · exact absurd hv c_27
  · exfalso
    clear hE hr hR X
    (try simp only [lg_cmp_lt, lg_cmp_gt, lg_cmp_le, lg_cmp_ge] at *); (try simp (disch := omega) only [Int64.le_iff_toInt_le, Int64.lt_iff_toInt_lt, Int32.le_iff_toInt_le, Int32.lt_iff_toInt_lt, fa_eq, fa_lit, fa_litL, nI_toInt, pk_lT, Int32.toInt_toInt64, jadd64, jin, jnoneT] at *); omega
set_option maxRecDepth 4000 in
set_option maxHeartbeats 1000000 in
theorem c_whyNot (np : Nat) (mem : jMem) (p dr o : Nat) (d : Int32) (hp2 : p < np) (hdr : dr < 4) (ho : o < 4) (hpo : mem (92 + 2 * p) 1 = nI o) : jPi yX10_whyNot cX10_whyNot 7 .int 2 [.ref 0, .ref (92 + 2 * p), .int (nI dr), .int d] np mem (fun v c => v = jHoldC (mem (92 + 2 * p) 4) (mem (92 + 2 * p) 5) (mem (92 + 2 * p) 7) (mem 26 o) (mem 25 o) (mem 33 dr) d ∧ c = mem) := by
  refine jPi.of (own := RX10) rfl rfl (Nat.le_of_ble_eq_true rfl) (fun G X hR hr hE => ?_)
  refine j_aload_n X dX10_whyNot_0 rfl ?_
  refine j_getR X 10 5 (by decide) (by decide) rfl u243 (o0 np) (k0 np) _ (p0_5 np) dX10_whyNot_1 ?_
  refine j_getR X 3 0 (by decide) (by decide) rfl u104 (o32 np) (k32 np) _ (p32_0 np) dX10_whyNot_4 ?_
  refine j_iload_n X dX10_whyNot_7 rfl ?_
  refine j_nrm _ (by first | (simp only [fa_lit, pk_mul, nI_add]; done) | (simp only [fa_lit, pk_mul, nI_add]; rfl) | rfl) ?_
  refine j_ialdN X (o33 np) (k33 np) (by rw [l33]; omega) (by rw [l33]; decide) (mem 33) rfl dX10_whyNot_8 ?_
  refine j_istore X dX10_whyNot_9 (by decide) ?_
  refine j_iload X dX10_whyNot_11 rfl ?_
  refine j_iload_n X dX10_whyNot_13 rfl ?_
  refine j_mmin X hR (by decide) u625 (Nat.le_of_ble_eq_true rfl) ⟨Nat.le_refl _, Nat.le_refl _⟩ dX10_whyNot_14 ?_
  refine j_nrm (jmn (mem 33 dr) d) rfl ?_
  refine j_istore X dX10_whyNot_17 (by decide) ?_
  refine j_iload_n X dX10_whyNot_19 rfl ?_
  refine j_aload_n X dX10_whyNot_20 rfl ?_
  refine j_getF X 6 4 (by decide) (by decide) rfl u401 (oP np (by omega)) (kP np _) (mem (92 + 2 * p)) rfl dX10_whyNot_21 ?_
  refine j_icmp_ge X 29 dX10_whyNot_24 (by decide) (fun c_24 => ?_) (fun c_24 => ?_)
  · refine j_iload_n X dX10_whyNot_29 rfl ?_
    refine j_aload_n X dX10_whyNot_30 rfl ?_
    refine j_getF X 6 5 (by decide) (by decide) rfl u404 (oP np (by omega)) (kP np _) (mem (92 + 2 * p)) rfl dX10_whyNot_31 ?_
    refine j_icmp_le X 39 dX10_whyNot_34 (by decide) (fun c_34 => ?_) (fun c_34 => ?_)
    · refine j_aload_n X dX10_whyNot_39 rfl ?_
      refine j_getF X 6 7 (by decide) (by decide) rfl u410 (oP np (by omega)) (kP np _) (mem (92 + 2 * p)) rfl dX10_whyNot_40 ?_
      refine j_iload X dX10_whyNot_43 rfl ?_
      refine j_icmp_gt X 50 dX10_whyNot_45 (by decide) (fun c_45 => ?_) (fun c_45 => ?_)
      · refine j_aload_n X dX10_whyNot_50 rfl ?_
        refine j_getR X 10 1 (by decide) (by decide) rfl u239 (o0 np) (k0 np) _ (p0_1 np) dX10_whyNot_51 ?_
        refine j_getR X 5 4 (by decide) (by decide) rfl u68 (o13 np) (k13 np) _ (p13_4 np) dX10_whyNot_54 ?_
        refine j_aload_n X dX10_whyNot_57 rfl ?_
        refine j_getF X 6 1 (by decide) (by decide) rfl u395 (oP np (by omega)) (kP np _) (mem (92 + 2 * p)) rfl dX10_whyNot_58 ?_
        refine j_nrm (nI o) hpo ?_
        refine j_nrm _ (by first | (simp only [fa_lit, pk_mul, nI_add]; done) | (simp only [fa_lit, pk_mul, nI_add]; rfl) | rfl) ?_
        refine j_ialdN X (o26 np) (k26 np) (by rw [l26]; omega) (by rw [l26]; decide) (mem 26) rfl dX10_whyNot_61 ?_
        refine j_iload X dX10_whyNot_62 rfl ?_
        refine j_icmp_gt X 69 dX10_whyNot_64 (by decide) (fun c_64 => ?_) (fun c_64 => ?_)
        · refine j_aload_n X dX10_whyNot_69 rfl ?_
          refine j_getR X 10 1 (by decide) (by decide) rfl u239 (o0 np) (k0 np) _ (p0_1 np) dX10_whyNot_70 ?_
          refine j_getR X 5 3 (by decide) (by decide) rfl u66 (o13 np) (k13 np) _ (p13_3 np) dX10_whyNot_73 ?_
          refine j_aload_n X dX10_whyNot_76 rfl ?_
          refine j_getF X 6 1 (by decide) (by decide) rfl u395 (oP np (by omega)) (kP np _) (mem (92 + 2 * p)) rfl dX10_whyNot_77 ?_
          refine j_nrm (nI o) hpo ?_
          refine j_nrm _ (by first | (simp only [fa_lit, pk_mul, nI_add]; done) | (simp only [fa_lit, pk_mul, nI_add]; rfl) | rfl) ?_
          refine j_ialdN X (o25 np) (k25 np) (by rw [l25]; omega) (by rw [l25]; decide) (mem 25) rfl dX10_whyNot_80 ?_
          refine j_istore X dX10_whyNot_81 (by decide) ?_
          refine j_iload X dX10_whyNot_83 rfl ?_
          refine j_iload X dX10_whyNot_85 rfl ?_
          refine j_icmp_gt X 103 dX10_whyNot_87 (by decide) (fun c_87 => ?_) (fun c_87 => ?_)
          · refine j_iconst X dX10_whyNot_103 0 (by decide) ?_
            refine s_iret X hE hr dX10_whyNot_104 rfl ?_
            refine ⟨?_, rfl⟩
            clear hE hr hR X
            unfold jHoldC
            (repeat' split) <;> first | rfl | (exfalso; (try simp only [lg_cmp_lt, lg_cmp_gt, lg_cmp_le, lg_cmp_ge] at *); (try simp (disch := omega) only [Int64.le_iff_toInt_le, Int64.lt_iff_toInt_lt, Int32.le_iff_toInt_le, Int32.lt_iff_toInt_lt, fa_eq, fa_lit, fa_litL, nI_toInt, pk_lT, Int32.toInt_toInt64, jadd64, jin, jnoneT] at *); omega)
          · refine j_aload_n X dX10_whyNot_90 rfl ?_
            refine j_getF X 6 4 (by decide) (by decide) rfl u401 (oP np (by omega)) (kP np _) (mem (92 + 2 * p)) rfl dX10_whyNot_91 ?_
            refine j_iload X dX10_whyNot_94 rfl ?_
            refine j_icmp_lt X 103 dX10_whyNot_96 (by decide) (fun c_96 => ?_) (fun c_96 => ?_)
            · refine j_iconst X dX10_whyNot_103 0 (by decide) ?_
              refine s_iret X hE hr dX10_whyNot_104 rfl ?_
              refine ⟨?_, rfl⟩
              clear hE hr hR X
              unfold jHoldC
              (repeat' split) <;> first | rfl | (exfalso; (try simp only [lg_cmp_lt, lg_cmp_gt, lg_cmp_le, lg_cmp_ge] at *); (try simp (disch := omega) only [Int64.le_iff_toInt_le, Int64.lt_iff_toInt_lt, Int32.le_iff_toInt_le, Int32.lt_iff_toInt_lt, fa_eq, fa_lit, fa_litL, nI_toInt, pk_lT, Int32.toInt_toInt64, jadd64, jin, jnoneT] at *); omega)
            · refine j_iconst X dX10_whyNot_99 5 (by decide) ?_
              refine j_goto X 104 dX10_whyNot_100 (by decide) ?_
              refine s_iret X hE hr dX10_whyNot_104 rfl ?_
              refine ⟨?_, rfl⟩
              clear hE hr hR X
              unfold jHoldC
              (repeat' split) <;> first | rfl | (exfalso; (try simp only [lg_cmp_lt, lg_cmp_gt, lg_cmp_le, lg_cmp_ge] at *); (try simp (disch := omega) only [Int64.le_iff_toInt_le, Int64.lt_iff_toInt_lt, Int32.le_iff_toInt_le, Int32.lt_iff_toInt_lt, fa_eq, fa_lit, fa_litL, nI_toInt, pk_lT, Int32.toInt_toInt64, jadd64, jin, jnoneT] at *); omega)
        · refine j_iconst X dX10_whyNot_67 4 (by decide) ?_
          refine s_iret X hE hr dX10_whyNot_68 rfl ?_
          refine ⟨?_, rfl⟩
          clear hE hr hR X
          unfold jHoldC
          (repeat' split) <;> first | rfl | (exfalso; (try simp only [lg_cmp_lt, lg_cmp_gt, lg_cmp_le, lg_cmp_ge] at *); (try simp (disch := omega) only [Int64.le_iff_toInt_le, Int64.lt_iff_toInt_lt, Int32.le_iff_toInt_le, Int32.lt_iff_toInt_lt, fa_eq, fa_lit, fa_litL, nI_toInt, pk_lT, Int32.toInt_toInt64, jadd64, jin, jnoneT] at *); omega)
      · refine j_iconst X dX10_whyNot_48 3 (by decide) ?_
        refine s_iret X hE hr dX10_whyNot_49 rfl ?_
        refine ⟨?_, rfl⟩
        clear hE hr hR X
        unfold jHoldC
        (repeat' split) <;> first | rfl | (exfalso; (try simp only [lg_cmp_lt, lg_cmp_gt, lg_cmp_le, lg_cmp_ge] at *); (try simp (disch := omega) only [Int64.le_iff_toInt_le, Int64.lt_iff_toInt_lt, Int32.le_iff_toInt_le, Int32.lt_iff_toInt_lt, fa_eq, fa_lit, fa_litL, nI_toInt, pk_lT, Int32.toInt_toInt64, jadd64, jin, jnoneT] at *); omega)
    · refine j_iconst X dX10_whyNot_37 2 (by decide) ?_
      refine s_iret X hE hr dX10_whyNot_38 rfl ?_
      refine ⟨?_, rfl⟩
      clear hE hr hR X
      unfold jHoldC
      (repeat' split) <;> first | rfl | (exfalso; (try simp only [lg_cmp_lt, lg_cmp_gt, lg_cmp_le, lg_cmp_ge] at *); (try simp (disch := omega) only [Int64.le_iff_toInt_le, Int64.lt_iff_toInt_lt, Int32.le_iff_toInt_le, Int32.lt_iff_toInt_lt, fa_eq, fa_lit, fa_litL, nI_toInt, pk_lT, Int32.toInt_toInt64, jadd64, jin, jnoneT] at *); omega)
  · refine j_iconst X dX10_whyNot_27 1 (by decide) ?_
    refine s_iret X hE hr dX10_whyNot_28 rfl ?_
    refine ⟨?_, rfl⟩
    clear hE hr hR X
    unfold jHoldC
    (repeat' split) <;> first | rfl | (exfalso; (try simp only [lg_cmp_lt, lg_cmp_gt, lg_cmp_le, lg_cmp_ge] at *); (try simp (disch := omega) only [Int64.le_iff_toInt_le, Int64.lt_iff_toInt_lt, Int32.le_iff_toInt_le, Int32.lt_iff_toInt_lt, fa_eq, fa_lit, fa_litL, nI_toInt, pk_lT, Int32.toInt_toInt64, jadd64, jin, jnoneT] at *); omega)
set_option maxRecDepth 4000 in
set_option maxHeartbeats 1000000 in
theorem c_holds_p (np : Nat) (mem : jMem) (p dr d : Int32) (hn : np ≤ 12) (hp : mem 0 12 = nI np) (h : ¬ jin p 0 ((np : Int) - 1)) : jPi yX10_holds cX10_holds 5 .int 3 [.ref 0, .int p, .int dr, .int d] np mem (fun v c => v = -1000001 ∧ c = mem) := by
  refine jPi.of (own := RX10) rfl rfl (Nat.le_of_ble_eq_true rfl) (fun G X hR hr hE => ?_)
  refine j_aload_n X dX10_holds_0 rfl ?_
  refine j_iload_n X dX10_holds_1 rfl ?_
  refine s_callVa X hR (c_paperAt_null np _ p hn hp h) rfl 10 (by decide) (o0 np) (k0 np) rfl u435 u432 u434 qp2 u1 hyX10_paperAt (by decide) (by decide) (Nat.le_of_ble_eq_true rfl) dX10_holds_2 (fun v_2 m_2 h_2 => ?_)
  obtain ⟨e1, e2⟩ := h_2; have e1 := e1.symm; have e2 := e2.symm; subst e1; subst e2
  refine j_astoreN X dX10_holds_5 (by decide) ?_
  refine j_aloadN X dX10_holds_7 rfl ?_
  refine j_ifnullN X 26 dX10_holds_9 (by decide) ?_
  refine j_ldc X dX10_holds_26 u295 ?_
  refine j_goto X 39 dX10_holds_28 (by decide) ?_
  refine s_iret X hE hr dX10_holds_39 rfl ?_
  first | exact ⟨rfl, rfl⟩ | (exfalso; clear hE hr hR X; (try simp only [lg_cmp_lt, lg_cmp_gt, lg_cmp_le, lg_cmp_ge] at *); (try simp (disch := omega) only [Int64.le_iff_toInt_le, Int64.lt_iff_toInt_lt, Int32.le_iff_toInt_le, Int32.lt_iff_toInt_lt, fa_eq, fa_lit, fa_litL, nI_toInt, pk_lT, Int32.toInt_toInt64, jadd64, jin, jnoneT] at *); omega)
set_option maxRecDepth 4000 in
set_option maxHeartbeats 1000000 in
theorem c_holds_bad (np : Nat) (mem : jMem) (p : Nat) (dr d : Int32) (hn : np ≤ 12) (hp : mem 0 12 = nI np) (hp2 : p < np) (h : ¬ (jin dr 0 3 ∧ jin d 0 999)) : jPi yX10_holds cX10_holds 5 .int 3 [.ref 0, .int (nI p), .int dr, .int d] np mem (fun v c => v = -1000001 ∧ c = mem) := by
  refine jPi.of (own := RX10) rfl rfl (Nat.le_of_ble_eq_true rfl) (fun G X hR hr hE => ?_)
  refine j_aload_n X dX10_holds_0 rfl ?_
  refine j_iload_n X dX10_holds_1 rfl ?_
  refine s_callVa X hR (c_paperAt np _ p hn hp hp2) rfl 10 (by decide) (o0 np) (k0 np) rfl u435 u432 u434 qp2 u1 hyX10_paperAt (by decide) (by decide) (Nat.le_of_ble_eq_true rfl) dX10_holds_2 (fun v_2 m_2 h_2 => ?_)
  obtain ⟨e1, e2⟩ := h_2; have e1 := e1.symm; have e2 := e2.symm; subst e1; subst e2
  refine j_astore X dX10_holds_5 (by decide) ?_
  refine j_aload X dX10_holds_7 rfl ?_
  refine j_ifnullR X 26 dX10_holds_9 (by decide) ?_
  refine j_iload_n X dX10_holds_12 rfl ?_
  refine s_callSi X hR (c_isDoor np _ _) rfl u612 u610 u611 u1 hyX10_isDoor (by decide) (by decide) (Nat.le_of_ble_eq_true rfl) dX10_holds_13 (fun v_13 m_13 h_13 => ?_)
  obtain ⟨e1, e2⟩ := h_13; have e1 := e1.symm; have e2 := e2.symm; subst e1; subst e2
  refine j_ifb_eq X 26 dX10_holds_16 (by decide) (fun c_16 => ?_) (fun c_16 => ?_)
  · refine j_ldc X dX10_holds_26 u295 ?_
    refine j_goto X 39 dX10_holds_28 (by decide) ?_
    refine s_iret X hE hr dX10_holds_39 rfl ?_
    first | exact ⟨rfl, rfl⟩ | (exfalso; clear hE hr hR X; (try simp only [lg_cmp_lt, lg_cmp_gt, lg_cmp_le, lg_cmp_ge] at *); (try simp (disch := omega) only [Int64.le_iff_toInt_le, Int64.lt_iff_toInt_lt, Int32.le_iff_toInt_le, Int32.lt_iff_toInt_lt, fa_eq, fa_lit, fa_litL, nI_toInt, pk_lT, Int32.toInt_toInt64, jadd64, jin, jnoneT] at *); omega)
  · refine j_iload_n X dX10_holds_19 rfl ?_
    refine s_callSi X hR (c_isDay np _ _) rfl u355 u353 u354 u1 hyX10_isDay (by decide) (by decide) (Nat.le_of_ble_eq_true rfl) dX10_holds_20 (fun v_20 m_20 h_20 => ?_)
    obtain ⟨e1, e2⟩ := h_20; have e1 := e1.symm; have e2 := e2.symm; subst e1; subst e2
    refine j_ifb_ne X 31 dX10_holds_23 (by decide) (fun c_23 => ?_) (fun c_23 => ?_)
    · exfalso
      clear hE hr hR X
      (try simp only [lg_cmp_lt, lg_cmp_gt, lg_cmp_le, lg_cmp_ge] at *); (try simp (disch := omega) only [Int64.le_iff_toInt_le, Int64.lt_iff_toInt_lt, Int32.le_iff_toInt_le, Int32.lt_iff_toInt_lt, fa_eq, fa_lit, fa_litL, nI_toInt, pk_lT, Int32.toInt_toInt64, jadd64, jin, jnoneT] at *); omega
    · refine j_ldc X dX10_holds_26 u295 ?_
      refine j_goto X 39 dX10_holds_28 (by decide) ?_
      refine s_iret X hE hr dX10_holds_39 rfl ?_
      first | exact ⟨rfl, rfl⟩ | (exfalso; clear hE hr hR X; (try simp only [lg_cmp_lt, lg_cmp_gt, lg_cmp_le, lg_cmp_ge] at *); (try simp (disch := omega) only [Int64.le_iff_toInt_le, Int64.lt_iff_toInt_lt, Int32.le_iff_toInt_le, Int32.lt_iff_toInt_lt, fa_eq, fa_lit, fa_litL, nI_toInt, pk_lT, Int32.toInt_toInt64, jadd64, jin, jnoneT] at *); omega)
set_option maxRecDepth 4000 in
set_option maxHeartbeats 1000000 in
theorem c_holds (np : Nat) (mem : jMem) (p dr o : Nat) (d : Int32) (hn : np ≤ 12) (hp : mem 0 12 = nI np) (hp2 : p < np) (hdr : dr < 4) (hd : jin d 0 999) (ho : o < 4) (hpo : mem (92 + 2 * p) 1 = nI o) : jPi yX10_holds cX10_holds 5 .int 3 [.ref 0, .int (nI p), .int (nI dr), .int d] np mem (fun v c => v = jHoldC (mem (92 + 2 * p) 4) (mem (92 + 2 * p) 5) (mem (92 + 2 * p) 7) (mem 26 o) (mem 25 o) (mem 33 dr) d ∧ c = mem) := by
  refine jPi.of (own := RX10) rfl rfl (Nat.le_of_ble_eq_true rfl) (fun G X hR hr hE => ?_)
  refine j_aload_n X dX10_holds_0 rfl ?_
  refine j_iload_n X dX10_holds_1 rfl ?_
  refine s_callVa X hR (c_paperAt np _ p hn hp hp2) rfl 10 (by decide) (o0 np) (k0 np) rfl u435 u432 u434 qp2 u1 hyX10_paperAt (by decide) (by decide) (Nat.le_of_ble_eq_true rfl) dX10_holds_2 (fun v_2 m_2 h_2 => ?_)
  obtain ⟨e1, e2⟩ := h_2; have e1 := e1.symm; have e2 := e2.symm; subst e1; subst e2
  refine j_astore X dX10_holds_5 (by decide) ?_
  refine j_aload X dX10_holds_7 rfl ?_
  refine j_ifnullR X 26 dX10_holds_9 (by decide) ?_
  refine j_iload_n X dX10_holds_12 rfl ?_
  refine s_callSi X hR (c_isDoor np _ _) rfl u612 u610 u611 u1 hyX10_isDoor (by decide) (by decide) (Nat.le_of_ble_eq_true rfl) dX10_holds_13 (fun v_13 m_13 h_13 => ?_)
  obtain ⟨e1, e2⟩ := h_13; have e1 := e1.symm; have e2 := e2.symm; subst e1; subst e2
  refine j_ifb_eq X 26 dX10_holds_16 (by decide) (fun c_16 => ?_) (fun c_16 => ?_)
  · exfalso
    clear hE hr hR X
    (try simp only [lg_cmp_lt, lg_cmp_gt, lg_cmp_le, lg_cmp_ge] at *); (try simp (disch := omega) only [Int64.le_iff_toInt_le, Int64.lt_iff_toInt_lt, Int32.le_iff_toInt_le, Int32.lt_iff_toInt_lt, fa_eq, fa_lit, fa_litL, nI_toInt, pk_lT, Int32.toInt_toInt64, jadd64, jin, jnoneT] at *); omega
  · refine j_iload_n X dX10_holds_19 rfl ?_
    refine s_callSi X hR (c_isDay np _ _) rfl u355 u353 u354 u1 hyX10_isDay (by decide) (by decide) (Nat.le_of_ble_eq_true rfl) dX10_holds_20 (fun v_20 m_20 h_20 => ?_)
    obtain ⟨e1, e2⟩ := h_20; have e1 := e1.symm; have e2 := e2.symm; subst e1; subst e2
    refine j_ifb_ne X 31 dX10_holds_23 (by decide) (fun c_23 => ?_) (fun c_23 => ?_)
    · refine j_aload_n X dX10_holds_31 rfl ?_
      refine j_aload X dX10_holds_32 rfl ?_
      refine j_iload_n X dX10_holds_34 rfl ?_
      refine j_iload_n X dX10_holds_35 rfl ?_
      refine s_callVi X hR (c_whyNot np _ p dr o d hp2 hdr ho hpo) rfl 10 (by decide) (o0 np) (k0 np) rfl u624 u621 u623 qp9 u1 hyX10_whyNot (by decide) (by decide) (Nat.le_of_ble_eq_true rfl) dX10_holds_36 (fun v_36 m_36 h_36 => ?_)
      obtain ⟨e1, e2⟩ := h_36; have e1 := e1.symm; have e2 := e2.symm; subst e1; subst e2
      refine s_iret X hE hr dX10_holds_39 rfl ?_
      first | exact ⟨rfl, rfl⟩ | (exfalso; clear hE hr hR X; (try simp only [lg_cmp_lt, lg_cmp_gt, lg_cmp_le, lg_cmp_ge] at *); (try simp (disch := omega) only [Int64.le_iff_toInt_le, Int64.lt_iff_toInt_lt, Int32.le_iff_toInt_le, Int32.lt_iff_toInt_lt, fa_eq, fa_lit, fa_litL, nI_toInt, pk_lT, Int32.toInt_toInt64, jadd64, jin, jnoneT] at *); omega)
    · exfalso
      clear hE hr hR X
      (try simp only [lg_cmp_lt, lg_cmp_gt, lg_cmp_le, lg_cmp_ge] at *); (try simp (disch := omega) only [Int64.le_iff_toInt_le, Int64.lt_iff_toInt_lt, Int32.le_iff_toInt_le, Int32.lt_iff_toInt_lt, fa_eq, fa_lit, fa_litL, nI_toInt, pk_lT, Int32.toInt_toInt64, jadd64, jin, jnoneT] at *); omega
set_option maxRecDepth 4000 in
set_option maxHeartbeats 1000000 in
theorem c_day_bad (np : Nat) (mem : jMem) (d : Int32) (h : ¬ jin d 0 999) : jPi yX10_day cX10_day 3 .int 3 [.ref 0, .int d] np mem (fun v c => v = -1000001 ∧ c = mem) := by
  refine jPi.of (own := RX10) rfl rfl (Nat.le_of_ble_eq_true rfl) (fun G X hR hr hE => ?_)
  refine j_iload_n X dX10_day_0 rfl ?_
  refine s_callSi X hR (c_isDay np _ _) rfl u355 u353 u354 u1 hyX10_isDay (by decide) (by decide) (Nat.le_of_ble_eq_true rfl) dX10_day_1 (fun v_1 m_1 h_1 => ?_)
  obtain ⟨e1, e2⟩ := h_1; have e1 := e1.symm; have e2 := e2.symm; subst e1; subst e2
  refine j_ifb_ne X 10 dX10_day_4 (by decide) (fun c_4 => ?_) (fun c_4 => ?_)
  · exfalso
    clear hE hr hR X
    (try simp only [lg_cmp_lt, lg_cmp_gt, lg_cmp_le, lg_cmp_ge] at *); (try simp (disch := omega) only [Int64.le_iff_toInt_le, Int64.lt_iff_toInt_lt, Int32.le_iff_toInt_le, Int32.lt_iff_toInt_lt, fa_eq, fa_lit, fa_litL, nI_toInt, pk_lT, Int32.toInt_toInt64, jadd64, jin, jnoneT] at *); omega
  · refine j_ldc X dX10_day_7 u295 ?_
    refine s_iret X hE hr dX10_day_9 rfl ?_
    first | exact ⟨rfl, rfl⟩ | (exfalso; clear hE hr hR X; (try simp only [lg_cmp_lt, lg_cmp_gt, lg_cmp_le, lg_cmp_ge] at *); (try simp (disch := omega) only [Int64.le_iff_toInt_le, Int64.lt_iff_toInt_lt, Int32.le_iff_toInt_le, Int32.lt_iff_toInt_lt, fa_eq, fa_lit, fa_litL, nI_toInt, pk_lT, Int32.toInt_toInt64, jadd64, jin, jnoneT] at *); omega)
set_option maxRecDepth 4000 in
set_option maxHeartbeats 1000000 in
theorem c_day (np : Nat) (mem : jMem) (d : Int32) (h : jin d 0 999) : jPi yX10_day cX10_day 3 .int 3 [.ref 0, .int d] np mem (fun v c => v = mem 0 13 ∧ c = jup mem 0 13 d) := by
  refine jPi.of (own := RX10) rfl rfl (Nat.le_of_ble_eq_true rfl) (fun G X hR hr hE => ?_)
  refine j_iload_n X dX10_day_0 rfl ?_
  refine s_callSi X hR (c_isDay np _ _) rfl u355 u353 u354 u1 hyX10_isDay (by decide) (by decide) (Nat.le_of_ble_eq_true rfl) dX10_day_1 (fun v_1 m_1 h_1 => ?_)
  obtain ⟨e1, e2⟩ := h_1; have e1 := e1.symm; have e2 := e2.symm; subst e1; subst e2
  refine j_ifb_ne X 10 dX10_day_4 (by decide) (fun c_4 => ?_) (fun c_4 => ?_)
  · refine j_aload_n X dX10_day_10 rfl ?_
    refine j_getF X 10 13 (by decide) (by decide) rfl u251 (o0 np) (k0 np) (mem 0) rfl dX10_day_11 ?_
    refine j_istore_n X dX10_day_14 (by decide) ?_
    refine j_aload_n X dX10_day_15 rfl ?_
    refine j_iload_n X dX10_day_16 rfl ?_
    refine j_putI X 10 13 (by decide) (by decide) rfl rfl rfl rfl u251 (o0 np) (k0 np) dX10_day_17 ?_
    refine j_iload_n X dX10_day_20 rfl ?_
    refine s_iret X hE hr dX10_day_21 rfl ?_
    first | exact ⟨rfl, rfl⟩ | (exfalso; clear hE hr hR X; (try simp only [lg_cmp_lt, lg_cmp_gt, lg_cmp_le, lg_cmp_ge] at *); (try simp (disch := omega) only [Int64.le_iff_toInt_le, Int64.lt_iff_toInt_lt, Int32.le_iff_toInt_le, Int32.lt_iff_toInt_lt, fa_eq, fa_lit, fa_litL, nI_toInt, pk_lT, Int32.toInt_toInt64, jadd64, jin, jnoneT] at *); omega)
  · exfalso
    clear hE hr hR X
    (try simp only [lg_cmp_lt, lg_cmp_gt, lg_cmp_le, lg_cmp_ge] at *); (try simp (disch := omega) only [Int64.le_iff_toInt_le, Int64.lt_iff_toInt_lt, Int32.le_iff_toInt_le, Int32.lt_iff_toInt_lt, fa_eq, fa_lit, fa_litL, nI_toInt, pk_lT, Int32.toInt_toInt64, jadd64, jin, jnoneT] at *); omega
set_option maxRecDepth 4000 in
set_option maxHeartbeats 1000000 in
theorem c_kind_p (np : Nat) (mem : jMem) (p : Int32) (hn : np ≤ 12) (hp : mem 0 12 = nI np) (h : ¬ jin p 0 ((np : Int) - 1)) : jPi yX10_kind cX10_kind 3 .int 2 [.ref 0, .int p] np mem (fun v c => v = -1000001 ∧ c = mem) := by
  refine jPi.of (own := RX10) rfl rfl (Nat.le_of_ble_eq_true rfl) (fun G X hR hr hE => ?_)
  refine j_aload_n X dX10_kind_0 rfl ?_
  refine j_iload_n X dX10_kind_1 rfl ?_
  refine s_callVa X hR (c_paperAt_null np _ p hn hp h) rfl 10 (by decide) (o0 np) (k0 np) rfl u435 u432 u434 qp2 u1 hyX10_paperAt (by decide) (by decide) (Nat.le_of_ble_eq_true rfl) dX10_kind_2 (fun v_2 m_2 h_2 => ?_)
  obtain ⟨e1, e2⟩ := h_2; have e1 := e1.symm; have e2 := e2.symm; subst e1; subst e2
  refine j_astore_nN X dX10_kind_5 (by decide) ?_
  refine j_aload_nN X dX10_kind_6 rfl ?_
  refine j_ifnonnullN X 15 dX10_kind_7 (by decide) ?_
  refine j_ldc X dX10_kind_10 u295 ?_
  refine j_goto X 23 dX10_kind_12 (by decide) ?_
  refine s_iret X hE hr dX10_kind_23 rfl ?_
  first | exact ⟨rfl, rfl⟩ | (exfalso; clear hE hr hR X; (try simp only [lg_cmp_lt, lg_cmp_gt, lg_cmp_le, lg_cmp_ge] at *); (try simp (disch := omega) only [Int64.le_iff_toInt_le, Int64.lt_iff_toInt_lt, Int32.le_iff_toInt_le, Int32.lt_iff_toInt_lt, fa_eq, fa_lit, fa_litL, nI_toInt, pk_lT, Int32.toInt_toInt64, jadd64, jin, jnoneT] at *); omega)
set_option maxRecDepth 4000 in
set_option maxHeartbeats 1000000 in
theorem c_kind (np : Nat) (mem : jMem) (p : Nat) (hn : np ≤ 12) (hp : mem 0 12 = nI np) (hp2 : p < np) : jPi yX10_kind cX10_kind 3 .int 2 [.ref 0, .int (nI p)] np mem (fun v c => v = jKindC (mem (92 + 2 * p) 7) (mem 0 13) (mem (92 + 2 * p) 3) ∧ c = mem) := by
  refine jPi.of (own := RX10) rfl rfl (Nat.le_of_ble_eq_true rfl) (fun G X hR hr hE => ?_)
  refine j_aload_n X dX10_kind_0 rfl ?_
  refine j_iload_n X dX10_kind_1 rfl ?_
  refine s_callVa X hR (c_paperAt np _ p hn hp hp2) rfl 10 (by decide) (o0 np) (k0 np) rfl u435 u432 u434 qp2 u1 hyX10_paperAt (by decide) (by decide) (Nat.le_of_ble_eq_true rfl) dX10_kind_2 (fun v_2 m_2 h_2 => ?_)
  obtain ⟨e1, e2⟩ := h_2; have e1 := e1.symm; have e2 := e2.symm; subst e1; subst e2
  refine j_astore_n X dX10_kind_5 (by decide) ?_
  refine j_aload_n X dX10_kind_6 rfl ?_
  refine j_ifnonnullR X 15 dX10_kind_7 (by decide) ?_
  refine j_aload_n X dX10_kind_15 rfl ?_
  refine j_aload_n X dX10_kind_16 rfl ?_
  refine j_getF X 10 13 (by decide) (by decide) rfl u251 (o0 np) (k0 np) (mem 0) rfl dX10_kind_17 ?_
  refine s_callVi X hR (c_kindOn np _ p _ hp2) rfl 6 (by decide) (oP np (by omega)) (kP np _) rfl u861 u858 u859 u860 u14 hyX6_kindOn (by decide) (by decide) (Nat.le_of_ble_eq_true rfl) dX10_kind_20 (fun v_20 m_20 h_20 => ?_)
  obtain ⟨e1, e2⟩ := h_20; have e1 := e1.symm; have e2 := e2.symm; subst e1; subst e2
  refine s_iret X hE hr dX10_kind_23 rfl ?_
  first | exact ⟨rfl, rfl⟩ | (exfalso; clear hE hr hR X; (try simp only [lg_cmp_lt, lg_cmp_gt, lg_cmp_le, lg_cmp_ge] at *); (try simp (disch := omega) only [Int64.le_iff_toInt_le, Int64.lt_iff_toInt_lt, Int32.le_iff_toInt_le, Int32.lt_iff_toInt_lt, fa_eq, fa_lit, fa_litL, nI_toInt, pk_lT, Int32.toInt_toInt64, jadd64, jin, jnoneT] at *); omega)
set_option maxRecDepth 4000 in
set_option maxHeartbeats 1000000 in
theorem c_as_p (np : Nat) (mem : jMem) (p w : Int32) (hn : np ≤ 12) (hp : mem 0 12 = nI np) (h : ¬ jin p 0 ((np : Int) - 1)) : jPi yX10_as cX10_as 6 .int 2 [.ref 0, .int p, .int w] np mem (fun v c => v = -1000001 ∧ c = mem) := by
  refine jPi.of (own := RX10) rfl rfl (Nat.le_of_ble_eq_true rfl) (fun G X hR hr hE => ?_)
  refine j_aload_n X dX10_as_0 rfl ?_
  refine j_iload_n X dX10_as_1 rfl ?_
  refine s_callVa X hR (c_paperAt_null np _ p hn hp h) rfl 10 (by decide) (o0 np) (k0 np) rfl u435 u432 u434 qp2 u1 hyX10_paperAt (by decide) (by decide) (Nat.le_of_ble_eq_true rfl) dX10_as_2 (fun v_2 m_2 h_2 => ?_)
  obtain ⟨e1, e2⟩ := h_2; have e1 := e1.symm; have e2 := e2.symm; subst e1; subst e2
  refine j_astore_nN X dX10_as_5 (by decide) ?_
  refine j_aload_nN X dX10_as_6 rfl ?_
  refine j_ifnullN X 19 dX10_as_7 (by decide) ?_
  refine j_ldc X dX10_as_19 u295 ?_
  refine s_iret X hE hr dX10_as_21 rfl ?_
  first | exact ⟨rfl, rfl⟩ | (exfalso; clear hE hr hR X; (try simp only [lg_cmp_lt, lg_cmp_gt, lg_cmp_le, lg_cmp_ge] at *); (try simp (disch := omega) only [Int64.le_iff_toInt_le, Int64.lt_iff_toInt_lt, Int32.le_iff_toInt_le, Int32.lt_iff_toInt_lt, fa_eq, fa_lit, fa_litL, nI_toInt, pk_lT, Int32.toInt_toInt64, jadd64, jin, jnoneT] at *); omega)
set_option maxRecDepth 4000 in
set_option maxHeartbeats 1000000 in
theorem c_as_bad (np : Nat) (mem : jMem) (p : Nat) (w : Int32) (hn : np ≤ 12) (hp : mem 0 12 = nI np) (hp2 : p < np) (h : ¬ jin w 0 5) : jPi yX10_as cX10_as 6 .int 2 [.ref 0, .int (nI p), .int w] np mem (fun v c => v = -1000001 ∧ c = mem) := by
  refine jPi.of (own := RX10) rfl rfl (Nat.le_of_ble_eq_true rfl) (fun G X hR hr hE => ?_)
  refine j_aload_n X dX10_as_0 rfl ?_
  refine j_iload_n X dX10_as_1 rfl ?_
  refine s_callVa X hR (c_paperAt np _ p hn hp hp2) rfl 10 (by decide) (o0 np) (k0 np) rfl u435 u432 u434 qp2 u1 hyX10_paperAt (by decide) (by decide) (Nat.le_of_ble_eq_true rfl) dX10_as_2 (fun v_2 m_2 h_2 => ?_)
  obtain ⟨e1, e2⟩ := h_2; have e1 := e1.symm; have e2 := e2.symm; subst e1; subst e2
  refine j_astore_n X dX10_as_5 (by decide) ?_
  refine j_aload_n X dX10_as_6 rfl ?_
  refine j_ifnullR X 19 dX10_as_7 (by decide) ?_
  refine j_iload_n X dX10_as_10 rfl ?_
  refine j_iconst X dX10_as_11 0 (by decide) ?_
  refine j_iconst X dX10_as_12 5 (by decide) ?_
  refine s_callSi X hR (c_withinI np _ _ _ _ (0) (5) rfl rfl) rfl u293 u294 u292 u1 hyX10_within (by decide) (by decide) (Nat.le_of_ble_eq_true rfl) dX10_as_13 (fun v_13 m_13 h_13 => ?_)
  obtain ⟨e1, e2⟩ := h_13; have e1 := e1.symm; have e2 := e2.symm; subst e1; subst e2
  refine j_ifb_ne X 22 dX10_as_16 (by decide) (fun c_16 => ?_) (fun c_16 => ?_)
  · exfalso
    clear hE hr hR X
    (try simp only [lg_cmp_lt, lg_cmp_gt, lg_cmp_le, lg_cmp_ge] at *); (try simp (disch := omega) only [Int64.le_iff_toInt_le, Int64.lt_iff_toInt_lt, Int32.le_iff_toInt_le, Int32.lt_iff_toInt_lt, fa_eq, fa_lit, fa_litL, nI_toInt, pk_lT, Int32.toInt_toInt64, jadd64, jin, jnoneT] at *); omega
  · refine j_ldc X dX10_as_19 u295 ?_
    refine s_iret X hE hr dX10_as_21 rfl ?_
    first | exact ⟨rfl, rfl⟩ | (exfalso; clear hE hr hR X; (try simp only [lg_cmp_lt, lg_cmp_gt, lg_cmp_le, lg_cmp_ge] at *); (try simp (disch := omega) only [Int64.le_iff_toInt_le, Int64.lt_iff_toInt_lt, Int32.le_iff_toInt_le, Int32.lt_iff_toInt_lt, fa_eq, fa_lit, fa_litL, nI_toInt, pk_lT, Int32.toInt_toInt64, jadd64, jin, jnoneT] at *); omega)
set_option maxRecDepth 4000 in
set_option maxHeartbeats 1000000 in
theorem c_as (np : Nat) (mem : jMem) (p : Nat) (w : Int32) (hn : np ≤ 12) (hp : mem 0 12 = nI np) (hp2 : p < np) (hw : jin w 0 5) (hk : (w = 0 ∨ jKindC (mem (92 + 2 * p) 7) (mem 0 13) (mem (92 + 2 * p) 3) = w ∨ w = 1 ∧ jKindC (mem (92 + 2 * p) 7) (mem 0 13) (mem (92 + 2 * p) 3) = 2)) : jPi yX10_as cX10_as 6 .int 2 [.ref 0, .int (nI p), .int w] np mem (fun v c => v = mem (92 + 2 * p) 1 ∧ c = jup mem 0 14 0) := by
  refine jPi.of (own := RX10) rfl rfl (Nat.le_of_ble_eq_true rfl) (fun G X hR hr hE => ?_)
  refine j_aload_n X dX10_as_0 rfl ?_
  refine j_iload_n X dX10_as_1 rfl ?_
  refine s_callVa X hR (c_paperAt np _ p hn hp hp2) rfl 10 (by decide) (o0 np) (k0 np) rfl u435 u432 u434 qp2 u1 hyX10_paperAt (by decide) (by decide) (Nat.le_of_ble_eq_true rfl) dX10_as_2 (fun v_2 m_2 h_2 => ?_)
  obtain ⟨e1, e2⟩ := h_2; have e1 := e1.symm; have e2 := e2.symm; subst e1; subst e2
  refine j_astore_n X dX10_as_5 (by decide) ?_
  refine j_aload_n X dX10_as_6 rfl ?_
  refine j_ifnullR X 19 dX10_as_7 (by decide) ?_
  refine j_iload_n X dX10_as_10 rfl ?_
  refine j_iconst X dX10_as_11 0 (by decide) ?_
  refine j_iconst X dX10_as_12 5 (by decide) ?_
  refine s_callSi X hR (c_withinI np _ _ _ _ (0) (5) rfl rfl) rfl u293 u294 u292 u1 hyX10_within (by decide) (by decide) (Nat.le_of_ble_eq_true rfl) dX10_as_13 (fun v_13 m_13 h_13 => ?_)
  obtain ⟨e1, e2⟩ := h_13; have e1 := e1.symm; have e2 := e2.symm; subst e1; subst e2
  refine j_ifb_ne X 22 dX10_as_16 (by decide) (fun c_16 => ?_) (fun c_16 => ?_)
  · refine j_aload_n X dX10_as_22 rfl ?_
    refine j_aload_n X dX10_as_23 rfl ?_
    refine j_getF X 10 13 (by decide) (by decide) rfl u251 (o0 np) (k0 np) (mem 0) rfl dX10_as_24 ?_
    refine s_callVi X hR (c_kindOn np _ p _ hp2) rfl 6 (by decide) (oP np (by omega)) (kP np _) rfl u861 u858 u859 u860 u14 hyX6_kindOn (by decide) (by decide) (Nat.le_of_ble_eq_true rfl) dX10_as_27 (fun v_27 m_27 h_27 => ?_)
    obtain ⟨e1, e2⟩ := h_27; have e1 := e1.symm; have e2 := e2.symm; subst e1; subst e2
    refine j_nrm (jKindC (mem (92 + 2 * p) 7) (mem 0 13) (mem (92 + 2 * p) 3)) rfl ?_
    refine j_istore X dX10_as_30 (by decide) ?_
    refine j_iload_n X dX10_as_32 rfl ?_
    refine j_if_eq X 53 dX10_as_33 (by decide) (fun c_33 => ?_) (fun c_33 => ?_)
    · refine j_iconst X dX10_as_53 1 (by decide) ?_
      refine j_goto X 58 dX10_as_54 (by decide) ?_
      refine j_istore X dX10_as_58 (by decide) ?_
      refine j_iload X dX10_as_60 rfl ?_
      refine j_if_eq X 76 dX10_as_62 (by decide) (fun c_62 => absurd c_62 (by decide)) (fun c_62 => ?_)
      refine j_aload_n X dX10_as_65 rfl ?_
      refine j_aload_n X dX10_as_66 rfl ?_
      refine j_getF X 6 1 (by decide) (by decide) rfl u395 (oP np (by omega)) (kP np _) (mem (92 + 2 * p)) rfl dX10_as_67 ?_
      refine s_callVi X hR (c_found np _ _) rfl 10 (by decide) (o0 np) (k0 np) rfl u308 u305 u307 qp1 u1 hyX10_found (by decide) (by decide) (Nat.le_of_ble_eq_true rfl) dX10_as_70 (fun v_70 m_70 h_70 => ?_)
      obtain ⟨e1, e2⟩ := h_70; have e1 := e1.symm; have e2 := e2.symm; subst e1; subst e2
      refine j_goto X 81 dX10_as_73 (by decide) ?_
      refine s_iret X hE hr dX10_as_81 rfl ?_
      exact ⟨rfl, rfl⟩
    · refine j_iload_n X dX10_as_36 rfl ?_
      refine j_iload X dX10_as_37 rfl ?_
      refine j_icmp_eq X 53 dX10_as_39 (by decide) (fun c_39 => ?_) (fun c_39 => ?_)
      · refine j_iconst X dX10_as_53 1 (by decide) ?_
        refine j_goto X 58 dX10_as_54 (by decide) ?_
        refine j_istore X dX10_as_58 (by decide) ?_
        refine j_iload X dX10_as_60 rfl ?_
        refine j_if_eq X 76 dX10_as_62 (by decide) (fun c_62 => absurd c_62 (by decide)) (fun c_62 => ?_)
        refine j_aload_n X dX10_as_65 rfl ?_
        refine j_aload_n X dX10_as_66 rfl ?_
        refine j_getF X 6 1 (by decide) (by decide) rfl u395 (oP np (by omega)) (kP np _) (mem (92 + 2 * p)) rfl dX10_as_67 ?_
        refine s_callVi X hR (c_found np _ _) rfl 10 (by decide) (o0 np) (k0 np) rfl u308 u305 u307 qp1 u1 hyX10_found (by decide) (by decide) (Nat.le_of_ble_eq_true rfl) dX10_as_70 (fun v_70 m_70 h_70 => ?_)
        obtain ⟨e1, e2⟩ := h_70; have e1 := e1.symm; have e2 := e2.symm; subst e1; subst e2
        refine j_goto X 81 dX10_as_73 (by decide) ?_
        refine s_iret X hE hr dX10_as_81 rfl ?_
        exact ⟨rfl, rfl⟩
      · refine j_iload_n X dX10_as_42 rfl ?_
        refine j_iconst X dX10_as_43 1 (by decide) ?_
        refine j_icmp_ne X 57 dX10_as_44 (by decide) (fun c_44 => ?_) (fun c_44 => ?_)
        · exfalso
          rcases hk with z | z | z
          · exact c_33 z
          · exact c_39 z.symm
          · first | exact c_44 z.1 | exact c_50 z.2
        · refine j_iload X dX10_as_47 rfl ?_
          refine j_iconst X dX10_as_49 2 (by decide) ?_
          refine j_icmp_ne X 57 dX10_as_50 (by decide) (fun c_50 => ?_) (fun c_50 => ?_)
          · exfalso
            rcases hk with z | z | z
            · exact c_33 z
            · exact c_39 z.symm
            · first | exact c_44 z.1 | exact c_50 z.2
          · refine j_iconst X dX10_as_53 1 (by decide) ?_
            refine j_goto X 58 dX10_as_54 (by decide) ?_
            refine j_istore X dX10_as_58 (by decide) ?_
            refine j_iload X dX10_as_60 rfl ?_
            refine j_if_eq X 76 dX10_as_62 (by decide) (fun c_62 => absurd c_62 (by decide)) (fun c_62 => ?_)
            refine j_aload_n X dX10_as_65 rfl ?_
            refine j_aload_n X dX10_as_66 rfl ?_
            refine j_getF X 6 1 (by decide) (by decide) rfl u395 (oP np (by omega)) (kP np _) (mem (92 + 2 * p)) rfl dX10_as_67 ?_
            refine s_callVi X hR (c_found np _ _) rfl 10 (by decide) (o0 np) (k0 np) rfl u308 u305 u307 qp1 u1 hyX10_found (by decide) (by decide) (Nat.le_of_ble_eq_true rfl) dX10_as_70 (fun v_70 m_70 h_70 => ?_)
            obtain ⟨e1, e2⟩ := h_70; have e1 := e1.symm; have e2 := e2.symm; subst e1; subst e2
            refine j_goto X 81 dX10_as_73 (by decide) ?_
            refine s_iret X hE hr dX10_as_81 rfl ?_
            exact ⟨rfl, rfl⟩
  · exfalso
    clear hE hr hR X
    (try simp only [lg_cmp_lt, lg_cmp_gt, lg_cmp_le, lg_cmp_ge] at *); (try simp (disch := omega) only [Int64.le_iff_toInt_le, Int64.lt_iff_toInt_lt, Int32.le_iff_toInt_le, Int32.lt_iff_toInt_lt, fa_eq, fa_lit, fa_litL, nI_toInt, pk_lT, Int32.toInt_toInt64, jadd64, jin, jnoneT] at *); omega
set_option maxRecDepth 4000 in
set_option maxHeartbeats 1000000 in
theorem c_as_kind (np : Nat) (mem : jMem) (p : Nat) (w : Int32) (hn : np ≤ 12) (hp : mem 0 12 = nI np) (hp2 : p < np) (hw : jin w 0 5) (hk : ¬ (w = 0 ∨ jKindC (mem (92 + 2 * p) 7) (mem 0 13) (mem (92 + 2 * p) 3) = w ∨ w = 1 ∧ jKindC (mem (92 + 2 * p) 7) (mem 0 13) (mem (92 + 2 * p) 3) = 2)) : jPi yX10_as cX10_as 6 .int 2 [.ref 0, .int (nI p), .int w] np mem (fun v c => v = -1000010 - 3 ∧ c = jup mem 0 14 3) := by
  refine jPi.of (own := RX10) rfl rfl (Nat.le_of_ble_eq_true rfl) (fun G X hR hr hE => ?_)
  refine j_aload_n X dX10_as_0 rfl ?_
  refine j_iload_n X dX10_as_1 rfl ?_
  refine s_callVa X hR (c_paperAt np _ p hn hp hp2) rfl 10 (by decide) (o0 np) (k0 np) rfl u435 u432 u434 qp2 u1 hyX10_paperAt (by decide) (by decide) (Nat.le_of_ble_eq_true rfl) dX10_as_2 (fun v_2 m_2 h_2 => ?_)
  obtain ⟨e1, e2⟩ := h_2; have e1 := e1.symm; have e2 := e2.symm; subst e1; subst e2
  refine j_astore_n X dX10_as_5 (by decide) ?_
  refine j_aload_n X dX10_as_6 rfl ?_
  refine j_ifnullR X 19 dX10_as_7 (by decide) ?_
  refine j_iload_n X dX10_as_10 rfl ?_
  refine j_iconst X dX10_as_11 0 (by decide) ?_
  refine j_iconst X dX10_as_12 5 (by decide) ?_
  refine s_callSi X hR (c_withinI np _ _ _ _ (0) (5) rfl rfl) rfl u293 u294 u292 u1 hyX10_within (by decide) (by decide) (Nat.le_of_ble_eq_true rfl) dX10_as_13 (fun v_13 m_13 h_13 => ?_)
  obtain ⟨e1, e2⟩ := h_13; have e1 := e1.symm; have e2 := e2.symm; subst e1; subst e2
  refine j_ifb_ne X 22 dX10_as_16 (by decide) (fun c_16 => ?_) (fun c_16 => ?_)
  · refine j_aload_n X dX10_as_22 rfl ?_
    refine j_aload_n X dX10_as_23 rfl ?_
    refine j_getF X 10 13 (by decide) (by decide) rfl u251 (o0 np) (k0 np) (mem 0) rfl dX10_as_24 ?_
    refine s_callVi X hR (c_kindOn np _ p _ hp2) rfl 6 (by decide) (oP np (by omega)) (kP np _) rfl u861 u858 u859 u860 u14 hyX6_kindOn (by decide) (by decide) (Nat.le_of_ble_eq_true rfl) dX10_as_27 (fun v_27 m_27 h_27 => ?_)
    obtain ⟨e1, e2⟩ := h_27; have e1 := e1.symm; have e2 := e2.symm; subst e1; subst e2
    refine j_nrm (jKindC (mem (92 + 2 * p) 7) (mem 0 13) (mem (92 + 2 * p) 3)) rfl ?_
    refine j_istore X dX10_as_30 (by decide) ?_
    refine j_iload_n X dX10_as_32 rfl ?_
    refine j_if_eq X 53 dX10_as_33 (by decide) (fun c_33 => ?_) (fun c_33 => ?_)
    · exfalso
      first | exact hk (Or.inl c_33) | exact hk (Or.inr (Or.inl c_39.symm)) | exact hk (Or.inr (Or.inr ⟨c_44, c_50⟩))
    · refine j_iload_n X dX10_as_36 rfl ?_
      refine j_iload X dX10_as_37 rfl ?_
      refine j_icmp_eq X 53 dX10_as_39 (by decide) (fun c_39 => ?_) (fun c_39 => ?_)
      · exfalso
        first | exact hk (Or.inl c_33) | exact hk (Or.inr (Or.inl c_39.symm)) | exact hk (Or.inr (Or.inr ⟨c_44, c_50⟩))
      · refine j_iload_n X dX10_as_42 rfl ?_
        refine j_iconst X dX10_as_43 1 (by decide) ?_
        refine j_icmp_ne X 57 dX10_as_44 (by decide) (fun c_44 => ?_) (fun c_44 => ?_)
        · refine j_iconst X dX10_as_57 0 (by decide) ?_
          refine j_istore X dX10_as_58 (by decide) ?_
          refine j_iload X dX10_as_60 rfl ?_
          refine j_if_eq X 76 dX10_as_62 (by decide) (fun c_62 => ?_) (fun c_62 => absurd c_62 (by decide))
          refine j_aload_n X dX10_as_76 rfl ?_
          refine j_iconst X dX10_as_77 3 (by decide) ?_
          refine s_callVi X hR (c_finding np _ _) rfl 10 (by decide) (o0 np) (k0 np) rfl u299 u296 u298 qp0 u1 hyX10_finding (by decide) (by decide) (Nat.le_of_ble_eq_true rfl) dX10_as_78 (fun v_78 m_78 h_78 => ?_)
          obtain ⟨e1, e2⟩ := h_78; have e1 := e1.symm; have e2 := e2.symm; subst e1; subst e2
          refine s_iret X hE hr dX10_as_81 rfl ?_
          exact ⟨rfl, rfl⟩
        · refine j_iload X dX10_as_47 rfl ?_
          refine j_iconst X dX10_as_49 2 (by decide) ?_
          refine j_icmp_ne X 57 dX10_as_50 (by decide) (fun c_50 => ?_) (fun c_50 => ?_)
          · refine j_iconst X dX10_as_57 0 (by decide) ?_
            refine j_istore X dX10_as_58 (by decide) ?_
            refine j_iload X dX10_as_60 rfl ?_
            refine j_if_eq X 76 dX10_as_62 (by decide) (fun c_62 => ?_) (fun c_62 => absurd c_62 (by decide))
            refine j_aload_n X dX10_as_76 rfl ?_
            refine j_iconst X dX10_as_77 3 (by decide) ?_
            refine s_callVi X hR (c_finding np _ _) rfl 10 (by decide) (o0 np) (k0 np) rfl u299 u296 u298 qp0 u1 hyX10_finding (by decide) (by decide) (Nat.le_of_ble_eq_true rfl) dX10_as_78 (fun v_78 m_78 h_78 => ?_)
            obtain ⟨e1, e2⟩ := h_78; have e1 := e1.symm; have e2 := e2.symm; subst e1; subst e2
            refine s_iret X hE hr dX10_as_81 rfl ?_
            exact ⟨rfl, rfl⟩
          · exfalso
            first | exact hk (Or.inl c_33) | exact hk (Or.inr (Or.inl c_39.symm)) | exact hk (Or.inr (Or.inr ⟨c_44, c_50⟩))
  · exfalso
    clear hE hr hR X
    (try simp only [lg_cmp_lt, lg_cmp_gt, lg_cmp_le, lg_cmp_ge] at *); (try simp (disch := omega) only [Int64.le_iff_toInt_le, Int64.lt_iff_toInt_lt, Int32.le_iff_toInt_le, Int32.lt_iff_toInt_lt, fa_eq, fa_lit, fa_litL, nI_toInt, pk_lT, Int32.toInt_toInt64, jadd64, jin, jnoneT] at *); omega
