set_option maxRecDepth 4000 in
set_option maxHeartbeats 1000000 in
theorem c_fail (np : Nat) (mem : jMem) (k : Int32)  : jPi yX9_fail cX9_fail 2 .boolean 1 [.ref 51, .int k] np mem (fun v c => v = 0 ∧ c = jup (jup mem 51 2 k) 51 3 (mem 51 6)) := by
  refine jPi.of (own := RX9) rfl rfl (Nat.le_of_ble_eq_true rfl) (fun G X hR hr hE => ?_)
  refine j_aload_n X dX9_fail_0 rfl ?_
  refine j_iload_n X dX9_fail_1 rfl ?_
  refine j_putI X 9 2 (by decide) (by decide) rfl rfl rfl rfl u136 (o51 np) (k51 np) dX9_fail_2 ?_
  refine j_aload_n X dX9_fail_5 rfl ?_
  refine j_aload_n X dX9_fail_6 rfl ?_
  refine j_getF X 9 6 (by decide) (by decide) rfl u141 (o51 np) (k51 np) _ rfl dX9_fail_7 ?_
  refine j_nrm (mem 51 6) (jup_n (by decide)) ?_
  refine j_putI X 9 3 (by decide) (by decide) rfl rfl rfl rfl u138 (o51 np) (k51 np) dX9_fail_10 ?_
  refine j_iconst X dX9_fail_13 0 (by decide) ?_
  refine s_iret X hE hr dX9_fail_14 (by first | exact jb_nar | rfl) ?_
  first | exact ⟨rfl, rfl⟩ | (exfalso; clear hE hr hR X; (try simp only [lg_cmp_lt, lg_cmp_gt, lg_cmp_le, lg_cmp_ge] at *); (try simp (disch := omega) only [Int64.le_iff_toInt_le, Int64.lt_iff_toInt_lt, Int32.le_iff_toInt_le, Int32.lt_iff_toInt_lt, fa_eq, fa_lit, fa_litL, nI_toInt, pk_lT, Int32.toInt_toInt64, jadd64, jin, jnoneT] at *); omega)
set_option maxRecDepth 4000 in
set_option maxHeartbeats 1000000 in
theorem c_expectNumber (np : Nat) (mem : jMem) (p z most : Nat) (B : Nat → Nat) (h : cTs B z p mem) (hm : most ≤ 999) : jPi yX9_expectNumber cX9_expectNumber 2 .boolean 2 [.ref 51, .int (nI most)] np mem (cNq B z p most mem) := by
  refine jPi.of (own := RX9) rfl rfl (Nat.le_of_ble_eq_true rfl) (fun G X hR hr hE => ?_)
  refine j_aload_n X dX9_expectNumber_0 rfl ?_
  refine j_getF X 9 7 (by decide) (by decide) rfl u142 (o51 np) (k51 np) (mem 51) rfl dX9_expectNumber_1 ?_
  have hkl := tK_lt B z p
  refine j_nrm (nI ((tK B z p + 4) % 5)) h.2.2.2.2.2.1 ?_
  refine j_iconst X dX9_expectNumber_4 2 (by decide) ?_
  refine j_icmp_eq X 14 dX9_expectNumber_5 (by decide) (fun c_5 => ?_) (fun c_5 => ?_)
  · have hk3 : tK B z p = 3 := by
      have e := (cK_0 (x := 2) (by omega)).mp c_5
      omega
    have hv9 := (tV_e hk3).2
    refine j_aload_n X dX9_expectNumber_14 rfl ?_
    refine j_getF X 9 8 (by decide) (by decide) rfl u143 (o51 np) (k51 np) (mem 51) rfl dX9_expectNumber_15 ?_
    refine j_nrm (nI (tV B z p)) (h.2.2.2.2.2.2 hk3) ?_
    refine j_iload_n X dX9_expectNumber_18 rfl ?_
    refine j_icmp_le X 30 dX9_expectNumber_19 (by decide) (fun c_19 => ?_) (fun c_19 => ?_)
    · have hle : tV B z p ≤ most := (nI_leI (by omega) (by omega)).mp c_19
      refine j_iconst X dX9_expectNumber_30 1 (by decide) ?_
      refine j_goto X 35 dX9_expectNumber_31 (by decide) ?_
      refine s_iret X hE hr dX9_expectNumber_35 (by first | exact jb_nar | rfl) ?_
      exact Or.inl ⟨⟨hk3, hle⟩, rfl, rfl⟩
    · have hle : ¬ tV B z p ≤ most := fun e => c_19 ((nI_leI (by omega) (by omega)).mpr e)
      refine j_aload_n X dX9_expectNumber_22 rfl ?_
      refine j_iconst X dX9_expectNumber_23 2 (by decide) ?_
      refine s_callVi X hR (c_fail np _ 2) rfl 9 (by decide) (o51 np) (k51 np) rfl u730 u727 u729 qp17 u7 hyX9_fail (by decide) (by decide) (Nat.le_of_ble_eq_true rfl) dX9_expectNumber_24 (fun v_24 m_24 h_24 => ?_)
      obtain ⟨e1, e2⟩ := h_24; have e1 := e1.symm; have e2 := e2.symm; rw [h.2.2.2.2.1] at e2; subst e1; subst e2
      refine j_if_eq X 34 dX9_expectNumber_27 (by decide) (fun c_27 => ?_) (fun c_27 => absurd c_27 (by decide))
      refine j_iconst X dX9_expectNumber_34 0 (by decide) ?_
      refine s_iret X hE hr dX9_expectNumber_35 (by first | exact jb_nar | rfl) ?_
      exact Or.inr ⟨fun e => hle e.2, rfl, by unfold aNc; rw [if_pos hk3]; rfl⟩
  · have hk3 : ¬ tK B z p = 3 := fun e => c_5 (by rw [e]; decide)
    refine j_aload_n X dX9_expectNumber_8 rfl ?_
    refine j_iconst X dX9_expectNumber_9 1 (by decide) ?_
    refine s_callVi X hR (c_fail np _ 1) rfl 9 (by decide) (o51 np) (k51 np) rfl u730 u727 u729 qp17 u7 hyX9_fail (by decide) (by decide) (Nat.le_of_ble_eq_true rfl) dX9_expectNumber_10 (fun v_10 m_10 h_10 => ?_)
    obtain ⟨e1, e2⟩ := h_10; have e1 := e1.symm; have e2 := e2.symm; rw [h.2.2.2.2.1] at e2; subst e1; subst e2
    refine s_iret X hE hr dX9_expectNumber_13 (by first | exact jb_nar | rfl) ?_
    exact Or.inr ⟨fun e => hk3 e.1, rfl, by unfold aNc; rw [if_neg hk3]; rfl⟩
set_option maxRecDepth 4000 in
set_option maxHeartbeats 1000000 in
theorem c_expectStop (np : Nat) (mem : jMem) (p z : Nat) (B : Nat → Nat) (h : cTs B z p mem) : jPi yX9_expectStop cX9_expectStop 1 .boolean 4 [.ref 51] np mem (cSq B z p mem) := by
  refine jPi.of (own := RX9) rfl rfl (Nat.le_of_ble_eq_true rfl) (fun G X hR hr hE => ?_)
  refine j_aload_n X dX9_expectStop_0 rfl ?_
  refine j_getF X 9 7 (by decide) (by decide) rfl u142 (o51 np) (k51 np) (mem 51) rfl dX9_expectStop_1 ?_
  have hkl := tK_lt B z p
  refine j_nrm (nI ((tK B z p + 4) % 5)) h.2.2.2.2.2.1 ?_
  refine j_iconst X dX9_expectStop_4 3 (by decide) ?_
  refine j_icmp_eq X 14 dX9_expectStop_5 (by decide) (fun c_5 => ?_) (fun c_5 => ?_)
  · have hk4 : tK B z p = 4 := by
      have e := (cK_0 (x := 3) (by omega)).mp c_5
      omega
    refine j_aload_n X dX9_expectStop_14 rfl ?_
    refine s_callVv X hR (c_advance np _ (tN B z p) z B h.1 h.2.1 (tN_le h.2.2.1) h.2.2.2.1) rfl 9 (by decide) (o51 np) (k51 np) rfl u651 u648 u650 qp11 u7 hyX9_advance (by decide) (by decide) (Nat.le_of_ble_eq_true rfl) dX9_expectStop_15 (fun m_15 h_15 => ?_)
    refine j_iconst X dX9_expectStop_18 1 (by decide) ?_
    refine s_iret X hE hr dX9_expectStop_19 (by first | exact jb_nar | rfl) ?_
    exact Or.inl ⟨hk4, rfl, h_15⟩
  · have hk4 : ¬ tK B z p = 4 := fun e => c_5 (by rw [e]; decide)
    refine j_aload_n X dX9_expectStop_8 rfl ?_
    refine j_iconst X dX9_expectStop_9 1 (by decide) ?_
    refine s_callVi X hR (c_fail np _ 1) rfl 9 (by decide) (o51 np) (k51 np) rfl u730 u727 u729 qp17 u7 hyX9_fail (by decide) (by decide) (Nat.le_of_ble_eq_true rfl) dX9_expectStop_10 (fun v_10 m_10 h_10 => ?_)
    obtain ⟨e1, e2⟩ := h_10; have e1 := e1.symm; have e2 := e2.symm; rw [h.2.2.2.2.1] at e2; subst e1; subst e2
    refine s_iret X hE hr dX9_expectStop_13 (by first | exact jb_nar | rfl) ?_
    exact Or.inr ⟨hk4, rfl, rfl⟩
theorem cjq {m : jMem} {d k : Nat} {a b c e : Int32} (hd : d < 4) : jeq cGl m (jup (jup (jup (jup m (37 + d) k a) (42 + d) k b) (47 + d) k c) 35 d e) := by
  rcases (show d = 0 ∨ d = 1 ∨ d = 2 ∨ d = 3 by omega) with rfl | rfl | rfl | rfl <;> exact jeq.up (jeq.up (jeq.up (jeq.up jeq.rf (by decide)) (by decide)) (by decide)) (by decide)
set_option maxRecDepth 4000 in
set_option maxHeartbeats 1000000 in
theorem c_readAsk (np : Nat) (mem : jMem) (p z c : Nat) (B : Nat → Nat) (dn : Bool) (s0 : aSt) (m0 : jMem) (S : Nat → Nat) (d k : Nat) (hA : cDA B z dn s0 m0 p (2, p, d, k, 0, 0, c, S) (aUp dn S d k) mem) (hD : m0 51 4 = jIsD dn) (hnf : dn = true → ∀ x, aR (aF B z dn) s0 x → x.1 ≠ 7) (hnp : np ≤ 12) (hd4 : d < 4) (hk8 : k ≤ 8) (hk4 : ¬ tK B z p = 4) : jPi yX9_readAsk cX9_readAsk 7 .boolean 7 [.ref 51, .ref 32, .int (nI d), .int (nI k)] np mem (cAq B z dn s0 m0 c p d k) := by
  refine jPi.of (own := RX9) rfl rfl (Nat.le_of_ble_eq_true rfl) (fun G X hR hr hE => ?_)
  refine j_aload_n X dX9_readAsk_0 rfl ?_
  refine j_ldcS2 X dX9_readAsk_1 ?_
  refine s_callVi X hR (c_isWord2 np _ p z B hA.1 hnp) rfl 9 (by decide) (o51 np) (k51 np) rfl u670 u667 u669 qp14 u7 hyX9_isWord (by decide) (by decide) (Nat.le_of_ble_eq_true rfl) dX9_readAsk_3 (fun v_3 m_3 h_3 => ?_)
  obtain ⟨e1, e2⟩ := h_3; have e1 := e1.symm; have e2 := e2.symm; subst e1; subst e2
  refine j_ifb_eq X 13 dX9_readAsk_6 (by decide) (fun c_6 => ?_) (fun c_6 => ?_)
  · refine j_aload_n X dX9_readAsk_13 rfl ?_
    refine j_ldcS3 X dX9_readAsk_14 ?_
    refine s_callVi X hR (c_isWord3 np _ p z B hA.1 hnp) rfl 9 (by decide) (o51 np) (k51 np) rfl u670 u667 u669 qp14 u7 hyX9_isWord (by decide) (by decide) (Nat.le_of_ble_eq_true rfl) dX9_readAsk_16 (fun v_16 m_16 h_16 => ?_)
    obtain ⟨e1, e2⟩ := h_16; have e1 := e1.symm; have e2 := e2.symm; subst e1; subst e2
    refine j_ifb_eq X 26 dX9_readAsk_19 (by decide) (fun c_19 => ?_) (fun c_19 => ?_)
    · refine j_aload_n X dX9_readAsk_26 rfl ?_
      refine j_ldcS4 X dX9_readAsk_27 ?_
      refine s_callVi X hR (c_isWord4 np _ p z B hA.1 hnp) rfl 9 (by decide) (o51 np) (k51 np) rfl u670 u667 u669 qp14 u7 hyX9_isWord (by decide) (by decide) (Nat.le_of_ble_eq_true rfl) dX9_readAsk_29 (fun v_29 m_29 h_29 => ?_)
      obtain ⟨e1, e2⟩ := h_29; have e1 := e1.symm; have e2 := e2.symm; subst e1; subst e2
      refine j_ifb_eq X 39 dX9_readAsk_32 (by decide) (fun c_32 => ?_) (fun c_32 => ?_)
      · refine j_ldc X dX9_readAsk_39 u738 ?_
        have haw : tAw B z p = 3 := (if_neg c_6).trans ((if_neg c_19).trans (if_neg c_32))
        refine j_istore X dX9_readAsk_41 (by decide) ?_
        refine j_iload X dX9_readAsk_43 rfl ?_
        refine j_ldc X dX9_readAsk_45 u738 ?_
        refine j_icmp_ne X 56 dX9_readAsk_47 (by decide) (fun c_47 => absurd c_47 (by decide)) (fun c_47 => ?_)
        refine j_aload_n X dX9_readAsk_50 rfl ?_
        refine j_iconst X dX9_readAsk_51 1 (by decide) ?_
        refine s_callVi X hR (c_fail np _ 1) rfl 9 (by decide) (o51 np) (k51 np) rfl u730 u727 u729 qp17 u7 hyX9_fail (by decide) (by decide) (Nat.le_of_ble_eq_true rfl) dX9_readAsk_52 (fun v_52 m_52 h_52 => ?_)
        obtain ⟨e1, e2⟩ := h_52; have e1 := e1.symm; have e2 := e2.symm; rw [hA.1.2.2.2.2.1] at e2; subst e1; subst e2
        refine s_iret X hE hr dX9_readAsk_55 (by first | exact jb_nar | rfl) ?_
        exact Or.inr ⟨rfl, cDF_mk (code := 1) hA ((aF_2s haw).trans (if_neg hk4)) hnf (by decide) (by decide)⟩
      · refine j_iconst X dX9_readAsk_35 2 (by decide) ?_
        refine j_goto X 41 dX9_readAsk_36 (by decide) ?_
        have haw : tAw B z p = 2 := (if_neg c_6).trans ((if_neg c_19).trans (if_pos c_32))
        refine j_istore X dX9_readAsk_41 (by decide) ?_
        refine j_iload X dX9_readAsk_43 rfl ?_
        refine j_ldc X dX9_readAsk_45 u738 ?_
        refine j_icmp_ne X 56 dX9_readAsk_47 (by decide) (fun c_47 => ?_) (fun c_47 => absurd c_47 (by decide))
        refine j_iload_n X dX9_readAsk_56 rfl ?_
        refine j_bipush X dX9_readAsk_57 8 (by decide) ?_
        refine j_icmp_lt X 68 dX9_readAsk_59 (by decide) (fun c_59 => ?_) (fun c_59 => ?_)
        · have hk9 : k < 8 := by clear hE hr hR X hA; (try simp only [lg_cmp_lt, lg_cmp_gt, lg_cmp_le, lg_cmp_ge] at *); (try simp (disch := omega) only [Int64.le_iff_toInt_le, Int64.lt_iff_toInt_lt, Int32.le_iff_toInt_le, Int32.lt_iff_toInt_lt, fa_eq, fa_lit, fa_litL, nI_toInt, pk_lT, Int32.toInt_toInt64, jadd64, jin, jnoneT] at *); omega
          refine j_aload_n X dX9_readAsk_68 rfl ?_
          refine s_callVv X hR (c_advance np _ (tN B z p) z B hA.1.1 hA.1.2.1 (tN_le hA.1.2.2.1) hA.1.2.2.2.1) rfl 9 (by decide) (o51 np) (k51 np) rfl u651 u648 u650 qp11 u7 hyX9_advance (by decide) (by decide) (Nat.le_of_ble_eq_true rfl) dX9_readAsk_69 (fun m_69 h_69 => ?_)
          have hA2 := cDA_st hA (aF_2w haw (by decide) (by omega)) h_69.1 h_69.2.1 h_69.2.2
          refine j_aload_n X dX9_readAsk_72 rfl ?_
          refine j_iload X dX9_readAsk_73 rfl ?_
          refine j_if_ne X 82 dX9_readAsk_75 (by decide) (fun c_75 => ?_) (fun c_75 => absurd c_75 (by decide))
          refine j_iconst X dX9_readAsk_82 3 (by decide) ?_
          refine s_callVi X hR (c_expectNumber np _ (tN B z p) z 3 B hA2.1 (by omega)) rfl 9 (by decide) (o51 np) (k51 np) rfl u726 u723 u725 qp16 u7 hyX9_expectNumber (by decide) (by decide) (Nat.le_of_ble_eq_true rfl) dX9_readAsk_83 (fun v_83 m_83 h_83 => ?_)
          refine j_if_ne X 91 dX9_readAsk_86 (by decide) (fun c_86 => ?_) (fun c_86 => ?_)
          · obtain ⟨hb3, e3⟩ := cNq_ok h_83 c_86
            subst e3
            refine j_aload_n X dX9_readAsk_91 rfl ?_
            refine j_getF X 9 8 (by decide) (by decide) rfl u143 (o51 np) (k51 np) _ rfl dX9_readAsk_92 ?_
            refine j_nrm (nI (tV B z (tN B z p))) (hA2.1.2.2.2.2.2.2 hb3.1) ?_
            refine j_istore X dX9_readAsk_95 (by decide) ?_
            refine j_iconst X dX9_readAsk_97 0 (by decide) ?_
            refine j_istore X dX9_readAsk_98 (by decide) ?_
            refine j_iload X dX9_readAsk_100 rfl ?_
            refine j_iconst X dX9_readAsk_102 2 (by decide) ?_
            refine j_icmp_ne X 128 dX9_readAsk_103 (by decide) (fun c_103 => absurd c_103 (by decide)) (fun c_103 => ?_)
            refine j_aload_n X dX9_readAsk_106 rfl ?_
            refine s_callVv X hR (c_advance np _ (tN B z (tN B z p)) z B hA2.1.1 hA2.1.2.1 (tN_le hA2.1.2.2.1) hA2.1.2.2.2.1) rfl 9 (by decide) (o51 np) (k51 np) rfl u651 u648 u650 qp11 u7 hyX9_advance (by decide) (by decide) (Nat.le_of_ble_eq_true rfl) dX9_readAsk_107 (fun m_107 h_107 => ?_)
            have hA3 := cDA_st hA2 (aF_3o hb3 rfl) h_107.1 h_107.2.1 h_107.2.2
            refine j_aload_n X dX9_readAsk_110 rfl ?_
            refine j_sipush X dX9_readAsk_111 999 (by decide) ?_
            refine s_callVi X hR (c_expectNumber np _ (tN B z (tN B z p)) z 999 B hA3.1 (by omega)) rfl 9 (by decide) (o51 np) (k51 np) rfl u726 u723 u725 qp16 u7 hyX9_expectNumber (by decide) (by decide) (Nat.le_of_ble_eq_true rfl) dX9_readAsk_114 (fun v_114 m_114 h_114 => ?_)
            refine j_if_ne X 122 dX9_readAsk_117 (by decide) (fun c_117 => ?_) (fun c_117 => ?_)
            · obtain ⟨hb4, e4⟩ := cNq_ok h_114 c_117
              subst e4
              refine j_aload_n X dX9_readAsk_122 rfl ?_
              refine j_getF X 9 8 (by decide) (by decide) rfl u143 (o51 np) (k51 np) _ rfl dX9_readAsk_123 ?_
              refine j_nrm (nI (tV B z (tN B z (tN B z p)))) (hA3.1.2.2.2.2.2.2 hb4.1) ?_
              refine j_istore X dX9_readAsk_126 (by decide) ?_
              refine j_aload_n X dX9_readAsk_128 rfl ?_
              refine j_getF X 9 4 (by decide) (by decide) rfl u139 (o51 np) (k51 np) _ rfl dX9_readAsk_129 ?_
              refine j_nrm (jIsD dn) (cDA_4 hA3 hD) ?_
              refine j_if_eq X 146 dX9_readAsk_132 (by decide) (fun c_132 => ?_) (fun c_132 => ?_)
              · have hdn := jIsD_0.mp c_132
                subst hdn
                have hA4 := hA3
                refine j_aload_n X dX9_readAsk_146 rfl ?_
                refine s_callVv X hR (c_advance np _ (tN B z (tN B z (tN B z p))) z B hA4.1.1 hA4.1.2.1 (tN_le hA4.1.2.2.1) hA4.1.2.2.2.1) rfl 9 (by decide) (o51 np) (k51 np) rfl u651 u648 u650 qp11 u7 hyX9_advance (by decide) (by decide) (Nat.le_of_ble_eq_true rfl) dX9_readAsk_147 (fun m_147 h_147 => ?_)
                have hA5 := cDA_st hA4 (aF_4 hb4) h_147.1 h_147.2.1 h_147.2.2
                refine j_iconst X dX9_readAsk_150 1 (by decide) ?_
                refine s_iret X hE hr dX9_readAsk_151 (by first | exact jb_nar | rfl) ?_
                have e1 := (tN_gt (B := B) (n := z) (p := p) (by rw [tAw_k (by rw [haw]; decide)]; decide)).1
                have e2 := tF_ge (B := B) (n := z) (p := (tN B z p))
                have e3 := tN_ge (B := B) (n := z) (p := (tN B z p))
                have e4 := tF_ge (B := B) (n := z) (p := (tN B z (tN B z p)))
                have e5 := tN_ge (B := B) (n := z) (p := (tN B z (tN B z p)))
                exact Or.inl ⟨rfl, hk9, _, _, by omega, hA5⟩
              · have hdn := jIsD_t c_132
                subst hdn
                refine j_aload_n X dX9_readAsk_135 rfl ?_
                refine j_iload_n X dX9_readAsk_136 rfl ?_
                refine j_iload X dX9_readAsk_137 rfl ?_
                refine j_iload X dX9_readAsk_139 rfl ?_
                refine j_iload X dX9_readAsk_141 rfl ?_
                refine s_callVv X hR (c_addAsk np _ d k 2 (nI (tV B z (tN B z p))) (nI (tV B z (tN B z (tN B z p)))) hd4 hk9 (((hA3.2.2.1.1 d hd4).1.trans (congrArg nI (if_pos rfl))))) rfl 3 (by decide) (o32 np) (k32 np) rfl u742 u739 u740 u741 u6 hyX3_addAsk (by decide) (by decide) (Nat.le_of_ble_eq_true rfl) dX9_readAsk_143 (fun m_143 h_143 => ?_)
                have h_143 := h_143.symm; subst h_143
                have hjq : jeq cGl m_107 (jup (jup (jup (jup m_107 (37 + d) k (nI 2)) (42 + d) k (nI (tV B z (tN B z p)))) (47 + d) k (nI (tV B z (tN B z (tN B z p))))) 35 d (nI (k + 1))) := cjq hd4
                have hA4 := cDA_w hA3 rfl hjq (cSM_wr (w := 2) (o := tV B z (tN B z p)) (b := (tV B z (tN B z (tN B z p)))) hA3.2.2.1 hd4 hk9)
                refine j_aload_n X dX9_readAsk_146 rfl ?_
                refine s_callVv X hR (c_advance np _ (tN B z (tN B z (tN B z p))) z B hA4.1.1 hA4.1.2.1 (tN_le hA4.1.2.2.1) hA4.1.2.2.2.1) rfl 9 (by decide) (o51 np) (k51 np) rfl u651 u648 u650 qp11 u7 hyX9_advance (by decide) (by decide) (Nat.le_of_ble_eq_true rfl) dX9_readAsk_147 (fun m_147 h_147 => ?_)
                have hA5 := cDA_st hA4 (aF_4 hb4) h_147.1 h_147.2.1 h_147.2.2
                refine j_iconst X dX9_readAsk_150 1 (by decide) ?_
                refine s_iret X hE hr dX9_readAsk_151 (by first | exact jb_nar | rfl) ?_
                have e1 := (tN_gt (B := B) (n := z) (p := p) (by rw [tAw_k (by rw [haw]; decide)]; decide)).1
                have e2 := tF_ge (B := B) (n := z) (p := (tN B z p))
                have e3 := tN_ge (B := B) (n := z) (p := (tN B z p))
                have e4 := tF_ge (B := B) (n := z) (p := (tN B z (tN B z p)))
                have e5 := tN_ge (B := B) (n := z) (p := (tN B z (tN B z p)))
                exact Or.inl ⟨rfl, hk9, _, _, by omega, hA5⟩
            · obtain ⟨hb4, e4⟩ := cNq_no h_114 c_117
              subst e4
              refine j_iconst X dX9_readAsk_120 0 (by decide) ?_
              refine s_iret X hE hr dX9_readAsk_121 (by first | exact jb_nar | rfl) ?_
              exact Or.inr ⟨rfl, cDF_mk hA3 (aF_num4 hb4) hnf (by rcases aNc_12 B z (tN B z (tN B z p)) with e | e <;> omega) (by rcases aNc_12 B z (tN B z (tN B z p)) with e | e <;> omega)⟩
          · obtain ⟨hb3, e3⟩ := cNq_no h_83 c_86
            subst e3
            refine j_iconst X dX9_readAsk_89 0 (by decide) ?_
            refine s_iret X hE hr dX9_readAsk_90 (by first | exact jb_nar | rfl) ?_
            exact Or.inr ⟨rfl, cDF_mk hA2 (aF_num (Or.inr (Or.inl rfl)) hb3) hnf (by rcases aNc_12 B z (tN B z p) with e | e <;> omega) (by rcases aNc_12 B z (tN B z p) with e | e <;> omega)⟩
        · refine j_aload_n X dX9_readAsk_62 rfl ?_
          refine j_iconst X dX9_readAsk_63 3 (by decide) ?_
          refine s_callVi X hR (c_fail np _ 3) rfl 9 (by decide) (o51 np) (k51 np) rfl u730 u727 u729 qp17 u7 hyX9_fail (by decide) (by decide) (Nat.le_of_ble_eq_true rfl) dX9_readAsk_64 (fun v_64 m_64 h_64 => ?_)
          obtain ⟨e1, e2⟩ := h_64; have e1 := e1.symm; have e2 := e2.symm; rw [hA.1.2.2.2.2.1] at e2; subst e1; subst e2
          refine s_iret X hE hr dX9_readAsk_67 (by first | exact jb_nar | rfl) ?_
          obtain rfl : k = 8 := by clear hE hr hR X hA; (try simp only [lg_cmp_lt, lg_cmp_gt, lg_cmp_le, lg_cmp_ge] at *); (try simp (disch := omega) only [Int64.le_iff_toInt_le, Int64.lt_iff_toInt_lt, Int32.le_iff_toInt_le, Int32.lt_iff_toInt_lt, fa_eq, fa_lit, fa_litL, nI_toInt, pk_lT, Int32.toInt_toInt64, jadd64, jin, jnoneT] at *); omega
          exact Or.inr ⟨rfl, cDF_mk (code := 3) hA (aF_2m (by rw [haw]; decide)) hnf (by decide) (by decide)⟩
    · refine j_iconst X dX9_readAsk_22 1 (by decide) ?_
      refine j_goto X 41 dX9_readAsk_23 (by decide) ?_
      have haw : tAw B z p = 1 := (if_neg c_6).trans (if_pos c_19)
      refine j_istore X dX9_readAsk_41 (by decide) ?_
      refine j_iload X dX9_readAsk_43 rfl ?_
      refine j_ldc X dX9_readAsk_45 u738 ?_
      refine j_icmp_ne X 56 dX9_readAsk_47 (by decide) (fun c_47 => ?_) (fun c_47 => absurd c_47 (by decide))
      refine j_iload_n X dX9_readAsk_56 rfl ?_
      refine j_bipush X dX9_readAsk_57 8 (by decide) ?_
      refine j_icmp_lt X 68 dX9_readAsk_59 (by decide) (fun c_59 => ?_) (fun c_59 => ?_)
      · have hk9 : k < 8 := by clear hE hr hR X hA; (try simp only [lg_cmp_lt, lg_cmp_gt, lg_cmp_le, lg_cmp_ge] at *); (try simp (disch := omega) only [Int64.le_iff_toInt_le, Int64.lt_iff_toInt_lt, Int32.le_iff_toInt_le, Int32.lt_iff_toInt_lt, fa_eq, fa_lit, fa_litL, nI_toInt, pk_lT, Int32.toInt_toInt64, jadd64, jin, jnoneT] at *); omega
        refine j_aload_n X dX9_readAsk_68 rfl ?_
        refine s_callVv X hR (c_advance np _ (tN B z p) z B hA.1.1 hA.1.2.1 (tN_le hA.1.2.2.1) hA.1.2.2.2.1) rfl 9 (by decide) (o51 np) (k51 np) rfl u651 u648 u650 qp11 u7 hyX9_advance (by decide) (by decide) (Nat.le_of_ble_eq_true rfl) dX9_readAsk_69 (fun m_69 h_69 => ?_)
        have hA2 := cDA_st hA (aF_2w haw (by decide) (by omega)) h_69.1 h_69.2.1 h_69.2.2
        refine j_aload_n X dX9_readAsk_72 rfl ?_
        refine j_iload X dX9_readAsk_73 rfl ?_
        refine j_if_ne X 82 dX9_readAsk_75 (by decide) (fun c_75 => ?_) (fun c_75 => absurd c_75 (by decide))
        refine j_iconst X dX9_readAsk_82 3 (by decide) ?_
        refine s_callVi X hR (c_expectNumber np _ (tN B z p) z 3 B hA2.1 (by omega)) rfl 9 (by decide) (o51 np) (k51 np) rfl u726 u723 u725 qp16 u7 hyX9_expectNumber (by decide) (by decide) (Nat.le_of_ble_eq_true rfl) dX9_readAsk_83 (fun v_83 m_83 h_83 => ?_)
        refine j_if_ne X 91 dX9_readAsk_86 (by decide) (fun c_86 => ?_) (fun c_86 => ?_)
        · obtain ⟨hb3, e3⟩ := cNq_ok h_83 c_86
          subst e3
          refine j_aload_n X dX9_readAsk_91 rfl ?_
          refine j_getF X 9 8 (by decide) (by decide) rfl u143 (o51 np) (k51 np) _ rfl dX9_readAsk_92 ?_
          refine j_nrm (nI (tV B z (tN B z p))) (hA2.1.2.2.2.2.2.2 hb3.1) ?_
          refine j_istore X dX9_readAsk_95 (by decide) ?_
          refine j_iconst X dX9_readAsk_97 0 (by decide) ?_
          refine j_istore X dX9_readAsk_98 (by decide) ?_
          refine j_iload X dX9_readAsk_100 rfl ?_
          refine j_iconst X dX9_readAsk_102 2 (by decide) ?_
          refine j_icmp_ne X 128 dX9_readAsk_103 (by decide) (fun c_103 => ?_) (fun c_103 => absurd c_103 (by decide))
          refine j_aload_n X dX9_readAsk_128 rfl ?_
          refine j_getF X 9 4 (by decide) (by decide) rfl u139 (o51 np) (k51 np) _ rfl dX9_readAsk_129 ?_
          refine j_nrm (jIsD dn) (cDA_4 hA2 hD) ?_
          refine j_if_eq X 146 dX9_readAsk_132 (by decide) (fun c_132 => ?_) (fun c_132 => ?_)
          · have hdn := jIsD_0.mp c_132
            subst hdn
            have hA4 := hA2
            refine j_aload_n X dX9_readAsk_146 rfl ?_
            refine s_callVv X hR (c_advance np _ (tN B z (tN B z p)) z B hA4.1.1 hA4.1.2.1 (tN_le hA4.1.2.2.1) hA4.1.2.2.2.1) rfl 9 (by decide) (o51 np) (k51 np) rfl u651 u648 u650 qp11 u7 hyX9_advance (by decide) (by decide) (Nat.le_of_ble_eq_true rfl) dX9_readAsk_147 (fun m_147 h_147 => ?_)
            have hA5 := cDA_st hA4 (aF_3 hb3 (by decide)) h_147.1 h_147.2.1 h_147.2.2
            refine j_iconst X dX9_readAsk_150 1 (by decide) ?_
            refine s_iret X hE hr dX9_readAsk_151 (by first | exact jb_nar | rfl) ?_
            have e1 := (tN_gt (B := B) (n := z) (p := p) (by rw [tAw_k (by rw [haw]; decide)]; decide)).1
            have e2 := tF_ge (B := B) (n := z) (p := (tN B z p))
            have e3 := tN_ge (B := B) (n := z) (p := (tN B z p))
            exact Or.inl ⟨rfl, hk9, _, _, by omega, hA5⟩
          · have hdn := jIsD_t c_132
            subst hdn
            refine j_aload_n X dX9_readAsk_135 rfl ?_
            refine j_iload_n X dX9_readAsk_136 rfl ?_
            refine j_iload X dX9_readAsk_137 rfl ?_
            refine j_iload X dX9_readAsk_139 rfl ?_
            refine j_iload X dX9_readAsk_141 rfl ?_
            refine s_callVv X hR (c_addAsk np _ d k 1 (nI (tV B z (tN B z p))) 0 hd4 hk9 (((hA2.2.2.1.1 d hd4).1.trans (congrArg nI (if_pos rfl))))) rfl 3 (by decide) (o32 np) (k32 np) rfl u742 u739 u740 u741 u6 hyX3_addAsk (by decide) (by decide) (Nat.le_of_ble_eq_true rfl) dX9_readAsk_143 (fun m_143 h_143 => ?_)
            have h_143 := h_143.symm; subst h_143
            have hjq : jeq cGl m_69 (jup (jup (jup (jup m_69 (37 + d) k (nI 1)) (42 + d) k (nI (tV B z (tN B z p)))) (47 + d) k (nI 0)) 35 d (nI (k + 1))) := cjq hd4
            have hA4 := cDA_w hA2 rfl hjq (cSM_wr (w := 1) (o := tV B z (tN B z p)) (b := 0) hA2.2.2.1 hd4 hk9)
            refine j_aload_n X dX9_readAsk_146 rfl ?_
            refine s_callVv X hR (c_advance np _ (tN B z (tN B z p)) z B hA4.1.1 hA4.1.2.1 (tN_le hA4.1.2.2.1) hA4.1.2.2.2.1) rfl 9 (by decide) (o51 np) (k51 np) rfl u651 u648 u650 qp11 u7 hyX9_advance (by decide) (by decide) (Nat.le_of_ble_eq_true rfl) dX9_readAsk_147 (fun m_147 h_147 => ?_)
            have hA5 := cDA_st hA4 (aF_3 hb3 (by decide)) h_147.1 h_147.2.1 h_147.2.2
            refine j_iconst X dX9_readAsk_150 1 (by decide) ?_
            refine s_iret X hE hr dX9_readAsk_151 (by first | exact jb_nar | rfl) ?_
            have e1 := (tN_gt (B := B) (n := z) (p := p) (by rw [tAw_k (by rw [haw]; decide)]; decide)).1
            have e2 := tF_ge (B := B) (n := z) (p := (tN B z p))
            have e3 := tN_ge (B := B) (n := z) (p := (tN B z p))
            exact Or.inl ⟨rfl, hk9, _, _, by omega, hA5⟩
        · obtain ⟨hb3, e3⟩ := cNq_no h_83 c_86
          subst e3
          refine j_iconst X dX9_readAsk_89 0 (by decide) ?_
          refine s_iret X hE hr dX9_readAsk_90 (by first | exact jb_nar | rfl) ?_
          exact Or.inr ⟨rfl, cDF_mk hA2 (aF_num (Or.inr (Or.inl rfl)) hb3) hnf (by rcases aNc_12 B z (tN B z p) with e | e <;> omega) (by rcases aNc_12 B z (tN B z p) with e | e <;> omega)⟩
      · refine j_aload_n X dX9_readAsk_62 rfl ?_
        refine j_iconst X dX9_readAsk_63 3 (by decide) ?_
        refine s_callVi X hR (c_fail np _ 3) rfl 9 (by decide) (o51 np) (k51 np) rfl u730 u727 u729 qp17 u7 hyX9_fail (by decide) (by decide) (Nat.le_of_ble_eq_true rfl) dX9_readAsk_64 (fun v_64 m_64 h_64 => ?_)
        obtain ⟨e1, e2⟩ := h_64; have e1 := e1.symm; have e2 := e2.symm; rw [hA.1.2.2.2.2.1] at e2; subst e1; subst e2
        refine s_iret X hE hr dX9_readAsk_67 (by first | exact jb_nar | rfl) ?_
        obtain rfl : k = 8 := by clear hE hr hR X hA; (try simp only [lg_cmp_lt, lg_cmp_gt, lg_cmp_le, lg_cmp_ge] at *); (try simp (disch := omega) only [Int64.le_iff_toInt_le, Int64.lt_iff_toInt_lt, Int32.le_iff_toInt_le, Int32.lt_iff_toInt_lt, fa_eq, fa_lit, fa_litL, nI_toInt, pk_lT, Int32.toInt_toInt64, jadd64, jin, jnoneT] at *); omega
        exact Or.inr ⟨rfl, cDF_mk (code := 3) hA (aF_2m (by rw [haw]; decide)) hnf (by decide) (by decide)⟩
  · refine j_iconst X dX9_readAsk_9 0 (by decide) ?_
    refine j_goto X 41 dX9_readAsk_10 (by decide) ?_
    have haw : tAw B z p = 0 := if_pos c_6
    refine j_istore X dX9_readAsk_41 (by decide) ?_
    refine j_iload X dX9_readAsk_43 rfl ?_
    refine j_ldc X dX9_readAsk_45 u738 ?_
    refine j_icmp_ne X 56 dX9_readAsk_47 (by decide) (fun c_47 => ?_) (fun c_47 => absurd c_47 (by decide))
    refine j_iload_n X dX9_readAsk_56 rfl ?_
    refine j_bipush X dX9_readAsk_57 8 (by decide) ?_
    refine j_icmp_lt X 68 dX9_readAsk_59 (by decide) (fun c_59 => ?_) (fun c_59 => ?_)
    · have hk9 : k < 8 := by clear hE hr hR X hA; (try simp only [lg_cmp_lt, lg_cmp_gt, lg_cmp_le, lg_cmp_ge] at *); (try simp (disch := omega) only [Int64.le_iff_toInt_le, Int64.lt_iff_toInt_lt, Int32.le_iff_toInt_le, Int32.lt_iff_toInt_lt, fa_eq, fa_lit, fa_litL, nI_toInt, pk_lT, Int32.toInt_toInt64, jadd64, jin, jnoneT] at *); omega
      refine j_aload_n X dX9_readAsk_68 rfl ?_
      refine s_callVv X hR (c_advance np _ (tN B z p) z B hA.1.1 hA.1.2.1 (tN_le hA.1.2.2.1) hA.1.2.2.2.1) rfl 9 (by decide) (o51 np) (k51 np) rfl u651 u648 u650 qp11 u7 hyX9_advance (by decide) (by decide) (Nat.le_of_ble_eq_true rfl) dX9_readAsk_69 (fun m_69 h_69 => ?_)
      have hA2 := cDA_st hA (aF_2w haw (by decide) (by omega)) h_69.1 h_69.2.1 h_69.2.2
      refine j_aload_n X dX9_readAsk_72 rfl ?_
      refine j_iload X dX9_readAsk_73 rfl ?_
      refine j_if_ne X 82 dX9_readAsk_75 (by decide) (fun c_75 => absurd c_75 (by decide)) (fun c_75 => ?_)
      refine j_iconst X dX9_readAsk_78 3 (by decide) ?_
      refine j_goto X 83 dX9_readAsk_79 (by decide) ?_
      refine s_callVi X hR (c_expectNumber np _ (tN B z p) z 3 B hA2.1 (by omega)) rfl 9 (by decide) (o51 np) (k51 np) rfl u726 u723 u725 qp16 u7 hyX9_expectNumber (by decide) (by decide) (Nat.le_of_ble_eq_true rfl) dX9_readAsk_83 (fun v_83 m_83 h_83 => ?_)
      refine j_if_ne X 91 dX9_readAsk_86 (by decide) (fun c_86 => ?_) (fun c_86 => ?_)
      · obtain ⟨hb3, e3⟩ := cNq_ok h_83 c_86
        subst e3
        refine j_aload_n X dX9_readAsk_91 rfl ?_
        refine j_getF X 9 8 (by decide) (by decide) rfl u143 (o51 np) (k51 np) _ rfl dX9_readAsk_92 ?_
        refine j_nrm (nI (tV B z (tN B z p))) (hA2.1.2.2.2.2.2.2 hb3.1) ?_
        refine j_istore X dX9_readAsk_95 (by decide) ?_
        refine j_iconst X dX9_readAsk_97 0 (by decide) ?_
        refine j_istore X dX9_readAsk_98 (by decide) ?_
        refine j_iload X dX9_readAsk_100 rfl ?_
        refine j_iconst X dX9_readAsk_102 2 (by decide) ?_
        refine j_icmp_ne X 128 dX9_readAsk_103 (by decide) (fun c_103 => ?_) (fun c_103 => absurd c_103 (by decide))
        refine j_aload_n X dX9_readAsk_128 rfl ?_
        refine j_getF X 9 4 (by decide) (by decide) rfl u139 (o51 np) (k51 np) _ rfl dX9_readAsk_129 ?_
        refine j_nrm (jIsD dn) (cDA_4 hA2 hD) ?_
        refine j_if_eq X 146 dX9_readAsk_132 (by decide) (fun c_132 => ?_) (fun c_132 => ?_)
        · have hdn := jIsD_0.mp c_132
          subst hdn
          have hA4 := hA2
          refine j_aload_n X dX9_readAsk_146 rfl ?_
          refine s_callVv X hR (c_advance np _ (tN B z (tN B z p)) z B hA4.1.1 hA4.1.2.1 (tN_le hA4.1.2.2.1) hA4.1.2.2.2.1) rfl 9 (by decide) (o51 np) (k51 np) rfl u651 u648 u650 qp11 u7 hyX9_advance (by decide) (by decide) (Nat.le_of_ble_eq_true rfl) dX9_readAsk_147 (fun m_147 h_147 => ?_)
          have hA5 := cDA_st hA4 (aF_3 hb3 (by decide)) h_147.1 h_147.2.1 h_147.2.2
          refine j_iconst X dX9_readAsk_150 1 (by decide) ?_
          refine s_iret X hE hr dX9_readAsk_151 (by first | exact jb_nar | rfl) ?_
          have e1 := (tN_gt (B := B) (n := z) (p := p) (by rw [tAw_k (by rw [haw]; decide)]; decide)).1
          have e2 := tF_ge (B := B) (n := z) (p := (tN B z p))
          have e3 := tN_ge (B := B) (n := z) (p := (tN B z p))
          exact Or.inl ⟨rfl, hk9, _, _, by omega, hA5⟩
        · have hdn := jIsD_t c_132
          subst hdn
          refine j_aload_n X dX9_readAsk_135 rfl ?_
          refine j_iload_n X dX9_readAsk_136 rfl ?_
          refine j_iload X dX9_readAsk_137 rfl ?_
          refine j_iload X dX9_readAsk_139 rfl ?_
          refine j_iload X dX9_readAsk_141 rfl ?_
          refine s_callVv X hR (c_addAsk np _ d k 0 (nI (tV B z (tN B z p))) 0 hd4 hk9 (((hA2.2.2.1.1 d hd4).1.trans (congrArg nI (if_pos rfl))))) rfl 3 (by decide) (o32 np) (k32 np) rfl u742 u739 u740 u741 u6 hyX3_addAsk (by decide) (by decide) (Nat.le_of_ble_eq_true rfl) dX9_readAsk_143 (fun m_143 h_143 => ?_)
          have h_143 := h_143.symm; subst h_143
          have hjq : jeq cGl m_69 (jup (jup (jup (jup m_69 (37 + d) k (nI 0)) (42 + d) k (nI (tV B z (tN B z p)))) (47 + d) k (nI 0)) 35 d (nI (k + 1))) := cjq hd4
          have hA4 := cDA_w hA2 rfl hjq (cSM_wr (w := 0) (o := tV B z (tN B z p)) (b := 0) hA2.2.2.1 hd4 hk9)
          refine j_aload_n X dX9_readAsk_146 rfl ?_
          refine s_callVv X hR (c_advance np _ (tN B z (tN B z p)) z B hA4.1.1 hA4.1.2.1 (tN_le hA4.1.2.2.1) hA4.1.2.2.2.1) rfl 9 (by decide) (o51 np) (k51 np) rfl u651 u648 u650 qp11 u7 hyX9_advance (by decide) (by decide) (Nat.le_of_ble_eq_true rfl) dX9_readAsk_147 (fun m_147 h_147 => ?_)
          have hA5 := cDA_st hA4 (aF_3 hb3 (by decide)) h_147.1 h_147.2.1 h_147.2.2
          refine j_iconst X dX9_readAsk_150 1 (by decide) ?_
          refine s_iret X hE hr dX9_readAsk_151 (by first | exact jb_nar | rfl) ?_
          have e1 := (tN_gt (B := B) (n := z) (p := p) (by rw [tAw_k (by rw [haw]; decide)]; decide)).1
          have e2 := tF_ge (B := B) (n := z) (p := (tN B z p))
          have e3 := tN_ge (B := B) (n := z) (p := (tN B z p))
          exact Or.inl ⟨rfl, hk9, _, _, by omega, hA5⟩
      · obtain ⟨hb3, e3⟩ := cNq_no h_83 c_86
        subst e3
        refine j_iconst X dX9_readAsk_89 0 (by decide) ?_
        refine s_iret X hE hr dX9_readAsk_90 (by first | exact jb_nar | rfl) ?_
        exact Or.inr ⟨rfl, cDF_mk hA2 (aF_num (Or.inr (Or.inl rfl)) hb3) hnf (by rcases aNc_12 B z (tN B z p) with e | e <;> omega) (by rcases aNc_12 B z (tN B z p) with e | e <;> omega)⟩
    · refine j_aload_n X dX9_readAsk_62 rfl ?_
      refine j_iconst X dX9_readAsk_63 3 (by decide) ?_
      refine s_callVi X hR (c_fail np _ 3) rfl 9 (by decide) (o51 np) (k51 np) rfl u730 u727 u729 qp17 u7 hyX9_fail (by decide) (by decide) (Nat.le_of_ble_eq_true rfl) dX9_readAsk_64 (fun v_64 m_64 h_64 => ?_)
      obtain ⟨e1, e2⟩ := h_64; have e1 := e1.symm; have e2 := e2.symm; rw [hA.1.2.2.2.2.1] at e2; subst e1; subst e2
      refine s_iret X hE hr dX9_readAsk_67 (by first | exact jb_nar | rfl) ?_
      obtain rfl : k = 8 := by clear hE hr hR X hA; (try simp only [lg_cmp_lt, lg_cmp_gt, lg_cmp_le, lg_cmp_ge] at *); (try simp (disch := omega) only [Int64.le_iff_toInt_le, Int64.lt_iff_toInt_lt, Int32.le_iff_toInt_le, Int32.lt_iff_toInt_lt, fa_eq, fa_lit, fa_litL, nI_toInt, pk_lT, Int32.toInt_toInt64, jadd64, jin, jnoneT] at *); omega
      exact Or.inr ⟨rfl, cDF_mk (code := 3) hA (aF_2m (by rw [haw]; decide)) hnf (by decide) (by decide)⟩
set_option maxRecDepth 4000 in
set_option maxHeartbeats 1000000 in
theorem c_readDoor (np : Nat) (mem : jMem) (p z c : Nat) (B : Nat → Nat) (dn : Bool) (s0 : aSt) (m0 : jMem) (S : Nat → Nat) (hA : cDA B z dn s0 m0 p (0, p, 0, 0, 0, 0, c, S) S mem) (hD : m0 51 4 = jIsD dn) (hnf : dn = true → ∀ x, aR (aF B z dn) s0 x → x.1 ≠ 7) (hnp : np ≤ 12) (hk1 : ¬ tK B z p = 1) (hwd : tWd B z p = 1685024626) : jPi yX9_readDoor cX9_readDoor 4 .boolean 8 [.ref 51, .ref 32] np mem (cRq B z dn s0 m0 c p) := by
  refine jPi.of (own := RX9) rfl rfl (Nat.le_of_ble_eq_true rfl) (fun G X hR hr hE => ?_)
  refine j_aload_n X dX9_readDoor_0 rfl ?_
  refine s_callVv X hR (c_advance np _ (tN B z p) z B hA.1.1 hA.1.2.1 (tN_le hA.1.2.2.1) hA.1.2.2.2.1) rfl 9 (by decide) (o51 np) (k51 np) rfl u651 u648 u650 qp11 u7 hyX9_advance (by decide) (by decide) (Nat.le_of_ble_eq_true rfl) dX9_readDoor_1 (fun m_1 h_1 => ?_)
  have hA2 := cDA_st hA (aF_0d hk1 hwd) h_1.1 h_1.2.1 h_1.2.2
  refine j_aload_n X dX9_readDoor_4 rfl ?_
  refine j_iconst X dX9_readDoor_5 3 (by decide) ?_
  refine s_callVi X hR (c_expectNumber np _ (tN B z p) z 3 B hA2.1 (by omega)) rfl 9 (by decide) (o51 np) (k51 np) rfl u726 u723 u725 qp16 u7 hyX9_expectNumber (by decide) (by decide) (Nat.le_of_ble_eq_true rfl) dX9_readDoor_6 (fun v_6 m_6 h_6 => ?_)
  refine j_if_ne X 14 dX9_readDoor_9 (by decide) (fun c_9 => ?_) (fun c_9 => ?_)
  · obtain ⟨hb3, e3⟩ := cNq_ok h_6 c_9
    subst e3
    have hd4 : (tV B z (tN B z p)) < 4 := by have := hb3.2; omega
    refine j_aload_n X dX9_readDoor_14 rfl ?_
    refine j_getF X 9 8 (by decide) (by decide) rfl u143 (o51 np) (k51 np) _ rfl dX9_readDoor_15 ?_
    refine j_nrm (nI (tV B z (tN B z p))) (hA2.1.2.2.2.2.2.2 hb3.1) ?_
    refine j_istore_n X dX9_readDoor_18 (by decide) ?_
    refine j_aload_n X dX9_readDoor_19 rfl ?_
    refine j_getF X 9 4 (by decide) (by decide) rfl u139 (o51 np) (k51 np) _ rfl dX9_readDoor_20 ?_
    refine j_nrm (jIsD dn) (cDA_4 hA2 hD) ?_
    refine j_if_eq X 33 dX9_readDoor_23 (by decide) (fun c_23 => ?_) (fun c_23 => ?_)
    · have hdn := jIsD_0.mp c_23
      have hA4 : cDA B z dn s0 m0 (tN B z p) (1, (tN B z p), 0, 0, 0, 0, c, S) (aUp dn S (tV B z (tN B z p)) 0) m_1 := by rw [show aUp dn S (tV B z (tN B z p)) 0 = S from by rw [hdn]; rfl]; exact hA2
      refine j_aload_n X dX9_readDoor_33 rfl ?_
      refine s_callVv X hR (c_advance np _ (tN B z (tN B z p)) z B hA4.1.1 hA4.1.2.1 (tN_le hA4.1.2.2.1) hA4.1.2.2.2.1) rfl 9 (by decide) (o51 np) (k51 np) rfl u651 u648 u650 qp11 u7 hyX9_advance (by decide) (by decide) (Nat.le_of_ble_eq_true rfl) dX9_readDoor_34 (fun m_34 h_34 => ?_)
      have hA5 := cDA_st hA4 (aF_1 hb3) h_34.1 h_34.2.1 h_34.2.2
      refine j_iconst X dX9_readDoor_37 0 (by decide) ?_
      refine j_istore_n X dX9_readDoor_38 (by decide) ?_
      have lp39 : ∀ (n : Nat) (k p2 : Nat) (S2 : Nat → Nat) (m2 : jMem), 9 ≤ k + n → k ≤ 8 → cDA B z dn s0 m0 p2 (2, p2, (tV B z (tN B z p)), k, 0, 0, c, S2) (aUp dn S2 (tV B z (tN B z p)) k) m2 → p ≤ p2 → J G RX9 cX9_readDoor 4 0 0 39 (jlv [some (.ref 51), some (.ref 32), some (.int (nI (tV B z (tN B z p)))), some (.int (nI k))]) [] (jS np) (m2) := by
        intro n
        induction n with
        | zero =>
          intro k p2 S2 m2 hfu hk8 hA3 hpp
          exact absurd hfu (by omega)
        | succ n ih39 =>
          intro k p2 S2 m2 hfu hk8 hA3 hpp
          refine j_iload_n X dX9_readDoor_39 rfl ?_
          refine j_bipush X dX9_readDoor_40 8 (by decide) ?_
          refine j_icmp_gt X 71 dX9_readDoor_42 (by decide) (fun c_42 => ?_) (fun c_42 => ?_)
          · exfalso
            clear hE hr hR X hA3
            (try simp only [lg_cmp_lt, lg_cmp_gt, lg_cmp_le, lg_cmp_ge] at *); (try simp (disch := omega) only [Int64.le_iff_toInt_le, Int64.lt_iff_toInt_lt, Int32.le_iff_toInt_le, Int32.lt_iff_toInt_lt, fa_eq, fa_lit, fa_litL, nI_toInt, pk_lT, Int32.toInt_toInt64, jadd64, jin, jnoneT] at *); omega
          · refine j_aload_n X dX9_readDoor_45 rfl ?_
            refine j_getF X 9 7 (by decide) (by decide) rfl u142 (o51 np) (k51 np) (m2 51) rfl dX9_readDoor_46 ?_
            have hkl := tK_lt B z p2
            refine j_nrm (nI ((tK B z p2 + 4) % 5)) hA3.1.2.2.2.2.2.1 ?_
            refine j_iconst X dX9_readDoor_49 3 (by decide) ?_
            refine j_icmp_eq X 71 dX9_readDoor_50 (by decide) (fun c_50 => ?_) (fun c_50 => ?_)
            · have hk4 : tK B z p2 = 4 := by
                have e := (cK_0 (x := 3) (by omega)).mp c_50
                omega
              refine j_aload_n X dX9_readDoor_71 rfl ?_
              refine s_callVi X hR (c_expectStop np _ p2 z B hA3.1) rfl 9 (by decide) (o51 np) (k51 np) rfl u746 u743 u745 qp19 u7 hyX9_expectStop (by decide) (by decide) (Nat.le_of_ble_eq_true rfl) dX9_readDoor_72 (fun v_72 m_72 h_72 => ?_)
              obtain ⟨-, e1, hJ7, hS7, hT7⟩ := h_72.resolve_right (fun e => e.1 hk4)
              subst e1
              refine s_iret X hE hr dX9_readDoor_75 (by first | exact jb_nar | rfl) ?_
              exact Or.inl ⟨rfl, _, _, by have e1 := (tN_gt (B := B) (n := z) (p := p2) (by rw [hk4]; decide)).1; omega, cDA_st hA3 ((aF_2s (tAw_4 hk4)).trans (if_pos hk4)) hJ7 hS7 hT7⟩
            · have hk4 : ¬ tK B z p2 = 4 := fun e => c_50 (by rw [e]; decide)
              refine j_aload_n X dX9_readDoor_53 rfl ?_
              refine j_aload_n X dX9_readDoor_54 rfl ?_
              refine j_iload_n X dX9_readDoor_55 rfl ?_
              refine j_iload_n X dX9_readDoor_56 rfl ?_
              refine s_callVi X hR (c_readAsk np _ p2 z c B dn s0 m0 S2 (tV B z (tN B z p)) k hA3 hD hnf hnp hd4 hk8 hk4) rfl 9 (by decide) (o51 np) (k51 np) rfl u734 u731 u733 qp18 u7 hyX9_readAsk (by decide) (by decide) (Nat.le_of_ble_eq_true rfl) dX9_readDoor_57 (fun v_57 m_57 h_57 => ?_)
              refine j_if_ne X 65 dX9_readDoor_60 (by decide) (fun c_60 => ?_) (fun c_60 => ?_)
              · obtain ⟨-, hk9, p3, S3, hp3, hA6⟩ := h_57.resolve_right (fun e => c_60 e.1)
                refine j_iinc X dX9_readDoor_65 rfl 1 rfl ?_
                refine j_goto X 39 dX9_readDoor_68 (by decide) ?_
                refine j_lv [some (.ref 51), some (.ref 32), some (.int (nI (tV B z (tN B z p)))), some (.int (nI (k + 1)))] ⟨rfl, rfl, rfl, (congrArg (fun z => some (Value.int z)) (nI_1 _)), trivial⟩ ?_
                exact ih39 (k + 1) p3 S3 _ (by omega) (by omega) hA6 (by omega)
              · refine j_iconst X dX9_readDoor_63 0 (by decide) ?_
                refine s_iret X hE hr dX9_readDoor_64 (by first | exact jb_nar | rfl) ?_
                exact Or.inr ⟨rfl, (h_57.resolve_left (fun e => absurd (e.1.symm.trans c_60) (by decide))).2⟩
      have hpp0 : p ≤ tN B z (tN B z p) := Nat.le_trans (Nat.le_trans tF_ge tN_ge) (Nat.le_trans tF_ge tN_ge)
      refine j_lv [some (.ref 51), some (.ref 32), some (.int (nI (tV B z (tN B z p)))), some (.int (nI 0))] ⟨rfl, rfl, rfl, rfl, trivial⟩ ?_
      exact lp39 9 0 _ _ _ (by omega) (by omega) hA5 hpp0
    · refine j_aload_n X dX9_readDoor_26 rfl ?_
      refine j_getR X 3 2 (by decide) (by decide) rfl u109 (o32 np) (k32 np) _ (p32_2 np) dX9_readDoor_27 ?_
      refine j_iload_n X dX9_readDoor_30 rfl ?_
      refine j_iconst X dX9_readDoor_31 0 (by decide) ?_
      refine j_nrm2 _ (by first | (simp only [fa_lit, pk_mul, nI_add]; done) | (simp only [fa_lit, pk_mul, nI_add]; rfl) | rfl) ?_
      refine j_iastN X (o35 np) (k35 np) (by rw [l35]; omega) (by rw [l35]; decide) dX9_readDoor_32 ?_
      have hdn := jIsD_t c_23
      have hA4 : cDA B z dn s0 m0 (tN B z p) (1, (tN B z p), 0, 0, 0, 0, c, S) (aUp dn S (tV B z (tN B z p)) 0) (jup m_1 35 (tV B z (tN B z p)) 0) := cDA_w hA2 hdn (jeq.up jeq.rf (by decide)) (by rw [hdn]; exact cSM_cn (k := 0) hA2.2.2.1 hd4)
      refine j_aload_n X dX9_readDoor_33 rfl ?_
      refine s_callVv X hR (c_advance np _ (tN B z (tN B z p)) z B hA4.1.1 hA4.1.2.1 (tN_le hA4.1.2.2.1) hA4.1.2.2.2.1) rfl 9 (by decide) (o51 np) (k51 np) rfl u651 u648 u650 qp11 u7 hyX9_advance (by decide) (by decide) (Nat.le_of_ble_eq_true rfl) dX9_readDoor_34 (fun m_34 h_34 => ?_)
      have hA5 := cDA_st hA4 (aF_1 hb3) h_34.1 h_34.2.1 h_34.2.2
      refine j_iconst X dX9_readDoor_37 0 (by decide) ?_
      refine j_istore_n X dX9_readDoor_38 (by decide) ?_
      have lp39 : ∀ (n : Nat) (k p2 : Nat) (S2 : Nat → Nat) (m2 : jMem), 9 ≤ k + n → k ≤ 8 → cDA B z dn s0 m0 p2 (2, p2, (tV B z (tN B z p)), k, 0, 0, c, S2) (aUp dn S2 (tV B z (tN B z p)) k) m2 → p ≤ p2 → J G RX9 cX9_readDoor 4 0 0 39 (jlv [some (.ref 51), some (.ref 32), some (.int (nI (tV B z (tN B z p)))), some (.int (nI k))]) [] (jS np) (m2) := by
        intro n
        induction n with
        | zero =>
          intro k p2 S2 m2 hfu hk8 hA3 hpp
          exact absurd hfu (by omega)
        | succ n ih39 =>
          intro k p2 S2 m2 hfu hk8 hA3 hpp
          refine j_iload_n X dX9_readDoor_39 rfl ?_
          refine j_bipush X dX9_readDoor_40 8 (by decide) ?_
          refine j_icmp_gt X 71 dX9_readDoor_42 (by decide) (fun c_42 => ?_) (fun c_42 => ?_)
          · exfalso
            clear hE hr hR X hA3
            (try simp only [lg_cmp_lt, lg_cmp_gt, lg_cmp_le, lg_cmp_ge] at *); (try simp (disch := omega) only [Int64.le_iff_toInt_le, Int64.lt_iff_toInt_lt, Int32.le_iff_toInt_le, Int32.lt_iff_toInt_lt, fa_eq, fa_lit, fa_litL, nI_toInt, pk_lT, Int32.toInt_toInt64, jadd64, jin, jnoneT] at *); omega
          · refine j_aload_n X dX9_readDoor_45 rfl ?_
            refine j_getF X 9 7 (by decide) (by decide) rfl u142 (o51 np) (k51 np) (m2 51) rfl dX9_readDoor_46 ?_
            have hkl := tK_lt B z p2
            refine j_nrm (nI ((tK B z p2 + 4) % 5)) hA3.1.2.2.2.2.2.1 ?_
            refine j_iconst X dX9_readDoor_49 3 (by decide) ?_
            refine j_icmp_eq X 71 dX9_readDoor_50 (by decide) (fun c_50 => ?_) (fun c_50 => ?_)
            · have hk4 : tK B z p2 = 4 := by
                have e := (cK_0 (x := 3) (by omega)).mp c_50
                omega
              refine j_aload_n X dX9_readDoor_71 rfl ?_
              refine s_callVi X hR (c_expectStop np _ p2 z B hA3.1) rfl 9 (by decide) (o51 np) (k51 np) rfl u746 u743 u745 qp19 u7 hyX9_expectStop (by decide) (by decide) (Nat.le_of_ble_eq_true rfl) dX9_readDoor_72 (fun v_72 m_72 h_72 => ?_)
              obtain ⟨-, e1, hJ7, hS7, hT7⟩ := h_72.resolve_right (fun e => e.1 hk4)
              subst e1
              refine s_iret X hE hr dX9_readDoor_75 (by first | exact jb_nar | rfl) ?_
              exact Or.inl ⟨rfl, _, _, by have e1 := (tN_gt (B := B) (n := z) (p := p2) (by rw [hk4]; decide)).1; omega, cDA_st hA3 ((aF_2s (tAw_4 hk4)).trans (if_pos hk4)) hJ7 hS7 hT7⟩
            · have hk4 : ¬ tK B z p2 = 4 := fun e => c_50 (by rw [e]; decide)
              refine j_aload_n X dX9_readDoor_53 rfl ?_
              refine j_aload_n X dX9_readDoor_54 rfl ?_
              refine j_iload_n X dX9_readDoor_55 rfl ?_
              refine j_iload_n X dX9_readDoor_56 rfl ?_
              refine s_callVi X hR (c_readAsk np _ p2 z c B dn s0 m0 S2 (tV B z (tN B z p)) k hA3 hD hnf hnp hd4 hk8 hk4) rfl 9 (by decide) (o51 np) (k51 np) rfl u734 u731 u733 qp18 u7 hyX9_readAsk (by decide) (by decide) (Nat.le_of_ble_eq_true rfl) dX9_readDoor_57 (fun v_57 m_57 h_57 => ?_)
              refine j_if_ne X 65 dX9_readDoor_60 (by decide) (fun c_60 => ?_) (fun c_60 => ?_)
              · obtain ⟨-, hk9, p3, S3, hp3, hA6⟩ := h_57.resolve_right (fun e => c_60 e.1)
                refine j_iinc X dX9_readDoor_65 rfl 1 rfl ?_
                refine j_goto X 39 dX9_readDoor_68 (by decide) ?_
                refine j_lv [some (.ref 51), some (.ref 32), some (.int (nI (tV B z (tN B z p)))), some (.int (nI (k + 1)))] ⟨rfl, rfl, rfl, (congrArg (fun z => some (Value.int z)) (nI_1 _)), trivial⟩ ?_
                exact ih39 (k + 1) p3 S3 _ (by omega) (by omega) hA6 (by omega)
              · refine j_iconst X dX9_readDoor_63 0 (by decide) ?_
                refine s_iret X hE hr dX9_readDoor_64 (by first | exact jb_nar | rfl) ?_
                exact Or.inr ⟨rfl, (h_57.resolve_left (fun e => absurd (e.1.symm.trans c_60) (by decide))).2⟩
      have hpp0 : p ≤ tN B z (tN B z p) := Nat.le_trans (Nat.le_trans tF_ge tN_ge) (Nat.le_trans tF_ge tN_ge)
      refine j_lv [some (.ref 51), some (.ref 32), some (.int (nI (tV B z (tN B z p)))), some (.int (nI 0))] ⟨rfl, rfl, rfl, rfl, trivial⟩ ?_
      exact lp39 9 0 _ _ _ (by omega) (by omega) hA5 hpp0
  · obtain ⟨hb3, e3⟩ := cNq_no h_6 c_9
    subst e3
    refine j_iconst X dX9_readDoor_12 0 (by decide) ?_
    refine s_iret X hE hr dX9_readDoor_13 (by first | exact jb_nar | rfl) ?_
    exact Or.inr ⟨rfl, cDF_mk hA2 (aF_num (Or.inl rfl) hb3) hnf (by rcases aNc_12 B z (tN B z p) with e | e <;> omega) (by rcases aNc_12 B z (tN B z p) with e | e <;> omega)⟩
set_option maxRecDepth 4000 in
set_option maxHeartbeats 1000000 in
theorem c_readRight (np : Nat) (mem : jMem) (p z c : Nat) (B : Nat → Nat) (dn : Bool) (s0 : aSt) (m0 : jMem) (S : Nat → Nat) (hA : cDA B z dn s0 m0 p (0, p, 0, 0, 0, 0, c, S) S mem) (hD : m0 51 4 = jIsD dn) (hnf : dn = true → ∀ x, aR (aF B z dn) s0 x → x.1 ≠ 7) (hnp : np ≤ 12) (hk1 : ¬ tK B z p = 1) (hwd : ¬ tWd B z p = 1685024626) (hwr : tWd B z p = 491394656372) : jPi yX9_readRight cX9_readRight 5 .boolean 5 [.ref 51, .ref 32] np mem (cRq B z dn s0 m0 c p) := by
  refine jPi.of (own := RX9) rfl rfl (Nat.le_of_ble_eq_true rfl) (fun G X hR hr hE => ?_)
  refine j_aload_n X dX9_readRight_0 rfl ?_
  refine s_callVv X hR (c_advance np _ (tN B z p) z B hA.1.1 hA.1.2.1 (tN_le hA.1.2.2.1) hA.1.2.2.2.1) rfl 9 (by decide) (o51 np) (k51 np) rfl u651 u648 u650 qp11 u7 hyX9_advance (by decide) (by decide) (Nat.le_of_ble_eq_true rfl) dX9_readRight_1 (fun m_1 h_1 => ?_)
  have hA2 := cDA_st hA (aF_0r hk1 hwd hwr) h_1.1 h_1.2.1 h_1.2.2
  refine j_aload_n X dX9_readRight_4 rfl ?_
  refine j_iconst X dX9_readRight_5 3 (by decide) ?_
  refine s_callVi X hR (c_expectNumber np _ (tN B z p) z 3 B hA2.1 (by omega)) rfl 9 (by decide) (o51 np) (k51 np) rfl u726 u723 u725 qp16 u7 hyX9_expectNumber (by decide) (by decide) (Nat.le_of_ble_eq_true rfl) dX9_readRight_6 (fun v_6 m_6 h_6 => ?_)
  refine j_if_ne X 14 dX9_readRight_9 (by decide) (fun c_9 => ?_) (fun c_9 => ?_)
  · obtain ⟨hb3, e3⟩ := cNq_ok h_6 c_9
    subst e3
    have hd4 : (tV B z (tN B z p)) < 4 := by have := hb3.2; omega
    refine j_aload_n X dX9_readRight_14 rfl ?_
    refine j_getF X 9 8 (by decide) (by decide) rfl u143 (o51 np) (k51 np) _ rfl dX9_readRight_15 ?_
    refine j_nrm (nI (tV B z (tN B z p))) (hA2.1.2.2.2.2.2.2 hb3.1) ?_
    refine j_istore_n X dX9_readRight_18 (by decide) ?_
    refine j_iconst X dX9_readRight_19 0 (by decide) ?_
    refine j_istore_n X dX9_readRight_20 (by decide) ?_
    refine j_aload_n X dX9_readRight_21 rfl ?_
    refine s_callVv X hR (c_advance np _ (tN B z (tN B z p)) z B hA2.1.1 hA2.1.2.1 (tN_le hA2.1.2.2.1) hA2.1.2.2.2.1) rfl 9 (by decide) (o51 np) (k51 np) rfl u651 u648 u650 qp11 u7 hyX9_advance (by decide) (by decide) (Nat.le_of_ble_eq_true rfl) dX9_readRight_22 (fun m_22 h_22 => ?_)
    have hA5 := cDA_st hA2 (aF_5 hb3) h_22.1 h_22.2.1 h_22.2.2
    refine j_iconst X dX9_readRight_25 0 (by decide) ?_
    refine j_istore X dX9_readRight_26 (by decide) ?_
    have lp28 : ∀ (n : Nat) (i k p2 : Nat) (S2 : Nat → Nat) (m2 : jMem), z + 1 ≤ p2 + n → i ≤ p2 → k < 16 → cDA B z dn s0 m0 p2 (6, p2, (tV B z (tN B z p)), k, 0, 0, c, S2) S2 m2 → p ≤ p2 → J G RX9 cX9_readRight 5 0 0 28 (jlv [some (.ref 51), some (.ref 32), some (.int (nI (tV B z (tN B z p)))), some (.int (nI k)), some (.int (nI i))]) [] (jS np) (m2) := by
      intro n
      induction n with
      | zero =>
        intro i k p2 S2 m2 hfu hi hk16 hA3 hpp
        exact absurd hfu (by have := hA3.1.2.2.1; omega)
      | succ n ih28 =>
        intro i k p2 S2 m2 hfu hi hk16 hA3 hpp
        have hpz := hA3.1.2.2.1
        have h300 := hA3.1.1.1
        have hkl := tK_lt B z p2
        refine j_iload X dX9_readRight_28 rfl ?_
        refine j_sipush X dX9_readRight_30 300 (by decide) ?_
        refine j_icmp_gt X 73 dX9_readRight_33 (by decide) (fun c_33 => ?_) (fun c_33 => ?_)
        · exfalso
          clear hE hr hR X hA3
          (try simp only [lg_cmp_lt, lg_cmp_gt, lg_cmp_le, lg_cmp_ge] at *); (try simp (disch := omega) only [Int64.le_iff_toInt_le, Int64.lt_iff_toInt_lt, Int32.le_iff_toInt_le, Int32.lt_iff_toInt_lt, fa_eq, fa_lit, fa_litL, nI_toInt, pk_lT, Int32.toInt_toInt64, jadd64, jin, jnoneT] at *); omega
        · refine j_aload_n X dX9_readRight_36 rfl ?_
          refine j_getF X 9 7 (by decide) (by decide) rfl u142 (o51 np) (k51 np) (m2 51) rfl dX9_readRight_37 ?_
          refine j_nrm (nI ((tK B z p2 + 4) % 5)) hA3.1.2.2.2.2.2.1 ?_
          refine j_iconst X dX9_readRight_40 2 (by decide) ?_
          refine j_icmp_ne X 73 dX9_readRight_41 (by decide) (fun c_41 => ?_) (fun c_41 => ?_)
          · have hk3 : ¬ tK B z p2 = 3 := fun e => c_41 (by rw [e]; decide)
            refine j_aload_n X dX9_readRight_73 rfl ?_
            refine j_getF X 9 4 (by decide) (by decide) rfl u139 (o51 np) (k51 np) (m2 51) rfl dX9_readRight_74 ?_
            refine j_nrm (jIsD dn) (cDA_4 hA3 hD) ?_
            refine j_if_eq X 87 dX9_readRight_77 (by decide) (fun c_77 => ?_) (fun c_77 => ?_)
            · have hdn := jIsD_0.mp c_77
              subst hdn
              have hA7 : cDA B z false s0 m0 p2 (6, p2, (tV B z (tN B z p)), k, 0, 0, c, S2) (aUp false S2 (4 + (tV B z (tN B z p))) k) m2 := hA3
              refine j_aload_n X dX9_readRight_87 rfl ?_
              refine s_callVi X hR (c_expectStop np _ p2 z B hA7.1) rfl 9 (by decide) (o51 np) (k51 np) rfl u746 u743 u745 qp19 u7 hyX9_expectStop (by decide) (by decide) (Nat.le_of_ble_eq_true rfl) dX9_readRight_88 (fun v_88 m_88 h_88 => ?_)
              rcases h_88 with ⟨hk4, e1, hJ7, hS7, hT7⟩ | ⟨hk4, e1, e2⟩
              · subst e1
                refine s_iret X hE hr dX9_readRight_91 (by first | exact jb_nar | rfl) ?_
                exact Or.inl ⟨rfl, _, _, by have e1 := (tN_gt (B := B) (n := z) (p := p2) (by rw [hk4]; decide)).1; omega, cDA_st hA7 ((aF_6s hk3).trans (if_pos hk4)) hJ7 hS7 hT7⟩
              · subst e1
                subst e2
                refine s_iret X hE hr dX9_readRight_91 (by first | exact jb_nar | rfl) ?_
                exact Or.inr ⟨rfl, cDF_mk (code := 1) hA7 ((aF_6s hk3).trans (if_neg hk4)) hnf (by decide) (by decide)⟩
            · refine j_aload_n X dX9_readRight_80 rfl ?_
              refine j_getR X 3 1 (by decide) (by decide) rfl u106 (o32 np) (k32 np) _ (p32_1 np) dX9_readRight_81 ?_
              refine j_iload_n X dX9_readRight_84 rfl ?_
              refine j_iload_n X dX9_readRight_85 rfl ?_
              refine j_nrm2 _ (by first | (simp only [fa_lit, pk_mul, nI_add]; done) | (simp only [fa_lit, pk_mul, nI_add]; rfl) | rfl) ?_
              refine j_iastN X (o34 np) (k34 np) (by rw [l34]; omega) (by rw [l34]; decide) dX9_readRight_86 ?_
              have hdn := jIsD_t c_77
              subst hdn
              have hA7 := cDA_w hA3 rfl (jeq.up jeq.rf (by decide)) (cSM_rt (k := k) hA3.2.2.1 hd4)
              refine j_aload_n X dX9_readRight_87 rfl ?_
              refine s_callVi X hR (c_expectStop np _ p2 z B hA7.1) rfl 9 (by decide) (o51 np) (k51 np) rfl u746 u743 u745 qp19 u7 hyX9_expectStop (by decide) (by decide) (Nat.le_of_ble_eq_true rfl) dX9_readRight_88 (fun v_88 m_88 h_88 => ?_)
              rcases h_88 with ⟨hk4, e1, hJ7, hS7, hT7⟩ | ⟨hk4, e1, e2⟩
              · subst e1
                refine s_iret X hE hr dX9_readRight_91 (by first | exact jb_nar | rfl) ?_
                exact Or.inl ⟨rfl, _, _, by have e1 := (tN_gt (B := B) (n := z) (p := p2) (by rw [hk4]; decide)).1; omega, cDA_st hA7 ((aF_6s hk3).trans (if_pos hk4)) hJ7 hS7 hT7⟩
              · subst e1
                subst e2
                refine s_iret X hE hr dX9_readRight_91 (by first | exact jb_nar | rfl) ?_
                exact Or.inr ⟨rfl, cDF_mk (code := 1) hA7 ((aF_6s hk3).trans (if_neg hk4)) hnf (by decide) (by decide)⟩
          · have hk3 : tK B z p2 = 3 := by
              have e := (cK_0 (x := 2) (by omega)).mp c_41
              omega
            refine j_aload_n X dX9_readRight_44 rfl ?_
            refine j_iconst X dX9_readRight_45 3 (by decide) ?_
            refine s_callVi X hR (c_expectNumber np _ p2 z 3 B hA3.1 (by omega)) rfl 9 (by decide) (o51 np) (k51 np) rfl u726 u723 u725 qp16 u7 hyX9_expectNumber (by decide) (by decide) (Nat.le_of_ble_eq_true rfl) dX9_readRight_46 (fun v_46 m_46 h_46 => ?_)
            refine j_if_ne X 54 dX9_readRight_49 (by decide) (fun c_49 => ?_) (fun c_49 => ?_)
            · obtain ⟨hb4, e4⟩ := cNq_ok h_46 c_49
              subst e4
              refine j_iload_n X dX9_readRight_54 rfl ?_
              refine j_iconst X dX9_readRight_55 1 (by decide) ?_
              refine j_aload_n X dX9_readRight_56 rfl ?_
              refine j_getF X 9 8 (by decide) (by decide) rfl u143 (o51 np) (k51 np) _ rfl dX9_readRight_57 ?_
              refine j_nrm (nI (tV B z p2)) (hA3.1.2.2.2.2.2.2 hb4.1) ?_
              refine j_ishl X dX9_readRight_60 ?_
              refine j_ior X dX9_readRight_61 ?_
              refine j_nrm (nI (k ||| 2 ^ tV B z p2)) (by have := hb4.2; rw [j1l (by omega), jorN]) ?_
              refine j_istore_n X dX9_readRight_62 (by decide) ?_
              refine j_aload_n X dX9_readRight_63 rfl ?_
              refine s_callVv X hR (c_advance np _ (tN B z p2) z B hA3.1.1 hA3.1.2.1 (tN_le hA3.1.2.2.1) hA3.1.2.2.2.1) rfl 9 (by decide) (o51 np) (k51 np) rfl u651 u648 u650 qp11 u7 hyX9_advance (by decide) (by decide) (Nat.le_of_ble_eq_true rfl) dX9_readRight_64 (fun m_64 h_64 => ?_)
              have hA6 := cDA_st hA3 (aF_6 hb4) h_64.1 h_64.2.1 h_64.2.2
              have hb5 := hb4.2
              have e1 := (tN_gt (B := B) (n := z) (p := p2) (by rw [hb4.1]; decide)).1
              have e2 : 2 ^ tV B z p2 < 2 ^ 4 := Nat.pow_lt_pow_right (by omega) (by omega)
              refine j_iinc X dX9_readRight_67 rfl 1 rfl ?_
              refine j_goto X 28 dX9_readRight_70 (by decide) ?_
              refine j_lv [some (.ref 51), some (.ref 32), some (.int (nI (tV B z (tN B z p)))), some (.int (nI (k ||| 2 ^ tV B z p2))), some (.int (nI (i + 1)))] ⟨rfl, rfl, rfl, rfl, (congrArg (fun z => some (Value.int z)) (nI_1 _)), trivial⟩ ?_
              exact ih28 (i + 1) (k ||| 2 ^ tV B z p2) _ S2 _ (by omega) (by omega) (Nat.or_lt_two_pow (n := 4) hk16 e2) hA6 (by omega)
            · obtain ⟨hb4, e4⟩ := cNq_no h_46 c_49
              subst e4
              refine j_iconst X dX9_readRight_52 0 (by decide) ?_
              refine s_iret X hE hr dX9_readRight_53 (by first | exact jb_nar | rfl) ?_
              exact Or.inr ⟨rfl, cDF_mk hA3 (aF_6n hk3 hb4) hnf (by rcases aNc_12 B z p2 with e | e <;> omega) (by rcases aNc_12 B z p2 with e | e <;> omega)⟩
    have hpp0 : p ≤ tN B z (tN B z p) := Nat.le_trans (Nat.le_trans tF_ge tN_ge) (Nat.le_trans tF_ge tN_ge)
    refine j_lv [some (.ref 51), some (.ref 32), some (.int (nI (tV B z (tN B z p)))), some (.int (nI 0)), some (.int (nI 0))] ⟨rfl, rfl, rfl, rfl, rfl, trivial⟩ ?_
    exact lp28 (z + 1) 0 0 _ _ _ (by omega) (by omega) (by omega) hA5 hpp0
  · obtain ⟨hb3, e3⟩ := cNq_no h_6 c_9
    subst e3
    refine j_iconst X dX9_readRight_12 0 (by decide) ?_
    refine s_iret X hE hr dX9_readRight_13 (by first | exact jb_nar | rfl) ?_
    exact Or.inr ⟨rfl, cDF_mk hA2 (aF_num (Or.inr (Or.inr rfl)) hb3) hnf (by rcases aNc_12 B z (tN B z p) with e | e <;> omega) (by rcases aNc_12 B z (tN B z p) with e | e <;> omega)⟩
set_option maxRecDepth 4000 in
set_option maxHeartbeats 1000000 in
theorem c_readTexts (np : Nat) (mem : jMem) (z : Nat) (B : Nat → Nat) (dn : Bool) (S : Nat → Nat) (h8 : cBy8 mem B z) (hz : mem 51 1 = nI z) (hD : mem 51 4 = jIsD dn) (hSM : cSM mem S) (hnf : dn = true → ∀ x, aR (aF B z dn) (0, 0, 0, 0, 0, 0, 0, S) x → x.1 ≠ 7) (hnp : np ≤ 12) : jPi yX9_readTexts cX9_readTexts 4 .int 9 [.ref 51, .ref 32] np mem (cTq B z dn S mem) := by
  refine jPi.of (own := RX9) rfl rfl (Nat.le_of_ble_eq_true rfl) (fun G X hR hr hE => ?_)
  refine j_aload_n X dX9_readTexts_0 rfl ?_
  refine j_iconst X dX9_readTexts_1 0 (by decide) ?_
  refine j_putI X 9 5 (by decide) (by decide) rfl rfl rfl rfl u140 (o51 np) (k51 np) dX9_readTexts_2 ?_
  refine j_aload_n X dX9_readTexts_5 rfl ?_
  refine s_callVv X hR (c_advance np _ 0 z B (cBy8_c h8 (jup_o (by decide))) ((jup_n (by decide)).trans hz) (Nat.zero_le _) (by rw [jup_s]; rfl)) rfl 9 (by decide) (o51 np) (k51 np) rfl u651 u648 u650 qp11 u7 hyX9_advance (by decide) (by decide) (Nat.le_of_ble_eq_true rfl) dX9_readTexts_6 (fun m_6 h_6 => ?_)
  have hA1 : cDA B z dn (0, 0, 0, 0, 0, 0, 0, S) mem 0 (0, 0, 0, 0, 0, 0, 0, S) S m_6 := ⟨⟨cBy8_c h8 (by rw [h_6.1 52 (by decide), jup_o (by decide)]), by rw [h_6.2.1 1 (by decide), jup_n (by decide)]; exact hz, Nat.zero_le _, h_6.2.2⟩, aR.rf, cSM_51 (cSM_51 hSM (jeq.up jeq.rf (by decide))) h_6.1, cFM.of ((jeq.up jeq.rf (by decide)).tr h_6.1) ((jso.up jso.rf (by decide)).tr h_6.2.1), fun _ => (jeq.up jeq.rf (by decide)).tr h_6.1⟩
  refine j_iconst X dX9_readTexts_9 0 (by decide) ?_
  refine j_istore_n X dX9_readTexts_10 (by decide) ?_
  have lp11 : ∀ (n : Nat) (c p : Nat) (S2 : Nat → Nat) (m2 : jMem), z + 1 ≤ p + n → c ≤ p → cDA B z dn (0, 0, 0, 0, 0, 0, 0, S) mem p (0, p, 0, 0, 0, 0, c, S2) S2 m2 → J G RX9 cX9_readTexts 4 0 0 11 (jlv [some (.ref 51), some (.ref 32), some (.int (nI c))]) [] (jS np) (m2) := by
    intro n
    induction n with
    | zero =>
      intro c p S2 m2 hfu hcp hA3
      exact absurd hfu (by have := hA3.1.2.2.1; omega)
    | succ n ih11 =>
      intro c p S2 m2 hfu hcp hA3
      refine j_aload_n X dX9_readTexts_11 rfl ?_
      refine j_getF X 9 7 (by decide) (by decide) rfl u142 (o51 np) (k51 np) (m2 51) rfl dX9_readTexts_12 ?_
      have hpz := hA3.1.2.2.1
      have h300 := hA3.1.1.1
      have hkl := tK_lt B z p
      refine j_nrm (nI ((tK B z p + 4) % 5)) hA3.1.2.2.2.2.2.1 ?_
      refine j_if_eq X 77 dX9_readTexts_15 (by decide) (fun c_15 => ?_) (fun c_15 => ?_)
      · have hk1 : tK B z p = 1 := by
          have e := (cK_0 (x := 0) (by omega)).mp c_15
          omega
        refine j_iload_n X dX9_readTexts_77 rfl ?_
        refine s_iret X hE hr dX9_readTexts_78 rfl ?_
        exact Or.inl ⟨p, c, S2, rfl, by omega, hA3, hk1⟩
      · have hk1 : ¬ tK B z p = 1 := fun e => c_15 (by rw [e]; decide)
        refine j_iload_n X dX9_readTexts_18 rfl ?_
        refine j_sipush X dX9_readTexts_19 300 (by decide) ?_
        refine j_icmp_gt X 77 dX9_readTexts_22 (by decide) (fun c_22 => ?_) (fun c_22 => ?_)
        · exfalso
          clear hE hr hR X hA3 h8
          (try simp only [lg_cmp_lt, lg_cmp_gt, lg_cmp_le, lg_cmp_ge] at *); (try simp (disch := omega) only [Int64.le_iff_toInt_le, Int64.lt_iff_toInt_lt, Int32.le_iff_toInt_le, Int32.lt_iff_toInt_lt, fa_eq, fa_lit, fa_litL, nI_toInt, pk_lT, Int32.toInt_toInt64, jadd64, jin, jnoneT] at *); omega
        · refine j_aload_n X dX9_readTexts_25 rfl ?_
          refine j_ldcS0 X dX9_readTexts_26 ?_
          refine s_callVi X hR (c_isWord0 np _ p z B hA3.1 hnp) rfl 9 (by decide) (o51 np) (k51 np) rfl u670 u667 u669 qp14 u7 hyX9_isWord (by decide) (by decide) (Nat.le_of_ble_eq_true rfl) dX9_readTexts_28 (fun v_28 m_28 h_28 => ?_)
          obtain ⟨e1, e2⟩ := h_28; have e1 := e1.symm; have e2 := e2.symm; subst e1; subst e2
          refine j_ifb_eq X 42 dX9_readTexts_31 (by decide) (fun c_31 => ?_) (fun c_31 => ?_)
          · refine j_aload_n X dX9_readTexts_42 rfl ?_
            refine j_ldcS1 X dX9_readTexts_43 ?_
            refine s_callVi X hR (c_isWord1 np _ p z B hA3.1 hnp) rfl 9 (by decide) (o51 np) (k51 np) rfl u670 u667 u669 qp14 u7 hyX9_isWord (by decide) (by decide) (Nat.le_of_ble_eq_true rfl) dX9_readTexts_45 (fun v_45 m_45 h_45 => ?_)
            obtain ⟨e1, e2⟩ := h_45; have e1 := e1.symm; have e2 := e2.symm; subst e1; subst e2
            refine j_ifb_eq X 59 dX9_readTexts_48 (by decide) (fun c_48 => ?_) (fun c_48 => ?_)
            · refine j_aload_n X dX9_readTexts_59 rfl ?_
              refine j_iconst X dX9_readTexts_60 1 (by decide) ?_
              refine s_callVi X hR (c_fail np _ 1) rfl 9 (by decide) (o51 np) (k51 np) rfl u730 u727 u729 qp17 u7 hyX9_fail (by decide) (by decide) (Nat.le_of_ble_eq_true rfl) dX9_readTexts_61 (fun v_61 m_61 h_61 => ?_)
              obtain ⟨e1, e2⟩ := h_61; have e1 := e1.symm; have e2 := e2.symm; rw [hA3.1.2.2.2.2.1] at e2; subst e1; subst e2
              refine j_istore_n X dX9_readTexts_64 (by decide) ?_
              refine j_iload_n X dX9_readTexts_65 rfl ?_
              refine j_if_ne X 71 dX9_readTexts_66 (by decide) (fun c_66 => absurd c_66 (by decide)) (fun c_66 => ?_)
              refine j_iconst X dX9_readTexts_69 (-1) (by decide) ?_
              refine s_iret X hE hr dX9_readTexts_70 rfl ?_
              exact Or.inr ⟨rfl, cDF_mk (code := 1) hA3 (aF_0n hk1 c_31 c_48) hnf (by decide) (by decide)⟩
            · refine j_aload_n X dX9_readTexts_51 rfl ?_
              refine j_aload_n X dX9_readTexts_52 rfl ?_
              refine s_callVi X hR (c_readRight np _ p z c B dn (0, 0, 0, 0, 0, 0, 0, S) mem S2 hA3 hD hnf hnp hk1 c_31 c_48) rfl 9 (by decide) (o51 np) (k51 np) rfl u751 u748 u750 qp20 u7 hyX9_readRight (by decide) (by decide) (Nat.le_of_ble_eq_true rfl) dX9_readTexts_53 (fun v_53 m_53 h_53 => ?_)
              refine j_goto X 64 dX9_readTexts_56 (by decide) ?_
              refine j_istore_n X dX9_readTexts_64 (by decide) ?_
              refine j_iload_n X dX9_readTexts_65 rfl ?_
              refine j_if_ne X 71 dX9_readTexts_66 (by decide) (fun c_66 => ?_) (fun c_66 => ?_)
              · obtain ⟨-, p3, S3, hp3, hA6⟩ := h_53.resolve_right (fun e => c_66 e.1)
                refine j_iinc X dX9_readTexts_71 rfl 1 rfl ?_
                refine j_goto X 11 dX9_readTexts_74 (by decide) ?_
                refine j_lv [some (.ref 51), some (.ref 32), some (.int (nI (c + 1)))] ⟨rfl, rfl, (congrArg (fun z => some (Value.int z)) (nI_1 _)), trivial⟩ ?_
                exact ih11 (c + 1) p3 S3 _ (by omega) (by omega) hA6
              · refine j_iconst X dX9_readTexts_69 (-1) (by decide) ?_
                refine s_iret X hE hr dX9_readTexts_70 rfl ?_
                exact Or.inr ⟨rfl, (h_53.resolve_left (fun e => absurd (e.1.symm.trans c_66) (by decide))).2⟩
          · refine j_aload_n X dX9_readTexts_34 rfl ?_
            refine j_aload_n X dX9_readTexts_35 rfl ?_
            refine s_callVi X hR (c_readDoor np _ p z c B dn (0, 0, 0, 0, 0, 0, 0, S) mem S2 hA3 hD hnf hnp hk1 c_31) rfl 9 (by decide) (o51 np) (k51 np) rfl u722 u719 u721 qp15 u7 hyX9_readDoor (by decide) (by decide) (Nat.le_of_ble_eq_true rfl) dX9_readTexts_36 (fun v_36 m_36 h_36 => ?_)
            refine j_goto X 64 dX9_readTexts_39 (by decide) ?_
            refine j_istore_n X dX9_readTexts_64 (by decide) ?_
            refine j_iload_n X dX9_readTexts_65 rfl ?_
            refine j_if_ne X 71 dX9_readTexts_66 (by decide) (fun c_66 => ?_) (fun c_66 => ?_)
            · obtain ⟨-, p3, S3, hp3, hA6⟩ := h_36.resolve_right (fun e => c_66 e.1)
              refine j_iinc X dX9_readTexts_71 rfl 1 rfl ?_
              refine j_goto X 11 dX9_readTexts_74 (by decide) ?_
              refine j_lv [some (.ref 51), some (.ref 32), some (.int (nI (c + 1)))] ⟨rfl, rfl, (congrArg (fun z => some (Value.int z)) (nI_1 _)), trivial⟩ ?_
              exact ih11 (c + 1) p3 S3 _ (by omega) (by omega) hA6
            · refine j_iconst X dX9_readTexts_69 (-1) (by decide) ?_
              refine s_iret X hE hr dX9_readTexts_70 rfl ?_
              exact Or.inr ⟨rfl, (h_36.resolve_left (fun e => absurd (e.1.symm.trans c_66) (by decide))).2⟩
  refine j_lv [some (.ref 51), some (.ref 32), some (.int (nI 0))] ⟨rfl, rfl, rfl, trivial⟩ ?_
  exact lp11 (z + 1) 0 0 S _ (by omega) (by omega) hA1
set_option maxRecDepth 4000 in
set_option maxHeartbeats 1000000 in
theorem c_readAll (np : Nat) (mem : jMem) (z : Nat) (B S : Nat → Nat) (h8 : cBy8 mem B z) (ht : mem 51 1 = nI z) (hSM : cSM mem S) (hnp : np ≤ 12) : jPi yX9_readAll cX9_readAll 3 .int 10 [.ref 51, .ref 32] np mem (jDoC B z S mem) := by
  refine jPi.of (own := RX9) rfl rfl (Nat.le_of_ble_eq_true rfl) (fun G X hR hr hE => ?_)
  refine j_aload_n X dX9_readAll_0 rfl ?_
  refine j_iconst X dX9_readAll_1 0 (by decide) ?_
  refine j_putI X 9 4 (by decide) (by decide) rfl rfl rfl rfl u139 (o51 np) (k51 np) dX9_readAll_2 ?_
  refine j_aload_n X dX9_readAll_5 rfl ?_
  refine j_aload_n X dX9_readAll_6 rfl ?_
  refine s_callVi X hR (c_readTexts np _ z B false S (cBy8_c h8 (jup_o (by decide))) ((jup_n (by decide)).trans ht) (by rw [jup_s]; rfl) (cSM_51 hSM (jeq.up jeq.rf (by decide))) (fun e => absurd e (by decide)) hnp) rfl 9 (by decide) (o51 np) (k51 np) rfl u647 u644 u646 qp10 u7 hyX9_readTexts (by decide) (by decide) (Nat.le_of_ble_eq_true rfl) dX9_readAll_7 (fun v_7 m_7 h_7 => ?_)
  refine j_istore_n X dX9_readAll_10 (by decide) ?_
  refine j_iload_n X dX9_readAll_11 rfl ?_
  refine j_if_lt X 26 dX9_readAll_12 (by decide) (fun c_12 => ?_) (fun c_12 => ?_)
  · obtain ⟨e1, code, plc, h1, h3, hc, hp, hpl, hR1, -, hJ1, hS1⟩ := h_7.resolve_left (fun ⟨p, c, S2, e, h3, _⟩ => by rw [e] at c_12; exact nI_pos (by omega) c_12)
    subst e1
    refine j_aload_n X dX9_readAll_26 rfl ?_
    refine j_iconst X dX9_readAll_27 0 (by decide) ?_
    refine j_putI X 9 1 (by decide) (by decide) rfl rfl rfl rfl u134 (o51 np) (k51 np) dX9_readAll_28 ?_
    refine j_iload_n X dX9_readAll_31 rfl ?_
    refine j_if_lt X 39 dX9_readAll_32 (by decide) (fun c_32 => ?_) (fun c_32 => ?_)
    · refine j_ldc X dX9_readAll_39 u752 ?_
      refine j_aload_n X dX9_readAll_41 rfl ?_
      refine j_getF X 9 3 (by decide) (by decide) rfl u138 (o51 np) (k51 np) _ rfl dX9_readAll_42 ?_
      refine j_nrm (nI plc) ((jup_n (by decide)).trans hp) ?_
      refine j_isub X dX9_readAll_45 ?_
      refine s_iret X hE hr dX9_readAll_46 rfl ?_
      refine ⟨(jso.up (o := 51) (k := 4) (x := 0) jso.rf (by decide)).tr (jso.up (hS1.mo (by simp)) (by decide)), jup_s, Or.inl ⟨code, plc, ⟨h1, h3, hpl, hR1⟩, rfl, (jup_n (by decide)).trans hc, (jeq.up (o := 51) jeq.rf (by decide)).tr (jeq.up hJ1 (by decide))⟩⟩
    · exact absurd c_12 c_32
  · obtain ⟨p, c, S2, e1, hc3, hA2, hk1⟩ := h_7.resolve_right (fun e => c_12 (by rw [e.1]; decide))
    subst e1
    have hnf := aR_nf hA2.2.1 hk1
    refine j_aload_n X dX9_readAll_15 rfl ?_
    refine j_iconst X dX9_readAll_16 1 (by decide) ?_
    refine j_putI X 9 4 (by decide) (by decide) rfl rfl rfl rfl u139 (o51 np) (k51 np) dX9_readAll_17 ?_
    refine j_aload_n X dX9_readAll_20 rfl ?_
    refine j_aload_n X dX9_readAll_21 rfl ?_
    refine s_callVi X hR (c_readTexts np _ z B true S (cBy8_c hA2.1.1 (jup_o (by decide))) ((jup_n (by decide)).trans hA2.1.2.1) (by rw [jup_s]; rfl) (cSM_51 (cSM_51 (cSM_51 hSM (jeq.up jeq.rf (by decide))) (hA2.2.2.2.2 rfl)) (jeq.up jeq.rf (by decide))) (fun _ => hnf) hnp) rfl 9 (by decide) (o51 np) (k51 np) rfl u647 u644 u646 qp10 u7 hyX9_readTexts (by decide) (by decide) (Nat.le_of_ble_eq_true rfl) dX9_readAll_22 (fun v_22 m_22 h_22 => ?_)
    refine j_pop X dX9_readAll_25 rfl ?_
    obtain ⟨p4, c4, S4, e4, hc4, hA4, hk4⟩ := h_22.resolve_right (fun e => by obtain ⟨_, _, _, _, _, _, _, _, e9, _⟩ := e.2; exact absurd e9 (by decide))
    refine j_aload_n X dX9_readAll_26 rfl ?_
    refine j_iconst X dX9_readAll_27 0 (by decide) ?_
    refine j_putI X 9 1 (by decide) (by decide) rfl rfl rfl rfl u134 (o51 np) (k51 np) dX9_readAll_28 ?_
    refine j_iload_n X dX9_readAll_31 rfl ?_
    refine j_if_lt X 39 dX9_readAll_32 (by decide) (fun c_32 => ?_) (fun c_32 => ?_)
    · exact absurd c_32 (nI_pos (by omega))
    · refine j_iload_n X dX9_readAll_35 rfl ?_
      refine j_goto X 46 dX9_readAll_36 (by decide) ?_
      refine s_iret X hE hr dX9_readAll_46 rfl ?_
      have f2 : jso [1, 2, 3, 4, 5, 6, 7, 8] (mem 51) (m_7 51) := (jso.up (o := 51) (k := 4) (x := 0) jso.rf (by decide)).tr (hA2.2.2.2.1.2.mo (by simp))
      have f4 : jso [1, 2, 3, 4, 5, 6, 7, 8] (m_7 51) (m_22 51) := (jso.up (o := 51) (k := 4) (x := 1) jso.rf (by decide)).tr (hA4.2.2.2.1.2.mo (by simp))
      have g2 : m_22 51 2 = mem 51 2 := by rw [hA4.2.2.2.1.2 2 (by decide), jup_n (by decide), hA2.2.2.2.1.2 2 (by decide), jup_n (by decide)]
      have hcc : c = c4 := by
        obtain ⟨t4, ht4⟩ := hA4.2.1
        have h9 := aR_er (S0 := S) t4 _ ht4
        rw [aE_n (by decide), aE_n (by decide)] at h9
        have h8 := aR_u hA2.2.1 (aF_0e hk1) h9 (aF_0e hk4)
        cases h8
        rfl
      subst hcc
      refine ⟨jso.up (f2.tr f4) (by decide), jup_s, Or.inr ⟨c, S4, ⟨hc4, ⟨p4, hA4.2.1, hk4⟩, ⟨p, c, S2, hA2.2.1, hk1⟩⟩, rfl, (jup_n (by decide)).trans g2, cSM_51 hA4.2.2.1 (jeq.up jeq.rf (by decide)), ?_⟩⟩
      exact jeq.up (((jeq.up (o := 51) (k := 4) jeq.rf (by decide)).tr hA2.2.2.2.1.1).tr ((jeq.up (o := 51) (k := 4) jeq.rf (by decide)).tr hA4.2.2.2.1.1)) (by decide)
set_option maxRecDepth 4000 in
set_option maxHeartbeats 1000000 in
theorem c_doors (np : Nat) (mem : jMem) (z : Nat) (B S : Nat → Nat) (h8 : cBy8 mem B z) (ht : mem 51 1 = nI z) (hSM : cSM mem S) (hnp : np ≤ 12) : jPi yX10_doors cX10_doors 1 .int 11 [.ref 0] np mem (jDoC B z S mem) := by
  refine jPi.of (own := RX10) rfl rfl (Nat.le_of_ble_eq_true rfl) (fun G X hR hr hE => ?_)
  refine j_aload_n X dX10_doors_0 rfl ?_
  refine j_getR X 10 6 (by decide) (by decide) rfl u244 (o0 np) (k0 np) _ (p0_6 np) dX10_doors_1 ?_
  refine j_aload_n X dX10_doors_4 rfl ?_
  refine j_getR X 10 5 (by decide) (by decide) rfl u243 (o0 np) (k0 np) _ (p0_5 np) dX10_doors_5 ?_
  refine s_callVi X hR (c_readAll np _ z B S h8 ht hSM hnp) rfl 9 (by decide) (o51 np) (k51 np) rfl u643 u640 u641 u642 u7 hyX9_readAll (by decide) (by decide) (Nat.le_of_ble_eq_true rfl) dX10_doors_8 (fun v_8 m_8 h_8 => ?_)
  refine s_iret X hE hr dX10_doors_11 rfl ?_
  exact h_8
