set_option maxRecDepth 4000 in
set_option maxHeartbeats 1000000 in
theorem m_byteAt (np : Nat) (mem : jMem) (r n : Nat) (B : Nat → Nat) (hn : mem 66 24 = nI n) (h8 : jBy8 mem B n) (hr1 : r ≤ n) : jPi yX11_byteAt cX11_byteAt 2 .int 1 [.ref 66, .int (nI r)] np mem (fun v c => v = jBa B n r ∧ c = mem) := by
  refine jPi.of (own := RX11) rfl rfl (Nat.le_of_ble_eq_true rfl) (fun G X hR hr hE => ?_)
  have h300 := h8.1
  refine j_iload_n X dX11_byteAt_0 rfl ?_
  refine j_aload_n X dX11_byteAt_1 rfl ?_
  refine j_getF X 11 24 (by decide) (by decide) rfl u974 (o66 np) (k66 np) (mem 66) rfl dX11_byteAt_2 ?_
  refine j_nrm (nI n) hn ?_
  refine j_icmp_ge X 17 dX11_byteAt_5 (by decide) (fun c_5 => ?_) (fun c_5 => ?_)
  · refine j_ldc X dX11_byteAt_17 u949 ?_
    refine s_iret X hE hr dX11_byteAt_19 rfl ?_
    refine ⟨?_, rfl⟩
    unfold jBa
    first | exact (if_pos hrn).symm | exact (if_neg (by clear hE hr hR X h8; (try simp only [lg_cmp_lt, lg_cmp_gt, lg_cmp_le, lg_cmp_ge] at *); (try simp (disch := omega) only [Int64.le_iff_toInt_le, Int64.lt_iff_toInt_lt, Int32.le_iff_toInt_le, Int32.lt_iff_toInt_lt, fa_eq, fa_lit, fa_litL, nI_toInt, pk_lT, Int32.toInt_toInt64, jadd64, jin, jnoneT] at *); omega)).symm
  · have hrn : r < n := by clear hE hr hR X h8; (try simp only [lg_cmp_lt, lg_cmp_gt, lg_cmp_le, lg_cmp_ge] at *); (try simp (disch := omega) only [Int64.le_iff_toInt_le, Int64.lt_iff_toInt_lt, Int32.le_iff_toInt_le, Int32.lt_iff_toInt_lt, fa_eq, fa_lit, fa_litL, nI_toInt, pk_lT, Int32.toInt_toInt64, jadd64, jin, jnoneT] at *); omega
    refine j_aload_n X dX11_byteAt_8 rfl ?_
    refine j_getR X 11 21 (by decide) (by decide) rfl u971 (o66 np) (k66 np) _ (p66_21 np) dX11_byteAt_9 ?_
    refine j_iload_n X dX11_byteAt_12 rfl ?_
    refine j_nrm _ (by first | (simp only [fa_lit, pk_mul, nI_add]; done) | (simp only [fa_lit, pk_mul, nI_add]; rfl) | rfl) ?_
    refine j_ialdN X (o85 np) (k85 np) (by rw [l85]; omega) (by rw [l85]; decide) (mem 85) rfl dX11_byteAt_13 ?_
    refine j_nrm (nI (B r)) (h8.2 r hrn).1 ?_
    refine j_goto X 19 dX11_byteAt_14 (by decide) ?_
    refine s_iret X hE hr dX11_byteAt_19 rfl ?_
    refine ⟨?_, rfl⟩
    unfold jBa
    first | exact (if_pos hrn).symm | exact (if_neg (by clear hE hr hR X h8; (try simp only [lg_cmp_lt, lg_cmp_gt, lg_cmp_le, lg_cmp_ge] at *); (try simp (disch := omega) only [Int64.le_iff_toInt_le, Int64.lt_iff_toInt_lt, Int32.le_iff_toInt_le, Int32.lt_iff_toInt_lt, fa_eq, fa_lit, fa_litL, nI_toInt, pk_lT, Int32.toInt_toInt64, jadd64, jin, jnoneT] at *); omega)).symm
set_option maxRecDepth 4000 in
set_option maxHeartbeats 1000000 in
theorem m_isLetter (np : Nat) (mem : jMem) (x : Int32)  : jPi yX11_isLetter cX11_isLetter 1 .boolean 1 [.int x] np mem (fun v c => v = jb (jin x 97 122) ∧ c = mem) := by
  refine jPi.of (own := RX11) rfl rfl (Nat.le_of_ble_eq_true rfl) (fun G X hR hr hE => ?_)
  refine j_iload_n X dX11_isLetter_0 rfl ?_
  refine j_bipush X dX11_isLetter_1 97 (by decide) ?_
  refine j_icmp_lt X 16 dX11_isLetter_3 (by decide) (fun c_3 => ?_) (fun c_3 => ?_)
  · refine j_iconst X dX11_isLetter_16 0 (by decide) ?_
    refine s_iret X hE hr dX11_isLetter_17 (by first | exact jb_nar | rfl) ?_
    refine ⟨?_, rfl⟩
    clear hE hr hR X
    first | exact (jb_t (by (try simp only [lg_cmp_lt, lg_cmp_gt, lg_cmp_le, lg_cmp_ge] at *); (try simp (disch := omega) only [Int64.le_iff_toInt_le, Int64.lt_iff_toInt_lt, Int32.le_iff_toInt_le, Int32.lt_iff_toInt_lt, fa_eq, fa_lit, fa_litL, nI_toInt, pk_lT, Int32.toInt_toInt64, jadd64, jin, jnoneT] at *); omega)).symm | exact (jb_f (by (try simp only [lg_cmp_lt, lg_cmp_gt, lg_cmp_le, lg_cmp_ge] at *); (try simp (disch := omega) only [Int64.le_iff_toInt_le, Int64.lt_iff_toInt_lt, Int32.le_iff_toInt_le, Int32.lt_iff_toInt_lt, fa_eq, fa_lit, fa_litL, nI_toInt, pk_lT, Int32.toInt_toInt64, jadd64, jin, jnoneT] at *); omega)).symm
  · refine j_iload_n X dX11_isLetter_6 rfl ?_
    refine j_bipush X dX11_isLetter_7 122 (by decide) ?_
    refine j_icmp_gt X 16 dX11_isLetter_9 (by decide) (fun c_9 => ?_) (fun c_9 => ?_)
    · refine j_iconst X dX11_isLetter_16 0 (by decide) ?_
      refine s_iret X hE hr dX11_isLetter_17 (by first | exact jb_nar | rfl) ?_
      refine ⟨?_, rfl⟩
      clear hE hr hR X
      first | exact (jb_t (by (try simp only [lg_cmp_lt, lg_cmp_gt, lg_cmp_le, lg_cmp_ge] at *); (try simp (disch := omega) only [Int64.le_iff_toInt_le, Int64.lt_iff_toInt_lt, Int32.le_iff_toInt_le, Int32.lt_iff_toInt_lt, fa_eq, fa_lit, fa_litL, nI_toInt, pk_lT, Int32.toInt_toInt64, jadd64, jin, jnoneT] at *); omega)).symm | exact (jb_f (by (try simp only [lg_cmp_lt, lg_cmp_gt, lg_cmp_le, lg_cmp_ge] at *); (try simp (disch := omega) only [Int64.le_iff_toInt_le, Int64.lt_iff_toInt_lt, Int32.le_iff_toInt_le, Int32.lt_iff_toInt_lt, fa_eq, fa_lit, fa_litL, nI_toInt, pk_lT, Int32.toInt_toInt64, jadd64, jin, jnoneT] at *); omega)).symm
    · refine j_iconst X dX11_isLetter_12 1 (by decide) ?_
      refine j_goto X 17 dX11_isLetter_13 (by decide) ?_
      refine s_iret X hE hr dX11_isLetter_17 (by first | exact jb_nar | rfl) ?_
      refine ⟨?_, rfl⟩
      clear hE hr hR X
      first | exact (jb_t (by (try simp only [lg_cmp_lt, lg_cmp_gt, lg_cmp_le, lg_cmp_ge] at *); (try simp (disch := omega) only [Int64.le_iff_toInt_le, Int64.lt_iff_toInt_lt, Int32.le_iff_toInt_le, Int32.lt_iff_toInt_lt, fa_eq, fa_lit, fa_litL, nI_toInt, pk_lT, Int32.toInt_toInt64, jadd64, jin, jnoneT] at *); omega)).symm | exact (jb_f (by (try simp only [lg_cmp_lt, lg_cmp_gt, lg_cmp_le, lg_cmp_ge] at *); (try simp (disch := omega) only [Int64.le_iff_toInt_le, Int64.lt_iff_toInt_lt, Int32.le_iff_toInt_le, Int32.lt_iff_toInt_lt, fa_eq, fa_lit, fa_litL, nI_toInt, pk_lT, Int32.toInt_toInt64, jadd64, jin, jnoneT] at *); omega)).symm
set_option maxRecDepth 4000 in
set_option maxHeartbeats 1000000 in
theorem m_isFigure (np : Nat) (mem : jMem) (x : Int32)  : jPi yX11_isFigure cX11_isFigure 1 .boolean 1 [.int x] np mem (fun v c => v = jb (jin x 48 57) ∧ c = mem) := by
  refine jPi.of (own := RX11) rfl rfl (Nat.le_of_ble_eq_true rfl) (fun G X hR hr hE => ?_)
  refine j_iload_n X dX11_isFigure_0 rfl ?_
  refine j_bipush X dX11_isFigure_1 48 (by decide) ?_
  refine j_icmp_lt X 16 dX11_isFigure_3 (by decide) (fun c_3 => ?_) (fun c_3 => ?_)
  · refine j_iconst X dX11_isFigure_16 0 (by decide) ?_
    refine s_iret X hE hr dX11_isFigure_17 (by first | exact jb_nar | rfl) ?_
    refine ⟨?_, rfl⟩
    clear hE hr hR X
    first | exact (jb_t (by (try simp only [lg_cmp_lt, lg_cmp_gt, lg_cmp_le, lg_cmp_ge] at *); (try simp (disch := omega) only [Int64.le_iff_toInt_le, Int64.lt_iff_toInt_lt, Int32.le_iff_toInt_le, Int32.lt_iff_toInt_lt, fa_eq, fa_lit, fa_litL, nI_toInt, pk_lT, Int32.toInt_toInt64, jadd64, jin, jnoneT] at *); omega)).symm | exact (jb_f (by (try simp only [lg_cmp_lt, lg_cmp_gt, lg_cmp_le, lg_cmp_ge] at *); (try simp (disch := omega) only [Int64.le_iff_toInt_le, Int64.lt_iff_toInt_lt, Int32.le_iff_toInt_le, Int32.lt_iff_toInt_lt, fa_eq, fa_lit, fa_litL, nI_toInt, pk_lT, Int32.toInt_toInt64, jadd64, jin, jnoneT] at *); omega)).symm
  · refine j_iload_n X dX11_isFigure_6 rfl ?_
    refine j_bipush X dX11_isFigure_7 57 (by decide) ?_
    refine j_icmp_gt X 16 dX11_isFigure_9 (by decide) (fun c_9 => ?_) (fun c_9 => ?_)
    · refine j_iconst X dX11_isFigure_16 0 (by decide) ?_
      refine s_iret X hE hr dX11_isFigure_17 (by first | exact jb_nar | rfl) ?_
      refine ⟨?_, rfl⟩
      clear hE hr hR X
      first | exact (jb_t (by (try simp only [lg_cmp_lt, lg_cmp_gt, lg_cmp_le, lg_cmp_ge] at *); (try simp (disch := omega) only [Int64.le_iff_toInt_le, Int64.lt_iff_toInt_lt, Int32.le_iff_toInt_le, Int32.lt_iff_toInt_lt, fa_eq, fa_lit, fa_litL, nI_toInt, pk_lT, Int32.toInt_toInt64, jadd64, jin, jnoneT] at *); omega)).symm | exact (jb_f (by (try simp only [lg_cmp_lt, lg_cmp_gt, lg_cmp_le, lg_cmp_ge] at *); (try simp (disch := omega) only [Int64.le_iff_toInt_le, Int64.lt_iff_toInt_lt, Int32.le_iff_toInt_le, Int32.lt_iff_toInt_lt, fa_eq, fa_lit, fa_litL, nI_toInt, pk_lT, Int32.toInt_toInt64, jadd64, jin, jnoneT] at *); omega)).symm
    · refine j_iconst X dX11_isFigure_12 1 (by decide) ?_
      refine j_goto X 17 dX11_isFigure_13 (by decide) ?_
      refine s_iret X hE hr dX11_isFigure_17 (by first | exact jb_nar | rfl) ?_
      refine ⟨?_, rfl⟩
      clear hE hr hR X
      first | exact (jb_t (by (try simp only [lg_cmp_lt, lg_cmp_gt, lg_cmp_le, lg_cmp_ge] at *); (try simp (disch := omega) only [Int64.le_iff_toInt_le, Int64.lt_iff_toInt_lt, Int32.le_iff_toInt_le, Int32.lt_iff_toInt_lt, fa_eq, fa_lit, fa_litL, nI_toInt, pk_lT, Int32.toInt_toInt64, jadd64, jin, jnoneT] at *); omega)).symm | exact (jb_f (by (try simp only [lg_cmp_lt, lg_cmp_gt, lg_cmp_le, lg_cmp_ge] at *); (try simp (disch := omega) only [Int64.le_iff_toInt_le, Int64.lt_iff_toInt_lt, Int32.le_iff_toInt_le, Int32.lt_iff_toInt_lt, fa_eq, fa_lit, fa_litL, nI_toInt, pk_lT, Int32.toInt_toInt64, jadd64, jin, jnoneT] at *); omega)).symm
set_option maxRecDepth 4000 in
set_option maxHeartbeats 1000000 in
theorem m_step (np : Nat) (mem : jMem) (p z : Nat) (B : Nat → Nat) (h8 : jBy8 mem B z) (hz : mem 66 24 = nI z) (hp : p ≤ z) (hcu : mem 66 25 = nI p) : jPv yX11_step cX11_step 2 2 [.ref 66] np mem (fun c => jeq [66] mem c ∧ jso [25, 26, 27, 28] (mem 66) (c 66) ∧ jTm B z p (c 66)) := by
  refine jPv.of (own := RX11) rfl rfl (Nat.le_of_ble_eq_true rfl) (fun G X hR hr hE => ?_)
  have lp0 : ∀ (n : Nat) (r : Nat) (m2 : jMem), z + 1 ≤ r + n → jeq [66] mem m2 → jso [25, 26, 27, 28] (mem 66) (m2 66) → m2 66 25 = nI r → r ≤ z → tR tB B z r = tF B z p → J G RX11 cX11_step 2 0 0 0 (jlv [some (.ref 66)]) [] (jS np) (m2) := by
    intro n
    induction n with
    | zero =>
      intro r m2 hfu hJ hS hc hrz hrun
      exact absurd hfu (by omega)
    | succ n ih0 =>
      intro r m2 hfu hJ hS hc hrz hrun
      have h300 := h8.1
      have hB : ∀ i, i < z → B i < 256 := fun i hi => (h8.2 i hi).2
      refine j_aload_n X dX11_step_0 rfl ?_
      refine j_aload_n X dX11_step_1 rfl ?_
      refine j_getF X 11 25 (by decide) (by decide) rfl u975 (o66 np) (k66 np) (m2 66) rfl dX11_step_2 ?_
      refine j_nrm (nI r) hc ?_
      refine s_callVi X hR (m_byteAt np _ r z B ((hS 24 (by decide)).trans hz) ⟨h300, fun i hi => by rw [hJ 85 (by decide)]; exact h8.2 i hi⟩ (by omega)) rfl 11 (by decide) (o66 np) (k66 np) rfl u1306 u1303 u1305 qp52 u12 hyX11_byteAt (by decide) (by decide) (Nat.le_of_ble_eq_true rfl) dX11_step_5 (fun v_5 m_5 h_5 => ?_)
      obtain ⟨e1, e2⟩ := h_5; have e1 := e1.symm; have e2 := e2.symm; subst e1; subst e2
      refine j_bipush X dX11_step_8 32 (by decide) ?_
      refine j_icmp_eq X 26 dX11_step_10 (by decide) (fun c_10 => ?_) (fun c_10 => ?_)
      · have hrb : r < z ∧ tB (B r) = true := ⟨((jBa_e (x := 32) hB (by omega)).mp c_10).1, decide_eq_true (Or.inl ((jBa_e (x := 32) hB (by omega)).mp c_10).2)⟩
        refine j_aload_n X dX11_step_26 rfl ?_
        refine j_dup X dX11_step_27 rfl ?_
        refine j_getF X 11 25 (by decide) (by decide) rfl u975 (o66 np) (k66 np) (m2 66) rfl dX11_step_28 ?_
        refine j_nrm (nI r) hc ?_
        refine j_iconst X dX11_step_31 1 (by decide) ?_
        refine j_iadd X dX11_step_32 ?_
        refine j_nrm (nI (r + 1)) (nI_1 r) ?_
        refine j_putI X 11 25 (by decide) (by decide) rfl rfl rfl rfl u975 (o66 np) (k66 np) dX11_step_33 ?_
        refine j_goto X 0 dX11_step_36 (by decide) ?_
        refine j_lv [some (.ref 66)] ⟨rfl, trivial⟩ ?_
        exact ih0 (r + 1) _ (by omega) (jeq.up hJ (by decide)) (jso.up hS (by decide)) jup_s (by omega) ((tR_go hrb.1 hrb.2).symm.trans hrun)
      · refine j_aload_n X dX11_step_13 rfl ?_
        refine j_aload_n X dX11_step_14 rfl ?_
        refine j_getF X 11 25 (by decide) (by decide) rfl u975 (o66 np) (k66 np) (m2 66) rfl dX11_step_15 ?_
        refine j_nrm (nI r) hc ?_
        refine s_callVi X hR (m_byteAt np _ r z B ((hS 24 (by decide)).trans hz) ⟨h300, fun i hi => by rw [hJ 85 (by decide)]; exact h8.2 i hi⟩ (by omega)) rfl 11 (by decide) (o66 np) (k66 np) rfl u1306 u1303 u1305 qp52 u12 hyX11_byteAt (by decide) (by decide) (Nat.le_of_ble_eq_true rfl) dX11_step_18 (fun v_18 m_18 h_18 => ?_)
        obtain ⟨e1, e2⟩ := h_18; have e1 := e1.symm; have e2 := e2.symm; subst e1; subst e2
        refine j_bipush X dX11_step_21 10 (by decide) ?_
        refine j_icmp_ne X 39 dX11_step_23 (by decide) (fun c_23 => ?_) (fun c_23 => ?_)
        · have hrf : tF B z p = r := by
            rw [← hrun]
            refine tR_stop (fun y => ?_)
            rcases of_decide_eq_true y.2 with x | x
            · exact c_10 ((jBa_e (x := 32) hB (by omega)).mpr ⟨y.1, x⟩)
            · exact c_23 ((jBa_e (x := 10) hB (by omega)).mpr ⟨y.1, x⟩)
          refine j_aload_n X dX11_step_39 rfl ?_
          refine j_aload_n X dX11_step_40 rfl ?_
          refine j_getF X 11 25 (by decide) (by decide) rfl u975 (o66 np) (k66 np) (m2 66) rfl dX11_step_41 ?_
          refine j_nrm (nI r) hc ?_
          refine j_putI X 11 27 (by decide) (by decide) rfl rfl rfl rfl u977 (o66 np) (k66 np) dX11_step_44 ?_
          refine j_aload_n X dX11_step_47 rfl ?_
          refine j_aload_n X dX11_step_48 rfl ?_
          refine j_getF X 11 25 (by decide) (by decide) rfl u975 (o66 np) (k66 np) _ rfl dX11_step_49 ?_
          refine j_nrm (nI r) (by rw [jup_n (by decide)]; exact hc) ?_
          refine s_callVi X hR (m_byteAt np _ r z B ((jup_n (by decide)).trans ((hS 24 (by decide)).trans hz)) ⟨h300, fun i hi => by rw [jup_o (by decide), hJ 85 (by decide)]; exact h8.2 i hi⟩ (by omega)) rfl 11 (by decide) (o66 np) (k66 np) rfl u1306 u1303 u1305 qp52 u12 hyX11_byteAt (by decide) (by decide) (Nat.le_of_ble_eq_true rfl) dX11_step_52 (fun v_52 m_52 h_52 => ?_)
          obtain ⟨e1, e2⟩ := h_52; have e1 := e1.symm; have e2 := e2.symm; subst e1; subst e2
          refine j_istore_n X dX11_step_55 (by decide) ?_
          refine j_iload_n X dX11_step_56 rfl ?_
          refine j_ldc X dX11_step_57 u949 ?_
          refine j_icmp_ne X 70 dX11_step_59 (by decide) (fun c_59 => ?_) (fun c_59 => ?_)
          · have hin2 : r < z := by
              rcases Nat.lt_or_ge r z with y | y
              · exact y
              · exact absurd (if_neg (by omega)) c_59
            have hin : ¬ z ≤ tF B z p := by rw [hrf]; omega
            refine j_iload_n X dX11_step_70 rfl ?_
            refine s_callSi X hR (m_isLetter np _ _) rfl u1309 u1307 u1308 u12 hyX11_isLetter (by decide) (by decide) (Nat.le_of_ble_eq_true rfl) dX11_step_71 (fun v_71 m_71 h_71 => ?_)
            obtain ⟨e1, e2⟩ := h_71; have e1 := e1.symm; have e2 := e2.symm; subst e1; subst e2
            refine j_ifb_eq X 112 dX11_step_74 (by decide) (fun c_74 => ?_) (fun c_74 => ?_)
            · have hnl2 : ¬ tL (B (tF B z p)) = true := by
                rw [hrf]
                intro y
                exact c_74 ((jBa_in (a := 97) (b := 122) hB).mpr ⟨hin2, of_decide_eq_true y⟩)
              refine j_iload_n X dX11_step_112 rfl ?_
              refine s_callSi X hR (m_isFigure np _ _) rfl u1312 u1310 u1311 u12 hyX11_isFigure (by decide) (by decide) (Nat.le_of_ble_eq_true rfl) dX11_step_113 (fun v_113 m_113 h_113 => ?_)
              obtain ⟨e1, e2⟩ := h_113; have e1 := e1.symm; have e2 := e2.symm; subst e1; subst e2
              refine j_ifb_eq X 171 dX11_step_116 (by decide) (fun c_116 => ?_) (fun c_116 => ?_)
              · have hng2 : ¬ tG (B (tF B z p)) = true := by
                  rw [hrf]
                  intro y
                  exact c_116 ((jBa_in (a := 48) (b := 57) hB).mpr ⟨hin2, of_decide_eq_true y⟩)
                have hng3 : tN B z p = r + 1 := by
                  unfold tN
                  rw [if_neg hin, if_neg hnl2, if_neg hng2, hrf]
                refine j_aload_n X dX11_step_171 rfl ?_
                refine j_dup X dX11_step_172 rfl ?_
                refine j_getF X 11 25 (by decide) (by decide) rfl u975 (o66 np) (k66 np) _ rfl dX11_step_173 ?_
                refine j_nrm (nI r) (by rw [jup_n (by decide)]; exact hc) ?_
                refine j_iconst X dX11_step_176 1 (by decide) ?_
                refine j_iadd X dX11_step_177 ?_
                refine j_nrm (nI (r + 1)) (nI_1 r) ?_
                refine j_putI X 11 25 (by decide) (by decide) rfl rfl rfl rfl u975 (o66 np) (k66 np) dX11_step_178 ?_
                refine j_aload_n X dX11_step_181 rfl ?_
                refine j_iload_n X dX11_step_182 rfl ?_
                refine j_bipush X dX11_step_183 59 (by decide) ?_
                refine j_icmp_ne X 192 dX11_step_185 (by decide) (fun c_185 => ?_) (fun c_185 => ?_)
                · have hk4 : tK B z p = 0 := by
                    unfold tK
                    rw [if_neg hin, if_neg hnl2, if_neg hng2, hrf, if_neg (fun y => c_185 ((jBa_e (x := 59) hB (by omega)).mpr ⟨hin2, y⟩))]
                  refine j_iconst X dX11_step_192 0 (by decide) ?_
                  refine j_putI X 11 26 (by decide) (by decide) rfl rfl rfl rfl u976 (o66 np) (k66 np) dX11_step_193 ?_
                  refine j_aload_n X dX11_step_196 rfl ?_
                  refine j_aload_n X dX11_step_197 rfl ?_
                  refine j_getF X 11 25 (by decide) (by decide) rfl u975 (o66 np) (k66 np) _ rfl dX11_step_198 ?_
                  refine j_nrm (nI (r + 1)) (by rw [jup_n (by decide), jup_s]) ?_
                  refine j_putI X 11 28 (by decide) (by decide) rfl rfl rfl rfl u978 (o66 np) (k66 np) dX11_step_201 ?_
                  refine s_vret X hE hr dX11_step_204 ?_
                  refine ⟨jeq.up (jeq.up (jeq.up (jeq.up hJ (by decide)) (by decide)) (by decide)) (by decide), jso.up (jso.up (jso.up (jso.up hS (by decide)) (by decide)) (by decide)) (by decide), ?_, ?_, ?_, ?_⟩
                  · rw [hng3]; simp [jup, va_up]; try rfl
                  · rw [hk4]; simp [jup, va_up]; try rfl
                  · rw [hrf]; simp [jup, va_up]; try rfl
                  · rw [hng3]; simp [jup, va_up]; try rfl
                · have hk4 : tK B z p = 4 := by
                    unfold tK
                    rw [if_neg hin, if_neg hnl2, if_neg hng2, hrf, if_pos ((jBa_e (x := 59) hB (by omega)).mp c_185).2]
                  refine j_iconst X dX11_step_188 4 (by decide) ?_
                  refine j_goto X 193 dX11_step_189 (by decide) ?_
                  refine j_putI X 11 26 (by decide) (by decide) rfl rfl rfl rfl u976 (o66 np) (k66 np) dX11_step_193 ?_
                  refine j_aload_n X dX11_step_196 rfl ?_
                  refine j_aload_n X dX11_step_197 rfl ?_
                  refine j_getF X 11 25 (by decide) (by decide) rfl u975 (o66 np) (k66 np) _ rfl dX11_step_198 ?_
                  refine j_nrm (nI (r + 1)) (by rw [jup_n (by decide), jup_s]) ?_
                  refine j_putI X 11 28 (by decide) (by decide) rfl rfl rfl rfl u978 (o66 np) (k66 np) dX11_step_201 ?_
                  refine s_vret X hE hr dX11_step_204 ?_
                  refine ⟨jeq.up (jeq.up (jeq.up (jeq.up hJ (by decide)) (by decide)) (by decide)) (by decide), jso.up (jso.up (jso.up (jso.up hS (by decide)) (by decide)) (by decide)) (by decide), ?_, ?_, ?_, ?_⟩
                  · rw [hng3]; simp [jup, va_up]; try rfl
                  · rw [hk4]; simp [jup, va_up]; try rfl
                  · rw [hrf]; simp [jup, va_up]; try rfl
                  · rw [hng3]; simp [jup, va_up]; try rfl
              · have lp119 : ∀ (n : Nat) (r2 : Nat) (m3 : jMem), z + 1 ≤ r2 + n → jeq [66] mem m3 → jso [25, 26, 27, 28] (mem 66) (m3 66) → m3 66 25 = nI r2 → m3 66 27 = nI r → r ≤ r2 → r2 ≤ z → tR tG B z r2 = tR tG B z r → J G RX11 cX11_step 2 0 0 119 (jlv [some (.ref 66), some (.int (jBa B z r))]) [] (jS np) (m3) := by
                  intro n
                  induction n with
                  | zero =>
                    intro r2 m3 hfu2 hJ2 hS2 hc2 hf2 hrr hrz2 hrun2
                    exact absurd hfu2 (by omega)
                  | succ n ih119 =>
                    intro r2 m3 hfu2 hJ2 hS2 hc2 hf2 hrr hrz2 hrun2
                    have hgl : tG (B (tF B z p)) = true := by rw [hrf]; exact decide_eq_true ((jBa_in (a := 48) (b := 57) hB).mp c_116).2
                    refine j_aload_n X dX11_step_119 rfl ?_
                    refine j_aload_n X dX11_step_120 rfl ?_
                    refine j_getF X 11 25 (by decide) (by decide) rfl u975 (o66 np) (k66 np) (m3 66) rfl dX11_step_121 ?_
                    refine j_nrm (nI r2) hc2 ?_
                    refine s_callVi X hR (m_byteAt np _ r2 z B ((hS2 24 (by decide)).trans hz) ⟨h300, fun i hi => by rw [hJ2 85 (by decide)]; exact h8.2 i hi⟩ (by omega)) rfl 11 (by decide) (o66 np) (k66 np) rfl u1306 u1303 u1305 qp52 u12 hyX11_byteAt (by decide) (by decide) (Nat.le_of_ble_eq_true rfl) dX11_step_124 (fun v_124 m_124 h_124 => ?_)
                    obtain ⟨e1, e2⟩ := h_124; have e1 := e1.symm; have e2 := e2.symm; subst e1; subst e2
                    refine s_callSi X hR (m_isFigure np _ _) rfl u1312 u1310 u1311 u12 hyX11_isFigure (by decide) (by decide) (Nat.le_of_ble_eq_true rfl) dX11_step_127 (fun v_127 m_127 h_127 => ?_)
                    obtain ⟨e1, e2⟩ := h_127; have e1 := e1.symm; have e2 := e2.symm; subst e1; subst e2
                    refine j_ifb_eq X 146 dX11_step_130 (by decide) (fun c_130 => ?_) (fun c_130 => ?_)
                    · have hre : tR tG B z r2 = r2 := tR_stop (fun y => c_130 ((jBa_in (a := 48) (b := 57) hB).mpr ⟨y.1, of_decide_eq_true y.2⟩))
                      have hng : tN B z p = r2 := by
                        unfold tN
                        rw [if_neg hin, if_neg hnl2, if_pos hgl, hrf, ← hrun2, hre]
                      refine j_aload_n X dX11_step_146 rfl ?_
                      refine j_aload_n X dX11_step_147 rfl ?_
                      refine j_getF X 11 25 (by decide) (by decide) rfl u975 (o66 np) (k66 np) (m3 66) rfl dX11_step_148 ?_
                      refine j_nrm (nI r2) hc2 ?_
                      refine j_aload_n X dX11_step_151 rfl ?_
                      refine j_getF X 11 27 (by decide) (by decide) rfl u977 (o66 np) (k66 np) (m3 66) rfl dX11_step_152 ?_
                      refine j_nrm (nI r) hf2 ?_
                      refine j_isub X dX11_step_155 ?_
                      refine j_nrm (nI (r2 - r)) (pk_sub (by omega)) ?_
                      refine j_iconst X dX11_step_156 3 (by decide) ?_
                      refine j_icmp_le X 164 dX11_step_157 (by decide) (fun c_157 => ?_) (fun c_157 => ?_)
                      · have hk3 : tK B z p = 3 := by
                          unfold tK
                          rw [if_neg hin, if_neg hnl2, if_pos hgl, hrf, ← hrun2, hre, if_neg (show ¬ 3 < r2 - r by clear hE hr hR X h8; (try simp only [lg_cmp_lt, lg_cmp_gt, lg_cmp_le, lg_cmp_ge] at *); (try simp (disch := omega) only [Int64.le_iff_toInt_le, Int64.lt_iff_toInt_lt, Int32.le_iff_toInt_le, Int32.lt_iff_toInt_lt, fa_eq, fa_lit, fa_litL, nI_toInt, pk_lT, Int32.toInt_toInt64, jadd64, jin, jnoneT] at *); omega)]
                        refine j_iconst X dX11_step_164 3 (by decide) ?_
                        refine j_putI X 11 26 (by decide) (by decide) rfl rfl rfl rfl u976 (o66 np) (k66 np) dX11_step_165 ?_
                        refine j_goto X 196 dX11_step_168 (by decide) ?_
                        refine j_aload_n X dX11_step_196 rfl ?_
                        refine j_aload_n X dX11_step_197 rfl ?_
                        refine j_getF X 11 25 (by decide) (by decide) rfl u975 (o66 np) (k66 np) _ rfl dX11_step_198 ?_
                        refine j_nrm (nI r2) (by rw [jup_n (by decide)]; exact hc2) ?_
                        refine j_putI X 11 28 (by decide) (by decide) rfl rfl rfl rfl u978 (o66 np) (k66 np) dX11_step_201 ?_
                        refine s_vret X hE hr dX11_step_204 ?_
                        refine ⟨jeq.up (jeq.up hJ2 (by decide)) (by decide), jso.up (jso.up hS2 (by decide)) (by decide), ?_, ?_, ?_, ?_⟩
                        · rw [hng]; simp [jup, va_up, hc2]; try rfl
                        · rw [hk3]; simp [jup, va_up]; try rfl
                        · rw [hrf]; simp [jup, va_up, hf2]; try rfl
                        · rw [hng]; simp [jup, va_up]; try rfl
                      · have hk3 : tK B z p = 0 := by
                          unfold tK
                          rw [if_neg hin, if_neg hnl2, if_pos hgl, hrf, ← hrun2, hre, if_pos (show 3 < r2 - r by clear hE hr hR X h8; (try simp only [lg_cmp_lt, lg_cmp_gt, lg_cmp_le, lg_cmp_ge] at *); (try simp (disch := omega) only [Int64.le_iff_toInt_le, Int64.lt_iff_toInt_lt, Int32.le_iff_toInt_le, Int32.lt_iff_toInt_lt, fa_eq, fa_lit, fa_litL, nI_toInt, pk_lT, Int32.toInt_toInt64, jadd64, jin, jnoneT] at *); omega)]
                        refine j_iconst X dX11_step_160 0 (by decide) ?_
                        refine j_goto X 165 dX11_step_161 (by decide) ?_
                        refine j_putI X 11 26 (by decide) (by decide) rfl rfl rfl rfl u976 (o66 np) (k66 np) dX11_step_165 ?_
                        refine j_goto X 196 dX11_step_168 (by decide) ?_
                        refine j_aload_n X dX11_step_196 rfl ?_
                        refine j_aload_n X dX11_step_197 rfl ?_
                        refine j_getF X 11 25 (by decide) (by decide) rfl u975 (o66 np) (k66 np) _ rfl dX11_step_198 ?_
                        refine j_nrm (nI r2) (by rw [jup_n (by decide)]; exact hc2) ?_
                        refine j_putI X 11 28 (by decide) (by decide) rfl rfl rfl rfl u978 (o66 np) (k66 np) dX11_step_201 ?_
                        refine s_vret X hE hr dX11_step_204 ?_
                        refine ⟨jeq.up (jeq.up hJ2 (by decide)) (by decide), jso.up (jso.up hS2 (by decide)) (by decide), ?_, ?_, ?_, ?_⟩
                        · rw [hng]; simp [jup, va_up, hc2]; try rfl
                        · rw [hk3]; simp [jup, va_up]; try rfl
                        · rw [hrf]; simp [jup, va_up, hf2]; try rfl
                        · rw [hng]; simp [jup, va_up]; try rfl
                    · have hrl := (jBa_in (a := 48) (b := 57) hB).mp c_130
                      refine j_aload_n X dX11_step_133 rfl ?_
                      refine j_dup X dX11_step_134 rfl ?_
                      refine j_getF X 11 25 (by decide) (by decide) rfl u975 (o66 np) (k66 np) (m3 66) rfl dX11_step_135 ?_
                      refine j_nrm (nI r2) hc2 ?_
                      refine j_iconst X dX11_step_138 1 (by decide) ?_
                      refine j_iadd X dX11_step_139 ?_
                      refine j_nrm (nI (r2 + 1)) (nI_1 r2) ?_
                      refine j_putI X 11 25 (by decide) (by decide) rfl rfl rfl rfl u975 (o66 np) (k66 np) dX11_step_140 ?_
                      refine j_goto X 119 dX11_step_143 (by decide) ?_
                      refine j_lv [some (.ref 66), some (.int (jBa B z r))] ⟨rfl, rfl, trivial⟩ ?_
                      exact ih119 (r2 + 1) _ (by omega) (jeq.up hJ2 (by decide)) (jso.up hS2 (by decide)) jup_s (by rw [jup_n (by decide)]; exact hf2) (by omega) (by omega) ((tR_go hrl.1 (decide_eq_true hrl.2)).symm.trans hrun2)
                refine j_lv [some (.ref 66), some (.int (jBa B z r))] ⟨rfl, rfl, trivial⟩ ?_
                exact lp119 (z + 1) r _ (by omega) (jeq.up hJ (by decide)) (jso.up hS (by decide)) (by rw [jup_n (by decide)]; exact hc) jup_s (Nat.le_refl _) hrz rfl
            · have lp77 : ∀ (n : Nat) (r2 : Nat) (m3 : jMem), z + 1 ≤ r2 + n → jeq [66] mem m3 → jso [25, 26, 27, 28] (mem 66) (m3 66) → m3 66 25 = nI r2 → m3 66 27 = nI r → r ≤ r2 → r2 ≤ z → tR tL B z r2 = tR tL B z r → J G RX11 cX11_step 2 0 0 77 (jlv [some (.ref 66), some (.int (jBa B z r))]) [] (jS np) (m3) := by
                intro n
                induction n with
                | zero =>
                  intro r2 m3 hfu2 hJ2 hS2 hc2 hf2 hrr hrz2 hrun2
                  exact absurd hfu2 (by omega)
                | succ n ih77 =>
                  intro r2 m3 hfu2 hJ2 hS2 hc2 hf2 hrr hrz2 hrun2
                  have hll : tL (B (tF B z p)) = true := by rw [hrf]; exact decide_eq_true ((jBa_in (a := 97) (b := 122) hB).mp c_74).2
                  refine j_aload_n X dX11_step_77 rfl ?_
                  refine j_aload_n X dX11_step_78 rfl ?_
                  refine j_getF X 11 25 (by decide) (by decide) rfl u975 (o66 np) (k66 np) (m3 66) rfl dX11_step_79 ?_
                  refine j_nrm (nI r2) hc2 ?_
                  refine s_callVi X hR (m_byteAt np _ r2 z B ((hS2 24 (by decide)).trans hz) ⟨h300, fun i hi => by rw [hJ2 85 (by decide)]; exact h8.2 i hi⟩ (by omega)) rfl 11 (by decide) (o66 np) (k66 np) rfl u1306 u1303 u1305 qp52 u12 hyX11_byteAt (by decide) (by decide) (Nat.le_of_ble_eq_true rfl) dX11_step_82 (fun v_82 m_82 h_82 => ?_)
                  obtain ⟨e1, e2⟩ := h_82; have e1 := e1.symm; have e2 := e2.symm; subst e1; subst e2
                  refine s_callSi X hR (m_isLetter np _ _) rfl u1309 u1307 u1308 u12 hyX11_isLetter (by decide) (by decide) (Nat.le_of_ble_eq_true rfl) dX11_step_85 (fun v_85 m_85 h_85 => ?_)
                  obtain ⟨e1, e2⟩ := h_85; have e1 := e1.symm; have e2 := e2.symm; subst e1; subst e2
                  refine j_ifb_eq X 104 dX11_step_88 (by decide) (fun c_88 => ?_) (fun c_88 => ?_)
                  · have hre : tR tL B z r2 = r2 := tR_stop (fun y => c_88 ((jBa_in (a := 97) (b := 122) hB).mpr ⟨y.1, of_decide_eq_true y.2⟩))
                    have hng : tN B z p = r2 := by
                      unfold tN
                      rw [if_neg hin, if_pos hll, hrf, ← hrun2, hre]
                    have hk2 : tK B z p = 2 := by
                      unfold tK
                      rw [if_neg hin, if_pos hll]
                    refine j_aload_n X dX11_step_104 rfl ?_
                    refine j_iconst X dX11_step_105 2 (by decide) ?_
                    refine j_putI X 11 26 (by decide) (by decide) rfl rfl rfl rfl u976 (o66 np) (k66 np) dX11_step_106 ?_
                    refine j_goto X 196 dX11_step_109 (by decide) ?_
                    refine j_aload_n X dX11_step_196 rfl ?_
                    refine j_aload_n X dX11_step_197 rfl ?_
                    refine j_getF X 11 25 (by decide) (by decide) rfl u975 (o66 np) (k66 np) _ rfl dX11_step_198 ?_
                    refine j_nrm (nI r2) (by rw [jup_n (by decide)]; exact hc2) ?_
                    refine j_putI X 11 28 (by decide) (by decide) rfl rfl rfl rfl u978 (o66 np) (k66 np) dX11_step_201 ?_
                    refine s_vret X hE hr dX11_step_204 ?_
                    refine ⟨jeq.up (jeq.up hJ2 (by decide)) (by decide), jso.up (jso.up hS2 (by decide)) (by decide), ?_, ?_, ?_, ?_⟩
                    · rw [hng]; simp [jup, va_up, hc2]; try rfl
                    · rw [hk2]; simp [jup, va_up]; try rfl
                    · rw [hrf]; simp [jup, va_up, hf2]; try rfl
                    · rw [hng]; simp [jup, va_up]; try rfl
                  · have hrl := (jBa_in (a := 97) (b := 122) hB).mp c_88
                    refine j_aload_n X dX11_step_91 rfl ?_
                    refine j_dup X dX11_step_92 rfl ?_
                    refine j_getF X 11 25 (by decide) (by decide) rfl u975 (o66 np) (k66 np) (m3 66) rfl dX11_step_93 ?_
                    refine j_nrm (nI r2) hc2 ?_
                    refine j_iconst X dX11_step_96 1 (by decide) ?_
                    refine j_iadd X dX11_step_97 ?_
                    refine j_nrm (nI (r2 + 1)) (nI_1 r2) ?_
                    refine j_putI X 11 25 (by decide) (by decide) rfl rfl rfl rfl u975 (o66 np) (k66 np) dX11_step_98 ?_
                    refine j_goto X 77 dX11_step_101 (by decide) ?_
                    refine j_lv [some (.ref 66), some (.int (jBa B z r))] ⟨rfl, rfl, trivial⟩ ?_
                    exact ih77 (r2 + 1) _ (by omega) (jeq.up hJ2 (by decide)) (jso.up hS2 (by decide)) jup_s (by rw [jup_n (by decide)]; exact hf2) (by omega) (by omega) ((tR_go hrl.1 (decide_eq_true hrl.2)).symm.trans hrun2)
              refine j_lv [some (.ref 66), some (.int (jBa B z r))] ⟨rfl, rfl, trivial⟩ ?_
              exact lp77 (z + 1) r _ (by omega) (jeq.up hJ (by decide)) (jso.up hS (by decide)) (by rw [jup_n (by decide)]; exact hc) jup_s (Nat.le_refl _) hrz rfl
          · have hend : z ≤ r := by
              rcases Nat.lt_or_ge r z with y | y
              · have hbr := hB r y
                exact absurd ((if_pos y).symm.trans c_59) (jnn (show B r < 2 ^ 31 by omega))
              · exact y
            have hk1 : tK B z p = 1 := if_pos (by rw [hrf]; exact hend)
            have hk2 : tN B z p = r := (if_pos (by rw [hrf]; exact hend)).trans hrf
            refine j_aload_n X dX11_step_62 rfl ?_
            refine j_iconst X dX11_step_63 1 (by decide) ?_
            refine j_putI X 11 26 (by decide) (by decide) rfl rfl rfl rfl u976 (o66 np) (k66 np) dX11_step_64 ?_
            refine j_goto X 196 dX11_step_67 (by decide) ?_
            refine j_aload_n X dX11_step_196 rfl ?_
            refine j_aload_n X dX11_step_197 rfl ?_
            refine j_getF X 11 25 (by decide) (by decide) rfl u975 (o66 np) (k66 np) _ rfl dX11_step_198 ?_
            refine j_nrm (nI r) (by rw [jup_n (by decide), jup_n (by decide)]; exact hc) ?_
            refine j_putI X 11 28 (by decide) (by decide) rfl rfl rfl rfl u978 (o66 np) (k66 np) dX11_step_201 ?_
            refine s_vret X hE hr dX11_step_204 ?_
            refine ⟨jeq.up (jeq.up (jeq.up hJ (by decide)) (by decide)) (by decide), jso.up (jso.up (jso.up hS (by decide)) (by decide)) (by decide), ?_, ?_, ?_, ?_⟩
            · rw [hk2]; simp [jup, va_up, hc]; try rfl
            · rw [hk1]; simp [jup, va_up]; try rfl
            · rw [hrf]; simp [jup, va_up]; try rfl
            · rw [hk2]; simp [jup, va_up]; try rfl
        · have hrb : r < z ∧ tB (B r) = true := ⟨((jBa_e (x := 10) hB (by omega)).mp c_23).1, decide_eq_true (Or.inr ((jBa_e (x := 10) hB (by omega)).mp c_23).2)⟩
          refine j_aload_n X dX11_step_26 rfl ?_
          refine j_dup X dX11_step_27 rfl ?_
          refine j_getF X 11 25 (by decide) (by decide) rfl u975 (o66 np) (k66 np) (m2 66) rfl dX11_step_28 ?_
          refine j_nrm (nI r) hc ?_
          refine j_iconst X dX11_step_31 1 (by decide) ?_
          refine j_iadd X dX11_step_32 ?_
          refine j_nrm (nI (r + 1)) (nI_1 r) ?_
          refine j_putI X 11 25 (by decide) (by decide) rfl rfl rfl rfl u975 (o66 np) (k66 np) dX11_step_33 ?_
          refine j_goto X 0 dX11_step_36 (by decide) ?_
          refine j_lv [some (.ref 66)] ⟨rfl, trivial⟩ ?_
          exact ih0 (r + 1) _ (by omega) (jeq.up hJ (by decide)) (jso.up hS (by decide)) jup_s (by omega) ((tR_go hrb.1 hrb.2).symm.trans hrun)
  refine j_lv [some (.ref 66)] ⟨rfl, trivial⟩ ?_
  exact lp0 (z + 1) p mem (by omega) jeq.rf jso.rf hcu hp rfl
