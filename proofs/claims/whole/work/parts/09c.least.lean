set_option maxRecDepth 4000 in
set_option maxHeartbeats 1000000 in
theorem c_choiceBegin (np : Nat) (mem : jMem) (q : Nat) (hq : q ≤ 8) : jPv yX1_begin cX1_begin 2 2 [.ref 53, .int (nI q)] np mem (fun c => c = jup (jfill (jup mem 53 1 (nI (2 ^ q))) 54 0 256 (-1000000)) 54 0 0) := by
  refine jPv.of (own := RX1) rfl rfl (Nat.le_of_ble_eq_true rfl) (fun G X hR hr hE => ?_)
  refine j_aload_n X dX1_begin_0 rfl ?_
  refine j_iconst X dX1_begin_1 1 (by decide) ?_
  refine j_iload_n X dX1_begin_2 rfl ?_
  refine j_bipush X dX1_begin_3 8 (by decide) ?_
  refine j_mmin X hR (by decide) u778 (Nat.le_of_ble_eq_true rfl) ⟨Nat.le_refl _, Nat.le_refl _⟩ dX1_begin_5 ?_
  refine j_nrm (nI q) (jmn8 hq) ?_
  refine j_ishl X dX1_begin_8 ?_
  refine j_nrm (nI (2 ^ q)) (j1l (by omega)) ?_
  refine j_putI X 1 1 (by decide) (by decide) rfl rfl rfl rfl u171 (o53 np) (k53 np) dX1_begin_9 ?_
  refine j_aload_n X dX1_begin_12 rfl ?_
  refine j_getR X 1 0 (by decide) (by decide) rfl u170 (o53 np) (k53 np) _ (p53_0 np) dX1_begin_13 ?_
  refine j_ldc X dX1_begin_16 u779 ?_
  refine s_callSv X hR (c_fill np _ 54 256 (-1000000) (o54 np) (k54 np) (l54 np) (by omega)) rfl u39 u780 u38 u3 hyJ7_fill_53178 (by decide) (by decide) (Nat.le_of_ble_eq_true rfl) dX1_begin_18 (fun m_18 h_18 => ?_)
  have h_18 := h_18.symm; subst h_18
  refine j_aload_n X dX1_begin_21 rfl ?_
  refine j_getR X 1 0 (by decide) (by decide) rfl u170 (o53 np) (k53 np) _ (p53_0 np) dX1_begin_22 ?_
  refine j_iconst X dX1_begin_25 0 (by decide) ?_
  refine j_iconst X dX1_begin_26 0 (by decide) ?_
  refine j_nrm2 _ (by first | (simp only [fa_lit, pk_mul, nI_add]; done) | (simp only [fa_lit, pk_mul, nI_add]; rfl) | rfl) ?_
  refine j_iastN X (o54 np) (k54 np) (by rw [l54]; omega) (by rw [l54]; decide) dX1_begin_27 ?_
  refine s_vret X hE hr dX1_begin_28 ?_
  first | exact rfl | (exfalso; clear hE hr hR X; (try simp only [lg_cmp_lt, lg_cmp_gt, lg_cmp_le, lg_cmp_ge] at *); (try simp (disch := omega) only [Int64.le_iff_toInt_le, Int64.lt_iff_toInt_lt, Int32.le_iff_toInt_le, Int32.lt_iff_toInt_lt, fa_eq, fa_lit, fa_litL, nI_toInt, pk_lT, Int32.toInt_toInt64, jadd64, jin, jnoneT] at *); omega)
set_option maxRecDepth 4000 in
set_option maxHeartbeats 1000000 in
theorem c_offer (np : Nat) (mem : jMem) (g : Nat → Bool) (F : Nat → Nat) (p q : Nat) (hq : q ≤ 8) (hp : p < 12) (hg : g p = true) (hF : ∀ j, F j < 2 ^ q) (hs : mem 53 1 = nI (2 ^ q)) (hb : ∀ r, r < 2 ^ q → jMin (jIs g F p r) (mem 54 r)) : jPv yX1_offer cX1_offer 7 2 [.ref 53, .int (nI p), .int (nI (F p))] np mem (fun c => jeq [54] mem c ∧ ∀ r, r < 2 ^ q → jMin (jIs g F (p + 1) r) (c 54 r)) := by
  refine jPv.of (own := RX1) rfl rfl (Nat.le_of_ble_eq_true rfl) (fun G X hR hr hE => ?_)
  refine j_iconst X dX1_offer_0 1 (by decide) ?_
  refine j_iload_n X dX1_offer_1 rfl ?_
  have hp2q := jp2 (show q ≤ 12 by omega)
  have hp2p := jp2 (show p ≤ 12 by omega)
  have h256 : 2 ^ q ≤ 2 ^ 8 := Nat.pow_le_pow_right (by omega) hq
  have hFp := hF p
  have hpc := pc8_le (F p)
  refine s_callSi X hR (c_bitCount np _ (F p) (by omega)) rfl u794 u792 u793 u20 hyJ6_bitCount_0f7a4 (by decide) (by decide) (Nat.le_of_ble_eq_true rfl) dX1_offer_2 (fun v_2 m_2 h_2 => ?_)
  obtain ⟨e1, e2⟩ := h_2; have e1 := e1.symm; have e2 := e2.symm; subst e1; subst e2
  refine j_iadd X dX1_offer_5 ?_
  refine j_sipush X dX1_offer_6 4096 (by decide) ?_
  refine j_imul X dX1_offer_9 ?_
  refine j_iconst X dX1_offer_10 1 (by decide) ?_
  refine j_iload_n X dX1_offer_11 rfl ?_
  refine j_ishl X dX1_offer_12 ?_
  refine j_iadd X dX1_offer_13 ?_
  refine j_nrm (nI ((1 + pc8 (F p)) * 4096 + 2 ^ p)) (by rw [j1l (by omega), show (1 : Int32) = nI 1 from rfl, show (4096 : Int32) = nI 4096 from rfl, nI_add, pk_mul, nI_add]) ?_
  refine j_istore_n X dX1_offer_14 (by decide) ?_
  refine j_iconst X dX1_offer_15 0 (by decide) ?_
  refine j_istore X dX1_offer_16 (by decide) ?_
  have lp18 : ∀ (n : Nat) (k : Nat) (m2 : jMem), k ≤ 2 ^ q → 2 ^ q + 1 ≤ k + n → jeq [54] mem m2 → (∀ r, r < 2 ^ q → jMin (jOf (jIs g F p) (F p) ((1 + pc8 (F p)) * 4096 + 2 ^ p) k r) (m2 54 r)) → J G RX1 cX1_offer 7 0 0 18 (jlv [some (.ref 53), some (.int (nI p)), some (.int (nI (F p))), some (.int (nI ((1 + pc8 (F p)) * 4096 + 2 ^ p))), some (.int (nI k))]) [] (jS np) (m2) := by
    intro n
    induction n with
    | zero =>
      intro k m2 hk3 hn hJ hB
      exact absurd hn (by omega)
    | succ n ih18 =>
      intro k m2 hk3 hn hJ hB
      have hs2 : m2 53 1 = nI (2 ^ q) := by rw [hJ 53 (by decide)]; exact hs
      refine j_iload X dX1_offer_18 rfl ?_
      refine j_aload_n X dX1_offer_20 rfl ?_
      refine j_getF X 1 1 (by decide) (by decide) rfl u171 (o53 np) (k53 np) (m2 53) rfl dX1_offer_21 ?_
      refine j_nrm (nI (2 ^ q)) hs2 ?_
      refine j_icmp_ge X 102 dX1_offer_24 (by decide) (fun c_24 => ?_) (fun c_24 => ?_)
      · obtain rfl : k = 2 ^ q := by
          rcases Nat.lt_or_ge k (2 ^ q) with z | z
          · exact absurd c_24 (nI_ge z (by omega))
          · omega
        refine s_vret X hE hr dX1_offer_102 ?_
        exact ⟨hJ, fun r hr => jMin_c (hB r hr) (fun K => jOf_end hg (fun j _ => hF j))⟩
      · have hk2 : k < 2 ^ q := by
          rcases Nat.lt_or_ge k (2 ^ q) with z | z
          · exact z
          · exact absurd ((nI_leI (by omega) (by omega)).mpr z) c_24
        have hkf : k ||| F p < 2 ^ q := Nat.or_lt_two_pow hk2 hFp
        refine j_iload X dX1_offer_27 rfl ?_
        refine j_iload_n X dX1_offer_29 rfl ?_
        refine j_ior X dX1_offer_30 ?_
        refine j_nrm (nI (k ||| F p)) (jorN _ _) ?_
        refine j_aload_n X dX1_offer_31 rfl ?_
        refine j_getF X 1 1 (by decide) (by decide) rfl u171 (o53 np) (k53 np) (m2 53) rfl dX1_offer_32 ?_
        refine j_nrm (nI (2 ^ q)) hs2 ?_
        refine j_iconst X dX1_offer_35 1 (by decide) ?_
        refine j_isub X dX1_offer_36 ?_
        refine j_nrm (nI (2 ^ q - 1)) jp2m ?_
        refine j_iand X dX1_offer_37 ?_
        refine j_nrm (nI (k ||| F p)) (jrch hk2 hFp) ?_
        refine j_istore X dX1_offer_38 (by decide) ?_
        refine j_aload_n X dX1_offer_40 rfl ?_
        refine j_getR X 1 0 (by decide) (by decide) rfl u170 (o53 np) (k53 np) _ (p53_0 np) dX1_offer_41 ?_
        refine j_iload X dX1_offer_44 rfl ?_
        refine j_nrm _ (by first | (simp only [fa_lit, pk_mul, nI_add]; done) | (simp only [fa_lit, pk_mul, nI_add]; rfl) | rfl) ?_
        refine j_ialdN X (o54 np) (k54 np) (by rw [l54]; omega) (by rw [l54]; decide) (m2 54) rfl dX1_offer_46 ?_
        refine j_iload_n X dX1_offer_47 rfl ?_
        refine j_iadd X dX1_offer_48 ?_
        refine j_istore X dX1_offer_49 (by decide) ?_
        refine j_aload_n X dX1_offer_51 rfl ?_
        refine j_getR X 1 0 (by decide) (by decide) rfl u170 (o53 np) (k53 np) _ (p53_0 np) dX1_offer_52 ?_
        refine j_iload X dX1_offer_55 rfl ?_
        refine j_nrm _ (by first | (simp only [fa_lit, pk_mul, nI_add]; done) | (simp only [fa_lit, pk_mul, nI_add]; rfl) | rfl) ?_
        refine j_ialdN X (o54 np) (k54 np) (by rw [l54]; omega) (by rw [l54]; decide) (m2 54) rfl dX1_offer_57 ?_
        refine j_ldc X dX1_offer_58 u779 ?_
        refine j_icmp_eq X 96 dX1_offer_60 (by decide) (fun c_60 => ?_) (fun c_60 => ?_)
        · refine j_iinc X dX1_offer_96 rfl 1 rfl ?_
          refine j_goto X 18 dX1_offer_99 (by decide) ?_
          refine j_lv [some (.ref 53), some (.int (nI p)), some (.int (nI (F p))), some (.int (nI ((1 + pc8 (F p)) * 4096 + 2 ^ p))), some (.int (nI (k + 1)))] ⟨rfl, rfl, rfl, rfl, (congrArg (fun z => some (Value.int z)) (nI_1 _)), trivial⟩ ?_
          exact ih18 (k + 1) _ (by omega) (by omega) (by first | exact hJ | exact jeq.up hJ (by decide)) (by
                        refine jOf_s (fun r K z => jIs_lt (by omega) z) (by omega) (by omega) hk2 hB ?_ ?_
                        · intro r hr
                          first
                            | rfl
                            | simp [jup, va_up, hr]
                        · first
                            | (rw [if_neg (fun z => z.1 c_60)]; done)
                            | (rw [if_neg (fun z => z.2.elim c_72 (fun y => absurd y (Int32.not_lt.mpr c_84)))]; done)
                            | (rw [if_pos ⟨c_60, Or.inl c_72⟩]; simp [jup, va_up]; done)
                            | (rw [if_pos ⟨c_60, Or.inr (Int32.not_le.mp c_84)⟩]; simp [jup, va_up]; done))
        · refine j_aload_n X dX1_offer_63 rfl ?_
          refine j_getR X 1 0 (by decide) (by decide) rfl u170 (o53 np) (k53 np) _ (p53_0 np) dX1_offer_64 ?_
          refine j_iload X dX1_offer_67 rfl ?_
          refine j_nrm _ (by first | (simp only [fa_lit, pk_mul, nI_add]; done) | (simp only [fa_lit, pk_mul, nI_add]; rfl) | rfl) ?_
          refine j_ialdN X (o54 np) (k54 np) (by rw [l54]; omega) (by rw [l54]; decide) (m2 54) rfl dX1_offer_69 ?_
          refine j_ldc X dX1_offer_70 u779 ?_
          refine j_icmp_eq X 87 dX1_offer_72 (by decide) (fun c_72 => ?_) (fun c_72 => ?_)
          · refine j_aload_n X dX1_offer_87 rfl ?_
            refine j_getR X 1 0 (by decide) (by decide) rfl u170 (o53 np) (k53 np) _ (p53_0 np) dX1_offer_88 ?_
            refine j_iload X dX1_offer_91 rfl ?_
            refine j_iload X dX1_offer_93 rfl ?_
            refine j_nrm2 _ (by first | (simp only [fa_lit, pk_mul, nI_add]; done) | (simp only [fa_lit, pk_mul, nI_add]; rfl) | rfl) ?_
            refine j_iastN X (o54 np) (k54 np) (by rw [l54]; omega) (by rw [l54]; decide) dX1_offer_95 ?_
            refine j_iinc X dX1_offer_96 rfl 1 rfl ?_
            refine j_goto X 18 dX1_offer_99 (by decide) ?_
            refine j_lv [some (.ref 53), some (.int (nI p)), some (.int (nI (F p))), some (.int (nI ((1 + pc8 (F p)) * 4096 + 2 ^ p))), some (.int (nI (k + 1)))] ⟨rfl, rfl, rfl, rfl, (congrArg (fun z => some (Value.int z)) (nI_1 _)), trivial⟩ ?_
            exact ih18 (k + 1) _ (by omega) (by omega) (by first | exact hJ | exact jeq.up hJ (by decide)) (by
                          refine jOf_s (fun r K z => jIs_lt (by omega) z) (by omega) (by omega) hk2 hB ?_ ?_
                          · intro r hr
                            first
                              | rfl
                              | simp [jup, va_up, hr]
                          · first
                              | (rw [if_neg (fun z => z.1 c_60)]; done)
                              | (rw [if_neg (fun z => z.2.elim c_72 (fun y => absurd y (Int32.not_lt.mpr c_84)))]; done)
                              | (rw [if_pos ⟨c_60, Or.inl c_72⟩]; simp [jup, va_up]; done)
                              | (rw [if_pos ⟨c_60, Or.inr (Int32.not_le.mp c_84)⟩]; simp [jup, va_up]; done))
          · refine j_iload X dX1_offer_75 rfl ?_
            refine j_aload_n X dX1_offer_77 rfl ?_
            refine j_getR X 1 0 (by decide) (by decide) rfl u170 (o53 np) (k53 np) _ (p53_0 np) dX1_offer_78 ?_
            refine j_iload X dX1_offer_81 rfl ?_
            refine j_nrm _ (by first | (simp only [fa_lit, pk_mul, nI_add]; done) | (simp only [fa_lit, pk_mul, nI_add]; rfl) | rfl) ?_
            refine j_ialdN X (o54 np) (k54 np) (by rw [l54]; omega) (by rw [l54]; decide) (m2 54) rfl dX1_offer_83 ?_
            refine j_icmp_ge X 96 dX1_offer_84 (by decide) (fun c_84 => ?_) (fun c_84 => ?_)
            · refine j_iinc X dX1_offer_96 rfl 1 rfl ?_
              refine j_goto X 18 dX1_offer_99 (by decide) ?_
              refine j_lv [some (.ref 53), some (.int (nI p)), some (.int (nI (F p))), some (.int (nI ((1 + pc8 (F p)) * 4096 + 2 ^ p))), some (.int (nI (k + 1)))] ⟨rfl, rfl, rfl, rfl, (congrArg (fun z => some (Value.int z)) (nI_1 _)), trivial⟩ ?_
              exact ih18 (k + 1) _ (by omega) (by omega) (by first | exact hJ | exact jeq.up hJ (by decide)) (by
                            refine jOf_s (fun r K z => jIs_lt (by omega) z) (by omega) (by omega) hk2 hB ?_ ?_
                            · intro r hr
                              first
                                | rfl
                                | simp [jup, va_up, hr]
                            · first
                                | (rw [if_neg (fun z => z.1 c_60)]; done)
                                | (rw [if_neg (fun z => z.2.elim c_72 (fun y => absurd y (Int32.not_lt.mpr c_84)))]; done)
                                | (rw [if_pos ⟨c_60, Or.inl c_72⟩]; simp [jup, va_up]; done)
                                | (rw [if_pos ⟨c_60, Or.inr (Int32.not_le.mp c_84)⟩]; simp [jup, va_up]; done))
            · refine j_aload_n X dX1_offer_87 rfl ?_
              refine j_getR X 1 0 (by decide) (by decide) rfl u170 (o53 np) (k53 np) _ (p53_0 np) dX1_offer_88 ?_
              refine j_iload X dX1_offer_91 rfl ?_
              refine j_iload X dX1_offer_93 rfl ?_
              refine j_nrm2 _ (by first | (simp only [fa_lit, pk_mul, nI_add]; done) | (simp only [fa_lit, pk_mul, nI_add]; rfl) | rfl) ?_
              refine j_iastN X (o54 np) (k54 np) (by rw [l54]; omega) (by rw [l54]; decide) dX1_offer_95 ?_
              refine j_iinc X dX1_offer_96 rfl 1 rfl ?_
              refine j_goto X 18 dX1_offer_99 (by decide) ?_
              refine j_lv [some (.ref 53), some (.int (nI p)), some (.int (nI (F p))), some (.int (nI ((1 + pc8 (F p)) * 4096 + 2 ^ p))), some (.int (nI (k + 1)))] ⟨rfl, rfl, rfl, rfl, (congrArg (fun z => some (Value.int z)) (nI_1 _)), trivial⟩ ?_
              exact ih18 (k + 1) _ (by omega) (by omega) (by first | exact hJ | exact jeq.up hJ (by decide)) (by
                            refine jOf_s (fun r K z => jIs_lt (by omega) z) (by omega) (by omega) hk2 hB ?_ ?_
                            · intro r hr
                              first
                                | rfl
                                | simp [jup, va_up, hr]
                            · first
                                | (rw [if_neg (fun z => z.1 c_60)]; done)
                                | (rw [if_neg (fun z => z.2.elim c_72 (fun y => absurd y (Int32.not_lt.mpr c_84)))]; done)
                                | (rw [if_pos ⟨c_60, Or.inl c_72⟩]; simp [jup, va_up]; done)
                                | (rw [if_pos ⟨c_60, Or.inr (Int32.not_le.mp c_84)⟩]; simp [jup, va_up]; done))
  refine j_lv [some (.ref 53), some (.int (nI p)), some (.int (nI (F p))), some (.int (nI ((1 + pc8 (F p)) * 4096 + 2 ^ p))), some (.int (nI 0))] ⟨rfl, rfl, rfl, rfl, rfl, trivial⟩ ?_
  exact lp18 (2 ^ q + 1) 0 mem (by omega) (by omega) jeq.rf (fun r hr => jMin_c (hb r hr) (fun K => ⟨Or.inl, fun z => z.elim id (fun ⟨st, _, z1, _⟩ => absurd z1 (by omega))⟩))
set_option maxRecDepth 4000 in
set_option maxHeartbeats 1000000 in
theorem c_best (np : Nat) (mem : jMem) (q : Nat) (hq : q ≤ 8) (hs : mem 53 1 = nI (2 ^ q)) : jPi yX1_best cX1_best 1 .int 1 [.ref 53] np mem (fun v c => v = mem 54 (2 ^ q - 1) ∧ c = mem) := by
  refine jPi.of (own := RX1) rfl rfl (Nat.le_of_ble_eq_true rfl) (fun G X hR hr hE => ?_)
  refine j_aload_n X dX1_best_0 rfl ?_
  refine j_getR X 1 0 (by decide) (by decide) rfl u170 (o53 np) (k53 np) _ (p53_0 np) dX1_best_1 ?_
  refine j_aload_n X dX1_best_4 rfl ?_
  refine j_getF X 1 1 (by decide) (by decide) rfl u171 (o53 np) (k53 np) (mem 53) rfl dX1_best_5 ?_
  have hp2q := jp2 (show q ≤ 12 by omega)
  have h256 : 2 ^ q ≤ 2 ^ 8 := Nat.pow_le_pow_right (by omega) hq
  refine j_nrm (nI (2 ^ q)) hs ?_
  refine j_iconst X dX1_best_8 1 (by decide) ?_
  refine j_isub X dX1_best_9 ?_
  refine j_nrm (nI (2 ^ q - 1)) jp2m ?_
  refine j_nrm _ (by first | (simp only [fa_lit, pk_mul, nI_add]; done) | (simp only [fa_lit, pk_mul, nI_add]; rfl) | rfl) ?_
  refine j_ialdN X (o54 np) (k54 np) (n := 2 ^ q - 1) (by rw [l54]; omega) (by rw [l54]; decide) (mem 54) rfl dX1_best_10 ?_
  refine s_iret X hE hr dX1_best_11 rfl ?_
  first | exact ⟨rfl, rfl⟩ | (exfalso; clear hE hr hR X; (try simp only [lg_cmp_lt, lg_cmp_gt, lg_cmp_le, lg_cmp_ge] at *); (try simp (disch := omega) only [Int64.le_iff_toInt_le, Int64.lt_iff_toInt_lt, Int32.le_iff_toInt_le, Int32.lt_iff_toInt_lt, fa_eq, fa_lit, fa_litL, nI_toInt, pk_lT, Int32.toInt_toInt64, jadd64, jin, jnoneT] at *); omega)
set_option maxRecDepth 4000 in
set_option maxHeartbeats 1000000 in
theorem c_lightest (np : Nat) (mem : jMem) (b d : Int32) (dr q : Nat) (hn : np ≤ 12) (hp : mem 0 12 = nI np) (hdr : dr < 4) (hq : q ≤ 8) (hc : mem 35 dr = nI q) (hoo : ∀ p, p < np → ∃ o, o < 4 ∧ mem (92 + 2 * p) 1 = nI o) (hof : ∀ k, k < q → ∃ w, w < 4 ∧ mem (42 + dr) k = nI w) : jPi yX10_lightest cX10_lightest 6 .int 3 [.ref 0, .int b, .int (nI dr), .int d] np mem (fun v c => jMin (jIs (fun p => decide (mem (92 + 2 * p) 2 = b ∧ jHoldC (mem (92 + 2 * p) 4) (mem (92 + 2 * p) 5) (mem (92 + 2 * p) 7) (mem 26 (mem (92 + 2 * p) 1).toNatClampNeg) (mem 25 (mem (92 + 2 * p) 1).toNatClampNeg) (mem 33 dr) d = 0)) (fun p => jBn (fun k => decide (if mem (37 + dr) k = 0 then mem (92 + 2 * p) 1 = mem (42 + dr) k else (mem (37 + dr) k = 1 ∨ mem (47 + dr) k ≤ mem (93 + 2 * p) (mem (42 + dr) k).toNatClampNeg))) q) np (2 ^ q - 1)) v ∧ jeq [53, 54] mem c) := by
  refine jPi.of (own := RX10) rfl rfl (Nat.le_of_ble_eq_true rfl) (fun G X hR hr hE => ?_)
  have hp2q := jp2 (show q ≤ 12 by omega)
  refine j_aload_n X dX10_lightest_0 rfl ?_
  refine j_getR X 10 7 (by decide) (by decide) rfl u245 (o0 np) (k0 np) _ (p0_7 np) dX10_lightest_1 ?_
  refine j_aload_n X dX10_lightest_4 rfl ?_
  refine j_getR X 10 5 (by decide) (by decide) rfl u243 (o0 np) (k0 np) _ (p0_5 np) dX10_lightest_5 ?_
  refine j_getR X 3 2 (by decide) (by decide) rfl u110 (o32 np) (k32 np) _ (p32_2 np) dX10_lightest_8 ?_
  refine j_iload_n X dX10_lightest_11 rfl ?_
  refine j_nrm _ (by first | (simp only [fa_lit, pk_mul, nI_add]; done) | (simp only [fa_lit, pk_mul, nI_add]; rfl) | rfl) ?_
  refine j_ialdN X (o35 np) (k35 np) (by rw [l35]; omega) (by rw [l35]; decide) (mem 35) rfl dX10_lightest_12 ?_
  refine j_nrm (nI q) hc ?_
  refine s_callVv X hR (c_choiceBegin np _ q hq) rfl 1 (by decide) (o53 np) (k53 np) rfl u777 u774 u775 u776 u8 hyX1_begin (by decide) (by decide) (Nat.le_of_ble_eq_true rfl) dX10_lightest_13 (fun m_13 h_13 => ?_)
  have h_13 := h_13.symm; subst h_13
  refine j_iconst X dX10_lightest_16 0 (by decide) ?_
  refine j_istore X dX10_lightest_17 (by decide) ?_
  have lp19 : ∀ (n : Nat) (p : Nat) (m2 : jMem), p ≤ np → np + 1 ≤ p + n → jeq [53, 54] mem m2 → m2 53 1 = nI (2 ^ q) → (∀ r, r < 2 ^ q → jMin (jIs (fun p => decide (mem (92 + 2 * p) 2 = b ∧ jHoldC (mem (92 + 2 * p) 4) (mem (92 + 2 * p) 5) (mem (92 + 2 * p) 7) (mem 26 (mem (92 + 2 * p) 1).toNatClampNeg) (mem 25 (mem (92 + 2 * p) 1).toNatClampNeg) (mem 33 dr) d = 0)) (fun p => jBn (fun k => decide (if mem (37 + dr) k = 0 then mem (92 + 2 * p) 1 = mem (42 + dr) k else (mem (37 + dr) k = 1 ∨ mem (47 + dr) k ≤ mem (93 + 2 * p) (mem (42 + dr) k).toNatClampNeg))) q) p r) (m2 54 r)) → J G RX10 cX10_lightest 6 0 0 19 (jlv [some (.ref 0), some (.int b), some (.int (nI dr)), some (.int d), some (.int (nI p))]) [] (jS np) (m2) := by
    intro n
    induction n with
    | zero =>
      intro p m2 hp3 hn3 hJ hS hB
      exact absurd hn3 (by omega)
    | succ n ih19 =>
      intro p m2 hp3 hn3 hJ hS hB
      have e92 : m2 (92 + 2 * p) = mem (92 + 2 * p) := hJ _ (by simp only [List.mem_cons, List.not_mem_nil, or_false]; omega)
      have e93 : m2 (93 + 2 * p) = mem (93 + 2 * p) := hJ _ (by simp only [List.mem_cons, List.not_mem_nil, or_false]; omega)
      have e37 : m2 (37 + dr) = mem (37 + dr) := hJ _ (by simp only [List.mem_cons, List.not_mem_nil, or_false]; omega)
      have e42 : m2 (42 + dr) = mem (42 + dr) := hJ _ (by simp only [List.mem_cons, List.not_mem_nil, or_false]; omega)
      have e47 : m2 (47 + dr) = mem (47 + dr) := hJ _ (by simp only [List.mem_cons, List.not_mem_nil, or_false]; omega)
      have e26 : m2 26 = mem 26 := hJ 26 (by decide)
      have e25 : m2 25 = mem 25 := hJ 25 (by decide)
      have e33 : m2 33 = mem 33 := hJ 33 (by decide)
      have e35 : m2 35 = mem 35 := hJ 35 (by decide)
      have e0 : m2 0 = mem 0 := hJ 0 (by decide)
      refine j_iload X dX10_lightest_19 rfl ?_
      refine j_aload_n X dX10_lightest_21 rfl ?_
      refine j_getF X 10 12 (by decide) (by decide) rfl u250 (o0 np) (k0 np) (m2 0) rfl dX10_lightest_22 ?_
      refine j_nrm (nI np) (by rw [e0]; exact hp) ?_
      refine j_icmp_ge X 86 dX10_lightest_25 (by decide) (fun c_25 => ?_) (fun c_25 => ?_)
      · obtain rfl : np = p := by clear hE hr hR X hof hoo hB hJ hS; (try simp only [lg_cmp_lt, lg_cmp_gt, lg_cmp_le, lg_cmp_ge] at *); (try simp (disch := omega) only [Int64.le_iff_toInt_le, Int64.lt_iff_toInt_lt, Int32.le_iff_toInt_le, Int32.lt_iff_toInt_lt, fa_eq, fa_lit, fa_litL, nI_toInt, pk_lT, Int32.toInt_toInt64, jadd64, jin, jnoneT] at *); omega
        refine j_aload_n X dX10_lightest_86 rfl ?_
        refine j_getR X 10 7 (by decide) (by decide) rfl u245 (o0 np) (k0 np) _ (p0_7 np) dX10_lightest_87 ?_
        refine s_callVi X hR (c_best np _ q hq hS) rfl 1 (by decide) (o53 np) (k53 np) rfl u801 u798 u799 u800 u8 hyX1_best (by decide) (by decide) (Nat.le_of_ble_eq_true rfl) dX10_lightest_90 (fun v_90 m_90 h_90 => ?_)
        obtain ⟨e1, e2⟩ := h_90; have e1 := e1.symm; have e2 := e2.symm; subst e1; subst e2
        refine s_iret X hE hr dX10_lightest_93 rfl ?_
        exact ⟨hB _ (by omega), hJ⟩
      · have hk2 : p < np := by clear hE hr hR X hof hoo hB hJ hS; (try simp only [lg_cmp_lt, lg_cmp_gt, lg_cmp_le, lg_cmp_ge] at *); (try simp (disch := omega) only [Int64.le_iff_toInt_le, Int64.lt_iff_toInt_lt, Int32.le_iff_toInt_le, Int32.lt_iff_toInt_lt, fa_eq, fa_lit, fa_litL, nI_toInt, pk_lT, Int32.toInt_toInt64, jadd64, jin, jnoneT] at *); omega
        obtain ⟨o, ho1, ho2⟩ := hoo p hk2
        have hg1 : (fun p => decide (mem (92 + 2 * p) 2 = b ∧ jHoldC (mem (92 + 2 * p) 4) (mem (92 + 2 * p) 5) (mem (92 + 2 * p) 7) (mem 26 (mem (92 + 2 * p) 1).toNatClampNeg) (mem 25 (mem (92 + 2 * p) 1).toNatClampNeg) (mem 33 dr) d = 0)) p = decide (mem (92 + 2 * p) 2 = b ∧ jHoldC (mem (92 + 2 * p) 4) (mem (92 + 2 * p) 5) (mem (92 + 2 * p) 7) (mem 26 o) (mem 25 o) (mem 33 dr) d = 0) := by simp only [ho2, nI_clamp (show o < 2 ^ 31 by omega)]
        refine j_aload_n X dX10_lightest_28 rfl ?_
        refine j_iload X dX10_lightest_29 rfl ?_
        refine s_callVa X hR (c_paperAt np _ p hn (by rw [e0]; exact hp) hk2) rfl 10 (by decide) (o0 np) (k0 np) rfl u435 u432 u434 qp2 u1 hyX10_paperAt (by decide) (by decide) (Nat.le_of_ble_eq_true rfl) dX10_lightest_31 (fun v_31 m_31 h_31 => ?_)
        obtain ⟨e1, e2⟩ := h_31; have e1 := e1.symm; have e2 := e2.symm; subst e1; subst e2
        refine j_astore X dX10_lightest_34 (by decide) ?_
        refine j_aload X dX10_lightest_36 rfl ?_
        refine j_ifnullR X 80 dX10_lightest_38 (by decide) ?_
        refine j_aload X dX10_lightest_41 rfl ?_
        refine j_getF X 6 2 (by decide) (by decide) rfl u397 (oP np (by omega)) (kP np _) (m2 (92 + 2 * p)) rfl dX10_lightest_43 ?_
        refine j_nrm (mem (92 + 2 * p) 2) (by rw [e92]) ?_
        refine j_iload_n X dX10_lightest_46 rfl ?_
        refine j_icmp_ne X 80 dX10_lightest_47 (by decide) (fun c_47 => ?_) (fun c_47 => ?_)
        · refine j_iinc X dX10_lightest_80 rfl 1 rfl ?_
          refine j_goto X 19 dX10_lightest_83 (by decide) ?_
          refine j_lv [some (.ref 0), some (.int b), some (.int (nI dr)), some (.int d), some (.int (nI (p + 1)))] ⟨rfl, rfl, rfl, rfl, (congrArg (fun z => some (Value.int z)) (nI_1 _)), trivial⟩ ?_
          exact ih19 (p + 1) _ (by omega) (by omega) (by first | exact hJ | exact hJ.tr (hJ3.mo (by simp))) (by first | exact hS | (rw [hJ3 53 (by decide)]; exact hS)) (by
              first
                | exact hB3
                | exact fun r hr3 => jMin_c (hB r hr3) (fun K => jIs_no (g := (fun p => decide (mem (92 + 2 * p) 2 = b ∧ jHoldC (mem (92 + 2 * p) 4) (mem (92 + 2 * p) 5) (mem (92 + 2 * p) 7) (mem 26 (mem (92 + 2 * p) 1).toNatClampNeg) (mem 25 (mem (92 + 2 * p) 1).toNatClampNeg) (mem 33 dr) d = 0))) (fun z => c_58 (of_decide_eq_true (hg1.symm.trans z)).2))
                | exact fun r hr3 => jMin_c (hB r hr3) (fun K => jIs_no (g := (fun p => decide (mem (92 + 2 * p) 2 = b ∧ jHoldC (mem (92 + 2 * p) 4) (mem (92 + 2 * p) 5) (mem (92 + 2 * p) 7) (mem 26 (mem (92 + 2 * p) 1).toNatClampNeg) (mem 25 (mem (92 + 2 * p) 1).toNatClampNeg) (mem 33 dr) d = 0))) (fun z => c_47 (of_decide_eq_true (hg1.symm.trans z)).1)))
        · refine j_aload_n X dX10_lightest_50 rfl ?_
          refine j_aload X dX10_lightest_51 rfl ?_
          refine j_iload_n X dX10_lightest_53 rfl ?_
          refine j_iload_n X dX10_lightest_54 rfl ?_
          refine s_callVi X hR (c_whyNot np _ p dr o d hk2 hdr ho1 (by rw [e92]; exact ho2)) rfl 10 (by decide) (o0 np) (k0 np) rfl u624 u621 u623 qp9 u1 hyX10_whyNot (by decide) (by decide) (Nat.le_of_ble_eq_true rfl) dX10_lightest_55 (fun v_55 m_55 h_55 => ?_)
          obtain ⟨e1, e2⟩ := h_55; have e1 := e1.symm; have e2 := e2.symm; subst e1; subst e2
          refine j_nrm (jHoldC (mem (92 + 2 * p) 4) (mem (92 + 2 * p) 5) (mem (92 + 2 * p) 7) (mem 26 o) (mem 25 o) (mem 33 dr) d) (by simp only [e92, e93, e37, e42, e47, e26, e25, e33, e35, e0]) ?_
          refine j_if_ne X 80 dX10_lightest_58 (by decide) (fun c_58 => ?_) (fun c_58 => ?_)
          · refine j_iinc X dX10_lightest_80 rfl 1 rfl ?_
            refine j_goto X 19 dX10_lightest_83 (by decide) ?_
            refine j_lv [some (.ref 0), some (.int b), some (.int (nI dr)), some (.int d), some (.int (nI (p + 1)))] ⟨rfl, rfl, rfl, rfl, (congrArg (fun z => some (Value.int z)) (nI_1 _)), trivial⟩ ?_
            exact ih19 (p + 1) _ (by omega) (by omega) (by first | exact hJ | exact hJ.tr (hJ3.mo (by simp))) (by first | exact hS | (rw [hJ3 53 (by decide)]; exact hS)) (by
              first
                | exact hB3
                | exact fun r hr3 => jMin_c (hB r hr3) (fun K => jIs_no (g := (fun p => decide (mem (92 + 2 * p) 2 = b ∧ jHoldC (mem (92 + 2 * p) 4) (mem (92 + 2 * p) 5) (mem (92 + 2 * p) 7) (mem 26 (mem (92 + 2 * p) 1).toNatClampNeg) (mem 25 (mem (92 + 2 * p) 1).toNatClampNeg) (mem 33 dr) d = 0))) (fun z => c_58 (of_decide_eq_true (hg1.symm.trans z)).2))
                | exact fun r hr3 => jMin_c (hB r hr3) (fun K => jIs_no (g := (fun p => decide (mem (92 + 2 * p) 2 = b ∧ jHoldC (mem (92 + 2 * p) 4) (mem (92 + 2 * p) 5) (mem (92 + 2 * p) 7) (mem 26 (mem (92 + 2 * p) 1).toNatClampNeg) (mem 25 (mem (92 + 2 * p) 1).toNatClampNeg) (mem 33 dr) d = 0))) (fun z => c_47 (of_decide_eq_true (hg1.symm.trans z)).1)))
          · refine j_aload_n X dX10_lightest_61 rfl ?_
            refine j_getR X 10 7 (by decide) (by decide) rfl u245 (o0 np) (k0 np) _ (p0_7 np) dX10_lightest_62 ?_
            refine j_iload X dX10_lightest_65 rfl ?_
            refine j_aload_n X dX10_lightest_67 rfl ?_
            refine j_getR X 10 5 (by decide) (by decide) rfl u243 (o0 np) (k0 np) _ (p0_5 np) dX10_lightest_68 ?_
            refine j_aload X dX10_lightest_71 rfl ?_
            refine j_iload_n X dX10_lightest_73 rfl ?_
            refine s_callVi X hR (c_fittedBy np _ p dr q hk2 hdr hq (by rw [e35]; exact hc) (fun k hk => by rw [e42]; exact hof k hk)) rfl 3 (by decide) (o32 np) (k32 np) rfl u784 u781 u782 u783 u6 hyX3_fittedBy (by decide) (by decide) (Nat.le_of_ble_eq_true rfl) dX10_lightest_74 (fun v_74 m_74 h_74 => ?_)
            obtain ⟨e1, e2⟩ := h_74; have e1 := e1.symm; have e2 := e2.symm; subst e1; subst e2
            refine j_nrm (nI ((fun p => jBn (fun k => decide (if mem (37 + dr) k = 0 then mem (92 + 2 * p) 1 = mem (42 + dr) k else (mem (37 + dr) k = 1 ∨ mem (47 + dr) k ≤ mem (93 + 2 * p) (mem (42 + dr) k).toNatClampNeg))) q) p)) (by simp only [e92, e93, e37, e42, e47, e26, e25, e33, e35, e0]; exact jBits_n q (by omega)) ?_
            refine s_callVv X hR (c_offer np _ (fun p => decide (mem (92 + 2 * p) 2 = b ∧ jHoldC (mem (92 + 2 * p) 4) (mem (92 + 2 * p) 5) (mem (92 + 2 * p) 7) (mem 26 (mem (92 + 2 * p) 1).toNatClampNeg) (mem 25 (mem (92 + 2 * p) 1).toNatClampNeg) (mem 33 dr) d = 0)) (fun p => jBn (fun k => decide (if mem (37 + dr) k = 0 then mem (92 + 2 * p) 1 = mem (42 + dr) k else (mem (37 + dr) k = 1 ∨ mem (47 + dr) k ≤ mem (93 + 2 * p) (mem (42 + dr) k).toNatClampNeg))) q) p q hq (by omega) (hg1.trans (decide_eq_true ⟨c_47, c_58⟩)) (fun j => jBn_lt q) hS hB) rfl 1 (by decide) (o53 np) (k53 np) rfl u791 u788 u789 u790 u8 hyX1_offer (by decide) (by decide) (Nat.le_of_ble_eq_true rfl) dX10_lightest_77 (fun m_77 h_77 => ?_)
            obtain ⟨hJ3, hB3⟩ := h_77
            refine j_iinc X dX10_lightest_80 rfl 1 rfl ?_
            refine j_goto X 19 dX10_lightest_83 (by decide) ?_
            refine j_lv [some (.ref 0), some (.int b), some (.int (nI dr)), some (.int d), some (.int (nI (p + 1)))] ⟨rfl, rfl, rfl, rfl, (congrArg (fun z => some (Value.int z)) (nI_1 _)), trivial⟩ ?_
            exact ih19 (p + 1) _ (by omega) (by omega) (by first | exact hJ | exact hJ.tr (hJ3.mo (by simp))) (by first | exact hS | (rw [hJ3 53 (by decide)]; exact hS)) (by
              first
                | exact hB3
                | exact fun r hr3 => jMin_c (hB r hr3) (fun K => jIs_no (g := (fun p => decide (mem (92 + 2 * p) 2 = b ∧ jHoldC (mem (92 + 2 * p) 4) (mem (92 + 2 * p) 5) (mem (92 + 2 * p) 7) (mem 26 (mem (92 + 2 * p) 1).toNatClampNeg) (mem 25 (mem (92 + 2 * p) 1).toNatClampNeg) (mem 33 dr) d = 0))) (fun z => c_58 (of_decide_eq_true (hg1.symm.trans z)).2))
                | exact fun r hr3 => jMin_c (hB r hr3) (fun K => jIs_no (g := (fun p => decide (mem (92 + 2 * p) 2 = b ∧ jHoldC (mem (92 + 2 * p) 4) (mem (92 + 2 * p) 5) (mem (92 + 2 * p) 7) (mem 26 (mem (92 + 2 * p) 1).toNatClampNeg) (mem 25 (mem (92 + 2 * p) 1).toNatClampNeg) (mem 33 dr) d = 0))) (fun z => c_47 (of_decide_eq_true (hg1.symm.trans z)).1)))
  refine j_lv [some (.ref 0), some (.int b), some (.int (nI dr)), some (.int d), some (.int (nI 0))] ⟨rfl, rfl, rfl, rfl, rfl, trivial⟩ ?_
  exact lp19 (np + 1) 0 _ (by omega) (by omega) (fun i hi => by
      have h53 : ¬ i = 53 := fun e => hi (by simp [e])
      have h54 : ¬ i = 54 := fun e => hi (by simp [e])
      simp only [jup, jfill, va_up, h53, h54, if_false]) (by simp [jup, jfill, va_up]) (fun r hr3 => by
      by_cases e : r = 0
      · subst e
        exact Or.inr ⟨0, by simp [jup, jfill, va_up, nI_0], jIs_0.mpr ⟨rfl, rfl⟩, fun K2 _ => Nat.zero_le _⟩
      · refine Or.inl ⟨?_, fun K z => e (jIs_0.mp z).1⟩
        have h256 : 2 ^ q ≤ 2 ^ 8 := Nat.pow_le_pow_right (by omega) hq
        have h8 : r < 256 := Nat.lt_of_lt_of_le hr3 h256
        simp [jup, jfill, va_up, e, h8])
set_option maxRecDepth 4000 in
set_option maxHeartbeats 1000000 in
theorem c_least_bad (np : Nat) (mem : jMem) (b dr d w : Int32) (h : ¬ (jin b 0 5 ∧ jin dr 0 3 ∧ jin d 0 999 ∧ jin w 0 1)) : jPi yX10_least cX10_least 6 .int 4 [.ref 0, .int b, .int dr, .int d, .int w] np mem (fun v c => v = -1000001 ∧ c = mem) := by
  refine jPi.of (own := RX10) rfl rfl (Nat.le_of_ble_eq_true rfl) (fun G X hR hr hE => ?_)
  refine j_iload_n X dX10_least_0 rfl ?_
  refine s_callSi X hR (c_isBearer np _ _) rfl u550 u548 u549 u1 hyX10_isBearer (by decide) (by decide) (Nat.le_of_ble_eq_true rfl) dX10_least_1 (fun v_1 m_1 h_1 => ?_)
  obtain ⟨e1, e2⟩ := h_1; have e1 := e1.symm; have e2 := e2.symm; subst e1; subst e2
  refine j_ifb_eq X 31 dX10_least_4 (by decide) (fun c_4 => ?_) (fun c_4 => ?_)
  · refine j_ldc X dX10_least_31 u295 ?_
    refine s_iret X hE hr dX10_least_33 rfl ?_
    first | exact ⟨rfl, rfl⟩ | (exfalso; clear hE hr hR X; (try simp only [lg_cmp_lt, lg_cmp_gt, lg_cmp_le, lg_cmp_ge] at *); (try simp (disch := omega) only [Int64.le_iff_toInt_le, Int64.lt_iff_toInt_lt, Int32.le_iff_toInt_le, Int32.lt_iff_toInt_lt, fa_eq, fa_lit, fa_litL, nI_toInt, pk_lT, Int32.toInt_toInt64, jadd64, jin, jnoneT] at *); omega)
  · refine j_iload_n X dX10_least_7 rfl ?_
    refine s_callSi X hR (c_isDoor np _ _) rfl u612 u610 u611 u1 hyX10_isDoor (by decide) (by decide) (Nat.le_of_ble_eq_true rfl) dX10_least_8 (fun v_8 m_8 h_8 => ?_)
    obtain ⟨e1, e2⟩ := h_8; have e1 := e1.symm; have e2 := e2.symm; subst e1; subst e2
    refine j_ifb_eq X 31 dX10_least_11 (by decide) (fun c_11 => ?_) (fun c_11 => ?_)
    · refine j_ldc X dX10_least_31 u295 ?_
      refine s_iret X hE hr dX10_least_33 rfl ?_
      first | exact ⟨rfl, rfl⟩ | (exfalso; clear hE hr hR X; (try simp only [lg_cmp_lt, lg_cmp_gt, lg_cmp_le, lg_cmp_ge] at *); (try simp (disch := omega) only [Int64.le_iff_toInt_le, Int64.lt_iff_toInt_lt, Int32.le_iff_toInt_le, Int32.lt_iff_toInt_lt, fa_eq, fa_lit, fa_litL, nI_toInt, pk_lT, Int32.toInt_toInt64, jadd64, jin, jnoneT] at *); omega)
    · refine j_iload_n X dX10_least_14 rfl ?_
      refine s_callSi X hR (c_isDay np _ _) rfl u355 u353 u354 u1 hyX10_isDay (by decide) (by decide) (Nat.le_of_ble_eq_true rfl) dX10_least_15 (fun v_15 m_15 h_15 => ?_)
      obtain ⟨e1, e2⟩ := h_15; have e1 := e1.symm; have e2 := e2.symm; subst e1; subst e2
      refine j_ifb_eq X 31 dX10_least_18 (by decide) (fun c_18 => ?_) (fun c_18 => ?_)
      · refine j_ldc X dX10_least_31 u295 ?_
        refine s_iret X hE hr dX10_least_33 rfl ?_
        first | exact ⟨rfl, rfl⟩ | (exfalso; clear hE hr hR X; (try simp only [lg_cmp_lt, lg_cmp_gt, lg_cmp_le, lg_cmp_ge] at *); (try simp (disch := omega) only [Int64.le_iff_toInt_le, Int64.lt_iff_toInt_lt, Int32.le_iff_toInt_le, Int32.lt_iff_toInt_lt, fa_eq, fa_lit, fa_litL, nI_toInt, pk_lT, Int32.toInt_toInt64, jadd64, jin, jnoneT] at *); omega)
      · refine j_iload X dX10_least_21 rfl ?_
        refine j_iconst X dX10_least_23 0 (by decide) ?_
        refine j_iconst X dX10_least_24 1 (by decide) ?_
        refine s_callSi X hR (c_withinI np _ _ _ _ (0) (1) rfl rfl) rfl u293 u294 u292 u1 hyX10_within (by decide) (by decide) (Nat.le_of_ble_eq_true rfl) dX10_least_25 (fun v_25 m_25 h_25 => ?_)
        obtain ⟨e1, e2⟩ := h_25; have e1 := e1.symm; have e2 := e2.symm; subst e1; subst e2
        refine j_ifb_ne X 34 dX10_least_28 (by decide) (fun c_28 => ?_) (fun c_28 => ?_)
        · exfalso
          clear hE hr hR X
          (try simp only [lg_cmp_lt, lg_cmp_gt, lg_cmp_le, lg_cmp_ge] at *); (try simp (disch := omega) only [Int64.le_iff_toInt_le, Int64.lt_iff_toInt_lt, Int32.le_iff_toInt_le, Int32.lt_iff_toInt_lt, fa_eq, fa_lit, fa_litL, nI_toInt, pk_lT, Int32.toInt_toInt64, jadd64, jin, jnoneT] at *); omega
        · refine j_ldc X dX10_least_31 u295 ?_
          refine s_iret X hE hr dX10_least_33 rfl ?_
          first | exact ⟨rfl, rfl⟩ | (exfalso; clear hE hr hR X; (try simp only [lg_cmp_lt, lg_cmp_gt, lg_cmp_le, lg_cmp_ge] at *); (try simp (disch := omega) only [Int64.le_iff_toInt_le, Int64.lt_iff_toInt_lt, Int32.le_iff_toInt_le, Int32.lt_iff_toInt_lt, fa_eq, fa_lit, fa_litL, nI_toInt, pk_lT, Int32.toInt_toInt64, jadd64, jin, jnoneT] at *); omega)
set_option maxRecDepth 4000 in
set_option maxHeartbeats 1000000 in
theorem c_least0_none (np : Nat) (mem : jMem) (b d : Int32) (dr q : Nat) (hb : jin b 0 5) (hd : jin d 0 999) (hdr : dr < 4) (hq : q ≤ 8) (hc : mem 35 dr = nI q) (hA : jAny (fun i => decide (¬ mem (37 + dr) i = 0 ∧ ¬ (mem 34 dr >>> (mem (42 + dr) i &&& 31)) &&& 1 = 1)) q = true) : jPi yX10_least cX10_least 6 .int 4 [.ref 0, .int b, .int (nI dr), .int d, .int 0] np mem (fun v c => v = -1000000 ∧ c = mem) := by
  refine jPi.of (own := RX10) rfl rfl (Nat.le_of_ble_eq_true rfl) (fun G X hR hr hE => ?_)
  refine j_iload_n X dX10_least_0 rfl ?_
  refine s_callSi X hR (c_isBearer np _ _) rfl u550 u548 u549 u1 hyX10_isBearer (by decide) (by decide) (Nat.le_of_ble_eq_true rfl) dX10_least_1 (fun v_1 m_1 h_1 => ?_)
  obtain ⟨e1, e2⟩ := h_1; have e1 := e1.symm; have e2 := e2.symm; subst e1; subst e2
  refine j_ifb_eq X 31 dX10_least_4 (by decide) (fun c_4 => ?_) (fun c_4 => ?_)
  · exfalso
    clear hE hr hR X
    (try simp only [lg_cmp_lt, lg_cmp_gt, lg_cmp_le, lg_cmp_ge] at *); (try simp (disch := omega) only [Int64.le_iff_toInt_le, Int64.lt_iff_toInt_lt, Int32.le_iff_toInt_le, Int32.lt_iff_toInt_lt, fa_eq, fa_lit, fa_litL, nI_toInt, pk_lT, Int32.toInt_toInt64, jadd64, jin, jnoneT] at *); omega
  · refine j_iload_n X dX10_least_7 rfl ?_
    refine s_callSi X hR (c_isDoor np _ _) rfl u612 u610 u611 u1 hyX10_isDoor (by decide) (by decide) (Nat.le_of_ble_eq_true rfl) dX10_least_8 (fun v_8 m_8 h_8 => ?_)
    obtain ⟨e1, e2⟩ := h_8; have e1 := e1.symm; have e2 := e2.symm; subst e1; subst e2
    refine j_ifb_eq X 31 dX10_least_11 (by decide) (fun c_11 => ?_) (fun c_11 => ?_)
    · exfalso
      clear hE hr hR X
      (try simp only [lg_cmp_lt, lg_cmp_gt, lg_cmp_le, lg_cmp_ge] at *); (try simp (disch := omega) only [Int64.le_iff_toInt_le, Int64.lt_iff_toInt_lt, Int32.le_iff_toInt_le, Int32.lt_iff_toInt_lt, fa_eq, fa_lit, fa_litL, nI_toInt, pk_lT, Int32.toInt_toInt64, jadd64, jin, jnoneT] at *); omega
    · refine j_iload_n X dX10_least_14 rfl ?_
      refine s_callSi X hR (c_isDay np _ _) rfl u355 u353 u354 u1 hyX10_isDay (by decide) (by decide) (Nat.le_of_ble_eq_true rfl) dX10_least_15 (fun v_15 m_15 h_15 => ?_)
      obtain ⟨e1, e2⟩ := h_15; have e1 := e1.symm; have e2 := e2.symm; subst e1; subst e2
      refine j_ifb_eq X 31 dX10_least_18 (by decide) (fun c_18 => ?_) (fun c_18 => ?_)
      · exfalso
        clear hE hr hR X
        (try simp only [lg_cmp_lt, lg_cmp_gt, lg_cmp_le, lg_cmp_ge] at *); (try simp (disch := omega) only [Int64.le_iff_toInt_le, Int64.lt_iff_toInt_lt, Int32.le_iff_toInt_le, Int32.lt_iff_toInt_lt, fa_eq, fa_lit, fa_litL, nI_toInt, pk_lT, Int32.toInt_toInt64, jadd64, jin, jnoneT] at *); omega
      · refine j_iload X dX10_least_21 rfl ?_
        refine j_iconst X dX10_least_23 0 (by decide) ?_
        refine j_iconst X dX10_least_24 1 (by decide) ?_
        refine s_callSi X hR (c_withinI np _ _ _ _ (0) (1) rfl rfl) rfl u293 u294 u292 u1 hyX10_within (by decide) (by decide) (Nat.le_of_ble_eq_true rfl) dX10_least_25 (fun v_25 m_25 h_25 => ?_)
        obtain ⟨e1, e2⟩ := h_25; have e1 := e1.symm; have e2 := e2.symm; subst e1; subst e2
        refine j_ifb_ne X 34 dX10_least_28 (by decide) (fun c_28 => ?_) (fun c_28 => ?_)
        · refine j_aload_n X dX10_least_34 rfl ?_
          refine j_getR X 10 5 (by decide) (by decide) rfl u243 (o0 np) (k0 np) _ (p0_5 np) dX10_least_35 ?_
          refine j_iload_n X dX10_least_38 rfl ?_
          refine s_callVi X hR (c_asksTooMuch np _ dr q hdr hq hc) rfl 3 (by decide) (o32 np) (k32 np) rfl u764 u761 u762 u763 u6 hyX3_asksTooMuch (by decide) (by decide) (Nat.le_of_ble_eq_true rfl) dX10_least_39 (fun v_39 m_39 h_39 => ?_)
          obtain ⟨e1, e2⟩ := h_39; have e1 := e1.symm; have e2 := e2.symm; subst e1; subst e2
          refine j_ifb_eq X 50 dX10_least_42 (by decide) (fun c_42 => ?_) (fun c_42 => ?_)
          · exact absurd hA c_42
          · refine j_ldc X dX10_least_45 u502 ?_
            refine j_goto X 57 dX10_least_47 (by decide) ?_
            refine j_istore X dX10_least_57 (by decide) ?_
            refine j_iload X dX10_least_59 rfl ?_
            refine j_ldc X dX10_least_61 u502 ?_
            refine j_icmp_ne X 69 dX10_least_63 (by decide) (fun c_63 => absurd c_63 (by decide)) (fun c_63 => ?_)
            refine j_ldc X dX10_least_66 u502 ?_
            refine s_iret X hE hr dX10_least_68 rfl ?_
            first | exact ⟨rfl, rfl⟩ | (exfalso; clear hE hr hR X; (try simp only [lg_cmp_lt, lg_cmp_gt, lg_cmp_le, lg_cmp_ge] at *); (try simp (disch := omega) only [Int64.le_iff_toInt_le, Int64.lt_iff_toInt_lt, Int32.le_iff_toInt_le, Int32.lt_iff_toInt_lt, fa_eq, fa_lit, fa_litL, nI_toInt, pk_lT, Int32.toInt_toInt64, jadd64, jin, jnoneT] at *); omega)
        · exfalso
          clear hE hr hR X
          (try simp only [lg_cmp_lt, lg_cmp_gt, lg_cmp_le, lg_cmp_ge] at *); (try simp (disch := omega) only [Int64.le_iff_toInt_le, Int64.lt_iff_toInt_lt, Int32.le_iff_toInt_le, Int32.lt_iff_toInt_lt, fa_eq, fa_lit, fa_litL, nI_toInt, pk_lT, Int32.toInt_toInt64, jadd64, jin, jnoneT] at *); omega
set_option maxRecDepth 4000 in
set_option maxHeartbeats 1000000 in
theorem c_least0 (np : Nat) (mem : jMem) (b d : Int32) (dr q : Nat) (hn : np ≤ 12) (hp : mem 0 12 = nI np) (hb : jin b 0 5) (hd : jin d 0 999) (hdr : dr < 4) (hq : q ≤ 8) (hc : mem 35 dr = nI q) (hoo : ∀ p, p < np → ∃ o, o < 4 ∧ mem (92 + 2 * p) 1 = nI o) (hof : ∀ k, k < q → ∃ w, w < 4 ∧ mem (42 + dr) k = nI w) (hA : ¬ jAny (fun i => decide (¬ mem (37 + dr) i = 0 ∧ ¬ (mem 34 dr >>> (mem (42 + dr) i &&& 31)) &&& 1 = 1)) q = true) : jPi yX10_least cX10_least 6 .int 4 [.ref 0, .int b, .int (nI dr), .int d, .int 0] np mem (fun v c => jBest (jIs (fun p => decide (mem (92 + 2 * p) 2 = b ∧ jHoldC (mem (92 + 2 * p) 4) (mem (92 + 2 * p) 5) (mem (92 + 2 * p) 7) (mem 26 (mem (92 + 2 * p) 1).toNatClampNeg) (mem 25 (mem (92 + 2 * p) 1).toNatClampNeg) (mem 33 dr) d = 0)) (fun p => jBn (fun k => decide (if mem (37 + dr) k = 0 then mem (92 + 2 * p) 1 = mem (42 + dr) k else (mem (37 + dr) k = 1 ∨ mem (47 + dr) k ≤ mem (93 + 2 * p) (mem (42 + dr) k).toNatClampNeg))) q) np (2 ^ q - 1)) 0 v ∧ jeq [53, 54] mem c) := by
  refine jPi.of (own := RX10) rfl rfl (Nat.le_of_ble_eq_true rfl) (fun G X hR hr hE => ?_)
  refine j_iload_n X dX10_least_0 rfl ?_
  refine s_callSi X hR (c_isBearer np _ _) rfl u550 u548 u549 u1 hyX10_isBearer (by decide) (by decide) (Nat.le_of_ble_eq_true rfl) dX10_least_1 (fun v_1 m_1 h_1 => ?_)
  obtain ⟨e1, e2⟩ := h_1; have e1 := e1.symm; have e2 := e2.symm; subst e1; subst e2
  refine j_ifb_eq X 31 dX10_least_4 (by decide) (fun c_4 => ?_) (fun c_4 => ?_)
  · exfalso
    clear hE hr hR X
    (try simp only [lg_cmp_lt, lg_cmp_gt, lg_cmp_le, lg_cmp_ge] at *); (try simp (disch := omega) only [Int64.le_iff_toInt_le, Int64.lt_iff_toInt_lt, Int32.le_iff_toInt_le, Int32.lt_iff_toInt_lt, fa_eq, fa_lit, fa_litL, nI_toInt, pk_lT, Int32.toInt_toInt64, jadd64, jin, jnoneT] at *); omega
  · refine j_iload_n X dX10_least_7 rfl ?_
    refine s_callSi X hR (c_isDoor np _ _) rfl u612 u610 u611 u1 hyX10_isDoor (by decide) (by decide) (Nat.le_of_ble_eq_true rfl) dX10_least_8 (fun v_8 m_8 h_8 => ?_)
    obtain ⟨e1, e2⟩ := h_8; have e1 := e1.symm; have e2 := e2.symm; subst e1; subst e2
    refine j_ifb_eq X 31 dX10_least_11 (by decide) (fun c_11 => ?_) (fun c_11 => ?_)
    · exfalso
      clear hE hr hR X
      (try simp only [lg_cmp_lt, lg_cmp_gt, lg_cmp_le, lg_cmp_ge] at *); (try simp (disch := omega) only [Int64.le_iff_toInt_le, Int64.lt_iff_toInt_lt, Int32.le_iff_toInt_le, Int32.lt_iff_toInt_lt, fa_eq, fa_lit, fa_litL, nI_toInt, pk_lT, Int32.toInt_toInt64, jadd64, jin, jnoneT] at *); omega
    · refine j_iload_n X dX10_least_14 rfl ?_
      refine s_callSi X hR (c_isDay np _ _) rfl u355 u353 u354 u1 hyX10_isDay (by decide) (by decide) (Nat.le_of_ble_eq_true rfl) dX10_least_15 (fun v_15 m_15 h_15 => ?_)
      obtain ⟨e1, e2⟩ := h_15; have e1 := e1.symm; have e2 := e2.symm; subst e1; subst e2
      refine j_ifb_eq X 31 dX10_least_18 (by decide) (fun c_18 => ?_) (fun c_18 => ?_)
      · exfalso
        clear hE hr hR X
        (try simp only [lg_cmp_lt, lg_cmp_gt, lg_cmp_le, lg_cmp_ge] at *); (try simp (disch := omega) only [Int64.le_iff_toInt_le, Int64.lt_iff_toInt_lt, Int32.le_iff_toInt_le, Int32.lt_iff_toInt_lt, fa_eq, fa_lit, fa_litL, nI_toInt, pk_lT, Int32.toInt_toInt64, jadd64, jin, jnoneT] at *); omega
      · refine j_iload X dX10_least_21 rfl ?_
        refine j_iconst X dX10_least_23 0 (by decide) ?_
        refine j_iconst X dX10_least_24 1 (by decide) ?_
        refine s_callSi X hR (c_withinI np _ _ _ _ (0) (1) rfl rfl) rfl u293 u294 u292 u1 hyX10_within (by decide) (by decide) (Nat.le_of_ble_eq_true rfl) dX10_least_25 (fun v_25 m_25 h_25 => ?_)
        obtain ⟨e1, e2⟩ := h_25; have e1 := e1.symm; have e2 := e2.symm; subst e1; subst e2
        refine j_ifb_ne X 34 dX10_least_28 (by decide) (fun c_28 => ?_) (fun c_28 => ?_)
        · refine j_aload_n X dX10_least_34 rfl ?_
          refine j_getR X 10 5 (by decide) (by decide) rfl u243 (o0 np) (k0 np) _ (p0_5 np) dX10_least_35 ?_
          refine j_iload_n X dX10_least_38 rfl ?_
          refine s_callVi X hR (c_asksTooMuch np _ dr q hdr hq hc) rfl 3 (by decide) (o32 np) (k32 np) rfl u764 u761 u762 u763 u6 hyX3_asksTooMuch (by decide) (by decide) (Nat.le_of_ble_eq_true rfl) dX10_least_39 (fun v_39 m_39 h_39 => ?_)
          obtain ⟨e1, e2⟩ := h_39; have e1 := e1.symm; have e2 := e2.symm; subst e1; subst e2
          refine j_ifb_eq X 50 dX10_least_42 (by decide) (fun c_42 => ?_) (fun c_42 => ?_)
          · refine j_aload_n X dX10_least_50 rfl ?_
            refine j_iload_n X dX10_least_51 rfl ?_
            refine j_iload_n X dX10_least_52 rfl ?_
            refine j_iload_n X dX10_least_53 rfl ?_
            refine s_callVi X hR (c_lightest np _ b d dr q hn hp hdr hq hc hoo hof) rfl 10 (by decide) (o0 np) (k0 np) rfl u773 u770 u772 qp21 u1 hyX10_lightest (by decide) (by decide) (Nat.le_of_ble_eq_true rfl) dX10_least_54 (fun v_54 m_54 h_54 => ?_)
            obtain ⟨hL, hJ⟩ := h_54
            refine j_istore X dX10_least_57 (by decide) ?_
            refine j_iload X dX10_least_59 rfl ?_
            refine j_ldc X dX10_least_61 u502 ?_
            refine j_icmp_ne X 69 dX10_least_63 (by decide) (fun c_63 => ?_) (fun c_63 => ?_)
            · obtain ⟨K, hK1, hK2, hK3⟩ := hL.resolve_left (fun z => c_63 z.1)
              have hK4 := jIs_lt hn hK2
              subst hK1
              refine j_iload X dX10_least_69 rfl ?_
              refine j_if_ne X 83 dX10_least_71 (by decide) (fun c_71 => absurd c_71 (by decide)) (fun c_71 => ?_)
              refine j_iload X dX10_least_74 rfl ?_
              refine j_sipush X dX10_least_76 4096 (by decide) ?_
              refine j_irem X dX10_least_79 (by decide) ?_
              refine j_goto X 89 dX10_least_80 (by decide) ?_
              refine s_iret X hE hr dX10_least_89 rfl ?_
              refine ⟨Or.inr ⟨K, hK2, hK3, ?_⟩, hJ⟩
              rw [if_pos rfl, show (4096 : Int32) = nI 4096 from rfl, pk_rem (by omega) (by omega) (by omega)]
            · refine j_ldc X dX10_least_66 u502 ?_
              refine s_iret X hE hr dX10_least_68 rfl ?_
              exact ⟨Or.inl ⟨rfl, (hL.resolve_right (fun ⟨K, hK1, hK2, hK3⟩ => absurd (hK1.symm.trans c_63) (jnn (by have := jIs_lt hn hK2; omega)))).2⟩, hJ⟩
          · exact absurd c_42 hA
        · exfalso
          clear hE hr hR X
          (try simp only [lg_cmp_lt, lg_cmp_gt, lg_cmp_le, lg_cmp_ge] at *); (try simp (disch := omega) only [Int64.le_iff_toInt_le, Int64.lt_iff_toInt_lt, Int32.le_iff_toInt_le, Int32.lt_iff_toInt_lt, fa_eq, fa_lit, fa_litL, nI_toInt, pk_lT, Int32.toInt_toInt64, jadd64, jin, jnoneT] at *); omega
set_option maxRecDepth 4000 in
set_option maxHeartbeats 1000000 in
theorem c_least1_none (np : Nat) (mem : jMem) (b d : Int32) (dr q : Nat) (hb : jin b 0 5) (hd : jin d 0 999) (hdr : dr < 4) (hq : q ≤ 8) (hc : mem 35 dr = nI q) (hA : jAny (fun i => decide (¬ mem (37 + dr) i = 0 ∧ ¬ (mem 34 dr >>> (mem (42 + dr) i &&& 31)) &&& 1 = 1)) q = true) : jPi yX10_least cX10_least 6 .int 4 [.ref 0, .int b, .int (nI dr), .int d, .int 1] np mem (fun v c => v = -1000000 ∧ c = mem) := by
  refine jPi.of (own := RX10) rfl rfl (Nat.le_of_ble_eq_true rfl) (fun G X hR hr hE => ?_)
  refine j_iload_n X dX10_least_0 rfl ?_
  refine s_callSi X hR (c_isBearer np _ _) rfl u550 u548 u549 u1 hyX10_isBearer (by decide) (by decide) (Nat.le_of_ble_eq_true rfl) dX10_least_1 (fun v_1 m_1 h_1 => ?_)
  obtain ⟨e1, e2⟩ := h_1; have e1 := e1.symm; have e2 := e2.symm; subst e1; subst e2
  refine j_ifb_eq X 31 dX10_least_4 (by decide) (fun c_4 => ?_) (fun c_4 => ?_)
  · exfalso
    clear hE hr hR X
    (try simp only [lg_cmp_lt, lg_cmp_gt, lg_cmp_le, lg_cmp_ge] at *); (try simp (disch := omega) only [Int64.le_iff_toInt_le, Int64.lt_iff_toInt_lt, Int32.le_iff_toInt_le, Int32.lt_iff_toInt_lt, fa_eq, fa_lit, fa_litL, nI_toInt, pk_lT, Int32.toInt_toInt64, jadd64, jin, jnoneT] at *); omega
  · refine j_iload_n X dX10_least_7 rfl ?_
    refine s_callSi X hR (c_isDoor np _ _) rfl u612 u610 u611 u1 hyX10_isDoor (by decide) (by decide) (Nat.le_of_ble_eq_true rfl) dX10_least_8 (fun v_8 m_8 h_8 => ?_)
    obtain ⟨e1, e2⟩ := h_8; have e1 := e1.symm; have e2 := e2.symm; subst e1; subst e2
    refine j_ifb_eq X 31 dX10_least_11 (by decide) (fun c_11 => ?_) (fun c_11 => ?_)
    · exfalso
      clear hE hr hR X
      (try simp only [lg_cmp_lt, lg_cmp_gt, lg_cmp_le, lg_cmp_ge] at *); (try simp (disch := omega) only [Int64.le_iff_toInt_le, Int64.lt_iff_toInt_lt, Int32.le_iff_toInt_le, Int32.lt_iff_toInt_lt, fa_eq, fa_lit, fa_litL, nI_toInt, pk_lT, Int32.toInt_toInt64, jadd64, jin, jnoneT] at *); omega
    · refine j_iload_n X dX10_least_14 rfl ?_
      refine s_callSi X hR (c_isDay np _ _) rfl u355 u353 u354 u1 hyX10_isDay (by decide) (by decide) (Nat.le_of_ble_eq_true rfl) dX10_least_15 (fun v_15 m_15 h_15 => ?_)
      obtain ⟨e1, e2⟩ := h_15; have e1 := e1.symm; have e2 := e2.symm; subst e1; subst e2
      refine j_ifb_eq X 31 dX10_least_18 (by decide) (fun c_18 => ?_) (fun c_18 => ?_)
      · exfalso
        clear hE hr hR X
        (try simp only [lg_cmp_lt, lg_cmp_gt, lg_cmp_le, lg_cmp_ge] at *); (try simp (disch := omega) only [Int64.le_iff_toInt_le, Int64.lt_iff_toInt_lt, Int32.le_iff_toInt_le, Int32.lt_iff_toInt_lt, fa_eq, fa_lit, fa_litL, nI_toInt, pk_lT, Int32.toInt_toInt64, jadd64, jin, jnoneT] at *); omega
      · refine j_iload X dX10_least_21 rfl ?_
        refine j_iconst X dX10_least_23 0 (by decide) ?_
        refine j_iconst X dX10_least_24 1 (by decide) ?_
        refine s_callSi X hR (c_withinI np _ _ _ _ (0) (1) rfl rfl) rfl u293 u294 u292 u1 hyX10_within (by decide) (by decide) (Nat.le_of_ble_eq_true rfl) dX10_least_25 (fun v_25 m_25 h_25 => ?_)
        obtain ⟨e1, e2⟩ := h_25; have e1 := e1.symm; have e2 := e2.symm; subst e1; subst e2
        refine j_ifb_ne X 34 dX10_least_28 (by decide) (fun c_28 => ?_) (fun c_28 => ?_)
        · refine j_aload_n X dX10_least_34 rfl ?_
          refine j_getR X 10 5 (by decide) (by decide) rfl u243 (o0 np) (k0 np) _ (p0_5 np) dX10_least_35 ?_
          refine j_iload_n X dX10_least_38 rfl ?_
          refine s_callVi X hR (c_asksTooMuch np _ dr q hdr hq hc) rfl 3 (by decide) (o32 np) (k32 np) rfl u764 u761 u762 u763 u6 hyX3_asksTooMuch (by decide) (by decide) (Nat.le_of_ble_eq_true rfl) dX10_least_39 (fun v_39 m_39 h_39 => ?_)
          obtain ⟨e1, e2⟩ := h_39; have e1 := e1.symm; have e2 := e2.symm; subst e1; subst e2
          refine j_ifb_eq X 50 dX10_least_42 (by decide) (fun c_42 => ?_) (fun c_42 => ?_)
          · exact absurd hA c_42
          · refine j_ldc X dX10_least_45 u502 ?_
            refine j_goto X 57 dX10_least_47 (by decide) ?_
            refine j_istore X dX10_least_57 (by decide) ?_
            refine j_iload X dX10_least_59 rfl ?_
            refine j_ldc X dX10_least_61 u502 ?_
            refine j_icmp_ne X 69 dX10_least_63 (by decide) (fun c_63 => absurd c_63 (by decide)) (fun c_63 => ?_)
            refine j_ldc X dX10_least_66 u502 ?_
            refine s_iret X hE hr dX10_least_68 rfl ?_
            first | exact ⟨rfl, rfl⟩ | (exfalso; clear hE hr hR X; (try simp only [lg_cmp_lt, lg_cmp_gt, lg_cmp_le, lg_cmp_ge] at *); (try simp (disch := omega) only [Int64.le_iff_toInt_le, Int64.lt_iff_toInt_lt, Int32.le_iff_toInt_le, Int32.lt_iff_toInt_lt, fa_eq, fa_lit, fa_litL, nI_toInt, pk_lT, Int32.toInt_toInt64, jadd64, jin, jnoneT] at *); omega)
        · exfalso
          clear hE hr hR X
          (try simp only [lg_cmp_lt, lg_cmp_gt, lg_cmp_le, lg_cmp_ge] at *); (try simp (disch := omega) only [Int64.le_iff_toInt_le, Int64.lt_iff_toInt_lt, Int32.le_iff_toInt_le, Int32.lt_iff_toInt_lt, fa_eq, fa_lit, fa_litL, nI_toInt, pk_lT, Int32.toInt_toInt64, jadd64, jin, jnoneT] at *); omega
set_option maxRecDepth 4000 in
set_option maxHeartbeats 1000000 in
theorem c_least1 (np : Nat) (mem : jMem) (b d : Int32) (dr q : Nat) (hn : np ≤ 12) (hp : mem 0 12 = nI np) (hb : jin b 0 5) (hd : jin d 0 999) (hdr : dr < 4) (hq : q ≤ 8) (hc : mem 35 dr = nI q) (hoo : ∀ p, p < np → ∃ o, o < 4 ∧ mem (92 + 2 * p) 1 = nI o) (hof : ∀ k, k < q → ∃ w, w < 4 ∧ mem (42 + dr) k = nI w) (hA : ¬ jAny (fun i => decide (¬ mem (37 + dr) i = 0 ∧ ¬ (mem 34 dr >>> (mem (42 + dr) i &&& 31)) &&& 1 = 1)) q = true) : jPi yX10_least cX10_least 6 .int 4 [.ref 0, .int b, .int (nI dr), .int d, .int 1] np mem (fun v c => jBest (jIs (fun p => decide (mem (92 + 2 * p) 2 = b ∧ jHoldC (mem (92 + 2 * p) 4) (mem (92 + 2 * p) 5) (mem (92 + 2 * p) 7) (mem 26 (mem (92 + 2 * p) 1).toNatClampNeg) (mem 25 (mem (92 + 2 * p) 1).toNatClampNeg) (mem 33 dr) d = 0)) (fun p => jBn (fun k => decide (if mem (37 + dr) k = 0 then mem (92 + 2 * p) 1 = mem (42 + dr) k else (mem (37 + dr) k = 1 ∨ mem (47 + dr) k ≤ mem (93 + 2 * p) (mem (42 + dr) k).toNatClampNeg))) q) np (2 ^ q - 1)) 1 v ∧ jeq [53, 54] mem c) := by
  refine jPi.of (own := RX10) rfl rfl (Nat.le_of_ble_eq_true rfl) (fun G X hR hr hE => ?_)
  refine j_iload_n X dX10_least_0 rfl ?_
  refine s_callSi X hR (c_isBearer np _ _) rfl u550 u548 u549 u1 hyX10_isBearer (by decide) (by decide) (Nat.le_of_ble_eq_true rfl) dX10_least_1 (fun v_1 m_1 h_1 => ?_)
  obtain ⟨e1, e2⟩ := h_1; have e1 := e1.symm; have e2 := e2.symm; subst e1; subst e2
  refine j_ifb_eq X 31 dX10_least_4 (by decide) (fun c_4 => ?_) (fun c_4 => ?_)
  · exfalso
    clear hE hr hR X
    (try simp only [lg_cmp_lt, lg_cmp_gt, lg_cmp_le, lg_cmp_ge] at *); (try simp (disch := omega) only [Int64.le_iff_toInt_le, Int64.lt_iff_toInt_lt, Int32.le_iff_toInt_le, Int32.lt_iff_toInt_lt, fa_eq, fa_lit, fa_litL, nI_toInt, pk_lT, Int32.toInt_toInt64, jadd64, jin, jnoneT] at *); omega
  · refine j_iload_n X dX10_least_7 rfl ?_
    refine s_callSi X hR (c_isDoor np _ _) rfl u612 u610 u611 u1 hyX10_isDoor (by decide) (by decide) (Nat.le_of_ble_eq_true rfl) dX10_least_8 (fun v_8 m_8 h_8 => ?_)
    obtain ⟨e1, e2⟩ := h_8; have e1 := e1.symm; have e2 := e2.symm; subst e1; subst e2
    refine j_ifb_eq X 31 dX10_least_11 (by decide) (fun c_11 => ?_) (fun c_11 => ?_)
    · exfalso
      clear hE hr hR X
      (try simp only [lg_cmp_lt, lg_cmp_gt, lg_cmp_le, lg_cmp_ge] at *); (try simp (disch := omega) only [Int64.le_iff_toInt_le, Int64.lt_iff_toInt_lt, Int32.le_iff_toInt_le, Int32.lt_iff_toInt_lt, fa_eq, fa_lit, fa_litL, nI_toInt, pk_lT, Int32.toInt_toInt64, jadd64, jin, jnoneT] at *); omega
    · refine j_iload_n X dX10_least_14 rfl ?_
      refine s_callSi X hR (c_isDay np _ _) rfl u355 u353 u354 u1 hyX10_isDay (by decide) (by decide) (Nat.le_of_ble_eq_true rfl) dX10_least_15 (fun v_15 m_15 h_15 => ?_)
      obtain ⟨e1, e2⟩ := h_15; have e1 := e1.symm; have e2 := e2.symm; subst e1; subst e2
      refine j_ifb_eq X 31 dX10_least_18 (by decide) (fun c_18 => ?_) (fun c_18 => ?_)
      · exfalso
        clear hE hr hR X
        (try simp only [lg_cmp_lt, lg_cmp_gt, lg_cmp_le, lg_cmp_ge] at *); (try simp (disch := omega) only [Int64.le_iff_toInt_le, Int64.lt_iff_toInt_lt, Int32.le_iff_toInt_le, Int32.lt_iff_toInt_lt, fa_eq, fa_lit, fa_litL, nI_toInt, pk_lT, Int32.toInt_toInt64, jadd64, jin, jnoneT] at *); omega
      · refine j_iload X dX10_least_21 rfl ?_
        refine j_iconst X dX10_least_23 0 (by decide) ?_
        refine j_iconst X dX10_least_24 1 (by decide) ?_
        refine s_callSi X hR (c_withinI np _ _ _ _ (0) (1) rfl rfl) rfl u293 u294 u292 u1 hyX10_within (by decide) (by decide) (Nat.le_of_ble_eq_true rfl) dX10_least_25 (fun v_25 m_25 h_25 => ?_)
        obtain ⟨e1, e2⟩ := h_25; have e1 := e1.symm; have e2 := e2.symm; subst e1; subst e2
        refine j_ifb_ne X 34 dX10_least_28 (by decide) (fun c_28 => ?_) (fun c_28 => ?_)
        · refine j_aload_n X dX10_least_34 rfl ?_
          refine j_getR X 10 5 (by decide) (by decide) rfl u243 (o0 np) (k0 np) _ (p0_5 np) dX10_least_35 ?_
          refine j_iload_n X dX10_least_38 rfl ?_
          refine s_callVi X hR (c_asksTooMuch np _ dr q hdr hq hc) rfl 3 (by decide) (o32 np) (k32 np) rfl u764 u761 u762 u763 u6 hyX3_asksTooMuch (by decide) (by decide) (Nat.le_of_ble_eq_true rfl) dX10_least_39 (fun v_39 m_39 h_39 => ?_)
          obtain ⟨e1, e2⟩ := h_39; have e1 := e1.symm; have e2 := e2.symm; subst e1; subst e2
          refine j_ifb_eq X 50 dX10_least_42 (by decide) (fun c_42 => ?_) (fun c_42 => ?_)
          · refine j_aload_n X dX10_least_50 rfl ?_
            refine j_iload_n X dX10_least_51 rfl ?_
            refine j_iload_n X dX10_least_52 rfl ?_
            refine j_iload_n X dX10_least_53 rfl ?_
            refine s_callVi X hR (c_lightest np _ b d dr q hn hp hdr hq hc hoo hof) rfl 10 (by decide) (o0 np) (k0 np) rfl u773 u770 u772 qp21 u1 hyX10_lightest (by decide) (by decide) (Nat.le_of_ble_eq_true rfl) dX10_least_54 (fun v_54 m_54 h_54 => ?_)
            obtain ⟨hL, hJ⟩ := h_54
            refine j_istore X dX10_least_57 (by decide) ?_
            refine j_iload X dX10_least_59 rfl ?_
            refine j_ldc X dX10_least_61 u502 ?_
            refine j_icmp_ne X 69 dX10_least_63 (by decide) (fun c_63 => ?_) (fun c_63 => ?_)
            · obtain ⟨K, hK1, hK2, hK3⟩ := hL.resolve_left (fun z => c_63 z.1)
              have hK4 := jIs_lt hn hK2
              subst hK1
              refine j_iload X dX10_least_69 rfl ?_
              refine j_if_ne X 83 dX10_least_71 (by decide) (fun c_71 => ?_) (fun c_71 => absurd c_71 (by decide))
              refine j_iload X dX10_least_83 rfl ?_
              refine j_sipush X dX10_least_85 4096 (by decide) ?_
              refine j_idiv X dX10_least_88 (by decide) ?_
              refine s_iret X hE hr dX10_least_89 rfl ?_
              refine ⟨Or.inr ⟨K, hK2, hK3, ?_⟩, hJ⟩
              rw [if_neg (by omega), show (4096 : Int32) = nI 4096 from rfl, pk_div (by omega) (by omega) (by omega)]
            · refine j_ldc X dX10_least_66 u502 ?_
              refine s_iret X hE hr dX10_least_68 rfl ?_
              exact ⟨Or.inl ⟨rfl, (hL.resolve_right (fun ⟨K, hK1, hK2, hK3⟩ => absurd (hK1.symm.trans c_63) (jnn (by have := jIs_lt hn hK2; omega)))).2⟩, hJ⟩
          · exact absurd c_42 hA
        · exfalso
          clear hE hr hR X
          (try simp only [lg_cmp_lt, lg_cmp_gt, lg_cmp_le, lg_cmp_ge] at *); (try simp (disch := omega) only [Int64.le_iff_toInt_le, Int64.lt_iff_toInt_lt, Int32.le_iff_toInt_le, Int32.lt_iff_toInt_lt, fa_eq, fa_lit, fa_litL, nI_toInt, pk_lT, Int32.toInt_toInt64, jadd64, jin, jnoneT] at *); omega
