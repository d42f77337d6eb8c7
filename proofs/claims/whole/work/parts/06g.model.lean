def jBc (x : Int32) : Nat → Int32
  | 0 => 0
  | k + 1 => jBc x k + ((x >>> (nI k &&& 31)) &&& 1)
def jLike (row : Nat → Int32) (p sp : Nat) (set : Int32) : Nat → Bool := jAll (decide (row (9 * p) = row (9 * sp))) (fun f => decide (((set >>> (nI f &&& 31)) &&& 1 = 0) ∨ row (9 * p + 5 + f) = row (9 * sp + 5 + f)))
def jWhoM (row : Nat → Int32) (np sp : Nat) (set : Int32) : Int32 := jBits (fun p => jLike row p sp set 4) (fun p => row (9 * p + 1)) np
theorem jAll_s {c : Bool} {g : Nat → Bool} {k : Nat} : (jAll c g (k + 1) = true) ↔ (jAll c g k = true ∧ g k = true) := by
  show (jAll c g k && g k) = true ↔ _
  rw [Bool.and_eq_true]
set_option maxRecDepth 4000 in
set_option maxHeartbeats 1000000 in
theorem m_bits (np : Nat) (mem : jMem) (x : Int32)  : jPi yX11_bits cX11_bits 3 .int 1 [.int x] np mem (fun v c => v = jBc x 12 ∧ c = mem) := by
  refine jPi.of (own := RX11) rfl rfl (Nat.le_of_ble_eq_true rfl) (fun G X hR hr hE => ?_)
  refine j_iconst X dX11_bits_0 0 (by decide) ?_
  refine j_istore_n X dX11_bits_1 (by decide) ?_
  refine j_iconst X dX11_bits_2 0 (by decide) ?_
  refine j_istore_n X dX11_bits_3 (by decide) ?_
  have lp4 : ∀ (n : Nat) (k : Nat), k ≤ 12 → 13 ≤ k + n → J G RX11 cX11_bits 3 0 0 4 (jlv [some (.int x), some (.int (jBc x k)), some (.int (nI k))]) [] (jS np) (mem) := by
    intro n
    induction n with
    | zero =>
      intro k hk hn
      exact absurd hn (by omega)
    | succ n ih4 =>
      intro k hk hn
      refine j_iload_n X dX11_bits_4 rfl ?_
      refine j_bipush X dX11_bits_5 12 (by decide) ?_
      refine j_icmp_ge X 24 dX11_bits_7 (by decide) (fun c_7 => ?_) (fun c_7 => ?_)
      · obtain rfl : k = 12 := by clear hE hr hR X; (try simp only [lg_cmp_lt, lg_cmp_gt, lg_cmp_le, lg_cmp_ge] at *); (try simp (disch := omega) only [Int64.le_iff_toInt_le, Int64.lt_iff_toInt_lt, Int32.le_iff_toInt_le, Int32.lt_iff_toInt_lt, fa_eq, fa_lit, fa_litL, nI_toInt, pk_lT, Int32.toInt_toInt64, jadd64, jin, jnoneT] at *); omega
        refine j_iload_n X dX11_bits_24 rfl ?_
        refine s_iret X hE hr dX11_bits_25 rfl ?_
        first | exact ⟨rfl, rfl⟩ | (exfalso; clear hE hr hR X; (try simp only [lg_cmp_lt, lg_cmp_gt, lg_cmp_le, lg_cmp_ge] at *); (try simp (disch := omega) only [Int64.le_iff_toInt_le, Int64.lt_iff_toInt_lt, Int32.le_iff_toInt_le, Int32.lt_iff_toInt_lt, fa_eq, fa_lit, fa_litL, nI_toInt, pk_lT, Int32.toInt_toInt64, jadd64, jin, jnoneT] at *); omega)
      · have hk2 : k < 12 := by clear hE hr hR X; (try simp only [lg_cmp_lt, lg_cmp_gt, lg_cmp_le, lg_cmp_ge] at *); (try simp (disch := omega) only [Int64.le_iff_toInt_le, Int64.lt_iff_toInt_lt, Int32.le_iff_toInt_le, Int32.lt_iff_toInt_lt, fa_eq, fa_lit, fa_litL, nI_toInt, pk_lT, Int32.toInt_toInt64, jadd64, jin, jnoneT] at *); omega
        refine j_iload_n X dX11_bits_10 rfl ?_
        refine j_iload_n X dX11_bits_11 rfl ?_
        refine j_iload_n X dX11_bits_12 rfl ?_
        refine j_ishr X dX11_bits_13 ?_
        refine j_iconst X dX11_bits_14 1 (by decide) ?_
        refine j_iand X dX11_bits_15 ?_
        refine j_iadd X dX11_bits_16 ?_
        refine j_istore_n X dX11_bits_17 (by decide) ?_
        refine j_iinc X dX11_bits_18 rfl 1 rfl ?_
        refine j_goto X 4 dX11_bits_21 (by decide) ?_
        refine j_lv [some (.int x), some (.int (jBc x (k + 1))), some (.int (nI (k + 1)))] ⟨rfl, rfl, (congrArg (fun z => some (Value.int z)) (nI_1 _)), trivial⟩ ?_
        exact ih4 (k + 1) (by omega) (by omega)
  refine j_lv [some (.int x), some (.int (jBc x 0)), some (.int (nI 0))] ⟨rfl, rfl, rfl, trivial⟩ ?_
  exact lp4 13 0 (by omega) (by omega)
set_option maxRecDepth 4000 in
set_option maxHeartbeats 1000000 in
theorem m_couldOf (np : Nat) (mem : jMem) (s sp : Nat) (hs : s < 30) (hn0 : np ≤ 12) (hnp : mem 66 9 = nI np) (hsp : sp < np) (h87 : mem 87 s = nI sp) : jPi yX11_couldOf cX11_couldOf 6 .int 2 [.ref 66, .int (nI s)] np mem (fun v c => v = jWhoM (mem 74) np sp (mem 88 s) ∧ c = mem) := by
  refine jPi.of (own := RX11) rfl rfl (Nat.le_of_ble_eq_true rfl) (fun G X hR hr hE => ?_)
  refine j_iconst X dX11_couldOf_0 0 (by decide) ?_
  refine j_istore_n X dX11_couldOf_1 (by decide) ?_
  refine j_iconst X dX11_couldOf_2 0 (by decide) ?_
  refine j_istore_n X dX11_couldOf_3 (by decide) ?_
  have lp4 : ∀ (n : Nat) (p : Nat), p ≤ np → np + 1 ≤ p + n → J G RX11 cX11_couldOf 6 0 0 4 (jlv [some (.ref 66), some (.int (nI s)), some (.int (jBits (fun p => jLike (mem 74) p sp (mem 88 s) 4) (fun p => mem 74 (9 * p + 1)) p)), some (.int (nI p))]) [] (jS np) (mem) := by
    intro n
    induction n with
    | zero =>
      intro p hk hn
      exact absurd hn (by omega)
    | succ n ih4 =>
      intro p hk hn
      refine j_iload_n X dX11_couldOf_4 rfl ?_
      refine j_aload_n X dX11_couldOf_5 rfl ?_
      refine j_getF X 11 9 (by decide) (by decide) rfl u959 (o66 np) (k66 np) (mem 66) rfl dX11_couldOf_6 ?_
      refine j_nrm (nI np) hnp ?_
      refine j_icmp_ge X 128 dX11_couldOf_9 (by decide) (fun c_9 => ?_) (fun c_9 => ?_)
      · obtain rfl : p = np := by clear hE hr hR X; (try simp only [lg_cmp_lt, lg_cmp_gt, lg_cmp_le, lg_cmp_ge] at *); (try simp (disch := omega) only [Int64.le_iff_toInt_le, Int64.lt_iff_toInt_lt, Int32.le_iff_toInt_le, Int32.lt_iff_toInt_lt, fa_eq, fa_lit, fa_litL, nI_toInt, pk_lT, Int32.toInt_toInt64, jadd64, jin, jnoneT] at *); omega
        refine j_iload_n X dX11_couldOf_128 rfl ?_
        refine s_iret X hE hr dX11_couldOf_129 rfl ?_
        first | exact ⟨rfl, rfl⟩ | (exfalso; clear hE hr hR X; (try simp only [lg_cmp_lt, lg_cmp_gt, lg_cmp_le, lg_cmp_ge] at *); (try simp (disch := omega) only [Int64.le_iff_toInt_le, Int64.lt_iff_toInt_lt, Int32.le_iff_toInt_le, Int32.lt_iff_toInt_lt, fa_eq, fa_lit, fa_litL, nI_toInt, pk_lT, Int32.toInt_toInt64, jadd64, jin, jnoneT] at *); omega)
      · have hk2 : p < np := by clear hE hr hR X; (try simp only [lg_cmp_lt, lg_cmp_gt, lg_cmp_le, lg_cmp_ge] at *); (try simp (disch := omega) only [Int64.le_iff_toInt_le, Int64.lt_iff_toInt_lt, Int32.le_iff_toInt_le, Int32.lt_iff_toInt_lt, fa_eq, fa_lit, fa_litL, nI_toInt, pk_lT, Int32.toInt_toInt64, jadd64, jin, jnoneT] at *); omega
        refine j_aload_n X dX11_couldOf_12 rfl ?_
        refine j_iload_n X dX11_couldOf_13 rfl ?_
        refine j_iconst X dX11_couldOf_14 0 (by decide) ?_
        refine s_callVi X hR (m_of np _ p 0 (by omega) (by omega)) rfl 11 (by decide) (o66 np) (k66 np) rfl u1180 u1177 u1179 qp44 u12 hyX11_of (by decide) (by decide) (Nat.le_of_ble_eq_true rfl) dX11_couldOf_15 (fun v_15 m_15 h_15 => ?_)
        obtain ⟨e1, e2⟩ := h_15; have e1 := e1.symm; have e2 := e2.symm; subst e1; subst e2
        refine j_aload_n X dX11_couldOf_18 rfl ?_
        refine j_aload_n X dX11_couldOf_19 rfl ?_
        refine j_getR X 11 35 (by decide) (by decide) rfl u985 (o66 np) (k66 np) _ (p66_35 np) dX11_couldOf_20 ?_
        refine j_iload_n X dX11_couldOf_23 rfl ?_
        refine j_nrm _ (by first | (simp only [fa_lit, pk_mul, nI_add]; done) | (simp only [fa_lit, pk_mul, nI_add]; rfl) | rfl) ?_
        refine j_ialdN X (o87 np) (k87 np) (by rw [l87]; omega) (by rw [l87]; decide) (mem 87) rfl dX11_couldOf_24 ?_
        refine j_nrm (nI sp) h87 ?_
        refine j_iconst X dX11_couldOf_25 0 (by decide) ?_
        refine s_callVi X hR (m_of np _ sp 0 (by omega) (by omega)) rfl 11 (by decide) (o66 np) (k66 np) rfl u1180 u1177 u1179 qp44 u12 hyX11_of (by decide) (by decide) (Nat.le_of_ble_eq_true rfl) dX11_couldOf_26 (fun v_26 m_26 h_26 => ?_)
        obtain ⟨e1, e2⟩ := h_26; have e1 := e1.symm; have e2 := e2.symm; subst e1; subst e2
        refine j_icmp_ne X 36 dX11_couldOf_29 (by decide) (fun c_29 => ?_) (fun c_29 => ?_)
        · refine j_iconst X dX11_couldOf_36 0 (by decide) ?_
          refine j_istore X dX11_couldOf_37 (by decide) ?_
          refine j_iconst X dX11_couldOf_39 0 (by decide) ?_
          refine j_istore X dX11_couldOf_40 (by decide) ?_
          have lp42 : ∀ (n : Nat) (f : Nat), f ≤ 4 → 5 ≤ f + n → J G RX11 cX11_couldOf 6 0 0 42 (jlv [some (.ref 66), some (.int (nI s)), some (.int (jBits (fun p => jLike (mem 74) p sp (mem 88 s) 4) (fun p => mem 74 (9 * p + 1)) p)), some (.int (nI p)), some (.int (jb (jLike (mem 74) p sp (mem 88 s) f = true))), some (.int (nI f))]) [] (jS np) (mem) := by
            intro n
            induction n with
            | zero =>
              intro f hf hnf
              exact absurd hnf (by omega)
            | succ n ih42 =>
              intro f hf hnf
              refine j_iload X dX11_couldOf_42 rfl ?_
              refine j_iconst X dX11_couldOf_44 4 (by decide) ?_
              refine j_icmp_ge X 102 dX11_couldOf_45 (by decide) (fun c_45 => ?_) (fun c_45 => ?_)
              · obtain rfl : f = 4 := by clear hE hr hR X; (try simp only [lg_cmp_lt, lg_cmp_gt, lg_cmp_le, lg_cmp_ge] at *); (try simp (disch := omega) only [Int64.le_iff_toInt_le, Int64.lt_iff_toInt_lt, Int32.le_iff_toInt_le, Int32.lt_iff_toInt_lt, fa_eq, fa_lit, fa_litL, nI_toInt, pk_lT, Int32.toInt_toInt64, jadd64, jin, jnoneT] at *); omega
                refine j_iload_n X dX11_couldOf_102 rfl ?_
                refine j_iload X dX11_couldOf_103 rfl ?_
                refine j_ifb_eq X 119 dX11_couldOf_105 (by decide) (fun c_105 => ?_) (fun c_105 => ?_)
                · refine j_iconst X dX11_couldOf_119 0 (by decide) ?_
                  refine j_ior X dX11_couldOf_120 ?_
                  refine j_istore_n X dX11_couldOf_121 (by decide) ?_
                  refine j_iinc X dX11_couldOf_122 rfl 1 rfl ?_
                  refine j_goto X 4 dX11_couldOf_125 (by decide) ?_
                  refine j_lv [some (.ref 66), some (.int (nI s)), some (.int (jBits (fun p => jLike (mem 74) p sp (mem 88 s) 4) (fun p => mem 74 (9 * p + 1)) (p + 1))), some (.int (nI (p + 1)))] ⟨rfl, rfl, (congrArg (fun z => some (Value.int z)) (by first | exact jBits_t (g := (fun p => jLike (mem 74) p sp (mem 88 s) 4)) (b := (fun p => mem 74 (9 * p + 1))) c_105 | exact jBits_f (g := (fun p => jLike (mem 74) p sp (mem 88 s) 4)) (b := (fun p => mem 74 (9 * p + 1))) c_105)), (congrArg (fun z => some (Value.int z)) (nI_1 _)), trivial⟩ ?_
                  exact ih4 (p + 1) (by omega) (by omega)
                · refine j_iconst X dX11_couldOf_108 1 (by decide) ?_
                  refine j_aload_n X dX11_couldOf_109 rfl ?_
                  refine j_iload_n X dX11_couldOf_110 rfl ?_
                  refine j_iconst X dX11_couldOf_111 1 (by decide) ?_
                  refine s_callVi X hR (m_of np _ p 1 (by omega) (by omega)) rfl 11 (by decide) (o66 np) (k66 np) rfl u1180 u1177 u1179 qp44 u12 hyX11_of (by decide) (by decide) (Nat.le_of_ble_eq_true rfl) dX11_couldOf_112 (fun v_112 m_112 h_112 => ?_)
                  obtain ⟨e1, e2⟩ := h_112; have e1 := e1.symm; have e2 := e2.symm; subst e1; subst e2
                  refine j_ishl X dX11_couldOf_115 ?_
                  refine j_goto X 120 dX11_couldOf_116 (by decide) ?_
                  refine j_ior X dX11_couldOf_120 ?_
                  refine j_istore_n X dX11_couldOf_121 (by decide) ?_
                  refine j_iinc X dX11_couldOf_122 rfl 1 rfl ?_
                  refine j_goto X 4 dX11_couldOf_125 (by decide) ?_
                  refine j_lv [some (.ref 66), some (.int (nI s)), some (.int (jBits (fun p => jLike (mem 74) p sp (mem 88 s) 4) (fun p => mem 74 (9 * p + 1)) (p + 1))), some (.int (nI (p + 1)))] ⟨rfl, rfl, (congrArg (fun z => some (Value.int z)) (by first | exact jBits_t (g := (fun p => jLike (mem 74) p sp (mem 88 s) 4)) (b := (fun p => mem 74 (9 * p + 1))) c_105 | exact jBits_f (g := (fun p => jLike (mem 74) p sp (mem 88 s) 4)) (b := (fun p => mem 74 (9 * p + 1))) c_105)), (congrArg (fun z => some (Value.int z)) (nI_1 _)), trivial⟩ ?_
                  exact ih4 (p + 1) (by omega) (by omega)
              · have hf2 : f < 4 := by clear hE hr hR X; (try simp only [lg_cmp_lt, lg_cmp_gt, lg_cmp_le, lg_cmp_ge] at *); (try simp (disch := omega) only [Int64.le_iff_toInt_le, Int64.lt_iff_toInt_lt, Int32.le_iff_toInt_le, Int32.lt_iff_toInt_lt, fa_eq, fa_lit, fa_litL, nI_toInt, pk_lT, Int32.toInt_toInt64, jadd64, jin, jnoneT] at *); omega
                refine j_iload X dX11_couldOf_48 rfl ?_
                refine j_ifb_eq X 93 dX11_couldOf_50 (by decide) (fun c_50 => ?_) (fun c_50 => ?_)
                · refine j_iconst X dX11_couldOf_93 0 (by decide) ?_
                  refine j_istore X dX11_couldOf_94 (by decide) ?_
                  refine j_iinc X dX11_couldOf_96 rfl 1 rfl ?_
                  refine j_goto X 42 dX11_couldOf_99 (by decide) ?_
                  refine j_lv [some (.ref 66), some (.int (nI s)), some (.int (jBits (fun p => jLike (mem 74) p sp (mem 88 s) 4) (fun p => mem 74 (9 * p + 1)) p)), some (.int (nI p)), some (.int (jb (jLike (mem 74) p sp (mem 88 s) (f + 1) = true))), some (.int (nI (f + 1)))] ⟨rfl, rfl, rfl, rfl, (congrArg (fun z => some (Value.int z)) (by first | exact (jb_f (P := jLike (mem 74) p sp (mem 88 s) (f + 1) = true) (fun z => c_50 (jAll_s.mp z).1)).symm | exact (jb_t (P := jLike (mem 74) p sp (mem 88 s) (f + 1) = true) (jAll_s.mpr ⟨c_50, decide_eq_true (Or.inl c_64)⟩)).symm | exact (jb_t (P := jLike (mem 74) p sp (mem 88 s) (f + 1) = true) (jAll_s.mpr ⟨c_50, decide_eq_true (Or.inr c_86)⟩)).symm | exact (jb_f (P := jLike (mem 74) p sp (mem 88 s) (f + 1) = true) (fun z => (of_decide_eq_true (jAll_s.mp z).2).elim c_64 c_86)).symm)), (congrArg (fun z => some (Value.int z)) (nI_1 _)), trivial⟩ ?_
                  exact ih42 (f + 1) (by omega) (by omega)
                · refine j_aload_n X dX11_couldOf_53 rfl ?_
                  refine j_getR X 11 36 (by decide) (by decide) rfl u986 (o66 np) (k66 np) _ (p66_36 np) dX11_couldOf_54 ?_
                  refine j_iload_n X dX11_couldOf_57 rfl ?_
                  refine j_nrm _ (by first | (simp only [fa_lit, pk_mul, nI_add]; done) | (simp only [fa_lit, pk_mul, nI_add]; rfl) | rfl) ?_
                  refine j_ialdN X (o88 np) (k88 np) (by rw [l88]; omega) (by rw [l88]; decide) (mem 88) rfl dX11_couldOf_58 ?_
                  refine j_iload X dX11_couldOf_59 rfl ?_
                  refine j_ishr X dX11_couldOf_61 ?_
                  refine j_iconst X dX11_couldOf_62 1 (by decide) ?_
                  refine j_iand X dX11_couldOf_63 ?_
                  refine j_if_eq X 89 dX11_couldOf_64 (by decide) (fun c_64 => ?_) (fun c_64 => ?_)
                  · refine j_iconst X dX11_couldOf_89 1 (by decide) ?_
                    refine j_goto X 94 dX11_couldOf_90 (by decide) ?_
                    refine j_istore X dX11_couldOf_94 (by decide) ?_
                    refine j_iinc X dX11_couldOf_96 rfl 1 rfl ?_
                    refine j_goto X 42 dX11_couldOf_99 (by decide) ?_
                    refine j_lv [some (.ref 66), some (.int (nI s)), some (.int (jBits (fun p => jLike (mem 74) p sp (mem 88 s) 4) (fun p => mem 74 (9 * p + 1)) p)), some (.int (nI p)), some (.int (jb (jLike (mem 74) p sp (mem 88 s) (f + 1) = true))), some (.int (nI (f + 1)))] ⟨rfl, rfl, rfl, rfl, (congrArg (fun z => some (Value.int z)) (by first | exact (jb_f (P := jLike (mem 74) p sp (mem 88 s) (f + 1) = true) (fun z => c_50 (jAll_s.mp z).1)).symm | exact (jb_t (P := jLike (mem 74) p sp (mem 88 s) (f + 1) = true) (jAll_s.mpr ⟨c_50, decide_eq_true (Or.inl c_64)⟩)).symm | exact (jb_t (P := jLike (mem 74) p sp (mem 88 s) (f + 1) = true) (jAll_s.mpr ⟨c_50, decide_eq_true (Or.inr c_86)⟩)).symm | exact (jb_f (P := jLike (mem 74) p sp (mem 88 s) (f + 1) = true) (fun z => (of_decide_eq_true (jAll_s.mp z).2).elim c_64 c_86)).symm)), (congrArg (fun z => some (Value.int z)) (nI_1 _)), trivial⟩ ?_
                    exact ih42 (f + 1) (by omega) (by omega)
                  · refine j_aload_n X dX11_couldOf_67 rfl ?_
                    refine j_iload_n X dX11_couldOf_68 rfl ?_
                    refine j_iload X dX11_couldOf_69 rfl ?_
                    refine s_callVi X hR (m_field np _ p f (by omega) hf2) rfl 11 (by decide) (o66 np) (k66 np) rfl u1160 u1157 u1159 qp41 u12 hyX11_field (by decide) (by decide) (Nat.le_of_ble_eq_true rfl) dX11_couldOf_71 (fun v_71 m_71 h_71 => ?_)
                    obtain ⟨e1, e2⟩ := h_71; have e1 := e1.symm; have e2 := e2.symm; subst e1; subst e2
                    refine j_aload_n X dX11_couldOf_74 rfl ?_
                    refine j_aload_n X dX11_couldOf_75 rfl ?_
                    refine j_getR X 11 35 (by decide) (by decide) rfl u985 (o66 np) (k66 np) _ (p66_35 np) dX11_couldOf_76 ?_
                    refine j_iload_n X dX11_couldOf_79 rfl ?_
                    refine j_nrm _ (by first | (simp only [fa_lit, pk_mul, nI_add]; done) | (simp only [fa_lit, pk_mul, nI_add]; rfl) | rfl) ?_
                    refine j_ialdN X (o87 np) (k87 np) (by rw [l87]; omega) (by rw [l87]; decide) (mem 87) rfl dX11_couldOf_80 ?_
                    refine j_nrm (nI sp) h87 ?_
                    refine j_iload X dX11_couldOf_81 rfl ?_
                    refine s_callVi X hR (m_field np _ sp f (by omega) hf2) rfl 11 (by decide) (o66 np) (k66 np) rfl u1160 u1157 u1159 qp41 u12 hyX11_field (by decide) (by decide) (Nat.le_of_ble_eq_true rfl) dX11_couldOf_83 (fun v_83 m_83 h_83 => ?_)
                    obtain ⟨e1, e2⟩ := h_83; have e1 := e1.symm; have e2 := e2.symm; subst e1; subst e2
                    refine j_icmp_ne X 93 dX11_couldOf_86 (by decide) (fun c_86 => ?_) (fun c_86 => ?_)
                    · refine j_iconst X dX11_couldOf_93 0 (by decide) ?_
                      refine j_istore X dX11_couldOf_94 (by decide) ?_
                      refine j_iinc X dX11_couldOf_96 rfl 1 rfl ?_
                      refine j_goto X 42 dX11_couldOf_99 (by decide) ?_
                      refine j_lv [some (.ref 66), some (.int (nI s)), some (.int (jBits (fun p => jLike (mem 74) p sp (mem 88 s) 4) (fun p => mem 74 (9 * p + 1)) p)), some (.int (nI p)), some (.int (jb (jLike (mem 74) p sp (mem 88 s) (f + 1) = true))), some (.int (nI (f + 1)))] ⟨rfl, rfl, rfl, rfl, (congrArg (fun z => some (Value.int z)) (by first | exact (jb_f (P := jLike (mem 74) p sp (mem 88 s) (f + 1) = true) (fun z => c_50 (jAll_s.mp z).1)).symm | exact (jb_t (P := jLike (mem 74) p sp (mem 88 s) (f + 1) = true) (jAll_s.mpr ⟨c_50, decide_eq_true (Or.inl c_64)⟩)).symm | exact (jb_t (P := jLike (mem 74) p sp (mem 88 s) (f + 1) = true) (jAll_s.mpr ⟨c_50, decide_eq_true (Or.inr c_86)⟩)).symm | exact (jb_f (P := jLike (mem 74) p sp (mem 88 s) (f + 1) = true) (fun z => (of_decide_eq_true (jAll_s.mp z).2).elim c_64 c_86)).symm)), (congrArg (fun z => some (Value.int z)) (nI_1 _)), trivial⟩ ?_
                      exact ih42 (f + 1) (by omega) (by omega)
                    · refine j_iconst X dX11_couldOf_89 1 (by decide) ?_
                      refine j_goto X 94 dX11_couldOf_90 (by decide) ?_
                      refine j_istore X dX11_couldOf_94 (by decide) ?_
                      refine j_iinc X dX11_couldOf_96 rfl 1 rfl ?_
                      refine j_goto X 42 dX11_couldOf_99 (by decide) ?_
                      refine j_lv [some (.ref 66), some (.int (nI s)), some (.int (jBits (fun p => jLike (mem 74) p sp (mem 88 s) 4) (fun p => mem 74 (9 * p + 1)) p)), some (.int (nI p)), some (.int (jb (jLike (mem 74) p sp (mem 88 s) (f + 1) = true))), some (.int (nI (f + 1)))] ⟨rfl, rfl, rfl, rfl, (congrArg (fun z => some (Value.int z)) (by first | exact (jb_f (P := jLike (mem 74) p sp (mem 88 s) (f + 1) = true) (fun z => c_50 (jAll_s.mp z).1)).symm | exact (jb_t (P := jLike (mem 74) p sp (mem 88 s) (f + 1) = true) (jAll_s.mpr ⟨c_50, decide_eq_true (Or.inl c_64)⟩)).symm | exact (jb_t (P := jLike (mem 74) p sp (mem 88 s) (f + 1) = true) (jAll_s.mpr ⟨c_50, decide_eq_true (Or.inr c_86)⟩)).symm | exact (jb_f (P := jLike (mem 74) p sp (mem 88 s) (f + 1) = true) (fun z => (of_decide_eq_true (jAll_s.mp z).2).elim c_64 c_86)).symm)), (congrArg (fun z => some (Value.int z)) (nI_1 _)), trivial⟩ ?_
                      exact ih42 (f + 1) (by omega) (by omega)
          refine j_lv [some (.ref 66), some (.int (nI s)), some (.int (jBits (fun p => jLike (mem 74) p sp (mem 88 s) 4) (fun p => mem 74 (9 * p + 1)) p)), some (.int (nI p)), some (.int (jb (jLike (mem 74) p sp (mem 88 s) 0 = true))), some (.int (nI 0))] ⟨rfl, rfl, rfl, rfl, (congrArg (fun z => some (Value.int z)) (by first | exact (jb_t (P := jLike (mem 74) p sp (mem 88 s) 0 = true) (decide_eq_true c_29)).symm | exact (jb_f (P := jLike (mem 74) p sp (mem 88 s) 0 = true) (fun z => c_29 (of_decide_eq_true z))).symm)), rfl, trivial⟩ ?_
          exact lp42 5 0 (by omega) (by omega)
        · refine j_iconst X dX11_couldOf_32 1 (by decide) ?_
          refine j_goto X 37 dX11_couldOf_33 (by decide) ?_
          refine j_istore X dX11_couldOf_37 (by decide) ?_
          refine j_iconst X dX11_couldOf_39 0 (by decide) ?_
          refine j_istore X dX11_couldOf_40 (by decide) ?_
          have lp42 : ∀ (n : Nat) (f : Nat), f ≤ 4 → 5 ≤ f + n → J G RX11 cX11_couldOf 6 0 0 42 (jlv [some (.ref 66), some (.int (nI s)), some (.int (jBits (fun p => jLike (mem 74) p sp (mem 88 s) 4) (fun p => mem 74 (9 * p + 1)) p)), some (.int (nI p)), some (.int (jb (jLike (mem 74) p sp (mem 88 s) f = true))), some (.int (nI f))]) [] (jS np) (mem) := by
            intro n
            induction n with
            | zero =>
              intro f hf hnf
              exact absurd hnf (by omega)
            | succ n ih42 =>
              intro f hf hnf
              refine j_iload X dX11_couldOf_42 rfl ?_
              refine j_iconst X dX11_couldOf_44 4 (by decide) ?_
              refine j_icmp_ge X 102 dX11_couldOf_45 (by decide) (fun c_45 => ?_) (fun c_45 => ?_)
              · obtain rfl : f = 4 := by clear hE hr hR X; (try simp only [lg_cmp_lt, lg_cmp_gt, lg_cmp_le, lg_cmp_ge] at *); (try simp (disch := omega) only [Int64.le_iff_toInt_le, Int64.lt_iff_toInt_lt, Int32.le_iff_toInt_le, Int32.lt_iff_toInt_lt, fa_eq, fa_lit, fa_litL, nI_toInt, pk_lT, Int32.toInt_toInt64, jadd64, jin, jnoneT] at *); omega
                refine j_iload_n X dX11_couldOf_102 rfl ?_
                refine j_iload X dX11_couldOf_103 rfl ?_
                refine j_ifb_eq X 119 dX11_couldOf_105 (by decide) (fun c_105 => ?_) (fun c_105 => ?_)
                · refine j_iconst X dX11_couldOf_119 0 (by decide) ?_
                  refine j_ior X dX11_couldOf_120 ?_
                  refine j_istore_n X dX11_couldOf_121 (by decide) ?_
                  refine j_iinc X dX11_couldOf_122 rfl 1 rfl ?_
                  refine j_goto X 4 dX11_couldOf_125 (by decide) ?_
                  refine j_lv [some (.ref 66), some (.int (nI s)), some (.int (jBits (fun p => jLike (mem 74) p sp (mem 88 s) 4) (fun p => mem 74 (9 * p + 1)) (p + 1))), some (.int (nI (p + 1)))] ⟨rfl, rfl, (congrArg (fun z => some (Value.int z)) (by first | exact jBits_t (g := (fun p => jLike (mem 74) p sp (mem 88 s) 4)) (b := (fun p => mem 74 (9 * p + 1))) c_105 | exact jBits_f (g := (fun p => jLike (mem 74) p sp (mem 88 s) 4)) (b := (fun p => mem 74 (9 * p + 1))) c_105)), (congrArg (fun z => some (Value.int z)) (nI_1 _)), trivial⟩ ?_
                  exact ih4 (p + 1) (by omega) (by omega)
                · refine j_iconst X dX11_couldOf_108 1 (by decide) ?_
                  refine j_aload_n X dX11_couldOf_109 rfl ?_
                  refine j_iload_n X dX11_couldOf_110 rfl ?_
                  refine j_iconst X dX11_couldOf_111 1 (by decide) ?_
                  refine s_callVi X hR (m_of np _ p 1 (by omega) (by omega)) rfl 11 (by decide) (o66 np) (k66 np) rfl u1180 u1177 u1179 qp44 u12 hyX11_of (by decide) (by decide) (Nat.le_of_ble_eq_true rfl) dX11_couldOf_112 (fun v_112 m_112 h_112 => ?_)
                  obtain ⟨e1, e2⟩ := h_112; have e1 := e1.symm; have e2 := e2.symm; subst e1; subst e2
                  refine j_ishl X dX11_couldOf_115 ?_
                  refine j_goto X 120 dX11_couldOf_116 (by decide) ?_
                  refine j_ior X dX11_couldOf_120 ?_
                  refine j_istore_n X dX11_couldOf_121 (by decide) ?_
                  refine j_iinc X dX11_couldOf_122 rfl 1 rfl ?_
                  refine j_goto X 4 dX11_couldOf_125 (by decide) ?_
                  refine j_lv [some (.ref 66), some (.int (nI s)), some (.int (jBits (fun p => jLike (mem 74) p sp (mem 88 s) 4) (fun p => mem 74 (9 * p + 1)) (p + 1))), some (.int (nI (p + 1)))] ⟨rfl, rfl, (congrArg (fun z => some (Value.int z)) (by first | exact jBits_t (g := (fun p => jLike (mem 74) p sp (mem 88 s) 4)) (b := (fun p => mem 74 (9 * p + 1))) c_105 | exact jBits_f (g := (fun p => jLike (mem 74) p sp (mem 88 s) 4)) (b := (fun p => mem 74 (9 * p + 1))) c_105)), (congrArg (fun z => some (Value.int z)) (nI_1 _)), trivial⟩ ?_
                  exact ih4 (p + 1) (by omega) (by omega)
              · have hf2 : f < 4 := by clear hE hr hR X; (try simp only [lg_cmp_lt, lg_cmp_gt, lg_cmp_le, lg_cmp_ge] at *); (try simp (disch := omega) only [Int64.le_iff_toInt_le, Int64.lt_iff_toInt_lt, Int32.le_iff_toInt_le, Int32.lt_iff_toInt_lt, fa_eq, fa_lit, fa_litL, nI_toInt, pk_lT, Int32.toInt_toInt64, jadd64, jin, jnoneT] at *); omega
                refine j_iload X dX11_couldOf_48 rfl ?_
                refine j_ifb_eq X 93 dX11_couldOf_50 (by decide) (fun c_50 => ?_) (fun c_50 => ?_)
                · refine j_iconst X dX11_couldOf_93 0 (by decide) ?_
                  refine j_istore X dX11_couldOf_94 (by decide) ?_
                  refine j_iinc X dX11_couldOf_96 rfl 1 rfl ?_
                  refine j_goto X 42 dX11_couldOf_99 (by decide) ?_
                  refine j_lv [some (.ref 66), some (.int (nI s)), some (.int (jBits (fun p => jLike (mem 74) p sp (mem 88 s) 4) (fun p => mem 74 (9 * p + 1)) p)), some (.int (nI p)), some (.int (jb (jLike (mem 74) p sp (mem 88 s) (f + 1) = true))), some (.int (nI (f + 1)))] ⟨rfl, rfl, rfl, rfl, (congrArg (fun z => some (Value.int z)) (by first | exact (jb_f (P := jLike (mem 74) p sp (mem 88 s) (f + 1) = true) (fun z => c_50 (jAll_s.mp z).1)).symm | exact (jb_t (P := jLike (mem 74) p sp (mem 88 s) (f + 1) = true) (jAll_s.mpr ⟨c_50, decide_eq_true (Or.inl c_64)⟩)).symm | exact (jb_t (P := jLike (mem 74) p sp (mem 88 s) (f + 1) = true) (jAll_s.mpr ⟨c_50, decide_eq_true (Or.inr c_86)⟩)).symm | exact (jb_f (P := jLike (mem 74) p sp (mem 88 s) (f + 1) = true) (fun z => (of_decide_eq_true (jAll_s.mp z).2).elim c_64 c_86)).symm)), (congrArg (fun z => some (Value.int z)) (nI_1 _)), trivial⟩ ?_
                  exact ih42 (f + 1) (by omega) (by omega)
                · refine j_aload_n X dX11_couldOf_53 rfl ?_
                  refine j_getR X 11 36 (by decide) (by decide) rfl u986 (o66 np) (k66 np) _ (p66_36 np) dX11_couldOf_54 ?_
                  refine j_iload_n X dX11_couldOf_57 rfl ?_
                  refine j_nrm _ (by first | (simp only [fa_lit, pk_mul, nI_add]; done) | (simp only [fa_lit, pk_mul, nI_add]; rfl) | rfl) ?_
                  refine j_ialdN X (o88 np) (k88 np) (by rw [l88]; omega) (by rw [l88]; decide) (mem 88) rfl dX11_couldOf_58 ?_
                  refine j_iload X dX11_couldOf_59 rfl ?_
                  refine j_ishr X dX11_couldOf_61 ?_
                  refine j_iconst X dX11_couldOf_62 1 (by decide) ?_
                  refine j_iand X dX11_couldOf_63 ?_
                  refine j_if_eq X 89 dX11_couldOf_64 (by decide) (fun c_64 => ?_) (fun c_64 => ?_)
                  · refine j_iconst X dX11_couldOf_89 1 (by decide) ?_
                    refine j_goto X 94 dX11_couldOf_90 (by decide) ?_
                    refine j_istore X dX11_couldOf_94 (by decide) ?_
                    refine j_iinc X dX11_couldOf_96 rfl 1 rfl ?_
                    refine j_goto X 42 dX11_couldOf_99 (by decide) ?_
                    refine j_lv [some (.ref 66), some (.int (nI s)), some (.int (jBits (fun p => jLike (mem 74) p sp (mem 88 s) 4) (fun p => mem 74 (9 * p + 1)) p)), some (.int (nI p)), some (.int (jb (jLike (mem 74) p sp (mem 88 s) (f + 1) = true))), some (.int (nI (f + 1)))] ⟨rfl, rfl, rfl, rfl, (congrArg (fun z => some (Value.int z)) (by first | exact (jb_f (P := jLike (mem 74) p sp (mem 88 s) (f + 1) = true) (fun z => c_50 (jAll_s.mp z).1)).symm | exact (jb_t (P := jLike (mem 74) p sp (mem 88 s) (f + 1) = true) (jAll_s.mpr ⟨c_50, decide_eq_true (Or.inl c_64)⟩)).symm | exact (jb_t (P := jLike (mem 74) p sp (mem 88 s) (f + 1) = true) (jAll_s.mpr ⟨c_50, decide_eq_true (Or.inr c_86)⟩)).symm | exact (jb_f (P := jLike (mem 74) p sp (mem 88 s) (f + 1) = true) (fun z => (of_decide_eq_true (jAll_s.mp z).2).elim c_64 c_86)).symm)), (congrArg (fun z => some (Value.int z)) (nI_1 _)), trivial⟩ ?_
                    exact ih42 (f + 1) (by omega) (by omega)
                  · refine j_aload_n X dX11_couldOf_67 rfl ?_
                    refine j_iload_n X dX11_couldOf_68 rfl ?_
                    refine j_iload X dX11_couldOf_69 rfl ?_
                    refine s_callVi X hR (m_field np _ p f (by omega) hf2) rfl 11 (by decide) (o66 np) (k66 np) rfl u1160 u1157 u1159 qp41 u12 hyX11_field (by decide) (by decide) (Nat.le_of_ble_eq_true rfl) dX11_couldOf_71 (fun v_71 m_71 h_71 => ?_)
                    obtain ⟨e1, e2⟩ := h_71; have e1 := e1.symm; have e2 := e2.symm; subst e1; subst e2
                    refine j_aload_n X dX11_couldOf_74 rfl ?_
                    refine j_aload_n X dX11_couldOf_75 rfl ?_
                    refine j_getR X 11 35 (by decide) (by decide) rfl u985 (o66 np) (k66 np) _ (p66_35 np) dX11_couldOf_76 ?_
                    refine j_iload_n X dX11_couldOf_79 rfl ?_
                    refine j_nrm _ (by first | (simp only [fa_lit, pk_mul, nI_add]; done) | (simp only [fa_lit, pk_mul, nI_add]; rfl) | rfl) ?_
                    refine j_ialdN X (o87 np) (k87 np) (by rw [l87]; omega) (by rw [l87]; decide) (mem 87) rfl dX11_couldOf_80 ?_
                    refine j_nrm (nI sp) h87 ?_
                    refine j_iload X dX11_couldOf_81 rfl ?_
                    refine s_callVi X hR (m_field np _ sp f (by omega) hf2) rfl 11 (by decide) (o66 np) (k66 np) rfl u1160 u1157 u1159 qp41 u12 hyX11_field (by decide) (by decide) (Nat.le_of_ble_eq_true rfl) dX11_couldOf_83 (fun v_83 m_83 h_83 => ?_)
                    obtain ⟨e1, e2⟩ := h_83; have e1 := e1.symm; have e2 := e2.symm; subst e1; subst e2
                    refine j_icmp_ne X 93 dX11_couldOf_86 (by decide) (fun c_86 => ?_) (fun c_86 => ?_)
                    · refine j_iconst X dX11_couldOf_93 0 (by decide) ?_
                      refine j_istore X dX11_couldOf_94 (by decide) ?_
                      refine j_iinc X dX11_couldOf_96 rfl 1 rfl ?_
                      refine j_goto X 42 dX11_couldOf_99 (by decide) ?_
                      refine j_lv [some (.ref 66), some (.int (nI s)), some (.int (jBits (fun p => jLike (mem 74) p sp (mem 88 s) 4) (fun p => mem 74 (9 * p + 1)) p)), some (.int (nI p)), some (.int (jb (jLike (mem 74) p sp (mem 88 s) (f + 1) = true))), some (.int (nI (f + 1)))] ⟨rfl, rfl, rfl, rfl, (congrArg (fun z => some (Value.int z)) (by first | exact (jb_f (P := jLike (mem 74) p sp (mem 88 s) (f + 1) = true) (fun z => c_50 (jAll_s.mp z).1)).symm | exact (jb_t (P := jLike (mem 74) p sp (mem 88 s) (f + 1) = true) (jAll_s.mpr ⟨c_50, decide_eq_true (Or.inl c_64)⟩)).symm | exact (jb_t (P := jLike (mem 74) p sp (mem 88 s) (f + 1) = true) (jAll_s.mpr ⟨c_50, decide_eq_true (Or.inr c_86)⟩)).symm | exact (jb_f (P := jLike (mem 74) p sp (mem 88 s) (f + 1) = true) (fun z => (of_decide_eq_true (jAll_s.mp z).2).elim c_64 c_86)).symm)), (congrArg (fun z => some (Value.int z)) (nI_1 _)), trivial⟩ ?_
                      exact ih42 (f + 1) (by omega) (by omega)
                    · refine j_iconst X dX11_couldOf_89 1 (by decide) ?_
                      refine j_goto X 94 dX11_couldOf_90 (by decide) ?_
                      refine j_istore X dX11_couldOf_94 (by decide) ?_
                      refine j_iinc X dX11_couldOf_96 rfl 1 rfl ?_
                      refine j_goto X 42 dX11_couldOf_99 (by decide) ?_
                      refine j_lv [some (.ref 66), some (.int (nI s)), some (.int (jBits (fun p => jLike (mem 74) p sp (mem 88 s) 4) (fun p => mem 74 (9 * p + 1)) p)), some (.int (nI p)), some (.int (jb (jLike (mem 74) p sp (mem 88 s) (f + 1) = true))), some (.int (nI (f + 1)))] ⟨rfl, rfl, rfl, rfl, (congrArg (fun z => some (Value.int z)) (by first | exact (jb_f (P := jLike (mem 74) p sp (mem 88 s) (f + 1) = true) (fun z => c_50 (jAll_s.mp z).1)).symm | exact (jb_t (P := jLike (mem 74) p sp (mem 88 s) (f + 1) = true) (jAll_s.mpr ⟨c_50, decide_eq_true (Or.inl c_64)⟩)).symm | exact (jb_t (P := jLike (mem 74) p sp (mem 88 s) (f + 1) = true) (jAll_s.mpr ⟨c_50, decide_eq_true (Or.inr c_86)⟩)).symm | exact (jb_f (P := jLike (mem 74) p sp (mem 88 s) (f + 1) = true) (fun z => (of_decide_eq_true (jAll_s.mp z).2).elim c_64 c_86)).symm)), (congrArg (fun z => some (Value.int z)) (nI_1 _)), trivial⟩ ?_
                      exact ih42 (f + 1) (by omega) (by omega)
          refine j_lv [some (.ref 66), some (.int (nI s)), some (.int (jBits (fun p => jLike (mem 74) p sp (mem 88 s) 4) (fun p => mem 74 (9 * p + 1)) p)), some (.int (nI p)), some (.int (jb (jLike (mem 74) p sp (mem 88 s) 0 = true))), some (.int (nI 0))] ⟨rfl, rfl, rfl, rfl, (congrArg (fun z => some (Value.int z)) (by first | exact (jb_t (P := jLike (mem 74) p sp (mem 88 s) 0 = true) (decide_eq_true c_29)).symm | exact (jb_f (P := jLike (mem 74) p sp (mem 88 s) 0 = true) (fun z => c_29 (of_decide_eq_true z))).symm)), rfl, trivial⟩ ?_
          exact lp42 5 0 (by omega) (by omega)
  refine j_lv [some (.ref 66), some (.int (nI s)), some (.int (jBits (fun p => jLike (mem 74) p sp (mem 88 s) 4) (fun p => mem 74 (9 * p + 1)) 0)), some (.int (nI 0))] ⟨rfl, rfl, rfl, rfl, trivial⟩ ?_
  exact lp4 (np + 1) 0 (by omega) (by omega)
set_option maxRecDepth 4000 in
set_option maxHeartbeats 1000000 in
theorem m_together_bad (np : Nat) (mem : jMem) (x : Int32) (q : Nat) (hn0 : np ≤ 12) (hnp : mem 66 9 = nI np) (hq : q ≤ 30) (hc : mem 66 34 = nI q) (h : x < 1 ∨ 1 <<< (nI q &&& 31) ≤ x) : jPi yX11_together cX11_together 4 .int 3 [.ref 66, .int x] np mem (fun v c => v = -1000001 ∧ c = jup mem 66 0 0) := by
  refine jPi.of (own := RX11) rfl rfl (Nat.le_of_ble_eq_true rfl) (fun G X hR hr hE => ?_)
  refine j_aload_n X dX11_together_0 rfl ?_
  refine j_iconst X dX11_together_1 0 (by decide) ?_
  refine j_putI X 11 0 (by decide) (by decide) rfl rfl rfl rfl u950 (o66 np) (k66 np) dX11_together_2 ?_
  refine j_iload_n X dX11_together_5 rfl ?_
  refine j_iconst X dX11_together_6 1 (by decide) ?_
  refine j_icmp_lt X 20 dX11_together_7 (by decide) (fun c_7 => ?_) (fun c_7 => ?_)
  · refine j_ldc X dX11_together_20 u1089 ?_
    refine s_iret X hE hr dX11_together_22 rfl ?_
    first | exact ⟨rfl, rfl⟩ | (exfalso; clear hE hr hR X; (try simp only [lg_cmp_lt, lg_cmp_gt, lg_cmp_le, lg_cmp_ge] at *); (try simp (disch := omega) only [Int64.le_iff_toInt_le, Int64.lt_iff_toInt_lt, Int32.le_iff_toInt_le, Int32.lt_iff_toInt_lt, fa_eq, fa_lit, fa_litL, nI_toInt, pk_lT, Int32.toInt_toInt64, jadd64, jin, jnoneT] at *); omega)
  · refine j_iload_n X dX11_together_10 rfl ?_
    refine j_iconst X dX11_together_11 1 (by decide) ?_
    refine j_aload_n X dX11_together_12 rfl ?_
    refine j_getF X 11 34 (by decide) (by decide) rfl u984 (o66 np) (k66 np) _ rfl dX11_together_13 ?_
    refine j_nrm (nI q) hc ?_
    refine j_ishl X dX11_together_16 ?_
    refine j_icmp_lt X 23 dX11_together_17 (by decide) (fun c_17 => ?_) (fun c_17 => ?_)
    · exfalso
      exact h.elim c_7 (fun z => absurd c_17 (Int32.not_lt.mpr z))
    · refine j_ldc X dX11_together_20 u1089 ?_
      refine s_iret X hE hr dX11_together_22 rfl ?_
      first | exact ⟨rfl, rfl⟩ | (exfalso; clear hE hr hR X; (try simp only [lg_cmp_lt, lg_cmp_gt, lg_cmp_le, lg_cmp_ge] at *); (try simp (disch := omega) only [Int64.le_iff_toInt_le, Int64.lt_iff_toInt_lt, Int32.le_iff_toInt_le, Int32.lt_iff_toInt_lt, fa_eq, fa_lit, fa_litL, nI_toInt, pk_lT, Int32.toInt_toInt64, jadd64, jin, jnoneT] at *); omega)
set_option maxRecDepth 4000 in
set_option maxHeartbeats 1000000 in
theorem m_together (np : Nat) (mem : jMem) (x : Int32) (q : Nat) (hn0 : np ≤ 12) (hnp : mem 66 9 = nI np) (hq : q ≤ 30) (hc : mem 66 34 = nI q) (h : ¬ x < 1 ∧ x < 1 <<< (nI q &&& 31)) (hse : ∀ s, s < q → ∃ sp, sp < np ∧ mem 87 s = nI sp) : jPi yX11_together cX11_together 4 .int 3 [.ref 66, .int x] np mem (fun v c => v = jTog (fun s => decide ((x >>> (nI s &&& 31)) &&& 1 = 1)) (fun s => jWhoM (mem 74) np (mem 87 s).toNatClampNeg (mem 88 s)) q ∧ c = jup mem 66 0 0) := by
  refine jPi.of (own := RX11) rfl rfl (Nat.le_of_ble_eq_true rfl) (fun G X hR hr hE => ?_)
  refine j_aload_n X dX11_together_0 rfl ?_
  refine j_iconst X dX11_together_1 0 (by decide) ?_
  refine j_putI X 11 0 (by decide) (by decide) rfl rfl rfl rfl u950 (o66 np) (k66 np) dX11_together_2 ?_
  refine j_iload_n X dX11_together_5 rfl ?_
  refine j_iconst X dX11_together_6 1 (by decide) ?_
  refine j_icmp_lt X 20 dX11_together_7 (by decide) (fun c_7 => ?_) (fun c_7 => ?_)
  · exact absurd h.2 (by first | exact c_17 | exact absurd c_7 h.1)
  · refine j_iload_n X dX11_together_10 rfl ?_
    refine j_iconst X dX11_together_11 1 (by decide) ?_
    refine j_aload_n X dX11_together_12 rfl ?_
    refine j_getF X 11 34 (by decide) (by decide) rfl u984 (o66 np) (k66 np) _ rfl dX11_together_13 ?_
    refine j_nrm (nI q) hc ?_
    refine j_ishl X dX11_together_16 ?_
    refine j_icmp_lt X 23 dX11_together_17 (by decide) (fun c_17 => ?_) (fun c_17 => ?_)
    · refine j_bipush X dX11_together_23 63 (by decide) ?_
      refine j_istore_n X dX11_together_25 (by decide) ?_
      refine j_iconst X dX11_together_26 0 (by decide) ?_
      refine j_istore_n X dX11_together_27 (by decide) ?_
      have lp28 : ∀ (n : Nat) (s : Nat), s ≤ q → q + 1 ≤ s + n → J G RX11 cX11_together 4 0 0 28 (jlv [some (.ref 66), some (.int x), some (.int (jTog (fun s => decide ((x >>> (nI s &&& 31)) &&& 1 = 1)) (fun s => jWhoM (mem 74) np (mem 87 s).toNatClampNeg (mem 88 s)) s)), some (.int (nI s))]) [] (jS np) (jup mem 66 0 0) := by
        intro n
        induction n with
        | zero =>
          intro s hk hn
          exact absurd hn (by omega)
        | succ n ih28 =>
          intro s hk hn
          refine j_iload_n X dX11_together_28 rfl ?_
          refine j_aload_n X dX11_together_29 rfl ?_
          refine j_getF X 11 34 (by decide) (by decide) rfl u984 (o66 np) (k66 np) _ rfl dX11_together_30 ?_
          refine j_nrm (nI q) hc ?_
          refine j_icmp_ge X 64 dX11_together_33 (by decide) (fun c_33 => ?_) (fun c_33 => ?_)
          · obtain rfl : s = q := by clear hE hr hR X; (try simp only [lg_cmp_lt, lg_cmp_gt, lg_cmp_le, lg_cmp_ge] at *); (try simp (disch := omega) only [Int64.le_iff_toInt_le, Int64.lt_iff_toInt_lt, Int32.le_iff_toInt_le, Int32.lt_iff_toInt_lt, fa_eq, fa_lit, fa_litL, nI_toInt, pk_lT, Int32.toInt_toInt64, jadd64, jin, jnoneT] at *); omega
            refine j_iload_n X dX11_together_64 rfl ?_
            refine s_iret X hE hr dX11_together_65 rfl ?_
            first | exact ⟨rfl, rfl⟩ | (exfalso; clear hE hr hR X; (try simp only [lg_cmp_lt, lg_cmp_gt, lg_cmp_le, lg_cmp_ge] at *); (try simp (disch := omega) only [Int64.le_iff_toInt_le, Int64.lt_iff_toInt_lt, Int32.le_iff_toInt_le, Int32.lt_iff_toInt_lt, fa_eq, fa_lit, fa_litL, nI_toInt, pk_lT, Int32.toInt_toInt64, jadd64, jin, jnoneT] at *); omega)
          · have hk2 : s < q := by clear hE hr hR X; (try simp only [lg_cmp_lt, lg_cmp_gt, lg_cmp_le, lg_cmp_ge] at *); (try simp (disch := omega) only [Int64.le_iff_toInt_le, Int64.lt_iff_toInt_lt, Int32.le_iff_toInt_le, Int32.lt_iff_toInt_lt, fa_eq, fa_lit, fa_litL, nI_toInt, pk_lT, Int32.toInt_toInt64, jadd64, jin, jnoneT] at *); omega
            refine j_iload_n X dX11_together_36 rfl ?_
            refine j_iload_n X dX11_together_37 rfl ?_
            refine j_iload_n X dX11_together_38 rfl ?_
            refine j_ishr X dX11_together_39 ?_
            refine j_iconst X dX11_together_40 1 (by decide) ?_
            refine j_iand X dX11_together_41 ?_
            refine j_iconst X dX11_together_42 1 (by decide) ?_
            refine j_icmp_ne X 54 dX11_together_43 (by decide) (fun c_43 => ?_) (fun c_43 => ?_)
            · refine j_bipush X dX11_together_54 63 (by decide) ?_
              refine j_iand X dX11_together_56 ?_
              refine j_istore_n X dX11_together_57 (by decide) ?_
              refine j_iinc X dX11_together_58 rfl 1 rfl ?_
              refine j_goto X 28 dX11_together_61 (by decide) ?_
              refine j_lv [some (.ref 66), some (.int x), some (.int (jTog (fun s => decide ((x >>> (nI s &&& 31)) &&& 1 = 1)) (fun s => jWhoM (mem 74) np (mem 87 s).toNatClampNeg (mem 88 s)) (s + 1))), some (.int (nI (s + 1)))] ⟨rfl, rfl, (congrArg (fun z => some (Value.int z)) (congrArg (fun z => jTog (fun s => decide ((x >>> (nI s &&& 31)) &&& 1 = 1)) (fun s => jWhoM (mem 74) np (mem 87 s).toNatClampNeg (mem 88 s)) s &&& z) (by first | (rw [if_pos (show (fun s => decide ((x >>> (nI s &&& 31)) &&& 1 = 1)) s = true from decide_eq_true c_43)]; show jWhoM _ _ _ _ = jWhoM (mem 74) np (mem 87 s).toNatClampNeg (mem 88 s); rw [h87, nI_clamp (by omega)]; rfl) | (rw [if_neg (show ¬ (fun s => decide ((x >>> (nI s &&& 31)) &&& 1 = 1)) s = true from fun z => c_43 (of_decide_eq_true z))])))), (congrArg (fun z => some (Value.int z)) (nI_1 _)), trivial⟩ ?_
              exact ih28 (s + 1) (by omega) (by omega)
            · obtain ⟨sp, hsp, h87⟩ := hse s hk2
              refine j_aload_n X dX11_together_46 rfl ?_
              refine j_iload_n X dX11_together_47 rfl ?_
              refine s_callVi X hR (m_couldOf np _ s sp (by omega) hn0 hnp hsp h87) rfl 11 (by decide) (o66 np) (k66 np) rfl u1381 u1378 u1380 qp62 u12 hyX11_couldOf (by decide) (by decide) (Nat.le_of_ble_eq_true rfl) dX11_together_48 (fun v_48 m_48 h_48 => ?_)
              obtain ⟨e1, e2⟩ := h_48; have e1 := e1.symm; have e2 := e2.symm; subst e1; subst e2
              refine j_goto X 56 dX11_together_51 (by decide) ?_
              refine j_iand X dX11_together_56 ?_
              refine j_istore_n X dX11_together_57 (by decide) ?_
              refine j_iinc X dX11_together_58 rfl 1 rfl ?_
              refine j_goto X 28 dX11_together_61 (by decide) ?_
              refine j_lv [some (.ref 66), some (.int x), some (.int (jTog (fun s => decide ((x >>> (nI s &&& 31)) &&& 1 = 1)) (fun s => jWhoM (mem 74) np (mem 87 s).toNatClampNeg (mem 88 s)) (s + 1))), some (.int (nI (s + 1)))] ⟨rfl, rfl, (congrArg (fun z => some (Value.int z)) (congrArg (fun z => jTog (fun s => decide ((x >>> (nI s &&& 31)) &&& 1 = 1)) (fun s => jWhoM (mem 74) np (mem 87 s).toNatClampNeg (mem 88 s)) s &&& z) (by first | (rw [if_pos (show (fun s => decide ((x >>> (nI s &&& 31)) &&& 1 = 1)) s = true from decide_eq_true c_43)]; show jWhoM _ _ _ _ = jWhoM (mem 74) np (mem 87 s).toNatClampNeg (mem 88 s); rw [h87, nI_clamp (by omega)]; rfl) | (rw [if_neg (show ¬ (fun s => decide ((x >>> (nI s &&& 31)) &&& 1 = 1)) s = true from fun z => c_43 (of_decide_eq_true z))])))), (congrArg (fun z => some (Value.int z)) (nI_1 _)), trivial⟩ ?_
              exact ih28 (s + 1) (by omega) (by omega)
      refine j_lv [some (.ref 66), some (.int x), some (.int (jTog (fun s => decide ((x >>> (nI s &&& 31)) &&& 1 = 1)) (fun s => jWhoM (mem 74) np (mem 87 s).toNatClampNeg (mem 88 s)) 0)), some (.int (nI 0))] ⟨rfl, rfl, rfl, rfl, trivial⟩ ?_
      exact lp28 (q + 1) 0 (by omega) (by omega)
    · exact absurd h.2 (by first | exact c_17 | exact absurd c_7 h.1)
set_option maxRecDepth 4000 in
set_option maxHeartbeats 1000000 in
theorem m_lies_bad (np : Nat) (mem : jMem) (p f : Int32) (hn : np ≤ 12) (hp : mem 66 9 = nI np) (h : ¬ (jin p 0 ((np : Int) - 1) ∧ jin f 0 3)) : jPi yX11_lies cX11_lies 10 .int 4 [.ref 66, .int p, .int f] np mem (fun v c => v = -1000001 ∧ c = jup mem 66 0 0) := by
  refine jPi.of (own := RX11) rfl rfl (Nat.le_of_ble_eq_true rfl) (fun G X hR hr hE => ?_)
  refine j_aload_n X dX11_lies_0 rfl ?_
  refine j_iconst X dX11_lies_1 0 (by decide) ?_
  refine j_putI X 11 0 (by decide) (by decide) rfl rfl rfl rfl u950 (o66 np) (k66 np) dX11_lies_2 ?_
  refine j_aload_n X dX11_lies_5 rfl ?_
  refine j_iload_n X dX11_lies_6 rfl ?_
  refine s_callVi X hR (m_isPaper np _ _ hn hp) rfl 11 (by decide) (o66 np) (k66 np) rfl u1151 u1148 u1150 qp39 u12 hyX11_isPaper (by decide) (by decide) (Nat.le_of_ble_eq_true rfl) dX11_lies_7 (fun v_7 m_7 h_7 => ?_)
  obtain ⟨e1, e2⟩ := h_7; have e1 := e1.symm; have e2 := e2.symm; subst e1; subst e2
  refine j_ifb_eq X 25 dX11_lies_10 (by decide) (fun c_10 => ?_) (fun c_10 => ?_)
  · refine j_ldc X dX11_lies_25 u1089 ?_
    refine s_iret X hE hr dX11_lies_27 rfl ?_
    first | exact ⟨rfl, rfl⟩ | (exfalso; clear hE hr hR X; (try simp only [lg_cmp_lt, lg_cmp_gt, lg_cmp_le, lg_cmp_ge] at *); (try simp (disch := omega) only [Int64.le_iff_toInt_le, Int64.lt_iff_toInt_lt, Int32.le_iff_toInt_le, Int32.lt_iff_toInt_lt, fa_eq, fa_lit, fa_litL, nI_toInt, pk_lT, Int32.toInt_toInt64, jadd64, jin, jnoneT] at *); omega)
  · refine j_iload_n X dX11_lies_13 rfl ?_
    refine j_i2l X dX11_lies_14 ?_
    refine j_lconst X dX11_lies_15 0 (by decide) ?_
    refine j_ldc2 X dX11_lies_16 u1114 ?_
    refine s_callSi X hR (m_inI np _ _ _ _ 0 3 rfl rfl) rfl u1087 u1085 u1086 u12 hyX11_in (by decide) (by decide) (Nat.le_of_ble_eq_true rfl) dX11_lies_19 (fun v_19 m_19 h_19 => ?_)
    obtain ⟨e1, e2⟩ := h_19; have e1 := e1.symm; have e2 := e2.symm; subst e1; subst e2
    refine j_ifb_ne X 28 dX11_lies_22 (by decide) (fun c_22 => ?_) (fun c_22 => ?_)
    · exfalso
      clear hE hr hR X
      (try simp only [lg_cmp_lt, lg_cmp_gt, lg_cmp_le, lg_cmp_ge] at *); (try simp (disch := omega) only [Int64.le_iff_toInt_le, Int64.lt_iff_toInt_lt, Int32.le_iff_toInt_le, Int32.lt_iff_toInt_lt, fa_eq, fa_lit, fa_litL, nI_toInt, pk_lT, Int32.toInt_toInt64, jadd64, jin, jnoneT] at *); omega
    · refine j_ldc X dX11_lies_25 u1089 ?_
      refine s_iret X hE hr dX11_lies_27 rfl ?_
      first | exact ⟨rfl, rfl⟩ | (exfalso; clear hE hr hR X; (try simp only [lg_cmp_lt, lg_cmp_gt, lg_cmp_le, lg_cmp_ge] at *); (try simp (disch := omega) only [Int64.le_iff_toInt_le, Int64.lt_iff_toInt_lt, Int32.le_iff_toInt_le, Int32.lt_iff_toInt_lt, fa_eq, fa_lit, fa_litL, nI_toInt, pk_lT, Int32.toInt_toInt64, jadd64, jin, jnoneT] at *); omega)
set_option maxRecDepth 4000 in
set_option maxHeartbeats 1000000 in
theorem m_lies0 (np : Nat) (mem : jMem) (p : Nat) (hn : np ≤ 12) (hp : mem 66 9 = nI np) (hp2 : p < np) (o q : Nat) (ho : o < 4) (hpo : mem 74 (9 * p) = nI o) (hq : q ≤ 6) (hc : mem 70 o = nI q) : jPi yX11_lies cX11_lies 10 .int 4 [.ref 66, .int (nI p), .int 0] np mem (fun v c => v = nI (jCnt (fun x => jSeal (jJoin (jJoin (jLeaf (nI p) 0 (nI x)) (jLeaf (nI p) 1 (mem 74 (9 * p + 6)))) (jJoin (jLeaf (nI p) 2 (mem 74 (9 * p + 7))) (jLeaf (nI p) 3 (mem 74 (9 * p + 8))))) (jKey (fun j => mem 71 (6 * o + j)) (fun j => mem 72 (6 * o + j)) q (nI o) (mem 74 (9 * p + 3))) = jSeal (jRootM (mem 74) p) (jKey (fun j => mem 71 (6 * o + j)) (fun j => mem 72 (6 * o + j)) q (nI o) (mem 74 (9 * p + 3)))) 1000) ∧ c = jup mem 66 0 0) := by
  refine jPi.of (own := RX11) rfl rfl (Nat.le_of_ble_eq_true rfl) (fun G X hR hr hE => ?_)
  refine j_aload_n X dX11_lies_0 rfl ?_
  refine j_iconst X dX11_lies_1 0 (by decide) ?_
  refine j_putI X 11 0 (by decide) (by decide) rfl rfl rfl rfl u950 (o66 np) (k66 np) dX11_lies_2 ?_
  refine j_aload_n X dX11_lies_5 rfl ?_
  refine j_iload_n X dX11_lies_6 rfl ?_
  refine s_callVi X hR (m_isPaper np _ _ hn hp) rfl 11 (by decide) (o66 np) (k66 np) rfl u1151 u1148 u1150 qp39 u12 hyX11_isPaper (by decide) (by decide) (Nat.le_of_ble_eq_true rfl) dX11_lies_7 (fun v_7 m_7 h_7 => ?_)
  obtain ⟨e1, e2⟩ := h_7; have e1 := e1.symm; have e2 := e2.symm; subst e1; subst e2
  refine j_ifb_eq X 25 dX11_lies_10 (by decide) (fun c_10 => ?_) (fun c_10 => ?_)
  · exfalso
    clear hE hr hR X
    (try simp only [lg_cmp_lt, lg_cmp_gt, lg_cmp_le, lg_cmp_ge] at *); (try simp (disch := omega) only [Int64.le_iff_toInt_le, Int64.lt_iff_toInt_lt, Int32.le_iff_toInt_le, Int32.lt_iff_toInt_lt, fa_eq, fa_lit, fa_litL, nI_toInt, pk_lT, Int32.toInt_toInt64, jadd64, jin, jnoneT] at *); omega
  · refine j_iload_n X dX11_lies_13 rfl ?_
    refine j_i2l X dX11_lies_14 ?_
    refine j_lconst X dX11_lies_15 0 (by decide) ?_
    refine j_ldc2 X dX11_lies_16 u1114 ?_
    refine s_callSi X hR (m_inI np _ _ _ _ 0 3 rfl rfl) rfl u1087 u1085 u1086 u12 hyX11_in (by decide) (by decide) (Nat.le_of_ble_eq_true rfl) dX11_lies_19 (fun v_19 m_19 h_19 => ?_)
    obtain ⟨e1, e2⟩ := h_19; have e1 := e1.symm; have e2 := e2.symm; subst e1; subst e2
    refine j_ifb_ne X 28 dX11_lies_22 (by decide) (fun c_22 => ?_) (fun c_22 => ?_)
    · refine j_aload_n X dX11_lies_28 rfl ?_
      refine j_iload_n X dX11_lies_29 rfl ?_
      refine j_aload_n X dX11_lies_30 rfl ?_
      refine j_iload_n X dX11_lies_31 rfl ?_
      refine s_callVi X hR (m_rootOf np _ p (by omega)) rfl 11 (by decide) (o66 np) (k66 np) rfl u1172 u1169 u1171 qp42 u12 hyX11_rootOf (by decide) (by decide) (Nat.le_of_ble_eq_true rfl) dX11_lies_32 (fun v_32 m_32 h_32 => ?_)
      obtain ⟨e1, e2⟩ := h_32; have e1 := e1.symm; have e2 := e2.symm; subst e1; subst e2
      refine s_callVi X hR (m_sealOf np _ p o q _ (by omega) ho hpo hq hc) rfl 11 (by decide) (o66 np) (k66 np) rfl u1176 u1173 u1175 qp43 u12 hyX11_sealOf (by decide) (by decide) (Nat.le_of_ble_eq_true rfl) dX11_lies_35 (fun v_35 m_35 h_35 => ?_)
      obtain ⟨e1, e2⟩ := h_35; have e1 := e1.symm; have e2 := e2.symm; subst e1; subst e2
      refine j_istore_n X dX11_lies_38 (by decide) ?_
      refine j_iconst X dX11_lies_39 0 (by decide) ?_
      refine j_istore X dX11_lies_40 (by decide) ?_
      refine j_iconst X dX11_lies_42 0 (by decide) ?_
      refine j_istore X dX11_lies_43 (by decide) ?_
      have lp45 : ∀ (n : Nat) (k : Nat), k ≤ 1000 → 1001 ≤ k + n → J G RX11 cX11_lies 10 0 0 45 (jlv [some (.ref 66), some (.int (nI p)), some (.int 0), some (.int (jSeal (jRootM (mem 74) p) (jKey (fun j => mem 71 (6 * o + j)) (fun j => mem 72 (6 * o + j)) q (nI o) (mem 74 (9 * p + 3))))), some (.int (nI (jCnt (fun x => jSeal (jJoin (jJoin (jLeaf (nI p) 0 (nI x)) (jLeaf (nI p) 1 (mem 74 (9 * p + 6)))) (jJoin (jLeaf (nI p) 2 (mem 74 (9 * p + 7))) (jLeaf (nI p) 3 (mem 74 (9 * p + 8))))) (jKey (fun j => mem 71 (6 * o + j)) (fun j => mem 72 (6 * o + j)) q (nI o) (mem 74 (9 * p + 3))) = jSeal (jRootM (mem 74) p) (jKey (fun j => mem 71 (6 * o + j)) (fun j => mem 72 (6 * o + j)) q (nI o) (mem 74 (9 * p + 3)))) k))), some (.int (nI k))]) [] (jS np) (jup mem 66 0 0) := by
        intro n
        induction n with
        | zero =>
          intro k hk hn2
          exact absurd hn2 (by omega)
        | succ n ih45 =>
          intro k hk hn2
          refine j_iload X dX11_lies_45 rfl ?_
          refine j_sipush X dX11_lies_47 1000 (by decide) ?_
          refine j_icmp_ge X 178 dX11_lies_50 (by decide) (fun c_50 => ?_) (fun c_50 => ?_)
          · obtain rfl : k = 1000 := by clear hE hr hR X; (try simp only [lg_cmp_lt, lg_cmp_gt, lg_cmp_le, lg_cmp_ge] at *); (try simp (disch := omega) only [Int64.le_iff_toInt_le, Int64.lt_iff_toInt_lt, Int32.le_iff_toInt_le, Int32.lt_iff_toInt_lt, fa_eq, fa_lit, fa_litL, nI_toInt, pk_lT, Int32.toInt_toInt64, jadd64, jin, jnoneT] at *); omega
            refine j_iload X dX11_lies_178 rfl ?_
            refine s_iret X hE hr dX11_lies_180 rfl ?_
            first | exact ⟨rfl, rfl⟩ | (exfalso; clear hE hr hR X; (try simp only [lg_cmp_lt, lg_cmp_gt, lg_cmp_le, lg_cmp_ge] at *); (try simp (disch := omega) only [Int64.le_iff_toInt_le, Int64.lt_iff_toInt_lt, Int32.le_iff_toInt_le, Int32.lt_iff_toInt_lt, fa_eq, fa_lit, fa_litL, nI_toInt, pk_lT, Int32.toInt_toInt64, jadd64, jin, jnoneT] at *); omega)
          · have hk2 : k < 1000 := by clear hE hr hR X; (try simp only [lg_cmp_lt, lg_cmp_gt, lg_cmp_le, lg_cmp_ge] at *); (try simp (disch := omega) only [Int64.le_iff_toInt_le, Int64.lt_iff_toInt_lt, Int32.le_iff_toInt_le, Int32.lt_iff_toInt_lt, fa_eq, fa_lit, fa_litL, nI_toInt, pk_lT, Int32.toInt_toInt64, jadd64, jin, jnoneT] at *); omega
            refine j_iload_n X dX11_lies_53 rfl ?_
            refine j_iload_n X dX11_lies_54 rfl ?_
            refine j_iconst X dX11_lies_55 2 (by decide) ?_
            refine j_iand X dX11_lies_56 ?_
            refine j_iload_n X dX11_lies_57 rfl ?_
            refine j_iconst X dX11_lies_58 1 (by decide) ?_
            refine j_iand X dX11_lies_59 ?_
            refine j_if_ne X 68 dX11_lies_60 (by decide) (fun c_60 => absurd c_60 (by decide)) (fun c_60 => ?_)
            refine j_iload X dX11_lies_63 rfl ?_
            refine j_goto X 76 dX11_lies_65 (by decide) ?_
            refine s_callSi X hR (m_leaf np _ _ _ _) rfl u1163 u1161 u1162 u12 hyX11_leaf (by decide) (by decide) (Nat.le_of_ble_eq_true rfl) dX11_lies_76 (fun v_76 m_76 h_76 => ?_)
            obtain ⟨e1, e2⟩ := h_76; have e1 := e1.symm; have e2 := e2.symm; subst e1; subst e2
            refine j_istore X dX11_lies_79 (by decide) ?_
            refine j_iload_n X dX11_lies_81 rfl ?_
            refine j_iload_n X dX11_lies_82 rfl ?_
            refine j_iconst X dX11_lies_83 1 (by decide) ?_
            refine j_ior X dX11_lies_84 ?_
            refine j_iload_n X dX11_lies_85 rfl ?_
            refine j_iconst X dX11_lies_86 1 (by decide) ?_
            refine j_iand X dX11_lies_87 ?_
            refine j_iconst X dX11_lies_88 1 (by decide) ?_
            refine j_icmp_ne X 97 dX11_lies_89 (by decide) (fun c_89 => ?_) (fun c_89 => absurd c_89 (by decide))
            refine j_aload_n X dX11_lies_97 rfl ?_
            refine j_iload_n X dX11_lies_98 rfl ?_
            refine j_iload_n X dX11_lies_99 rfl ?_
            refine j_iconst X dX11_lies_100 1 (by decide) ?_
            refine j_ior X dX11_lies_101 ?_
            refine s_callVi X hR (m_field1 np _ p (by omega)) rfl 11 (by decide) (o66 np) (k66 np) rfl u1160 u1157 u1159 qp41 u12 hyX11_field (by decide) (by decide) (Nat.le_of_ble_eq_true rfl) dX11_lies_102 (fun v_102 m_102 h_102 => ?_)
            obtain ⟨e1, e2⟩ := h_102; have e1 := e1.symm; have e2 := e2.symm; subst e1; subst e2
            refine s_callSi X hR (m_leaf np _ _ _ _) rfl u1163 u1161 u1162 u12 hyX11_leaf (by decide) (by decide) (Nat.le_of_ble_eq_true rfl) dX11_lies_105 (fun v_105 m_105 h_105 => ?_)
            obtain ⟨e1, e2⟩ := h_105; have e1 := e1.symm; have e2 := e2.symm; subst e1; subst e2
            refine j_istore X dX11_lies_108 (by decide) ?_
            refine j_iload X dX11_lies_110 rfl ?_
            refine j_iload X dX11_lies_112 rfl ?_
            refine s_callSi X hR (m_join np _ _ _) rfl u1167 u1165 u1166 u12 hyX11_join (by decide) (by decide) (Nat.le_of_ble_eq_true rfl) dX11_lies_114 (fun v_114 m_114 h_114 => ?_)
            obtain ⟨e1, e2⟩ := h_114; have e1 := e1.symm; have e2 := e2.symm; subst e1; subst e2
            refine j_istore X dX11_lies_117 (by decide) ?_
            refine j_iload_n X dX11_lies_119 rfl ?_
            refine j_iconst X dX11_lies_120 2 (by decide) ?_
            refine j_icmp_ge X 138 dX11_lies_121 (by decide) (fun c_121 => absurd c_121 (by decide)) (fun c_121 => ?_)
            refine j_iload X dX11_lies_124 rfl ?_
            refine j_aload_n X dX11_lies_126 rfl ?_
            refine j_iload_n X dX11_lies_127 rfl ?_
            refine j_iconst X dX11_lies_128 1 (by decide) ?_
            refine s_callVi X hR (m_half1 np _ p (by omega)) rfl 11 (by decide) (o66 np) (k66 np) rfl u1156 u1153 u1155 qp40 u12 hyX11_halfOf (by decide) (by decide) (Nat.le_of_ble_eq_true rfl) dX11_lies_129 (fun v_129 m_129 h_129 => ?_)
            obtain ⟨e1, e2⟩ := h_129; have e1 := e1.symm; have e2 := e2.symm; subst e1; subst e2
            refine s_callSi X hR (m_join np _ _ _) rfl u1167 u1165 u1166 u12 hyX11_join (by decide) (by decide) (Nat.le_of_ble_eq_true rfl) dX11_lies_132 (fun v_132 m_132 h_132 => ?_)
            obtain ⟨e1, e2⟩ := h_132; have e1 := e1.symm; have e2 := e2.symm; subst e1; subst e2
            refine j_goto X 149 dX11_lies_135 (by decide) ?_
            refine j_istore X dX11_lies_149 (by decide) ?_
            refine j_iload X dX11_lies_151 rfl ?_
            refine j_aload_n X dX11_lies_153 rfl ?_
            refine j_iload_n X dX11_lies_154 rfl ?_
            refine j_iload X dX11_lies_155 rfl ?_
            refine s_callVi X hR (m_sealOf np _ p o q _ (by omega) ho hpo hq hc) rfl 11 (by decide) (o66 np) (k66 np) rfl u1176 u1173 u1175 qp43 u12 hyX11_sealOf (by decide) (by decide) (Nat.le_of_ble_eq_true rfl) dX11_lies_157 (fun v_157 m_157 h_157 => ?_)
            obtain ⟨e1, e2⟩ := h_157; have e1 := e1.symm; have e2 := e2.symm; subst e1; subst e2
            refine j_iload_n X dX11_lies_160 rfl ?_
            refine j_icmp_ne X 168 dX11_lies_161 (by decide) (fun c_161 => ?_) (fun c_161 => ?_)
            · refine j_iconst X dX11_lies_168 0 (by decide) ?_
              refine j_iadd X dX11_lies_169 ?_
              refine j_istore X dX11_lies_170 (by decide) ?_
              refine j_iinc X dX11_lies_172 rfl 1 rfl ?_
              refine j_goto X 45 dX11_lies_175 (by decide) ?_
              refine j_lv [some (.ref 66), some (.int (nI p)), some (.int 0), some (.int (jSeal (jRootM (mem 74) p) (jKey (fun j => mem 71 (6 * o + j)) (fun j => mem 72 (6 * o + j)) q (nI o) (mem 74 (9 * p + 3))))), some (.int (nI (jCnt (fun x => jSeal (jJoin (jJoin (jLeaf (nI p) 0 (nI x)) (jLeaf (nI p) 1 (mem 74 (9 * p + 6)))) (jJoin (jLeaf (nI p) 2 (mem 74 (9 * p + 7))) (jLeaf (nI p) 3 (mem 74 (9 * p + 8))))) (jKey (fun j => mem 71 (6 * o + j)) (fun j => mem 72 (6 * o + j)) q (nI o) (mem 74 (9 * p + 3))) = jSeal (jRootM (mem 74) p) (jKey (fun j => mem 71 (6 * o + j)) (fun j => mem 72 (6 * o + j)) q (nI o) (mem 74 (9 * p + 3)))) (k + 1)))), some (.int (nI (k + 1)))] ⟨rfl, rfl, rfl, rfl, (congrArg (fun z => some (Value.int z)) (jPcnt (g := (fun x => jSeal (jJoin (jJoin (jLeaf (nI p) 0 (nI x)) (jLeaf (nI p) 1 (mem 74 (9 * p + 6)))) (jJoin (jLeaf (nI p) 2 (mem 74 (9 * p + 7))) (jLeaf (nI p) 3 (mem 74 (9 * p + 8))))) (jKey (fun j => mem 71 (6 * o + j)) (fun j => mem 72 (6 * o + j)) q (nI o) (mem 74 (9 * p + 3))) = jSeal (jRootM (mem 74) p) (jKey (fun j => mem 71 (6 * o + j)) (fun j => mem 72 (6 * o + j)) q (nI o) (mem 74 (9 * p + 3))))) (by first | exact Or.inl ⟨c_161, rfl⟩ | exact Or.inr ⟨c_161, rfl⟩))), (congrArg (fun z => some (Value.int z)) (nI_1 _)), trivial⟩ ?_
              exact ih45 (k + 1) (by omega) (by omega)
            · refine j_iconst X dX11_lies_164 1 (by decide) ?_
              refine j_goto X 169 dX11_lies_165 (by decide) ?_
              refine j_iadd X dX11_lies_169 ?_
              refine j_istore X dX11_lies_170 (by decide) ?_
              refine j_iinc X dX11_lies_172 rfl 1 rfl ?_
              refine j_goto X 45 dX11_lies_175 (by decide) ?_
              refine j_lv [some (.ref 66), some (.int (nI p)), some (.int 0), some (.int (jSeal (jRootM (mem 74) p) (jKey (fun j => mem 71 (6 * o + j)) (fun j => mem 72 (6 * o + j)) q (nI o) (mem 74 (9 * p + 3))))), some (.int (nI (jCnt (fun x => jSeal (jJoin (jJoin (jLeaf (nI p) 0 (nI x)) (jLeaf (nI p) 1 (mem 74 (9 * p + 6)))) (jJoin (jLeaf (nI p) 2 (mem 74 (9 * p + 7))) (jLeaf (nI p) 3 (mem 74 (9 * p + 8))))) (jKey (fun j => mem 71 (6 * o + j)) (fun j => mem 72 (6 * o + j)) q (nI o) (mem 74 (9 * p + 3))) = jSeal (jRootM (mem 74) p) (jKey (fun j => mem 71 (6 * o + j)) (fun j => mem 72 (6 * o + j)) q (nI o) (mem 74 (9 * p + 3)))) (k + 1)))), some (.int (nI (k + 1)))] ⟨rfl, rfl, rfl, rfl, (congrArg (fun z => some (Value.int z)) (jPcnt (g := (fun x => jSeal (jJoin (jJoin (jLeaf (nI p) 0 (nI x)) (jLeaf (nI p) 1 (mem 74 (9 * p + 6)))) (jJoin (jLeaf (nI p) 2 (mem 74 (9 * p + 7))) (jLeaf (nI p) 3 (mem 74 (9 * p + 8))))) (jKey (fun j => mem 71 (6 * o + j)) (fun j => mem 72 (6 * o + j)) q (nI o) (mem 74 (9 * p + 3))) = jSeal (jRootM (mem 74) p) (jKey (fun j => mem 71 (6 * o + j)) (fun j => mem 72 (6 * o + j)) q (nI o) (mem 74 (9 * p + 3))))) (by first | exact Or.inl ⟨c_161, rfl⟩ | exact Or.inr ⟨c_161, rfl⟩))), (congrArg (fun z => some (Value.int z)) (nI_1 _)), trivial⟩ ?_
              exact ih45 (k + 1) (by omega) (by omega)
      refine j_lv [some (.ref 66), some (.int (nI p)), some (.int 0), some (.int (jSeal (jRootM (mem 74) p) (jKey (fun j => mem 71 (6 * o + j)) (fun j => mem 72 (6 * o + j)) q (nI o) (mem 74 (9 * p + 3))))), some (.int (nI (jCnt (fun x => jSeal (jJoin (jJoin (jLeaf (nI p) 0 (nI x)) (jLeaf (nI p) 1 (mem 74 (9 * p + 6)))) (jJoin (jLeaf (nI p) 2 (mem 74 (9 * p + 7))) (jLeaf (nI p) 3 (mem 74 (9 * p + 8))))) (jKey (fun j => mem 71 (6 * o + j)) (fun j => mem 72 (6 * o + j)) q (nI o) (mem 74 (9 * p + 3))) = jSeal (jRootM (mem 74) p) (jKey (fun j => mem 71 (6 * o + j)) (fun j => mem 72 (6 * o + j)) q (nI o) (mem 74 (9 * p + 3)))) 0))), some (.int (nI 0))] ⟨rfl, rfl, rfl, rfl, rfl, rfl, trivial⟩ ?_
      exact lp45 1001 0 (by omega) (by omega)
    · exfalso
      clear hE hr hR X
      (try simp only [lg_cmp_lt, lg_cmp_gt, lg_cmp_le, lg_cmp_ge] at *); (try simp (disch := omega) only [Int64.le_iff_toInt_le, Int64.lt_iff_toInt_lt, Int32.le_iff_toInt_le, Int32.lt_iff_toInt_lt, fa_eq, fa_lit, fa_litL, nI_toInt, pk_lT, Int32.toInt_toInt64, jadd64, jin, jnoneT] at *); omega
set_option maxRecDepth 4000 in
set_option maxHeartbeats 1000000 in
theorem m_lies1 (np : Nat) (mem : jMem) (p : Nat) (hn : np ≤ 12) (hp : mem 66 9 = nI np) (hp2 : p < np) (o q : Nat) (ho : o < 4) (hpo : mem 74 (9 * p) = nI o) (hq : q ≤ 6) (hc : mem 70 o = nI q) : jPi yX11_lies cX11_lies 10 .int 4 [.ref 66, .int (nI p), .int 1] np mem (fun v c => v = nI (jCnt (fun x => jSeal (jJoin (jJoin (jLeaf (nI p) 0 (mem 74 (9 * p + 5))) (jLeaf (nI p) 1 (nI x))) (jJoin (jLeaf (nI p) 2 (mem 74 (9 * p + 7))) (jLeaf (nI p) 3 (mem 74 (9 * p + 8))))) (jKey (fun j => mem 71 (6 * o + j)) (fun j => mem 72 (6 * o + j)) q (nI o) (mem 74 (9 * p + 3))) = jSeal (jRootM (mem 74) p) (jKey (fun j => mem 71 (6 * o + j)) (fun j => mem 72 (6 * o + j)) q (nI o) (mem 74 (9 * p + 3)))) 1000) ∧ c = jup mem 66 0 0) := by
  refine jPi.of (own := RX11) rfl rfl (Nat.le_of_ble_eq_true rfl) (fun G X hR hr hE => ?_)
  refine j_aload_n X dX11_lies_0 rfl ?_
  refine j_iconst X dX11_lies_1 0 (by decide) ?_
  refine j_putI X 11 0 (by decide) (by decide) rfl rfl rfl rfl u950 (o66 np) (k66 np) dX11_lies_2 ?_
  refine j_aload_n X dX11_lies_5 rfl ?_
  refine j_iload_n X dX11_lies_6 rfl ?_
  refine s_callVi X hR (m_isPaper np _ _ hn hp) rfl 11 (by decide) (o66 np) (k66 np) rfl u1151 u1148 u1150 qp39 u12 hyX11_isPaper (by decide) (by decide) (Nat.le_of_ble_eq_true rfl) dX11_lies_7 (fun v_7 m_7 h_7 => ?_)
  obtain ⟨e1, e2⟩ := h_7; have e1 := e1.symm; have e2 := e2.symm; subst e1; subst e2
  refine j_ifb_eq X 25 dX11_lies_10 (by decide) (fun c_10 => ?_) (fun c_10 => ?_)
  · exfalso
    clear hE hr hR X
    (try simp only [lg_cmp_lt, lg_cmp_gt, lg_cmp_le, lg_cmp_ge] at *); (try simp (disch := omega) only [Int64.le_iff_toInt_le, Int64.lt_iff_toInt_lt, Int32.le_iff_toInt_le, Int32.lt_iff_toInt_lt, fa_eq, fa_lit, fa_litL, nI_toInt, pk_lT, Int32.toInt_toInt64, jadd64, jin, jnoneT] at *); omega
  · refine j_iload_n X dX11_lies_13 rfl ?_
    refine j_i2l X dX11_lies_14 ?_
    refine j_lconst X dX11_lies_15 0 (by decide) ?_
    refine j_ldc2 X dX11_lies_16 u1114 ?_
    refine s_callSi X hR (m_inI np _ _ _ _ 0 3 rfl rfl) rfl u1087 u1085 u1086 u12 hyX11_in (by decide) (by decide) (Nat.le_of_ble_eq_true rfl) dX11_lies_19 (fun v_19 m_19 h_19 => ?_)
    obtain ⟨e1, e2⟩ := h_19; have e1 := e1.symm; have e2 := e2.symm; subst e1; subst e2
    refine j_ifb_ne X 28 dX11_lies_22 (by decide) (fun c_22 => ?_) (fun c_22 => ?_)
    · refine j_aload_n X dX11_lies_28 rfl ?_
      refine j_iload_n X dX11_lies_29 rfl ?_
      refine j_aload_n X dX11_lies_30 rfl ?_
      refine j_iload_n X dX11_lies_31 rfl ?_
      refine s_callVi X hR (m_rootOf np _ p (by omega)) rfl 11 (by decide) (o66 np) (k66 np) rfl u1172 u1169 u1171 qp42 u12 hyX11_rootOf (by decide) (by decide) (Nat.le_of_ble_eq_true rfl) dX11_lies_32 (fun v_32 m_32 h_32 => ?_)
      obtain ⟨e1, e2⟩ := h_32; have e1 := e1.symm; have e2 := e2.symm; subst e1; subst e2
      refine s_callVi X hR (m_sealOf np _ p o q _ (by omega) ho hpo hq hc) rfl 11 (by decide) (o66 np) (k66 np) rfl u1176 u1173 u1175 qp43 u12 hyX11_sealOf (by decide) (by decide) (Nat.le_of_ble_eq_true rfl) dX11_lies_35 (fun v_35 m_35 h_35 => ?_)
      obtain ⟨e1, e2⟩ := h_35; have e1 := e1.symm; have e2 := e2.symm; subst e1; subst e2
      refine j_istore_n X dX11_lies_38 (by decide) ?_
      refine j_iconst X dX11_lies_39 0 (by decide) ?_
      refine j_istore X dX11_lies_40 (by decide) ?_
      refine j_iconst X dX11_lies_42 0 (by decide) ?_
      refine j_istore X dX11_lies_43 (by decide) ?_
      have lp45 : ∀ (n : Nat) (k : Nat), k ≤ 1000 → 1001 ≤ k + n → J G RX11 cX11_lies 10 0 0 45 (jlv [some (.ref 66), some (.int (nI p)), some (.int 1), some (.int (jSeal (jRootM (mem 74) p) (jKey (fun j => mem 71 (6 * o + j)) (fun j => mem 72 (6 * o + j)) q (nI o) (mem 74 (9 * p + 3))))), some (.int (nI (jCnt (fun x => jSeal (jJoin (jJoin (jLeaf (nI p) 0 (mem 74 (9 * p + 5))) (jLeaf (nI p) 1 (nI x))) (jJoin (jLeaf (nI p) 2 (mem 74 (9 * p + 7))) (jLeaf (nI p) 3 (mem 74 (9 * p + 8))))) (jKey (fun j => mem 71 (6 * o + j)) (fun j => mem 72 (6 * o + j)) q (nI o) (mem 74 (9 * p + 3))) = jSeal (jRootM (mem 74) p) (jKey (fun j => mem 71 (6 * o + j)) (fun j => mem 72 (6 * o + j)) q (nI o) (mem 74 (9 * p + 3)))) k))), some (.int (nI k))]) [] (jS np) (jup mem 66 0 0) := by
        intro n
        induction n with
        | zero =>
          intro k hk hn2
          exact absurd hn2 (by omega)
        | succ n ih45 =>
          intro k hk hn2
          refine j_iload X dX11_lies_45 rfl ?_
          refine j_sipush X dX11_lies_47 1000 (by decide) ?_
          refine j_icmp_ge X 178 dX11_lies_50 (by decide) (fun c_50 => ?_) (fun c_50 => ?_)
          · obtain rfl : k = 1000 := by clear hE hr hR X; (try simp only [lg_cmp_lt, lg_cmp_gt, lg_cmp_le, lg_cmp_ge] at *); (try simp (disch := omega) only [Int64.le_iff_toInt_le, Int64.lt_iff_toInt_lt, Int32.le_iff_toInt_le, Int32.lt_iff_toInt_lt, fa_eq, fa_lit, fa_litL, nI_toInt, pk_lT, Int32.toInt_toInt64, jadd64, jin, jnoneT] at *); omega
            refine j_iload X dX11_lies_178 rfl ?_
            refine s_iret X hE hr dX11_lies_180 rfl ?_
            first | exact ⟨rfl, rfl⟩ | (exfalso; clear hE hr hR X; (try simp only [lg_cmp_lt, lg_cmp_gt, lg_cmp_le, lg_cmp_ge] at *); (try simp (disch := omega) only [Int64.le_iff_toInt_le, Int64.lt_iff_toInt_lt, Int32.le_iff_toInt_le, Int32.lt_iff_toInt_lt, fa_eq, fa_lit, fa_litL, nI_toInt, pk_lT, Int32.toInt_toInt64, jadd64, jin, jnoneT] at *); omega)
          · have hk2 : k < 1000 := by clear hE hr hR X; (try simp only [lg_cmp_lt, lg_cmp_gt, lg_cmp_le, lg_cmp_ge] at *); (try simp (disch := omega) only [Int64.le_iff_toInt_le, Int64.lt_iff_toInt_lt, Int32.le_iff_toInt_le, Int32.lt_iff_toInt_lt, fa_eq, fa_lit, fa_litL, nI_toInt, pk_lT, Int32.toInt_toInt64, jadd64, jin, jnoneT] at *); omega
            refine j_iload_n X dX11_lies_53 rfl ?_
            refine j_iload_n X dX11_lies_54 rfl ?_
            refine j_iconst X dX11_lies_55 2 (by decide) ?_
            refine j_iand X dX11_lies_56 ?_
            refine j_iload_n X dX11_lies_57 rfl ?_
            refine j_iconst X dX11_lies_58 1 (by decide) ?_
            refine j_iand X dX11_lies_59 ?_
            refine j_if_ne X 68 dX11_lies_60 (by decide) (fun c_60 => ?_) (fun c_60 => absurd c_60 (by decide))
            refine j_aload_n X dX11_lies_68 rfl ?_
            refine j_iload_n X dX11_lies_69 rfl ?_
            refine j_iload_n X dX11_lies_70 rfl ?_
            refine j_iconst X dX11_lies_71 2 (by decide) ?_
            refine j_iand X dX11_lies_72 ?_
            refine s_callVi X hR (m_field0 np _ p (by omega)) rfl 11 (by decide) (o66 np) (k66 np) rfl u1160 u1157 u1159 qp41 u12 hyX11_field (by decide) (by decide) (Nat.le_of_ble_eq_true rfl) dX11_lies_73 (fun v_73 m_73 h_73 => ?_)
            obtain ⟨e1, e2⟩ := h_73; have e1 := e1.symm; have e2 := e2.symm; subst e1; subst e2
            refine s_callSi X hR (m_leaf np _ _ _ _) rfl u1163 u1161 u1162 u12 hyX11_leaf (by decide) (by decide) (Nat.le_of_ble_eq_true rfl) dX11_lies_76 (fun v_76 m_76 h_76 => ?_)
            obtain ⟨e1, e2⟩ := h_76; have e1 := e1.symm; have e2 := e2.symm; subst e1; subst e2
            refine j_istore X dX11_lies_79 (by decide) ?_
            refine j_iload_n X dX11_lies_81 rfl ?_
            refine j_iload_n X dX11_lies_82 rfl ?_
            refine j_iconst X dX11_lies_83 1 (by decide) ?_
            refine j_ior X dX11_lies_84 ?_
            refine j_iload_n X dX11_lies_85 rfl ?_
            refine j_iconst X dX11_lies_86 1 (by decide) ?_
            refine j_iand X dX11_lies_87 ?_
            refine j_iconst X dX11_lies_88 1 (by decide) ?_
            refine j_icmp_ne X 97 dX11_lies_89 (by decide) (fun c_89 => absurd c_89 (by decide)) (fun c_89 => ?_)
            refine j_iload X dX11_lies_92 rfl ?_
            refine j_goto X 105 dX11_lies_94 (by decide) ?_
            refine s_callSi X hR (m_leaf np _ _ _ _) rfl u1163 u1161 u1162 u12 hyX11_leaf (by decide) (by decide) (Nat.le_of_ble_eq_true rfl) dX11_lies_105 (fun v_105 m_105 h_105 => ?_)
            obtain ⟨e1, e2⟩ := h_105; have e1 := e1.symm; have e2 := e2.symm; subst e1; subst e2
            refine j_istore X dX11_lies_108 (by decide) ?_
            refine j_iload X dX11_lies_110 rfl ?_
            refine j_iload X dX11_lies_112 rfl ?_
            refine s_callSi X hR (m_join np _ _ _) rfl u1167 u1165 u1166 u12 hyX11_join (by decide) (by decide) (Nat.le_of_ble_eq_true rfl) dX11_lies_114 (fun v_114 m_114 h_114 => ?_)
            obtain ⟨e1, e2⟩ := h_114; have e1 := e1.symm; have e2 := e2.symm; subst e1; subst e2
            refine j_istore X dX11_lies_117 (by decide) ?_
            refine j_iload_n X dX11_lies_119 rfl ?_
            refine j_iconst X dX11_lies_120 2 (by decide) ?_
            refine j_icmp_ge X 138 dX11_lies_121 (by decide) (fun c_121 => absurd c_121 (by decide)) (fun c_121 => ?_)
            refine j_iload X dX11_lies_124 rfl ?_
            refine j_aload_n X dX11_lies_126 rfl ?_
            refine j_iload_n X dX11_lies_127 rfl ?_
            refine j_iconst X dX11_lies_128 1 (by decide) ?_
            refine s_callVi X hR (m_half1 np _ p (by omega)) rfl 11 (by decide) (o66 np) (k66 np) rfl u1156 u1153 u1155 qp40 u12 hyX11_halfOf (by decide) (by decide) (Nat.le_of_ble_eq_true rfl) dX11_lies_129 (fun v_129 m_129 h_129 => ?_)
            obtain ⟨e1, e2⟩ := h_129; have e1 := e1.symm; have e2 := e2.symm; subst e1; subst e2
            refine s_callSi X hR (m_join np _ _ _) rfl u1167 u1165 u1166 u12 hyX11_join (by decide) (by decide) (Nat.le_of_ble_eq_true rfl) dX11_lies_132 (fun v_132 m_132 h_132 => ?_)
            obtain ⟨e1, e2⟩ := h_132; have e1 := e1.symm; have e2 := e2.symm; subst e1; subst e2
            refine j_goto X 149 dX11_lies_135 (by decide) ?_
            refine j_istore X dX11_lies_149 (by decide) ?_
            refine j_iload X dX11_lies_151 rfl ?_
            refine j_aload_n X dX11_lies_153 rfl ?_
            refine j_iload_n X dX11_lies_154 rfl ?_
            refine j_iload X dX11_lies_155 rfl ?_
            refine s_callVi X hR (m_sealOf np _ p o q _ (by omega) ho hpo hq hc) rfl 11 (by decide) (o66 np) (k66 np) rfl u1176 u1173 u1175 qp43 u12 hyX11_sealOf (by decide) (by decide) (Nat.le_of_ble_eq_true rfl) dX11_lies_157 (fun v_157 m_157 h_157 => ?_)
            obtain ⟨e1, e2⟩ := h_157; have e1 := e1.symm; have e2 := e2.symm; subst e1; subst e2
            refine j_iload_n X dX11_lies_160 rfl ?_
            refine j_icmp_ne X 168 dX11_lies_161 (by decide) (fun c_161 => ?_) (fun c_161 => ?_)
            · refine j_iconst X dX11_lies_168 0 (by decide) ?_
              refine j_iadd X dX11_lies_169 ?_
              refine j_istore X dX11_lies_170 (by decide) ?_
              refine j_iinc X dX11_lies_172 rfl 1 rfl ?_
              refine j_goto X 45 dX11_lies_175 (by decide) ?_
              refine j_lv [some (.ref 66), some (.int (nI p)), some (.int 1), some (.int (jSeal (jRootM (mem 74) p) (jKey (fun j => mem 71 (6 * o + j)) (fun j => mem 72 (6 * o + j)) q (nI o) (mem 74 (9 * p + 3))))), some (.int (nI (jCnt (fun x => jSeal (jJoin (jJoin (jLeaf (nI p) 0 (mem 74 (9 * p + 5))) (jLeaf (nI p) 1 (nI x))) (jJoin (jLeaf (nI p) 2 (mem 74 (9 * p + 7))) (jLeaf (nI p) 3 (mem 74 (9 * p + 8))))) (jKey (fun j => mem 71 (6 * o + j)) (fun j => mem 72 (6 * o + j)) q (nI o) (mem 74 (9 * p + 3))) = jSeal (jRootM (mem 74) p) (jKey (fun j => mem 71 (6 * o + j)) (fun j => mem 72 (6 * o + j)) q (nI o) (mem 74 (9 * p + 3)))) (k + 1)))), some (.int (nI (k + 1)))] ⟨rfl, rfl, rfl, rfl, (congrArg (fun z => some (Value.int z)) (jPcnt (g := (fun x => jSeal (jJoin (jJoin (jLeaf (nI p) 0 (mem 74 (9 * p + 5))) (jLeaf (nI p) 1 (nI x))) (jJoin (jLeaf (nI p) 2 (mem 74 (9 * p + 7))) (jLeaf (nI p) 3 (mem 74 (9 * p + 8))))) (jKey (fun j => mem 71 (6 * o + j)) (fun j => mem 72 (6 * o + j)) q (nI o) (mem 74 (9 * p + 3))) = jSeal (jRootM (mem 74) p) (jKey (fun j => mem 71 (6 * o + j)) (fun j => mem 72 (6 * o + j)) q (nI o) (mem 74 (9 * p + 3))))) (by first | exact Or.inl ⟨c_161, rfl⟩ | exact Or.inr ⟨c_161, rfl⟩))), (congrArg (fun z => some (Value.int z)) (nI_1 _)), trivial⟩ ?_
              exact ih45 (k + 1) (by omega) (by omega)
            · refine j_iconst X dX11_lies_164 1 (by decide) ?_
              refine j_goto X 169 dX11_lies_165 (by decide) ?_
              refine j_iadd X dX11_lies_169 ?_
              refine j_istore X dX11_lies_170 (by decide) ?_
              refine j_iinc X dX11_lies_172 rfl 1 rfl ?_
              refine j_goto X 45 dX11_lies_175 (by decide) ?_
              refine j_lv [some (.ref 66), some (.int (nI p)), some (.int 1), some (.int (jSeal (jRootM (mem 74) p) (jKey (fun j => mem 71 (6 * o + j)) (fun j => mem 72 (6 * o + j)) q (nI o) (mem 74 (9 * p + 3))))), some (.int (nI (jCnt (fun x => jSeal (jJoin (jJoin (jLeaf (nI p) 0 (mem 74 (9 * p + 5))) (jLeaf (nI p) 1 (nI x))) (jJoin (jLeaf (nI p) 2 (mem 74 (9 * p + 7))) (jLeaf (nI p) 3 (mem 74 (9 * p + 8))))) (jKey (fun j => mem 71 (6 * o + j)) (fun j => mem 72 (6 * o + j)) q (nI o) (mem 74 (9 * p + 3))) = jSeal (jRootM (mem 74) p) (jKey (fun j => mem 71 (6 * o + j)) (fun j => mem 72 (6 * o + j)) q (nI o) (mem 74 (9 * p + 3)))) (k + 1)))), some (.int (nI (k + 1)))] ⟨rfl, rfl, rfl, rfl, (congrArg (fun z => some (Value.int z)) (jPcnt (g := (fun x => jSeal (jJoin (jJoin (jLeaf (nI p) 0 (mem 74 (9 * p + 5))) (jLeaf (nI p) 1 (nI x))) (jJoin (jLeaf (nI p) 2 (mem 74 (9 * p + 7))) (jLeaf (nI p) 3 (mem 74 (9 * p + 8))))) (jKey (fun j => mem 71 (6 * o + j)) (fun j => mem 72 (6 * o + j)) q (nI o) (mem 74 (9 * p + 3))) = jSeal (jRootM (mem 74) p) (jKey (fun j => mem 71 (6 * o + j)) (fun j => mem 72 (6 * o + j)) q (nI o) (mem 74 (9 * p + 3))))) (by first | exact Or.inl ⟨c_161, rfl⟩ | exact Or.inr ⟨c_161, rfl⟩))), (congrArg (fun z => some (Value.int z)) (nI_1 _)), trivial⟩ ?_
              exact ih45 (k + 1) (by omega) (by omega)
      refine j_lv [some (.ref 66), some (.int (nI p)), some (.int 1), some (.int (jSeal (jRootM (mem 74) p) (jKey (fun j => mem 71 (6 * o + j)) (fun j => mem 72 (6 * o + j)) q (nI o) (mem 74 (9 * p + 3))))), some (.int (nI (jCnt (fun x => jSeal (jJoin (jJoin (jLeaf (nI p) 0 (mem 74 (9 * p + 5))) (jLeaf (nI p) 1 (nI x))) (jJoin (jLeaf (nI p) 2 (mem 74 (9 * p + 7))) (jLeaf (nI p) 3 (mem 74 (9 * p + 8))))) (jKey (fun j => mem 71 (6 * o + j)) (fun j => mem 72 (6 * o + j)) q (nI o) (mem 74 (9 * p + 3))) = jSeal (jRootM (mem 74) p) (jKey (fun j => mem 71 (6 * o + j)) (fun j => mem 72 (6 * o + j)) q (nI o) (mem 74 (9 * p + 3)))) 0))), some (.int (nI 0))] ⟨rfl, rfl, rfl, rfl, rfl, rfl, trivial⟩ ?_
      exact lp45 1001 0 (by omega) (by omega)
    · exfalso
      clear hE hr hR X
      (try simp only [lg_cmp_lt, lg_cmp_gt, lg_cmp_le, lg_cmp_ge] at *); (try simp (disch := omega) only [Int64.le_iff_toInt_le, Int64.lt_iff_toInt_lt, Int32.le_iff_toInt_le, Int32.lt_iff_toInt_lt, fa_eq, fa_lit, fa_litL, nI_toInt, pk_lT, Int32.toInt_toInt64, jadd64, jin, jnoneT] at *); omega
set_option maxRecDepth 4000 in
set_option maxHeartbeats 1000000 in
theorem m_lies2 (np : Nat) (mem : jMem) (p : Nat) (hn : np ≤ 12) (hp : mem 66 9 = nI np) (hp2 : p < np) (o q : Nat) (ho : o < 4) (hpo : mem 74 (9 * p) = nI o) (hq : q ≤ 6) (hc : mem 70 o = nI q) : jPi yX11_lies cX11_lies 10 .int 4 [.ref 66, .int (nI p), .int 2] np mem (fun v c => v = nI (jCnt (fun x => jSeal (jJoin (jJoin (jLeaf (nI p) 0 (mem 74 (9 * p + 5))) (jLeaf (nI p) 1 (mem 74 (9 * p + 6)))) (jJoin (jLeaf (nI p) 2 (nI x)) (jLeaf (nI p) 3 (mem 74 (9 * p + 8))))) (jKey (fun j => mem 71 (6 * o + j)) (fun j => mem 72 (6 * o + j)) q (nI o) (mem 74 (9 * p + 3))) = jSeal (jRootM (mem 74) p) (jKey (fun j => mem 71 (6 * o + j)) (fun j => mem 72 (6 * o + j)) q (nI o) (mem 74 (9 * p + 3)))) 1000) ∧ c = jup mem 66 0 0) := by
  refine jPi.of (own := RX11) rfl rfl (Nat.le_of_ble_eq_true rfl) (fun G X hR hr hE => ?_)
  refine j_aload_n X dX11_lies_0 rfl ?_
  refine j_iconst X dX11_lies_1 0 (by decide) ?_
  refine j_putI X 11 0 (by decide) (by decide) rfl rfl rfl rfl u950 (o66 np) (k66 np) dX11_lies_2 ?_
  refine j_aload_n X dX11_lies_5 rfl ?_
  refine j_iload_n X dX11_lies_6 rfl ?_
  refine s_callVi X hR (m_isPaper np _ _ hn hp) rfl 11 (by decide) (o66 np) (k66 np) rfl u1151 u1148 u1150 qp39 u12 hyX11_isPaper (by decide) (by decide) (Nat.le_of_ble_eq_true rfl) dX11_lies_7 (fun v_7 m_7 h_7 => ?_)
  obtain ⟨e1, e2⟩ := h_7; have e1 := e1.symm; have e2 := e2.symm; subst e1; subst e2
  refine j_ifb_eq X 25 dX11_lies_10 (by decide) (fun c_10 => ?_) (fun c_10 => ?_)
  · exfalso
    clear hE hr hR X
    (try simp only [lg_cmp_lt, lg_cmp_gt, lg_cmp_le, lg_cmp_ge] at *); (try simp (disch := omega) only [Int64.le_iff_toInt_le, Int64.lt_iff_toInt_lt, Int32.le_iff_toInt_le, Int32.lt_iff_toInt_lt, fa_eq, fa_lit, fa_litL, nI_toInt, pk_lT, Int32.toInt_toInt64, jadd64, jin, jnoneT] at *); omega
  · refine j_iload_n X dX11_lies_13 rfl ?_
    refine j_i2l X dX11_lies_14 ?_
    refine j_lconst X dX11_lies_15 0 (by decide) ?_
    refine j_ldc2 X dX11_lies_16 u1114 ?_
    refine s_callSi X hR (m_inI np _ _ _ _ 0 3 rfl rfl) rfl u1087 u1085 u1086 u12 hyX11_in (by decide) (by decide) (Nat.le_of_ble_eq_true rfl) dX11_lies_19 (fun v_19 m_19 h_19 => ?_)
    obtain ⟨e1, e2⟩ := h_19; have e1 := e1.symm; have e2 := e2.symm; subst e1; subst e2
    refine j_ifb_ne X 28 dX11_lies_22 (by decide) (fun c_22 => ?_) (fun c_22 => ?_)
    · refine j_aload_n X dX11_lies_28 rfl ?_
      refine j_iload_n X dX11_lies_29 rfl ?_
      refine j_aload_n X dX11_lies_30 rfl ?_
      refine j_iload_n X dX11_lies_31 rfl ?_
      refine s_callVi X hR (m_rootOf np _ p (by omega)) rfl 11 (by decide) (o66 np) (k66 np) rfl u1172 u1169 u1171 qp42 u12 hyX11_rootOf (by decide) (by decide) (Nat.le_of_ble_eq_true rfl) dX11_lies_32 (fun v_32 m_32 h_32 => ?_)
      obtain ⟨e1, e2⟩ := h_32; have e1 := e1.symm; have e2 := e2.symm; subst e1; subst e2
      refine s_callVi X hR (m_sealOf np _ p o q _ (by omega) ho hpo hq hc) rfl 11 (by decide) (o66 np) (k66 np) rfl u1176 u1173 u1175 qp43 u12 hyX11_sealOf (by decide) (by decide) (Nat.le_of_ble_eq_true rfl) dX11_lies_35 (fun v_35 m_35 h_35 => ?_)
      obtain ⟨e1, e2⟩ := h_35; have e1 := e1.symm; have e2 := e2.symm; subst e1; subst e2
      refine j_istore_n X dX11_lies_38 (by decide) ?_
      refine j_iconst X dX11_lies_39 0 (by decide) ?_
      refine j_istore X dX11_lies_40 (by decide) ?_
      refine j_iconst X dX11_lies_42 0 (by decide) ?_
      refine j_istore X dX11_lies_43 (by decide) ?_
      have lp45 : ∀ (n : Nat) (k : Nat), k ≤ 1000 → 1001 ≤ k + n → J G RX11 cX11_lies 10 0 0 45 (jlv [some (.ref 66), some (.int (nI p)), some (.int 2), some (.int (jSeal (jRootM (mem 74) p) (jKey (fun j => mem 71 (6 * o + j)) (fun j => mem 72 (6 * o + j)) q (nI o) (mem 74 (9 * p + 3))))), some (.int (nI (jCnt (fun x => jSeal (jJoin (jJoin (jLeaf (nI p) 0 (mem 74 (9 * p + 5))) (jLeaf (nI p) 1 (mem 74 (9 * p + 6)))) (jJoin (jLeaf (nI p) 2 (nI x)) (jLeaf (nI p) 3 (mem 74 (9 * p + 8))))) (jKey (fun j => mem 71 (6 * o + j)) (fun j => mem 72 (6 * o + j)) q (nI o) (mem 74 (9 * p + 3))) = jSeal (jRootM (mem 74) p) (jKey (fun j => mem 71 (6 * o + j)) (fun j => mem 72 (6 * o + j)) q (nI o) (mem 74 (9 * p + 3)))) k))), some (.int (nI k))]) [] (jS np) (jup mem 66 0 0) := by
        intro n
        induction n with
        | zero =>
          intro k hk hn2
          exact absurd hn2 (by omega)
        | succ n ih45 =>
          intro k hk hn2
          refine j_iload X dX11_lies_45 rfl ?_
          refine j_sipush X dX11_lies_47 1000 (by decide) ?_
          refine j_icmp_ge X 178 dX11_lies_50 (by decide) (fun c_50 => ?_) (fun c_50 => ?_)
          · obtain rfl : k = 1000 := by clear hE hr hR X; (try simp only [lg_cmp_lt, lg_cmp_gt, lg_cmp_le, lg_cmp_ge] at *); (try simp (disch := omega) only [Int64.le_iff_toInt_le, Int64.lt_iff_toInt_lt, Int32.le_iff_toInt_le, Int32.lt_iff_toInt_lt, fa_eq, fa_lit, fa_litL, nI_toInt, pk_lT, Int32.toInt_toInt64, jadd64, jin, jnoneT] at *); omega
            refine j_iload X dX11_lies_178 rfl ?_
            refine s_iret X hE hr dX11_lies_180 rfl ?_
            first | exact ⟨rfl, rfl⟩ | (exfalso; clear hE hr hR X; (try simp only [lg_cmp_lt, lg_cmp_gt, lg_cmp_le, lg_cmp_ge] at *); (try simp (disch := omega) only [Int64.le_iff_toInt_le, Int64.lt_iff_toInt_lt, Int32.le_iff_toInt_le, Int32.lt_iff_toInt_lt, fa_eq, fa_lit, fa_litL, nI_toInt, pk_lT, Int32.toInt_toInt64, jadd64, jin, jnoneT] at *); omega)
          · have hk2 : k < 1000 := by clear hE hr hR X; (try simp only [lg_cmp_lt, lg_cmp_gt, lg_cmp_le, lg_cmp_ge] at *); (try simp (disch := omega) only [Int64.le_iff_toInt_le, Int64.lt_iff_toInt_lt, Int32.le_iff_toInt_le, Int32.lt_iff_toInt_lt, fa_eq, fa_lit, fa_litL, nI_toInt, pk_lT, Int32.toInt_toInt64, jadd64, jin, jnoneT] at *); omega
            refine j_iload_n X dX11_lies_53 rfl ?_
            refine j_iload_n X dX11_lies_54 rfl ?_
            refine j_iconst X dX11_lies_55 2 (by decide) ?_
            refine j_iand X dX11_lies_56 ?_
            refine j_iload_n X dX11_lies_57 rfl ?_
            refine j_iconst X dX11_lies_58 1 (by decide) ?_
            refine j_iand X dX11_lies_59 ?_
            refine j_if_ne X 68 dX11_lies_60 (by decide) (fun c_60 => absurd c_60 (by decide)) (fun c_60 => ?_)
            refine j_iload X dX11_lies_63 rfl ?_
            refine j_goto X 76 dX11_lies_65 (by decide) ?_
            refine s_callSi X hR (m_leaf np _ _ _ _) rfl u1163 u1161 u1162 u12 hyX11_leaf (by decide) (by decide) (Nat.le_of_ble_eq_true rfl) dX11_lies_76 (fun v_76 m_76 h_76 => ?_)
            obtain ⟨e1, e2⟩ := h_76; have e1 := e1.symm; have e2 := e2.symm; subst e1; subst e2
            refine j_istore X dX11_lies_79 (by decide) ?_
            refine j_iload_n X dX11_lies_81 rfl ?_
            refine j_iload_n X dX11_lies_82 rfl ?_
            refine j_iconst X dX11_lies_83 1 (by decide) ?_
            refine j_ior X dX11_lies_84 ?_
            refine j_iload_n X dX11_lies_85 rfl ?_
            refine j_iconst X dX11_lies_86 1 (by decide) ?_
            refine j_iand X dX11_lies_87 ?_
            refine j_iconst X dX11_lies_88 1 (by decide) ?_
            refine j_icmp_ne X 97 dX11_lies_89 (by decide) (fun c_89 => ?_) (fun c_89 => absurd c_89 (by decide))
            refine j_aload_n X dX11_lies_97 rfl ?_
            refine j_iload_n X dX11_lies_98 rfl ?_
            refine j_iload_n X dX11_lies_99 rfl ?_
            refine j_iconst X dX11_lies_100 1 (by decide) ?_
            refine j_ior X dX11_lies_101 ?_
            refine s_callVi X hR (m_field3 np _ p (by omega)) rfl 11 (by decide) (o66 np) (k66 np) rfl u1160 u1157 u1159 qp41 u12 hyX11_field (by decide) (by decide) (Nat.le_of_ble_eq_true rfl) dX11_lies_102 (fun v_102 m_102 h_102 => ?_)
            obtain ⟨e1, e2⟩ := h_102; have e1 := e1.symm; have e2 := e2.symm; subst e1; subst e2
            refine s_callSi X hR (m_leaf np _ _ _ _) rfl u1163 u1161 u1162 u12 hyX11_leaf (by decide) (by decide) (Nat.le_of_ble_eq_true rfl) dX11_lies_105 (fun v_105 m_105 h_105 => ?_)
            obtain ⟨e1, e2⟩ := h_105; have e1 := e1.symm; have e2 := e2.symm; subst e1; subst e2
            refine j_istore X dX11_lies_108 (by decide) ?_
            refine j_iload X dX11_lies_110 rfl ?_
            refine j_iload X dX11_lies_112 rfl ?_
            refine s_callSi X hR (m_join np _ _ _) rfl u1167 u1165 u1166 u12 hyX11_join (by decide) (by decide) (Nat.le_of_ble_eq_true rfl) dX11_lies_114 (fun v_114 m_114 h_114 => ?_)
            obtain ⟨e1, e2⟩ := h_114; have e1 := e1.symm; have e2 := e2.symm; subst e1; subst e2
            refine j_istore X dX11_lies_117 (by decide) ?_
            refine j_iload_n X dX11_lies_119 rfl ?_
            refine j_iconst X dX11_lies_120 2 (by decide) ?_
            refine j_icmp_ge X 138 dX11_lies_121 (by decide) (fun c_121 => ?_) (fun c_121 => absurd c_121 (by decide))
            refine j_aload_n X dX11_lies_138 rfl ?_
            refine j_iload_n X dX11_lies_139 rfl ?_
            refine j_iconst X dX11_lies_140 0 (by decide) ?_
            refine s_callVi X hR (m_half0 np _ p (by omega)) rfl 11 (by decide) (o66 np) (k66 np) rfl u1156 u1153 u1155 qp40 u12 hyX11_halfOf (by decide) (by decide) (Nat.le_of_ble_eq_true rfl) dX11_lies_141 (fun v_141 m_141 h_141 => ?_)
            obtain ⟨e1, e2⟩ := h_141; have e1 := e1.symm; have e2 := e2.symm; subst e1; subst e2
            refine j_iload X dX11_lies_144 rfl ?_
            refine s_callSi X hR (m_join np _ _ _) rfl u1167 u1165 u1166 u12 hyX11_join (by decide) (by decide) (Nat.le_of_ble_eq_true rfl) dX11_lies_146 (fun v_146 m_146 h_146 => ?_)
            obtain ⟨e1, e2⟩ := h_146; have e1 := e1.symm; have e2 := e2.symm; subst e1; subst e2
            refine j_istore X dX11_lies_149 (by decide) ?_
            refine j_iload X dX11_lies_151 rfl ?_
            refine j_aload_n X dX11_lies_153 rfl ?_
            refine j_iload_n X dX11_lies_154 rfl ?_
            refine j_iload X dX11_lies_155 rfl ?_
            refine s_callVi X hR (m_sealOf np _ p o q _ (by omega) ho hpo hq hc) rfl 11 (by decide) (o66 np) (k66 np) rfl u1176 u1173 u1175 qp43 u12 hyX11_sealOf (by decide) (by decide) (Nat.le_of_ble_eq_true rfl) dX11_lies_157 (fun v_157 m_157 h_157 => ?_)
            obtain ⟨e1, e2⟩ := h_157; have e1 := e1.symm; have e2 := e2.symm; subst e1; subst e2
            refine j_iload_n X dX11_lies_160 rfl ?_
            refine j_icmp_ne X 168 dX11_lies_161 (by decide) (fun c_161 => ?_) (fun c_161 => ?_)
            · refine j_iconst X dX11_lies_168 0 (by decide) ?_
              refine j_iadd X dX11_lies_169 ?_
              refine j_istore X dX11_lies_170 (by decide) ?_
              refine j_iinc X dX11_lies_172 rfl 1 rfl ?_
              refine j_goto X 45 dX11_lies_175 (by decide) ?_
              refine j_lv [some (.ref 66), some (.int (nI p)), some (.int 2), some (.int (jSeal (jRootM (mem 74) p) (jKey (fun j => mem 71 (6 * o + j)) (fun j => mem 72 (6 * o + j)) q (nI o) (mem 74 (9 * p + 3))))), some (.int (nI (jCnt (fun x => jSeal (jJoin (jJoin (jLeaf (nI p) 0 (mem 74 (9 * p + 5))) (jLeaf (nI p) 1 (mem 74 (9 * p + 6)))) (jJoin (jLeaf (nI p) 2 (nI x)) (jLeaf (nI p) 3 (mem 74 (9 * p + 8))))) (jKey (fun j => mem 71 (6 * o + j)) (fun j => mem 72 (6 * o + j)) q (nI o) (mem 74 (9 * p + 3))) = jSeal (jRootM (mem 74) p) (jKey (fun j => mem 71 (6 * o + j)) (fun j => mem 72 (6 * o + j)) q (nI o) (mem 74 (9 * p + 3)))) (k + 1)))), some (.int (nI (k + 1)))] ⟨rfl, rfl, rfl, rfl, (congrArg (fun z => some (Value.int z)) (jPcnt (g := (fun x => jSeal (jJoin (jJoin (jLeaf (nI p) 0 (mem 74 (9 * p + 5))) (jLeaf (nI p) 1 (mem 74 (9 * p + 6)))) (jJoin (jLeaf (nI p) 2 (nI x)) (jLeaf (nI p) 3 (mem 74 (9 * p + 8))))) (jKey (fun j => mem 71 (6 * o + j)) (fun j => mem 72 (6 * o + j)) q (nI o) (mem 74 (9 * p + 3))) = jSeal (jRootM (mem 74) p) (jKey (fun j => mem 71 (6 * o + j)) (fun j => mem 72 (6 * o + j)) q (nI o) (mem 74 (9 * p + 3))))) (by first | exact Or.inl ⟨c_161, rfl⟩ | exact Or.inr ⟨c_161, rfl⟩))), (congrArg (fun z => some (Value.int z)) (nI_1 _)), trivial⟩ ?_
              exact ih45 (k + 1) (by omega) (by omega)
            · refine j_iconst X dX11_lies_164 1 (by decide) ?_
              refine j_goto X 169 dX11_lies_165 (by decide) ?_
              refine j_iadd X dX11_lies_169 ?_
              refine j_istore X dX11_lies_170 (by decide) ?_
              refine j_iinc X dX11_lies_172 rfl 1 rfl ?_
              refine j_goto X 45 dX11_lies_175 (by decide) ?_
              refine j_lv [some (.ref 66), some (.int (nI p)), some (.int 2), some (.int (jSeal (jRootM (mem 74) p) (jKey (fun j => mem 71 (6 * o + j)) (fun j => mem 72 (6 * o + j)) q (nI o) (mem 74 (9 * p + 3))))), some (.int (nI (jCnt (fun x => jSeal (jJoin (jJoin (jLeaf (nI p) 0 (mem 74 (9 * p + 5))) (jLeaf (nI p) 1 (mem 74 (9 * p + 6)))) (jJoin (jLeaf (nI p) 2 (nI x)) (jLeaf (nI p) 3 (mem 74 (9 * p + 8))))) (jKey (fun j => mem 71 (6 * o + j)) (fun j => mem 72 (6 * o + j)) q (nI o) (mem 74 (9 * p + 3))) = jSeal (jRootM (mem 74) p) (jKey (fun j => mem 71 (6 * o + j)) (fun j => mem 72 (6 * o + j)) q (nI o) (mem 74 (9 * p + 3)))) (k + 1)))), some (.int (nI (k + 1)))] ⟨rfl, rfl, rfl, rfl, (congrArg (fun z => some (Value.int z)) (jPcnt (g := (fun x => jSeal (jJoin (jJoin (jLeaf (nI p) 0 (mem 74 (9 * p + 5))) (jLeaf (nI p) 1 (mem 74 (9 * p + 6)))) (jJoin (jLeaf (nI p) 2 (nI x)) (jLeaf (nI p) 3 (mem 74 (9 * p + 8))))) (jKey (fun j => mem 71 (6 * o + j)) (fun j => mem 72 (6 * o + j)) q (nI o) (mem 74 (9 * p + 3))) = jSeal (jRootM (mem 74) p) (jKey (fun j => mem 71 (6 * o + j)) (fun j => mem 72 (6 * o + j)) q (nI o) (mem 74 (9 * p + 3))))) (by first | exact Or.inl ⟨c_161, rfl⟩ | exact Or.inr ⟨c_161, rfl⟩))), (congrArg (fun z => some (Value.int z)) (nI_1 _)), trivial⟩ ?_
              exact ih45 (k + 1) (by omega) (by omega)
      refine j_lv [some (.ref 66), some (.int (nI p)), some (.int 2), some (.int (jSeal (jRootM (mem 74) p) (jKey (fun j => mem 71 (6 * o + j)) (fun j => mem 72 (6 * o + j)) q (nI o) (mem 74 (9 * p + 3))))), some (.int (nI (jCnt (fun x => jSeal (jJoin (jJoin (jLeaf (nI p) 0 (mem 74 (9 * p + 5))) (jLeaf (nI p) 1 (mem 74 (9 * p + 6)))) (jJoin (jLeaf (nI p) 2 (nI x)) (jLeaf (nI p) 3 (mem 74 (9 * p + 8))))) (jKey (fun j => mem 71 (6 * o + j)) (fun j => mem 72 (6 * o + j)) q (nI o) (mem 74 (9 * p + 3))) = jSeal (jRootM (mem 74) p) (jKey (fun j => mem 71 (6 * o + j)) (fun j => mem 72 (6 * o + j)) q (nI o) (mem 74 (9 * p + 3)))) 0))), some (.int (nI 0))] ⟨rfl, rfl, rfl, rfl, rfl, rfl, trivial⟩ ?_
      exact lp45 1001 0 (by omega) (by omega)
    · exfalso
      clear hE hr hR X
      (try simp only [lg_cmp_lt, lg_cmp_gt, lg_cmp_le, lg_cmp_ge] at *); (try simp (disch := omega) only [Int64.le_iff_toInt_le, Int64.lt_iff_toInt_lt, Int32.le_iff_toInt_le, Int32.lt_iff_toInt_lt, fa_eq, fa_lit, fa_litL, nI_toInt, pk_lT, Int32.toInt_toInt64, jadd64, jin, jnoneT] at *); omega
set_option maxRecDepth 4000 in
set_option maxHeartbeats 1000000 in
theorem m_lies3 (np : Nat) (mem : jMem) (p : Nat) (hn : np ≤ 12) (hp : mem 66 9 = nI np) (hp2 : p < np) (o q : Nat) (ho : o < 4) (hpo : mem 74 (9 * p) = nI o) (hq : q ≤ 6) (hc : mem 70 o = nI q) : jPi yX11_lies cX11_lies 10 .int 4 [.ref 66, .int (nI p), .int 3] np mem (fun v c => v = nI (jCnt (fun x => jSeal (jJoin (jJoin (jLeaf (nI p) 0 (mem 74 (9 * p + 5))) (jLeaf (nI p) 1 (mem 74 (9 * p + 6)))) (jJoin (jLeaf (nI p) 2 (mem 74 (9 * p + 7))) (jLeaf (nI p) 3 (nI x)))) (jKey (fun j => mem 71 (6 * o + j)) (fun j => mem 72 (6 * o + j)) q (nI o) (mem 74 (9 * p + 3))) = jSeal (jRootM (mem 74) p) (jKey (fun j => mem 71 (6 * o + j)) (fun j => mem 72 (6 * o + j)) q (nI o) (mem 74 (9 * p + 3)))) 1000) ∧ c = jup mem 66 0 0) := by
  refine jPi.of (own := RX11) rfl rfl (Nat.le_of_ble_eq_true rfl) (fun G X hR hr hE => ?_)
  refine j_aload_n X dX11_lies_0 rfl ?_
  refine j_iconst X dX11_lies_1 0 (by decide) ?_
  refine j_putI X 11 0 (by decide) (by decide) rfl rfl rfl rfl u950 (o66 np) (k66 np) dX11_lies_2 ?_
  refine j_aload_n X dX11_lies_5 rfl ?_
  refine j_iload_n X dX11_lies_6 rfl ?_
  refine s_callVi X hR (m_isPaper np _ _ hn hp) rfl 11 (by decide) (o66 np) (k66 np) rfl u1151 u1148 u1150 qp39 u12 hyX11_isPaper (by decide) (by decide) (Nat.le_of_ble_eq_true rfl) dX11_lies_7 (fun v_7 m_7 h_7 => ?_)
  obtain ⟨e1, e2⟩ := h_7; have e1 := e1.symm; have e2 := e2.symm; subst e1; subst e2
  refine j_ifb_eq X 25 dX11_lies_10 (by decide) (fun c_10 => ?_) (fun c_10 => ?_)
  · exfalso
    clear hE hr hR X
    (try simp only [lg_cmp_lt, lg_cmp_gt, lg_cmp_le, lg_cmp_ge] at *); (try simp (disch := omega) only [Int64.le_iff_toInt_le, Int64.lt_iff_toInt_lt, Int32.le_iff_toInt_le, Int32.lt_iff_toInt_lt, fa_eq, fa_lit, fa_litL, nI_toInt, pk_lT, Int32.toInt_toInt64, jadd64, jin, jnoneT] at *); omega
  · refine j_iload_n X dX11_lies_13 rfl ?_
    refine j_i2l X dX11_lies_14 ?_
    refine j_lconst X dX11_lies_15 0 (by decide) ?_
    refine j_ldc2 X dX11_lies_16 u1114 ?_
    refine s_callSi X hR (m_inI np _ _ _ _ 0 3 rfl rfl) rfl u1087 u1085 u1086 u12 hyX11_in (by decide) (by decide) (Nat.le_of_ble_eq_true rfl) dX11_lies_19 (fun v_19 m_19 h_19 => ?_)
    obtain ⟨e1, e2⟩ := h_19; have e1 := e1.symm; have e2 := e2.symm; subst e1; subst e2
    refine j_ifb_ne X 28 dX11_lies_22 (by decide) (fun c_22 => ?_) (fun c_22 => ?_)
    · refine j_aload_n X dX11_lies_28 rfl ?_
      refine j_iload_n X dX11_lies_29 rfl ?_
      refine j_aload_n X dX11_lies_30 rfl ?_
      refine j_iload_n X dX11_lies_31 rfl ?_
      refine s_callVi X hR (m_rootOf np _ p (by omega)) rfl 11 (by decide) (o66 np) (k66 np) rfl u1172 u1169 u1171 qp42 u12 hyX11_rootOf (by decide) (by decide) (Nat.le_of_ble_eq_true rfl) dX11_lies_32 (fun v_32 m_32 h_32 => ?_)
      obtain ⟨e1, e2⟩ := h_32; have e1 := e1.symm; have e2 := e2.symm; subst e1; subst e2
      refine s_callVi X hR (m_sealOf np _ p o q _ (by omega) ho hpo hq hc) rfl 11 (by decide) (o66 np) (k66 np) rfl u1176 u1173 u1175 qp43 u12 hyX11_sealOf (by decide) (by decide) (Nat.le_of_ble_eq_true rfl) dX11_lies_35 (fun v_35 m_35 h_35 => ?_)
      obtain ⟨e1, e2⟩ := h_35; have e1 := e1.symm; have e2 := e2.symm; subst e1; subst e2
      refine j_istore_n X dX11_lies_38 (by decide) ?_
      refine j_iconst X dX11_lies_39 0 (by decide) ?_
      refine j_istore X dX11_lies_40 (by decide) ?_
      refine j_iconst X dX11_lies_42 0 (by decide) ?_
      refine j_istore X dX11_lies_43 (by decide) ?_
      have lp45 : ∀ (n : Nat) (k : Nat), k ≤ 1000 → 1001 ≤ k + n → J G RX11 cX11_lies 10 0 0 45 (jlv [some (.ref 66), some (.int (nI p)), some (.int 3), some (.int (jSeal (jRootM (mem 74) p) (jKey (fun j => mem 71 (6 * o + j)) (fun j => mem 72 (6 * o + j)) q (nI o) (mem 74 (9 * p + 3))))), some (.int (nI (jCnt (fun x => jSeal (jJoin (jJoin (jLeaf (nI p) 0 (mem 74 (9 * p + 5))) (jLeaf (nI p) 1 (mem 74 (9 * p + 6)))) (jJoin (jLeaf (nI p) 2 (mem 74 (9 * p + 7))) (jLeaf (nI p) 3 (nI x)))) (jKey (fun j => mem 71 (6 * o + j)) (fun j => mem 72 (6 * o + j)) q (nI o) (mem 74 (9 * p + 3))) = jSeal (jRootM (mem 74) p) (jKey (fun j => mem 71 (6 * o + j)) (fun j => mem 72 (6 * o + j)) q (nI o) (mem 74 (9 * p + 3)))) k))), some (.int (nI k))]) [] (jS np) (jup mem 66 0 0) := by
        intro n
        induction n with
        | zero =>
          intro k hk hn2
          exact absurd hn2 (by omega)
        | succ n ih45 =>
          intro k hk hn2
          refine j_iload X dX11_lies_45 rfl ?_
          refine j_sipush X dX11_lies_47 1000 (by decide) ?_
          refine j_icmp_ge X 178 dX11_lies_50 (by decide) (fun c_50 => ?_) (fun c_50 => ?_)
          · obtain rfl : k = 1000 := by clear hE hr hR X; (try simp only [lg_cmp_lt, lg_cmp_gt, lg_cmp_le, lg_cmp_ge] at *); (try simp (disch := omega) only [Int64.le_iff_toInt_le, Int64.lt_iff_toInt_lt, Int32.le_iff_toInt_le, Int32.lt_iff_toInt_lt, fa_eq, fa_lit, fa_litL, nI_toInt, pk_lT, Int32.toInt_toInt64, jadd64, jin, jnoneT] at *); omega
            refine j_iload X dX11_lies_178 rfl ?_
            refine s_iret X hE hr dX11_lies_180 rfl ?_
            first | exact ⟨rfl, rfl⟩ | (exfalso; clear hE hr hR X; (try simp only [lg_cmp_lt, lg_cmp_gt, lg_cmp_le, lg_cmp_ge] at *); (try simp (disch := omega) only [Int64.le_iff_toInt_le, Int64.lt_iff_toInt_lt, Int32.le_iff_toInt_le, Int32.lt_iff_toInt_lt, fa_eq, fa_lit, fa_litL, nI_toInt, pk_lT, Int32.toInt_toInt64, jadd64, jin, jnoneT] at *); omega)
          · have hk2 : k < 1000 := by clear hE hr hR X; (try simp only [lg_cmp_lt, lg_cmp_gt, lg_cmp_le, lg_cmp_ge] at *); (try simp (disch := omega) only [Int64.le_iff_toInt_le, Int64.lt_iff_toInt_lt, Int32.le_iff_toInt_le, Int32.lt_iff_toInt_lt, fa_eq, fa_lit, fa_litL, nI_toInt, pk_lT, Int32.toInt_toInt64, jadd64, jin, jnoneT] at *); omega
            refine j_iload_n X dX11_lies_53 rfl ?_
            refine j_iload_n X dX11_lies_54 rfl ?_
            refine j_iconst X dX11_lies_55 2 (by decide) ?_
            refine j_iand X dX11_lies_56 ?_
            refine j_iload_n X dX11_lies_57 rfl ?_
            refine j_iconst X dX11_lies_58 1 (by decide) ?_
            refine j_iand X dX11_lies_59 ?_
            refine j_if_ne X 68 dX11_lies_60 (by decide) (fun c_60 => ?_) (fun c_60 => absurd c_60 (by decide))
            refine j_aload_n X dX11_lies_68 rfl ?_
            refine j_iload_n X dX11_lies_69 rfl ?_
            refine j_iload_n X dX11_lies_70 rfl ?_
            refine j_iconst X dX11_lies_71 2 (by decide) ?_
            refine j_iand X dX11_lies_72 ?_
            refine s_callVi X hR (m_field2 np _ p (by omega)) rfl 11 (by decide) (o66 np) (k66 np) rfl u1160 u1157 u1159 qp41 u12 hyX11_field (by decide) (by decide) (Nat.le_of_ble_eq_true rfl) dX11_lies_73 (fun v_73 m_73 h_73 => ?_)
            obtain ⟨e1, e2⟩ := h_73; have e1 := e1.symm; have e2 := e2.symm; subst e1; subst e2
            refine s_callSi X hR (m_leaf np _ _ _ _) rfl u1163 u1161 u1162 u12 hyX11_leaf (by decide) (by decide) (Nat.le_of_ble_eq_true rfl) dX11_lies_76 (fun v_76 m_76 h_76 => ?_)
            obtain ⟨e1, e2⟩ := h_76; have e1 := e1.symm; have e2 := e2.symm; subst e1; subst e2
            refine j_istore X dX11_lies_79 (by decide) ?_
            refine j_iload_n X dX11_lies_81 rfl ?_
            refine j_iload_n X dX11_lies_82 rfl ?_
            refine j_iconst X dX11_lies_83 1 (by decide) ?_
            refine j_ior X dX11_lies_84 ?_
            refine j_iload_n X dX11_lies_85 rfl ?_
            refine j_iconst X dX11_lies_86 1 (by decide) ?_
            refine j_iand X dX11_lies_87 ?_
            refine j_iconst X dX11_lies_88 1 (by decide) ?_
            refine j_icmp_ne X 97 dX11_lies_89 (by decide) (fun c_89 => absurd c_89 (by decide)) (fun c_89 => ?_)
            refine j_iload X dX11_lies_92 rfl ?_
            refine j_goto X 105 dX11_lies_94 (by decide) ?_
            refine s_callSi X hR (m_leaf np _ _ _ _) rfl u1163 u1161 u1162 u12 hyX11_leaf (by decide) (by decide) (Nat.le_of_ble_eq_true rfl) dX11_lies_105 (fun v_105 m_105 h_105 => ?_)
            obtain ⟨e1, e2⟩ := h_105; have e1 := e1.symm; have e2 := e2.symm; subst e1; subst e2
            refine j_istore X dX11_lies_108 (by decide) ?_
            refine j_iload X dX11_lies_110 rfl ?_
            refine j_iload X dX11_lies_112 rfl ?_
            refine s_callSi X hR (m_join np _ _ _) rfl u1167 u1165 u1166 u12 hyX11_join (by decide) (by decide) (Nat.le_of_ble_eq_true rfl) dX11_lies_114 (fun v_114 m_114 h_114 => ?_)
            obtain ⟨e1, e2⟩ := h_114; have e1 := e1.symm; have e2 := e2.symm; subst e1; subst e2
            refine j_istore X dX11_lies_117 (by decide) ?_
            refine j_iload_n X dX11_lies_119 rfl ?_
            refine j_iconst X dX11_lies_120 2 (by decide) ?_
            refine j_icmp_ge X 138 dX11_lies_121 (by decide) (fun c_121 => ?_) (fun c_121 => absurd c_121 (by decide))
            refine j_aload_n X dX11_lies_138 rfl ?_
            refine j_iload_n X dX11_lies_139 rfl ?_
            refine j_iconst X dX11_lies_140 0 (by decide) ?_
            refine s_callVi X hR (m_half0 np _ p (by omega)) rfl 11 (by decide) (o66 np) (k66 np) rfl u1156 u1153 u1155 qp40 u12 hyX11_halfOf (by decide) (by decide) (Nat.le_of_ble_eq_true rfl) dX11_lies_141 (fun v_141 m_141 h_141 => ?_)
            obtain ⟨e1, e2⟩ := h_141; have e1 := e1.symm; have e2 := e2.symm; subst e1; subst e2
            refine j_iload X dX11_lies_144 rfl ?_
            refine s_callSi X hR (m_join np _ _ _) rfl u1167 u1165 u1166 u12 hyX11_join (by decide) (by decide) (Nat.le_of_ble_eq_true rfl) dX11_lies_146 (fun v_146 m_146 h_146 => ?_)
            obtain ⟨e1, e2⟩ := h_146; have e1 := e1.symm; have e2 := e2.symm; subst e1; subst e2
            refine j_istore X dX11_lies_149 (by decide) ?_
            refine j_iload X dX11_lies_151 rfl ?_
            refine j_aload_n X dX11_lies_153 rfl ?_
            refine j_iload_n X dX11_lies_154 rfl ?_
            refine j_iload X dX11_lies_155 rfl ?_
            refine s_callVi X hR (m_sealOf np _ p o q _ (by omega) ho hpo hq hc) rfl 11 (by decide) (o66 np) (k66 np) rfl u1176 u1173 u1175 qp43 u12 hyX11_sealOf (by decide) (by decide) (Nat.le_of_ble_eq_true rfl) dX11_lies_157 (fun v_157 m_157 h_157 => ?_)
            obtain ⟨e1, e2⟩ := h_157; have e1 := e1.symm; have e2 := e2.symm; subst e1; subst e2
            refine j_iload_n X dX11_lies_160 rfl ?_
            refine j_icmp_ne X 168 dX11_lies_161 (by decide) (fun c_161 => ?_) (fun c_161 => ?_)
            · refine j_iconst X dX11_lies_168 0 (by decide) ?_
              refine j_iadd X dX11_lies_169 ?_
              refine j_istore X dX11_lies_170 (by decide) ?_
              refine j_iinc X dX11_lies_172 rfl 1 rfl ?_
              refine j_goto X 45 dX11_lies_175 (by decide) ?_
              refine j_lv [some (.ref 66), some (.int (nI p)), some (.int 3), some (.int (jSeal (jRootM (mem 74) p) (jKey (fun j => mem 71 (6 * o + j)) (fun j => mem 72 (6 * o + j)) q (nI o) (mem 74 (9 * p + 3))))), some (.int (nI (jCnt (fun x => jSeal (jJoin (jJoin (jLeaf (nI p) 0 (mem 74 (9 * p + 5))) (jLeaf (nI p) 1 (mem 74 (9 * p + 6)))) (jJoin (jLeaf (nI p) 2 (mem 74 (9 * p + 7))) (jLeaf (nI p) 3 (nI x)))) (jKey (fun j => mem 71 (6 * o + j)) (fun j => mem 72 (6 * o + j)) q (nI o) (mem 74 (9 * p + 3))) = jSeal (jRootM (mem 74) p) (jKey (fun j => mem 71 (6 * o + j)) (fun j => mem 72 (6 * o + j)) q (nI o) (mem 74 (9 * p + 3)))) (k + 1)))), some (.int (nI (k + 1)))] ⟨rfl, rfl, rfl, rfl, (congrArg (fun z => some (Value.int z)) (jPcnt (g := (fun x => jSeal (jJoin (jJoin (jLeaf (nI p) 0 (mem 74 (9 * p + 5))) (jLeaf (nI p) 1 (mem 74 (9 * p + 6)))) (jJoin (jLeaf (nI p) 2 (mem 74 (9 * p + 7))) (jLeaf (nI p) 3 (nI x)))) (jKey (fun j => mem 71 (6 * o + j)) (fun j => mem 72 (6 * o + j)) q (nI o) (mem 74 (9 * p + 3))) = jSeal (jRootM (mem 74) p) (jKey (fun j => mem 71 (6 * o + j)) (fun j => mem 72 (6 * o + j)) q (nI o) (mem 74 (9 * p + 3))))) (by first | exact Or.inl ⟨c_161, rfl⟩ | exact Or.inr ⟨c_161, rfl⟩))), (congrArg (fun z => some (Value.int z)) (nI_1 _)), trivial⟩ ?_
              exact ih45 (k + 1) (by omega) (by omega)
            · refine j_iconst X dX11_lies_164 1 (by decide) ?_
              refine j_goto X 169 dX11_lies_165 (by decide) ?_
              refine j_iadd X dX11_lies_169 ?_
              refine j_istore X dX11_lies_170 (by decide) ?_
              refine j_iinc X dX11_lies_172 rfl 1 rfl ?_
              refine j_goto X 45 dX11_lies_175 (by decide) ?_
              refine j_lv [some (.ref 66), some (.int (nI p)), some (.int 3), some (.int (jSeal (jRootM (mem 74) p) (jKey (fun j => mem 71 (6 * o + j)) (fun j => mem 72 (6 * o + j)) q (nI o) (mem 74 (9 * p + 3))))), some (.int (nI (jCnt (fun x => jSeal (jJoin (jJoin (jLeaf (nI p) 0 (mem 74 (9 * p + 5))) (jLeaf (nI p) 1 (mem 74 (9 * p + 6)))) (jJoin (jLeaf (nI p) 2 (mem 74 (9 * p + 7))) (jLeaf (nI p) 3 (nI x)))) (jKey (fun j => mem 71 (6 * o + j)) (fun j => mem 72 (6 * o + j)) q (nI o) (mem 74 (9 * p + 3))) = jSeal (jRootM (mem 74) p) (jKey (fun j => mem 71 (6 * o + j)) (fun j => mem 72 (6 * o + j)) q (nI o) (mem 74 (9 * p + 3)))) (k + 1)))), some (.int (nI (k + 1)))] ⟨rfl, rfl, rfl, rfl, (congrArg (fun z => some (Value.int z)) (jPcnt (g := (fun x => jSeal (jJoin (jJoin (jLeaf (nI p) 0 (mem 74 (9 * p + 5))) (jLeaf (nI p) 1 (mem 74 (9 * p + 6)))) (jJoin (jLeaf (nI p) 2 (mem 74 (9 * p + 7))) (jLeaf (nI p) 3 (nI x)))) (jKey (fun j => mem 71 (6 * o + j)) (fun j => mem 72 (6 * o + j)) q (nI o) (mem 74 (9 * p + 3))) = jSeal (jRootM (mem 74) p) (jKey (fun j => mem 71 (6 * o + j)) (fun j => mem 72 (6 * o + j)) q (nI o) (mem 74 (9 * p + 3))))) (by first | exact Or.inl ⟨c_161, rfl⟩ | exact Or.inr ⟨c_161, rfl⟩))), (congrArg (fun z => some (Value.int z)) (nI_1 _)), trivial⟩ ?_
              exact ih45 (k + 1) (by omega) (by omega)
      refine j_lv [some (.ref 66), some (.int (nI p)), some (.int 3), some (.int (jSeal (jRootM (mem 74) p) (jKey (fun j => mem 71 (6 * o + j)) (fun j => mem 72 (6 * o + j)) q (nI o) (mem 74 (9 * p + 3))))), some (.int (nI (jCnt (fun x => jSeal (jJoin (jJoin (jLeaf (nI p) 0 (mem 74 (9 * p + 5))) (jLeaf (nI p) 1 (mem 74 (9 * p + 6)))) (jJoin (jLeaf (nI p) 2 (mem 74 (9 * p + 7))) (jLeaf (nI p) 3 (nI x)))) (jKey (fun j => mem 71 (6 * o + j)) (fun j => mem 72 (6 * o + j)) q (nI o) (mem 74 (9 * p + 3))) = jSeal (jRootM (mem 74) p) (jKey (fun j => mem 71 (6 * o + j)) (fun j => mem 72 (6 * o + j)) q (nI o) (mem 74 (9 * p + 3)))) 0))), some (.int (nI 0))] ⟨rfl, rfl, rfl, rfl, rfl, rfl, trivial⟩ ?_
      exact lp45 1001 0 (by omega) (by omega)
    · exfalso
      clear hE hr hR X
      (try simp only [lg_cmp_lt, lg_cmp_gt, lg_cmp_le, lg_cmp_ge] at *); (try simp (disch := omega) only [Int64.le_iff_toInt_le, Int64.lt_iff_toInt_lt, Int32.le_iff_toInt_le, Int32.lt_iff_toInt_lt, fa_eq, fa_lit, fa_litL, nI_toInt, pk_lT, Int32.toInt_toInt64, jadd64, jin, jnoneT] at *); omega
set_option maxRecDepth 4000 in
set_option maxHeartbeats 1000000 in
theorem m_paper_bad (np : Nat) (mem : jMem) (s i : Int32) (h : ¬ jin s 0 7) : jPi yX11_paper cX11_paper 7 .int 3 [.ref 66, .int s, .int i] np mem (fun v c => v = -1000001 ∧ c = jup mem 66 0 0) := by
  refine jPi.of (own := RX11) rfl rfl (Nat.le_of_ble_eq_true rfl) (fun G X hR hr hE => ?_)
  refine j_aload_n X dX11_paper_0 rfl ?_
  refine j_iconst X dX11_paper_1 0 (by decide) ?_
  refine j_putI X 11 0 (by decide) (by decide) rfl rfl rfl rfl u950 (o66 np) (k66 np) dX11_paper_2 ?_
  refine j_iload_n X dX11_paper_5 rfl ?_
  refine s_callSi X hR (m_isSheet np _ _) rfl u1083 u1081 u1082 u12 hyX11_isSheet (by decide) (by decide) (Nat.le_of_ble_eq_true rfl) dX11_paper_6 (fun v_6 m_6 h_6 => ?_)
  obtain ⟨e1, e2⟩ := h_6; have e1 := e1.symm; have e2 := e2.symm; subst e1; subst e2
  refine j_ifb_ne X 15 dX11_paper_9 (by decide) (fun c_9 => ?_) (fun c_9 => ?_)
  · exfalso
    clear hE hr hR X
    (try simp only [lg_cmp_lt, lg_cmp_gt, lg_cmp_le, lg_cmp_ge] at *); (try simp (disch := omega) only [Int64.le_iff_toInt_le, Int64.lt_iff_toInt_lt, Int32.le_iff_toInt_le, Int32.lt_iff_toInt_lt, fa_eq, fa_lit, fa_litL, nI_toInt, pk_lT, Int32.toInt_toInt64, jadd64, jin, jnoneT] at *); omega
  · refine j_ldc X dX11_paper_12 u1089 ?_
    refine s_iret X hE hr dX11_paper_14 rfl ?_
    first | exact ⟨rfl, rfl⟩ | (exfalso; clear hE hr hR X; (try simp only [lg_cmp_lt, lg_cmp_gt, lg_cmp_le, lg_cmp_ge] at *); (try simp (disch := omega) only [Int64.le_iff_toInt_le, Int64.lt_iff_toInt_lt, Int32.le_iff_toInt_le, Int32.lt_iff_toInt_lt, fa_eq, fa_lit, fa_litL, nI_toInt, pk_lT, Int32.toInt_toInt64, jadd64, jin, jnoneT] at *); omega)
set_option maxRecDepth 4000 in
set_option maxHeartbeats 1000000 in
theorem m_paper_full (np : Nat) (mem : jMem) (s i : Int32) (h : jin s 0 7) (hp : mem 66 9 = nI 12) : jPi yX11_paper cX11_paper 7 .int 3 [.ref 66, .int s, .int i] np mem (fun v c => v = -1000003 ∧ c = jup mem 66 0 0) := by
  refine jPi.of (own := RX11) rfl rfl (Nat.le_of_ble_eq_true rfl) (fun G X hR hr hE => ?_)
  refine j_aload_n X dX11_paper_0 rfl ?_
  refine j_iconst X dX11_paper_1 0 (by decide) ?_
  refine j_putI X 11 0 (by decide) (by decide) rfl rfl rfl rfl u950 (o66 np) (k66 np) dX11_paper_2 ?_
  refine j_iload_n X dX11_paper_5 rfl ?_
  refine s_callSi X hR (m_isSheet np _ _) rfl u1083 u1081 u1082 u12 hyX11_isSheet (by decide) (by decide) (Nat.le_of_ble_eq_true rfl) dX11_paper_6 (fun v_6 m_6 h_6 => ?_)
  obtain ⟨e1, e2⟩ := h_6; have e1 := e1.symm; have e2 := e2.symm; subst e1; subst e2
  refine j_ifb_ne X 15 dX11_paper_9 (by decide) (fun c_9 => ?_) (fun c_9 => ?_)
  · refine j_aload_n X dX11_paper_15 rfl ?_
    refine j_getF X 11 9 (by decide) (by decide) rfl u959 (o66 np) (k66 np) _ rfl dX11_paper_16 ?_
    refine j_bipush X dX11_paper_19 12 (by decide) ?_
    refine j_icmp_ne X 27 dX11_paper_21 (by decide) (fun c_21 => ?_) (fun c_21 => ?_)
    · exact absurd hp c_21
    · refine j_ldc X dX11_paper_24 u1120 ?_
      refine s_iret X hE hr dX11_paper_26 rfl ?_
      first | exact ⟨rfl, rfl⟩ | (exfalso; clear hE hr hR X; (try simp only [lg_cmp_lt, lg_cmp_gt, lg_cmp_le, lg_cmp_ge] at *); (try simp (disch := omega) only [Int64.le_iff_toInt_le, Int64.lt_iff_toInt_lt, Int32.le_iff_toInt_le, Int32.lt_iff_toInt_lt, fa_eq, fa_lit, fa_litL, nI_toInt, pk_lT, Int32.toInt_toInt64, jadd64, jin, jnoneT] at *); omega)
  · exfalso
    clear hE hr hR X
    (try simp only [lg_cmp_lt, lg_cmp_gt, lg_cmp_le, lg_cmp_ge] at *); (try simp (disch := omega) only [Int64.le_iff_toInt_le, Int64.lt_iff_toInt_lt, Int32.le_iff_toInt_le, Int32.lt_iff_toInt_lt, fa_eq, fa_lit, fa_litL, nI_toInt, pk_lT, Int32.toInt_toInt64, jadd64, jin, jnoneT] at *); omega
set_option maxRecDepth 4000 in
set_option maxHeartbeats 1000000 in
theorem m_paper_null (np : Nat) (mem : jMem) (s : Nat) (i : Int32) (hs : s < 8) (hn : np < 12) (hp : mem 66 9 = nI np) (hl : (mem 67 s).toInt < 0) : jPi yX11_paper cX11_paper 7 .int 3 [.ref 66, .int (nI s), .int i] np mem (fun v c => v = -1000010 - 1 ∧ c = jup (jup mem 66 0 0) 66 1 1) := by
  refine jPi.of (own := RX11) rfl rfl (Nat.le_of_ble_eq_true rfl) (fun G X hR hr hE => ?_)
  refine j_aload_n X dX11_paper_0 rfl ?_
  refine j_iconst X dX11_paper_1 0 (by decide) ?_
  refine j_putI X 11 0 (by decide) (by decide) rfl rfl rfl rfl u950 (o66 np) (k66 np) dX11_paper_2 ?_
  refine j_iload_n X dX11_paper_5 rfl ?_
  refine s_callSi X hR (m_isSheet np _ _) rfl u1083 u1081 u1082 u12 hyX11_isSheet (by decide) (by decide) (Nat.le_of_ble_eq_true rfl) dX11_paper_6 (fun v_6 m_6 h_6 => ?_)
  obtain ⟨e1, e2⟩ := h_6; have e1 := e1.symm; have e2 := e2.symm; subst e1; subst e2
  refine j_ifb_ne X 15 dX11_paper_9 (by decide) (fun c_9 => ?_) (fun c_9 => ?_)
  · refine j_aload_n X dX11_paper_15 rfl ?_
    refine j_getF X 11 9 (by decide) (by decide) rfl u959 (o66 np) (k66 np) _ rfl dX11_paper_16 ?_
    refine j_bipush X dX11_paper_19 12 (by decide) ?_
    refine j_icmp_ne X 27 dX11_paper_21 (by decide) (fun c_21 => ?_) (fun c_21 => ?_)
    · refine j_aload_n X dX11_paper_27 rfl ?_
      refine j_iload_n X dX11_paper_28 rfl ?_
      refine j_iload_n X dX11_paper_29 rfl ?_
      refine j_bipush X dX11_paper_30 9 (by decide) ?_
      refine s_callVi X hR (m_look_null np _ s i 9 hs hl) rfl 11 (by decide) (o66 np) (k66 np) rfl u1141 u1138 u1140 qp38 u12 hyX11_lookItems (by decide) (by decide) (Nat.le_of_ble_eq_true rfl) dX11_paper_32 (fun v_32 m_32 h_32 => ?_)
      obtain ⟨e1, e2⟩ := h_32; have e1 := e1.symm; have e2 := e2.symm; subst e1; subst e2
      refine j_istore_n X dX11_paper_35 (by decide) ?_
      refine j_iload_n X dX11_paper_36 rfl ?_
      refine j_if_ge X 42 dX11_paper_37 (by decide) (fun c_37 => absurd c_37 (by decide)) (fun c_37 => ?_)
      refine j_iload_n X dX11_paper_40 rfl ?_
      refine s_iret X hE hr dX11_paper_41 rfl ?_
      first | exact ⟨rfl, rfl⟩ | (exfalso; clear hE hr hR X; (try simp only [lg_cmp_lt, lg_cmp_gt, lg_cmp_le, lg_cmp_ge] at *); (try simp (disch := omega) only [Int64.le_iff_toInt_le, Int64.lt_iff_toInt_lt, Int32.le_iff_toInt_le, Int32.lt_iff_toInt_lt, fa_eq, fa_lit, fa_litL, nI_toInt, pk_lT, Int32.toInt_toInt64, jadd64, jin, jnoneT] at *); omega)
    · exact absurd (c_21.symm.trans hp) (by rw [fa_lit, nI_eq (by omega) (by omega)]; omega)
  · exfalso
    clear hE hr hR X
    (try simp only [lg_cmp_lt, lg_cmp_gt, lg_cmp_le, lg_cmp_ge] at *); (try simp (disch := omega) only [Int64.le_iff_toInt_le, Int64.lt_iff_toInt_lt, Int32.le_iff_toInt_le, Int32.lt_iff_toInt_lt, fa_eq, fa_lit, fa_litL, nI_toInt, pk_lT, Int32.toInt_toInt64, jadd64, jin, jnoneT] at *); omega
set_option maxRecDepth 4000 in
set_option maxHeartbeats 1000000 in
theorem m_paper_place (np : Nat) (mem : jMem) (s : Nat) (i : Int32) (hs : s < 8) (hn : np < 12) (hp : mem 66 9 = nI np) (hl : 0 ≤ (mem 67 s).toInt) (hi : i.toInt < 0 ∨ i.toInt + 9 > (mem 68 s).toInt) : jPi yX11_paper cX11_paper 7 .int 3 [.ref 66, .int (nI s), .int i] np mem (fun v c => v = -1000010 - 2 ∧ c = jup (jup mem 66 0 0) 66 1 2) := by
  refine jPi.of (own := RX11) rfl rfl (Nat.le_of_ble_eq_true rfl) (fun G X hR hr hE => ?_)
  refine j_aload_n X dX11_paper_0 rfl ?_
  refine j_iconst X dX11_paper_1 0 (by decide) ?_
  refine j_putI X 11 0 (by decide) (by decide) rfl rfl rfl rfl u950 (o66 np) (k66 np) dX11_paper_2 ?_
  refine j_iload_n X dX11_paper_5 rfl ?_
  refine s_callSi X hR (m_isSheet np _ _) rfl u1083 u1081 u1082 u12 hyX11_isSheet (by decide) (by decide) (Nat.le_of_ble_eq_true rfl) dX11_paper_6 (fun v_6 m_6 h_6 => ?_)
  obtain ⟨e1, e2⟩ := h_6; have e1 := e1.symm; have e2 := e2.symm; subst e1; subst e2
  refine j_ifb_ne X 15 dX11_paper_9 (by decide) (fun c_9 => ?_) (fun c_9 => ?_)
  · refine j_aload_n X dX11_paper_15 rfl ?_
    refine j_getF X 11 9 (by decide) (by decide) rfl u959 (o66 np) (k66 np) _ rfl dX11_paper_16 ?_
    refine j_bipush X dX11_paper_19 12 (by decide) ?_
    refine j_icmp_ne X 27 dX11_paper_21 (by decide) (fun c_21 => ?_) (fun c_21 => ?_)
    · refine j_aload_n X dX11_paper_27 rfl ?_
      refine j_iload_n X dX11_paper_28 rfl ?_
      refine j_iload_n X dX11_paper_29 rfl ?_
      refine j_bipush X dX11_paper_30 9 (by decide) ?_
      refine s_callVi X hR (m_look_place np _ s i 9 hs hl hi) rfl 11 (by decide) (o66 np) (k66 np) rfl u1141 u1138 u1140 qp38 u12 hyX11_lookItems (by decide) (by decide) (Nat.le_of_ble_eq_true rfl) dX11_paper_32 (fun v_32 m_32 h_32 => ?_)
      obtain ⟨e1, e2⟩ := h_32; have e1 := e1.symm; have e2 := e2.symm; subst e1; subst e2
      refine j_istore_n X dX11_paper_35 (by decide) ?_
      refine j_iload_n X dX11_paper_36 rfl ?_
      refine j_if_ge X 42 dX11_paper_37 (by decide) (fun c_37 => absurd c_37 (by decide)) (fun c_37 => ?_)
      refine j_iload_n X dX11_paper_40 rfl ?_
      refine s_iret X hE hr dX11_paper_41 rfl ?_
      first | exact ⟨rfl, rfl⟩ | (exfalso; clear hE hr hR X; (try simp only [lg_cmp_lt, lg_cmp_gt, lg_cmp_le, lg_cmp_ge] at *); (try simp (disch := omega) only [Int64.le_iff_toInt_le, Int64.lt_iff_toInt_lt, Int32.le_iff_toInt_le, Int32.lt_iff_toInt_lt, fa_eq, fa_lit, fa_litL, nI_toInt, pk_lT, Int32.toInt_toInt64, jadd64, jin, jnoneT] at *); omega)
    · exact absurd (c_21.symm.trans hp) (by rw [fa_lit, nI_eq (by omega) (by omega)]; omega)
  · exfalso
    clear hE hr hR X
    (try simp only [lg_cmp_lt, lg_cmp_gt, lg_cmp_le, lg_cmp_ge] at *); (try simp (disch := omega) only [Int64.le_iff_toInt_le, Int64.lt_iff_toInt_lt, Int32.le_iff_toInt_le, Int32.lt_iff_toInt_lt, fa_eq, fa_lit, fa_litL, nI_toInt, pk_lT, Int32.toInt_toInt64, jadd64, jin, jnoneT] at *); omega
def jPok (f : Nat → Int32) (a : Nat) : Prop := jin (f a) 0 3 ∧ jin (f (a + 1)) 0 5 ∧ jin (f (a + 2)) 0 4 ∧ jin (f (a + 3)) 0 999 ∧ jin (f (a + 4)) (f (a + 3)).toInt 999 ∧ jin (f (a + 5)) 0 999 ∧ jin (f (a + 6)) 0 999 ∧ jin (f (a + 7)) 0 999 ∧ jin (f (a + 8)) 0 999
theorem jPok_5 {f : Nat → Int32} {a : Nat} (h : jPok f a) {k : Nat} (h1 : 5 ≤ k) (h2 : k < 9) : jin (f (a + k)) 0 999 := by
  obtain ⟨-, -, -, -, -, g5, g6, g7, g8⟩ := h
  rcases (show k = 5 ∨ k = 6 ∨ k = 7 ∨ k = 8 by omega) with rfl | rfl | rfl | rfl
  · exact g5
  · exact g6
  · exact g7
  · exact g8
/-- n places of cell o, from sp on, laid into cell t from dp on -/
def jcpr (mem : jMem) (o t sp dp n : Nat) : jMem := va_up mem t (va_cpy (mem o) (mem t) sp dp n)
theorem jcpr_0 (mem : jMem) (o t sp dp : Nat) : jcpr mem o t sp dp 0 = mem := by
  funext i j
  unfold jcpr va_up
  by_cases h : i = t
  · rw [if_pos h, pk_cpy_out (by omega), h]
  · rw [if_neg h]
theorem jcpr_s {mem : jMem} {o t sp dp k : Nat} (h : ¬ o = t) : jup (jcpr mem o t sp dp k) t (dp + k) (jcpr mem o t sp dp k o (sp + k)) = jcpr mem o t sp dp (k + 1) := by
  have e : jcpr mem o t sp dp k o (sp + k) = mem o (sp + k) := by
    unfold jcpr va_up
    rw [if_neg h]
  rw [e]
  funext i j
  unfold jup jcpr va_up
  by_cases h1 : i = t
  · simp only [if_pos h1, if_true]
    by_cases h2 : j = dp + k
    · rw [if_pos h2, pk_cpy_in (by omega) (by omega), h2]
      congr 1; omega
    · rw [if_neg h2]
      by_cases h3 : dp ≤ j ∧ j < dp + k
      · rw [pk_cpy_in h3.1 h3.2, pk_cpy_in (by omega) (by omega)]
      · rw [pk_cpy_out (by omega), pk_cpy_out (by omega)]
  · rw [if_neg h1, if_neg h1, if_neg h1]
set_option maxRecDepth 4000 in
set_option maxHeartbeats 1000000 in
theorem m_paper (np : Nat) (mem : jMem) (s i z : Nat) (hs : s < 8) (hn : np < 12) (hp : mem 66 9 = nI np) (hl : 0 ≤ (mem 67 s).toInt) (hz : z ≤ 60) (hm : mem 68 s = nI z) (hi : i + 9 ≤ z) (hk : jPok (mem 69) (60 * s + i)) : jPi yX11_paper cX11_paper 7 .int 3 [.ref 66, .int (nI s), .int (nI i)] np mem (fun v c => v = nI np ∧ c = jup (jcpr (jup (jup mem 66 0 0) 66 1 0) 69 74 (60 * s + i) (9 * np) 9) 66 9 (nI (np + 1))) := by
  refine jPi.of (own := RX11) rfl rfl (Nat.le_of_ble_eq_true rfl) (fun G X hR hr hE => ?_)
  refine j_aload_n X dX11_paper_0 rfl ?_
  refine j_iconst X dX11_paper_1 0 (by decide) ?_
  refine j_putI X 11 0 (by decide) (by decide) rfl rfl rfl rfl u950 (o66 np) (k66 np) dX11_paper_2 ?_
  refine j_iload_n X dX11_paper_5 rfl ?_
  refine s_callSi X hR (m_isSheet np _ _) rfl u1083 u1081 u1082 u12 hyX11_isSheet (by decide) (by decide) (Nat.le_of_ble_eq_true rfl) dX11_paper_6 (fun v_6 m_6 h_6 => ?_)
  obtain ⟨e1, e2⟩ := h_6; have e1 := e1.symm; have e2 := e2.symm; subst e1; subst e2
  refine j_ifb_ne X 15 dX11_paper_9 (by decide) (fun c_9 => ?_) (fun c_9 => ?_)
  · refine j_aload_n X dX11_paper_15 rfl ?_
    refine j_getF X 11 9 (by decide) (by decide) rfl u959 (o66 np) (k66 np) _ rfl dX11_paper_16 ?_
    refine j_bipush X dX11_paper_19 12 (by decide) ?_
    refine j_icmp_ne X 27 dX11_paper_21 (by decide) (fun c_21 => ?_) (fun c_21 => ?_)
    · refine j_aload_n X dX11_paper_27 rfl ?_
      refine j_iload_n X dX11_paper_28 rfl ?_
      refine j_iload_n X dX11_paper_29 rfl ?_
      refine j_bipush X dX11_paper_30 9 (by decide) ?_
      refine s_callVi X hR (m_look np _ s (nI i) 9 hs hl (by rw [show (jup mem 66 0 0) 68 s = nI z from hm, nI_toInt (by omega), nI_toInt (by omega)]; show (0 : Int) ≤ i ∧ (i : Int) + 9 ≤ z; omega)) rfl 11 (by decide) (o66 np) (k66 np) rfl u1141 u1138 u1140 qp38 u12 hyX11_lookItems (by decide) (by decide) (Nat.le_of_ble_eq_true rfl) dX11_paper_32 (fun v_32 m_32 h_32 => ?_)
      obtain ⟨e1, e2⟩ := h_32; have e1 := e1.symm; have e2 := e2.symm; subst e1; subst e2
      refine j_istore_n X dX11_paper_35 (by decide) ?_
      refine j_iload_n X dX11_paper_36 rfl ?_
      refine j_if_ge X 42 dX11_paper_37 (by decide) (fun c_37 => ?_) (fun c_37 => absurd c_37 (by decide))
      refine j_bipush X dX11_paper_42 60 (by decide) ?_
      refine j_iload_n X dX11_paper_44 rfl ?_
      refine j_imul X dX11_paper_45 ?_
      refine j_iload_n X dX11_paper_46 rfl ?_
      refine j_iadd X dX11_paper_47 ?_
      refine j_nrm (nI (60 * s + i)) (by simp only [fa_lit, pk_mul, nI_add]) ?_
      refine j_istore X dX11_paper_48 (by decide) ?_
      refine j_aload_n X dX11_paper_50 rfl ?_
      refine j_getR X 11 4 (by decide) (by decide) rfl u954 (o66 np) (k66 np) _ (p66_4 np) dX11_paper_51 ?_
      refine j_iload X dX11_paper_54 rfl ?_
      refine j_nrm _ (by first | (simp only [fa_lit, pk_mul, nI_add]; done) | (simp only [fa_lit, pk_mul, nI_add]; rfl) | rfl) ?_
      refine j_ialdN X (o69 np) (k69 np) (by rw [l69]; omega) (by rw [l69]; decide) (mem 69) rfl dX11_paper_56 ?_
      refine s_callSi X hR (m_isOffice np _ _) rfl u1113 u1111 u1112 u12 hyX11_isOffice (by decide) (by decide) (Nat.le_of_ble_eq_true rfl) dX11_paper_57 (fun v_57 m_57 h_57 => ?_)
      obtain ⟨e1, e2⟩ := h_57; have e1 := e1.symm; have e2 := e2.symm; subst e1; subst e2
      refine j_ifb_eq X 151 dX11_paper_60 (by decide) (fun c_60 => ?_) (fun c_60 => ?_)
      · exfalso
        clear hE hr hR X
        obtain ⟨g0, g1, g2, g3, g4, -⟩ := hk
        first | exact c_60 g0 | exact c_80 g1 | exact c_100 g2 | exact c_115 g3 | exact c_144 g4
      · refine j_aload_n X dX11_paper_63 rfl ?_
        refine j_getR X 11 4 (by decide) (by decide) rfl u954 (o66 np) (k66 np) _ (p66_4 np) dX11_paper_64 ?_
        refine j_iload X dX11_paper_67 rfl ?_
        refine j_iconst X dX11_paper_69 1 (by decide) ?_
        refine j_iadd X dX11_paper_70 ?_
        refine j_nrm _ (by first | (simp only [fa_lit, pk_mul, nI_add]; done) | (simp only [fa_lit, pk_mul, nI_add]; rfl) | rfl) ?_
        refine j_ialdN X (o69 np) (k69 np) (by rw [l69]; omega) (by rw [l69]; decide) (mem 69) rfl dX11_paper_71 ?_
        refine j_i2l X dX11_paper_72 ?_
        refine j_lconst X dX11_paper_73 0 (by decide) ?_
        refine j_ldc2 X dX11_paper_74 u1142 ?_
        refine s_callSi X hR (m_inI np _ _ _ _ 0 5 rfl rfl) rfl u1087 u1085 u1086 u12 hyX11_in (by decide) (by decide) (Nat.le_of_ble_eq_true rfl) dX11_paper_77 (fun v_77 m_77 h_77 => ?_)
        obtain ⟨e1, e2⟩ := h_77; have e1 := e1.symm; have e2 := e2.symm; subst e1; subst e2
        refine j_ifb_eq X 151 dX11_paper_80 (by decide) (fun c_80 => ?_) (fun c_80 => ?_)
        · exfalso
          clear hE hr hR X
          obtain ⟨g0, g1, g2, g3, g4, -⟩ := hk
          first | exact c_60 g0 | exact c_80 g1 | exact c_100 g2 | exact c_115 g3 | exact c_144 g4
        · refine j_aload_n X dX11_paper_83 rfl ?_
          refine j_getR X 11 4 (by decide) (by decide) rfl u954 (o66 np) (k66 np) _ (p66_4 np) dX11_paper_84 ?_
          refine j_iload X dX11_paper_87 rfl ?_
          refine j_iconst X dX11_paper_89 2 (by decide) ?_
          refine j_iadd X dX11_paper_90 ?_
          refine j_nrm _ (by first | (simp only [fa_lit, pk_mul, nI_add]; done) | (simp only [fa_lit, pk_mul, nI_add]; rfl) | rfl) ?_
          refine j_ialdN X (o69 np) (k69 np) (by rw [l69]; omega) (by rw [l69]; decide) (mem 69) rfl dX11_paper_91 ?_
          refine j_i2l X dX11_paper_92 ?_
          refine j_lconst X dX11_paper_93 0 (by decide) ?_
          refine j_ldc2 X dX11_paper_94 u1143 ?_
          refine s_callSi X hR (m_inI np _ _ _ _ 0 4 rfl rfl) rfl u1087 u1085 u1086 u12 hyX11_in (by decide) (by decide) (Nat.le_of_ble_eq_true rfl) dX11_paper_97 (fun v_97 m_97 h_97 => ?_)
          obtain ⟨e1, e2⟩ := h_97; have e1 := e1.symm; have e2 := e2.symm; subst e1; subst e2
          refine j_ifb_eq X 151 dX11_paper_100 (by decide) (fun c_100 => ?_) (fun c_100 => ?_)
          · exfalso
            clear hE hr hR X
            obtain ⟨g0, g1, g2, g3, g4, -⟩ := hk
            first | exact c_60 g0 | exact c_80 g1 | exact c_100 g2 | exact c_115 g3 | exact c_144 g4
          · refine j_aload_n X dX11_paper_103 rfl ?_
            refine j_getR X 11 4 (by decide) (by decide) rfl u954 (o66 np) (k66 np) _ (p66_4 np) dX11_paper_104 ?_
            refine j_iload X dX11_paper_107 rfl ?_
            refine j_iconst X dX11_paper_109 3 (by decide) ?_
            refine j_iadd X dX11_paper_110 ?_
            refine j_nrm _ (by first | (simp only [fa_lit, pk_mul, nI_add]; done) | (simp only [fa_lit, pk_mul, nI_add]; rfl) | rfl) ?_
            refine j_ialdN X (o69 np) (k69 np) (by rw [l69]; omega) (by rw [l69]; decide) (mem 69) rfl dX11_paper_111 ?_
            refine s_callSi X hR (m_isDay np _ _) rfl u1117 u1115 u1116 u12 hyX11_isDay (by decide) (by decide) (Nat.le_of_ble_eq_true rfl) dX11_paper_112 (fun v_112 m_112 h_112 => ?_)
            obtain ⟨e1, e2⟩ := h_112; have e1 := e1.symm; have e2 := e2.symm; subst e1; subst e2
            refine j_ifb_eq X 151 dX11_paper_115 (by decide) (fun c_115 => ?_) (fun c_115 => ?_)
            · exfalso
              clear hE hr hR X
              obtain ⟨g0, g1, g2, g3, g4, -⟩ := hk
              first | exact c_60 g0 | exact c_80 g1 | exact c_100 g2 | exact c_115 g3 | exact c_144 g4
            · refine j_aload_n X dX11_paper_118 rfl ?_
              refine j_getR X 11 4 (by decide) (by decide) rfl u954 (o66 np) (k66 np) _ (p66_4 np) dX11_paper_119 ?_
              refine j_iload X dX11_paper_122 rfl ?_
              refine j_iconst X dX11_paper_124 4 (by decide) ?_
              refine j_iadd X dX11_paper_125 ?_
              refine j_nrm _ (by first | (simp only [fa_lit, pk_mul, nI_add]; done) | (simp only [fa_lit, pk_mul, nI_add]; rfl) | rfl) ?_
              refine j_ialdN X (o69 np) (k69 np) (by rw [l69]; omega) (by rw [l69]; decide) (mem 69) rfl dX11_paper_126 ?_
              refine j_i2l X dX11_paper_127 ?_
              refine j_aload_n X dX11_paper_128 rfl ?_
              refine j_getR X 11 4 (by decide) (by decide) rfl u954 (o66 np) (k66 np) _ (p66_4 np) dX11_paper_129 ?_
              refine j_iload X dX11_paper_132 rfl ?_
              refine j_iconst X dX11_paper_134 3 (by decide) ?_
              refine j_iadd X dX11_paper_135 ?_
              refine j_nrm _ (by first | (simp only [fa_lit, pk_mul, nI_add]; done) | (simp only [fa_lit, pk_mul, nI_add]; rfl) | rfl) ?_
              refine j_ialdN X (o69 np) (k69 np) (by rw [l69]; omega) (by rw [l69]; decide) (mem 69) rfl dX11_paper_136 ?_
              refine j_i2l X dX11_paper_137 ?_
              refine j_ldc2 X dX11_paper_138 u1118 ?_
              refine s_callSi X hR (m_inI np _ _ _ _ (mem 69 (60 * s + i + 3)).toInt 999 (Int32.toInt_toInt64 _) rfl) rfl u1087 u1085 u1086 u12 hyX11_in (by decide) (by decide) (Nat.le_of_ble_eq_true rfl) dX11_paper_141 (fun v_141 m_141 h_141 => ?_)
              obtain ⟨e1, e2⟩ := h_141; have e1 := e1.symm; have e2 := e2.symm; subst e1; subst e2
              refine j_ifb_eq X 151 dX11_paper_144 (by decide) (fun c_144 => ?_) (fun c_144 => ?_)
              · exfalso
                clear hE hr hR X
                obtain ⟨g0, g1, g2, g3, g4, -⟩ := hk
                first | exact c_60 g0 | exact c_80 g1 | exact c_100 g2 | exact c_115 g3 | exact c_144 g4
              · refine j_iconst X dX11_paper_147 1 (by decide) ?_
                refine j_goto X 152 dX11_paper_148 (by decide) ?_
                refine j_istore X dX11_paper_152 (by decide) ?_
                refine j_iconst X dX11_paper_154 5 (by decide) ?_
                refine j_istore X dX11_paper_155 (by decide) ?_
                have lp157 : ∀ (n : Nat) (k : Nat), 5 ≤ k → k ≤ 9 → 10 ≤ k + n → J G RX11 cX11_paper 7 0 0 157 (jlv [some (.ref 66), some (.int (nI s)), some (.int (nI i)), some (.int 0), some (.int (nI (60 * s + i))), some (.int 1), some (.int (nI k))]) [] (jS np) (jup mem 66 0 0) := by
                  intro n
                  induction n with
                  | zero =>
                    intro k hk5 hk9 hn2
                    exact absurd hn2 (by omega)
                  | succ n ih157 =>
                    intro k hk5 hk9 hn2
                    refine j_iload X dX11_paper_157 rfl ?_
                    refine j_bipush X dX11_paper_159 9 (by decide) ?_
                    refine j_icmp_ge X 203 dX11_paper_161 (by decide) (fun c_161 => ?_) (fun c_161 => ?_)
                    · obtain rfl : k = 9 := by clear hE hr hR X; (try simp only [lg_cmp_lt, lg_cmp_gt, lg_cmp_le, lg_cmp_ge] at *); (try simp (disch := omega) only [Int64.le_iff_toInt_le, Int64.lt_iff_toInt_lt, Int32.le_iff_toInt_le, Int32.lt_iff_toInt_lt, fa_eq, fa_lit, fa_litL, nI_toInt, pk_lT, Int32.toInt_toInt64, jadd64, jin, jnoneT] at *); omega
                      refine j_iload X dX11_paper_203 rfl ?_
                      refine j_if_ne X 211 dX11_paper_205 (by decide) (fun c_205 => ?_) (fun c_205 => ?_)
                      · refine j_aload_n X dX11_paper_211 rfl ?_
                        refine j_iconst X dX11_paper_212 0 (by decide) ?_
                        refine j_putI X 11 1 (by decide) (by decide) rfl rfl rfl rfl u951 (o66 np) (k66 np) dX11_paper_213 ?_
                        refine j_iconst X dX11_paper_216 0 (by decide) ?_
                        refine j_istore X dX11_paper_217 (by decide) ?_
                        have lp219 : ∀ (n : Nat) (k : Nat), k ≤ 9 → 10 ≤ k + n → J G RX11 cX11_paper 7 0 0 219 (jlv [some (.ref 66), some (.int (nI s)), some (.int (nI i)), some (.int 0), some (.int (nI (60 * s + i))), some (.int 1), some (.int (nI k))]) [] (jS np) (jcpr (jup (jup mem 66 0 0) 66 1 0) 69 74 (60 * s + i) (9 * np) k) := by
                          intro n
                          induction n with
                          | zero =>
                            intro k hk9 hn2
                            exact absurd hn2 (by omega)
                          | succ n ih219 =>
                            intro k hk9 hn2
                            refine j_iload X dX11_paper_219 rfl ?_
                            refine j_bipush X dX11_paper_221 9 (by decide) ?_
                            refine j_icmp_ge X 257 dX11_paper_223 (by decide) (fun c_223 => ?_) (fun c_223 => ?_)
                            · obtain rfl : k = 9 := by clear hE hr hR X; (try simp only [lg_cmp_lt, lg_cmp_gt, lg_cmp_le, lg_cmp_ge] at *); (try simp (disch := omega) only [Int64.le_iff_toInt_le, Int64.lt_iff_toInt_lt, Int32.le_iff_toInt_le, Int32.lt_iff_toInt_lt, fa_eq, fa_lit, fa_litL, nI_toInt, pk_lT, Int32.toInt_toInt64, jadd64, jin, jnoneT] at *); omega
                              refine j_aload_n X dX11_paper_257 rfl ?_
                              refine j_dup X dX11_paper_258 rfl ?_
                              refine j_getF X 11 9 (by decide) (by decide) rfl u959 (o66 np) (k66 np) _ rfl dX11_paper_259 ?_
                              refine j_nrm (nI np) hp ?_
                              refine j_iconst X dX11_paper_262 1 (by decide) ?_
                              refine j_iadd X dX11_paper_263 ?_
                              refine j_nrm _ (nI_1 np) ?_
                              refine j_putI X 11 9 (by decide) (by decide) rfl rfl rfl rfl u959 (o66 np) (k66 np) dX11_paper_264 ?_
                              refine j_aload_n X dX11_paper_267 rfl ?_
                              refine j_getF X 11 9 (by decide) (by decide) rfl u959 (o66 np) (k66 np) _ rfl dX11_paper_268 ?_
                              refine j_nrm (nI (np + 1)) rfl ?_
                              refine j_iconst X dX11_paper_271 1 (by decide) ?_
                              refine j_isub X dX11_paper_272 ?_
                              refine j_nrm (nI np) (nI_pred np) ?_
                              refine s_iret X hE hr dX11_paper_273 rfl ?_
                              first | exact ⟨rfl, rfl⟩ | (exfalso; clear hE hr hR X; (try simp only [lg_cmp_lt, lg_cmp_gt, lg_cmp_le, lg_cmp_ge] at *); (try simp (disch := omega) only [Int64.le_iff_toInt_le, Int64.lt_iff_toInt_lt, Int32.le_iff_toInt_le, Int32.lt_iff_toInt_lt, fa_eq, fa_lit, fa_litL, nI_toInt, pk_lT, Int32.toInt_toInt64, jadd64, jin, jnoneT] at *); omega)
                            · have hk2 : k < 9 := by clear hE hr hR X; (try simp only [lg_cmp_lt, lg_cmp_gt, lg_cmp_le, lg_cmp_ge] at *); (try simp (disch := omega) only [Int64.le_iff_toInt_le, Int64.lt_iff_toInt_lt, Int32.le_iff_toInt_le, Int32.lt_iff_toInt_lt, fa_eq, fa_lit, fa_litL, nI_toInt, pk_lT, Int32.toInt_toInt64, jadd64, jin, jnoneT] at *); omega
                              refine j_aload_n X dX11_paper_226 rfl ?_
                              refine j_getR X 11 10 (by decide) (by decide) rfl u960 (o66 np) (k66 np) _ (p66_10 np) dX11_paper_227 ?_
                              refine j_bipush X dX11_paper_230 9 (by decide) ?_
                              refine j_aload_n X dX11_paper_232 rfl ?_
                              refine j_getF X 11 9 (by decide) (by decide) rfl u959 (o66 np) (k66 np) _ rfl dX11_paper_233 ?_
                              refine j_nrm (nI np) hp ?_
                              refine j_imul X dX11_paper_236 ?_
                              refine j_iload X dX11_paper_237 rfl ?_
                              refine j_iadd X dX11_paper_239 ?_
                              refine j_aload_n X dX11_paper_240 rfl ?_
                              refine j_getR X 11 4 (by decide) (by decide) rfl u954 (o66 np) (k66 np) _ (p66_4 np) dX11_paper_241 ?_
                              refine j_iload X dX11_paper_244 rfl ?_
                              refine j_iload X dX11_paper_246 rfl ?_
                              refine j_iadd X dX11_paper_248 ?_
                              refine j_nrm _ (by first | (simp only [fa_lit, pk_mul, nI_add]; done) | (simp only [fa_lit, pk_mul, nI_add]; rfl) | rfl) ?_
                              refine j_ialdN X (o69 np) (k69 np) (by rw [l69]; omega) (by rw [l69]; decide) (mem 69) rfl dX11_paper_249 ?_
                              refine j_nrm2 _ (by first | (simp only [fa_lit, pk_mul, nI_add]; done) | (simp only [fa_lit, pk_mul, nI_add]; rfl) | rfl) ?_
                              refine j_iastN X (o74 np) (k74 np) (by rw [l74]; omega) (by rw [l74]; decide) dX11_paper_250 ?_
                              refine j_iinc X dX11_paper_251 rfl 1 rfl ?_
                              refine j_goto X 219 dX11_paper_254 (by decide) ?_
                              refine j_mem (jcpr (jup (jup mem 66 0 0) 66 1 0) 69 74 (60 * s + i) (9 * np) (k + 1)) (jcpr_s (by decide)) ?_
                              refine j_lv [some (.ref 66), some (.int (nI s)), some (.int (nI i)), some (.int 0), some (.int (nI (60 * s + i))), some (.int 1), some (.int (nI (k + 1)))] ⟨rfl, rfl, rfl, rfl, rfl, rfl, (congrArg (fun z => some (Value.int z)) (nI_1 _)), trivial⟩ ?_
                              exact ih219 (k + 1) (by omega) (by omega)
                        refine j_mem (jcpr (jup (jup mem 66 0 0) 66 1 0) 69 74 (60 * s + i) (9 * np) 0) (jcpr_0 _ _ _ _ _).symm ?_
                        refine j_lv [some (.ref 66), some (.int (nI s)), some (.int (nI i)), some (.int 0), some (.int (nI (60 * s + i))), some (.int 1), some (.int (nI 0))] ⟨rfl, rfl, rfl, rfl, rfl, rfl, rfl, trivial⟩ ?_
                        exact lp219 10 0 (by omega) (by omega)
                      · exfalso
                        exact absurd c_205 (by decide)
                    · have hk2 : k < 9 := by clear hE hr hR X; (try simp only [lg_cmp_lt, lg_cmp_gt, lg_cmp_le, lg_cmp_ge] at *); (try simp (disch := omega) only [Int64.le_iff_toInt_le, Int64.lt_iff_toInt_lt, Int32.le_iff_toInt_le, Int32.lt_iff_toInt_lt, fa_eq, fa_lit, fa_litL, nI_toInt, pk_lT, Int32.toInt_toInt64, jadd64, jin, jnoneT] at *); omega
                      refine j_iload X dX11_paper_164 rfl ?_
                      refine j_if_eq X 194 dX11_paper_166 (by decide) (fun c_166 => ?_) (fun c_166 => ?_)
                      · exfalso
                        first | exact absurd c_166 (by decide) | exact c_187 (jPok_5 hk hk5 hk2)
                      · refine j_aload_n X dX11_paper_169 rfl ?_
                        refine j_getR X 11 4 (by decide) (by decide) rfl u954 (o66 np) (k66 np) _ (p66_4 np) dX11_paper_170 ?_
                        refine j_iload X dX11_paper_173 rfl ?_
                        refine j_iload X dX11_paper_175 rfl ?_
                        refine j_iadd X dX11_paper_177 ?_
                        refine j_nrm _ (by first | (simp only [fa_lit, pk_mul, nI_add]; done) | (simp only [fa_lit, pk_mul, nI_add]; rfl) | rfl) ?_
                        refine j_ialdN X (o69 np) (k69 np) (by rw [l69]; omega) (by rw [l69]; decide) (mem 69) rfl dX11_paper_178 ?_
                        refine j_i2l X dX11_paper_179 ?_
                        refine j_lconst X dX11_paper_180 0 (by decide) ?_
                        refine j_ldc2 X dX11_paper_181 u1118 ?_
                        refine s_callSi X hR (m_inI np _ _ _ _ 0 999 rfl rfl) rfl u1087 u1085 u1086 u12 hyX11_in (by decide) (by decide) (Nat.le_of_ble_eq_true rfl) dX11_paper_184 (fun v_184 m_184 h_184 => ?_)
                        obtain ⟨e1, e2⟩ := h_184; have e1 := e1.symm; have e2 := e2.symm; subst e1; subst e2
                        refine j_ifb_eq X 194 dX11_paper_187 (by decide) (fun c_187 => ?_) (fun c_187 => ?_)
                        · exfalso
                          first | exact absurd c_166 (by decide) | exact c_187 (jPok_5 hk hk5 hk2)
                        · refine j_iconst X dX11_paper_190 1 (by decide) ?_
                          refine j_goto X 195 dX11_paper_191 (by decide) ?_
                          refine j_istore X dX11_paper_195 (by decide) ?_
                          refine j_iinc X dX11_paper_197 rfl 1 rfl ?_
                          refine j_goto X 157 dX11_paper_200 (by decide) ?_
                          refine j_lv [some (.ref 66), some (.int (nI s)), some (.int (nI i)), some (.int 0), some (.int (nI (60 * s + i))), some (.int 1), some (.int (nI (k + 1)))] ⟨rfl, rfl, rfl, rfl, rfl, rfl, (congrArg (fun z => some (Value.int z)) (nI_1 _)), trivial⟩ ?_
                          exact ih157 (k + 1) (by omega) (by omega) (by omega)
                refine j_lv [some (.ref 66), some (.int (nI s)), some (.int (nI i)), some (.int 0), some (.int (nI (60 * s + i))), some (.int 1), some (.int (nI 5))] ⟨rfl, rfl, rfl, rfl, rfl, rfl, rfl, trivial⟩ ?_
                exact lp157 10 5 (by omega) (by omega) (by omega)
    · exact absurd (c_21.symm.trans hp) (by rw [fa_lit, nI_eq (by omega) (by omega)]; omega)
  · exfalso
    clear hE hr hR X
    (try simp only [lg_cmp_lt, lg_cmp_gt, lg_cmp_le, lg_cmp_ge] at *); (try simp (disch := omega) only [Int64.le_iff_toInt_le, Int64.lt_iff_toInt_lt, Int32.le_iff_toInt_le, Int32.lt_iff_toInt_lt, fa_eq, fa_lit, fa_litL, nI_toInt, pk_lT, Int32.toInt_toInt64, jadd64, jin, jnoneT] at *); omega
set_option maxRecDepth 4000 in
set_option maxHeartbeats 1000000 in
theorem m_paper_item (np : Nat) (mem : jMem) (s i z : Nat) (hs : s < 8) (hn : np < 12) (hp : mem 66 9 = nI np) (hl : 0 ≤ (mem 67 s).toInt) (hz : z ≤ 60) (hm : mem 68 s = nI z) (hi : i + 9 ≤ z) (hk : ¬ jPok (mem 69) (60 * s + i)) : jPi yX11_paper cX11_paper 7 .int 3 [.ref 66, .int (nI s), .int (nI i)] np mem (fun v c => v = -1000001 ∧ c = jup mem 66 0 0) := by
  refine jPi.of (own := RX11) rfl rfl (Nat.le_of_ble_eq_true rfl) (fun G X hR hr hE => ?_)
  refine j_aload_n X dX11_paper_0 rfl ?_
  refine j_iconst X dX11_paper_1 0 (by decide) ?_
  refine j_putI X 11 0 (by decide) (by decide) rfl rfl rfl rfl u950 (o66 np) (k66 np) dX11_paper_2 ?_
  refine j_iload_n X dX11_paper_5 rfl ?_
  refine s_callSi X hR (m_isSheet np _ _) rfl u1083 u1081 u1082 u12 hyX11_isSheet (by decide) (by decide) (Nat.le_of_ble_eq_true rfl) dX11_paper_6 (fun v_6 m_6 h_6 => ?_)
  obtain ⟨e1, e2⟩ := h_6; have e1 := e1.symm; have e2 := e2.symm; subst e1; subst e2
  refine j_ifb_ne X 15 dX11_paper_9 (by decide) (fun c_9 => ?_) (fun c_9 => ?_)
  · refine j_aload_n X dX11_paper_15 rfl ?_
    refine j_getF X 11 9 (by decide) (by decide) rfl u959 (o66 np) (k66 np) _ rfl dX11_paper_16 ?_
    refine j_bipush X dX11_paper_19 12 (by decide) ?_
    refine j_icmp_ne X 27 dX11_paper_21 (by decide) (fun c_21 => ?_) (fun c_21 => ?_)
    · refine j_aload_n X dX11_paper_27 rfl ?_
      refine j_iload_n X dX11_paper_28 rfl ?_
      refine j_iload_n X dX11_paper_29 rfl ?_
      refine j_bipush X dX11_paper_30 9 (by decide) ?_
      refine s_callVi X hR (m_look np _ s (nI i) 9 hs hl (by rw [show (jup mem 66 0 0) 68 s = nI z from hm, nI_toInt (by omega), nI_toInt (by omega)]; show (0 : Int) ≤ i ∧ (i : Int) + 9 ≤ z; omega)) rfl 11 (by decide) (o66 np) (k66 np) rfl u1141 u1138 u1140 qp38 u12 hyX11_lookItems (by decide) (by decide) (Nat.le_of_ble_eq_true rfl) dX11_paper_32 (fun v_32 m_32 h_32 => ?_)
      obtain ⟨e1, e2⟩ := h_32; have e1 := e1.symm; have e2 := e2.symm; subst e1; subst e2
      refine j_istore_n X dX11_paper_35 (by decide) ?_
      refine j_iload_n X dX11_paper_36 rfl ?_
      refine j_if_ge X 42 dX11_paper_37 (by decide) (fun c_37 => ?_) (fun c_37 => absurd c_37 (by decide))
      refine j_bipush X dX11_paper_42 60 (by decide) ?_
      refine j_iload_n X dX11_paper_44 rfl ?_
      refine j_imul X dX11_paper_45 ?_
      refine j_iload_n X dX11_paper_46 rfl ?_
      refine j_iadd X dX11_paper_47 ?_
      refine j_nrm (nI (60 * s + i)) (by simp only [fa_lit, pk_mul, nI_add]) ?_
      refine j_istore X dX11_paper_48 (by decide) ?_
      refine j_aload_n X dX11_paper_50 rfl ?_
      refine j_getR X 11 4 (by decide) (by decide) rfl u954 (o66 np) (k66 np) _ (p66_4 np) dX11_paper_51 ?_
      refine j_iload X dX11_paper_54 rfl ?_
      refine j_nrm _ (by first | (simp only [fa_lit, pk_mul, nI_add]; done) | (simp only [fa_lit, pk_mul, nI_add]; rfl) | rfl) ?_
      refine j_ialdN X (o69 np) (k69 np) (by rw [l69]; omega) (by rw [l69]; decide) (mem 69) rfl dX11_paper_56 ?_
      refine s_callSi X hR (m_isOffice np _ _) rfl u1113 u1111 u1112 u12 hyX11_isOffice (by decide) (by decide) (Nat.le_of_ble_eq_true rfl) dX11_paper_57 (fun v_57 m_57 h_57 => ?_)
      obtain ⟨e1, e2⟩ := h_57; have e1 := e1.symm; have e2 := e2.symm; subst e1; subst e2
      refine j_ifb_eq X 151 dX11_paper_60 (by decide) (fun c_60 => ?_) (fun c_60 => ?_)
      · refine j_iconst X dX11_paper_151 0 (by decide) ?_
        refine j_istore X dX11_paper_152 (by decide) ?_
        refine j_iconst X dX11_paper_154 5 (by decide) ?_
        refine j_istore X dX11_paper_155 (by decide) ?_
        have lp157 : ∀ (n : Nat) (k : Nat) (gd : Int32), 5 ≤ k → k ≤ 9 → 10 ≤ k + n → (gd = 1 ∧ (jin (mem 69 (60 * s + i)) 0 3 ∧ jin (mem 69 (60 * s + i + 1)) 0 5 ∧ jin (mem 69 (60 * s + i + 2)) 0 4 ∧ jin (mem 69 (60 * s + i + 3)) 0 999 ∧ jin (mem 69 (60 * s + i + 4)) (mem 69 (60 * s + i + 3)).toInt 999) ∧ (∀ q, 5 ≤ q → q < k → jin (mem 69 (60 * s + i + q)) 0 999)) ∨ (gd = 0 ∧ ¬ ((jin (mem 69 (60 * s + i)) 0 3 ∧ jin (mem 69 (60 * s + i + 1)) 0 5 ∧ jin (mem 69 (60 * s + i + 2)) 0 4 ∧ jin (mem 69 (60 * s + i + 3)) 0 999 ∧ jin (mem 69 (60 * s + i + 4)) (mem 69 (60 * s + i + 3)).toInt 999) ∧ (∀ q, 5 ≤ q → q < k → jin (mem 69 (60 * s + i + q)) 0 999))) → J G RX11 cX11_paper 7 0 0 157 (jlv [some (.ref 66), some (.int (nI s)), some (.int (nI i)), some (.int 0), some (.int (nI (60 * s + i))), some (.int gd), some (.int (nI k))]) [] (jS np) (jup mem 66 0 0) := by
          intro n
          induction n with
          | zero =>
            intro k gd hk5 hk9 hn2 hgd
            exact absurd hn2 (by omega)
          | succ n ih157 =>
            intro k gd hk5 hk9 hn2 hgd
            refine j_iload X dX11_paper_157 rfl ?_
            refine j_bipush X dX11_paper_159 9 (by decide) ?_
            refine j_icmp_ge X 203 dX11_paper_161 (by decide) (fun c_161 => ?_) (fun c_161 => ?_)
            · obtain rfl : k = 9 := by clear hE hr hR X; (try simp only [lg_cmp_lt, lg_cmp_gt, lg_cmp_le, lg_cmp_ge] at *); (try simp (disch := omega) only [Int64.le_iff_toInt_le, Int64.lt_iff_toInt_lt, Int32.le_iff_toInt_le, Int32.lt_iff_toInt_lt, fa_eq, fa_lit, fa_litL, nI_toInt, pk_lT, Int32.toInt_toInt64, jadd64, jin, jnoneT] at *); omega
              refine j_iload X dX11_paper_203 rfl ?_
              refine j_if_ne X 211 dX11_paper_205 (by decide) (fun c_205 => ?_) (fun c_205 => ?_)
              · exfalso
                refine hk ?_
                obtain ⟨⟨g0, g1, g2, g3, g4⟩, gk⟩ := hgd.resolve_right (fun z => c_205 z.1)|>.2
                exact ⟨g0, g1, g2, g3, g4, gk 5 (by omega) (by omega), gk 6 (by omega) (by omega), gk 7 (by omega) (by omega), gk 8 (by omega) (by omega)⟩
              · refine j_ldc X dX11_paper_208 u1089 ?_
                refine s_iret X hE hr dX11_paper_210 rfl ?_
                first | exact ⟨rfl, rfl⟩ | (exfalso; clear hE hr hR X; (try simp only [lg_cmp_lt, lg_cmp_gt, lg_cmp_le, lg_cmp_ge] at *); (try simp (disch := omega) only [Int64.le_iff_toInt_le, Int64.lt_iff_toInt_lt, Int32.le_iff_toInt_le, Int32.lt_iff_toInt_lt, fa_eq, fa_lit, fa_litL, nI_toInt, pk_lT, Int32.toInt_toInt64, jadd64, jin, jnoneT] at *); omega)
            · have hk2 : k < 9 := by clear hE hr hR X; (try simp only [lg_cmp_lt, lg_cmp_gt, lg_cmp_le, lg_cmp_ge] at *); (try simp (disch := omega) only [Int64.le_iff_toInt_le, Int64.lt_iff_toInt_lt, Int32.le_iff_toInt_le, Int32.lt_iff_toInt_lt, fa_eq, fa_lit, fa_litL, nI_toInt, pk_lT, Int32.toInt_toInt64, jadd64, jin, jnoneT] at *); omega
              refine j_iload X dX11_paper_164 rfl ?_
              refine j_if_eq X 194 dX11_paper_166 (by decide) (fun c_166 => ?_) (fun c_166 => ?_)
              · refine j_iconst X dX11_paper_194 0 (by decide) ?_
                refine j_istore X dX11_paper_195 (by decide) ?_
                refine j_iinc X dX11_paper_197 rfl 1 rfl ?_
                refine j_goto X 157 dX11_paper_200 (by decide) ?_
                refine j_lv [some (.ref 66), some (.int (nI s)), some (.int (nI i)), some (.int 0), some (.int (nI (60 * s + i))), some (.int _), some (.int (nI (k + 1)))] ⟨rfl, rfl, rfl, rfl, rfl, rfl, (congrArg (fun z => some (Value.int z)) (nI_1 _)), trivial⟩ ?_
                exact ih157 (k + 1) _ (by omega) (by omega) (by omega) (by first | exact Or.inl ⟨rfl, (hgd.resolve_right (fun z => c_166 z.1)).2.1, fun q h1 h2 => by rcases Nat.lt_or_ge q k with h3 | h3; exact (hgd.resolve_right (fun z => c_166 z.1)).2.2 q h1 h3; rw [show q = k by omega]; exact c_187⟩ | exact Or.inr ⟨rfl, fun z => c_187 (z.2 k hk5 (by omega))⟩ | exact Or.inr ⟨rfl, fun z => (hgd.resolve_left (fun y => by rw [y.1] at c_166; exact absurd c_166 (by decide))).2 ⟨z.1, fun q h1 h2 => z.2 q h1 (by omega)⟩⟩)
              · refine j_aload_n X dX11_paper_169 rfl ?_
                refine j_getR X 11 4 (by decide) (by decide) rfl u954 (o66 np) (k66 np) _ (p66_4 np) dX11_paper_170 ?_
                refine j_iload X dX11_paper_173 rfl ?_
                refine j_iload X dX11_paper_175 rfl ?_
                refine j_iadd X dX11_paper_177 ?_
                refine j_nrm _ (by first | (simp only [fa_lit, pk_mul, nI_add]; done) | (simp only [fa_lit, pk_mul, nI_add]; rfl) | rfl) ?_
                refine j_ialdN X (o69 np) (k69 np) (by rw [l69]; omega) (by rw [l69]; decide) (mem 69) rfl dX11_paper_178 ?_
                refine j_i2l X dX11_paper_179 ?_
                refine j_lconst X dX11_paper_180 0 (by decide) ?_
                refine j_ldc2 X dX11_paper_181 u1118 ?_
                refine s_callSi X hR (m_inI np _ _ _ _ 0 999 rfl rfl) rfl u1087 u1085 u1086 u12 hyX11_in (by decide) (by decide) (Nat.le_of_ble_eq_true rfl) dX11_paper_184 (fun v_184 m_184 h_184 => ?_)
                obtain ⟨e1, e2⟩ := h_184; have e1 := e1.symm; have e2 := e2.symm; subst e1; subst e2
                refine j_ifb_eq X 194 dX11_paper_187 (by decide) (fun c_187 => ?_) (fun c_187 => ?_)
                · refine j_iconst X dX11_paper_194 0 (by decide) ?_
                  refine j_istore X dX11_paper_195 (by decide) ?_
                  refine j_iinc X dX11_paper_197 rfl 1 rfl ?_
                  refine j_goto X 157 dX11_paper_200 (by decide) ?_
                  refine j_lv [some (.ref 66), some (.int (nI s)), some (.int (nI i)), some (.int 0), some (.int (nI (60 * s + i))), some (.int _), some (.int (nI (k + 1)))] ⟨rfl, rfl, rfl, rfl, rfl, rfl, (congrArg (fun z => some (Value.int z)) (nI_1 _)), trivial⟩ ?_
                  exact ih157 (k + 1) _ (by omega) (by omega) (by omega) (by first | exact Or.inl ⟨rfl, (hgd.resolve_right (fun z => c_166 z.1)).2.1, fun q h1 h2 => by rcases Nat.lt_or_ge q k with h3 | h3; exact (hgd.resolve_right (fun z => c_166 z.1)).2.2 q h1 h3; rw [show q = k by omega]; exact c_187⟩ | exact Or.inr ⟨rfl, fun z => c_187 (z.2 k hk5 (by omega))⟩ | exact Or.inr ⟨rfl, fun z => (hgd.resolve_left (fun y => by rw [y.1] at c_166; exact absurd c_166 (by decide))).2 ⟨z.1, fun q h1 h2 => z.2 q h1 (by omega)⟩⟩)
                · refine j_iconst X dX11_paper_190 1 (by decide) ?_
                  refine j_goto X 195 dX11_paper_191 (by decide) ?_
                  refine j_istore X dX11_paper_195 (by decide) ?_
                  refine j_iinc X dX11_paper_197 rfl 1 rfl ?_
                  refine j_goto X 157 dX11_paper_200 (by decide) ?_
                  refine j_lv [some (.ref 66), some (.int (nI s)), some (.int (nI i)), some (.int 0), some (.int (nI (60 * s + i))), some (.int _), some (.int (nI (k + 1)))] ⟨rfl, rfl, rfl, rfl, rfl, rfl, (congrArg (fun z => some (Value.int z)) (nI_1 _)), trivial⟩ ?_
                  exact ih157 (k + 1) _ (by omega) (by omega) (by omega) (by first | exact Or.inl ⟨rfl, (hgd.resolve_right (fun z => c_166 z.1)).2.1, fun q h1 h2 => by rcases Nat.lt_or_ge q k with h3 | h3; exact (hgd.resolve_right (fun z => c_166 z.1)).2.2 q h1 h3; rw [show q = k by omega]; exact c_187⟩ | exact Or.inr ⟨rfl, fun z => c_187 (z.2 k hk5 (by omega))⟩ | exact Or.inr ⟨rfl, fun z => (hgd.resolve_left (fun y => by rw [y.1] at c_166; exact absurd c_166 (by decide))).2 ⟨z.1, fun q h1 h2 => z.2 q h1 (by omega)⟩⟩)
        refine j_lv [some (.ref 66), some (.int (nI s)), some (.int (nI i)), some (.int 0), some (.int (nI (60 * s + i))), some (.int _), some (.int (nI 5))] ⟨rfl, rfl, rfl, rfl, rfl, rfl, rfl, trivial⟩ ?_
        exact lp157 10 5 _ (by omega) (by omega) (by omega) (by first | exact Or.inl ⟨rfl, ⟨c_60, c_80, c_100, c_115, c_144⟩, fun q h1 h2 => absurd h2 (by omega)⟩ | exact Or.inr ⟨rfl, fun z => c_60 z.1.1⟩ | exact Or.inr ⟨rfl, fun z => c_80 z.1.2.1⟩ | exact Or.inr ⟨rfl, fun z => c_100 z.1.2.2.1⟩ | exact Or.inr ⟨rfl, fun z => c_115 z.1.2.2.2.1⟩ | exact Or.inr ⟨rfl, fun z => c_144 z.1.2.2.2.2⟩)
      · refine j_aload_n X dX11_paper_63 rfl ?_
        refine j_getR X 11 4 (by decide) (by decide) rfl u954 (o66 np) (k66 np) _ (p66_4 np) dX11_paper_64 ?_
        refine j_iload X dX11_paper_67 rfl ?_
        refine j_iconst X dX11_paper_69 1 (by decide) ?_
        refine j_iadd X dX11_paper_70 ?_
        refine j_nrm _ (by first | (simp only [fa_lit, pk_mul, nI_add]; done) | (simp only [fa_lit, pk_mul, nI_add]; rfl) | rfl) ?_
        refine j_ialdN X (o69 np) (k69 np) (by rw [l69]; omega) (by rw [l69]; decide) (mem 69) rfl dX11_paper_71 ?_
        refine j_i2l X dX11_paper_72 ?_
        refine j_lconst X dX11_paper_73 0 (by decide) ?_
        refine j_ldc2 X dX11_paper_74 u1142 ?_
        refine s_callSi X hR (m_inI np _ _ _ _ 0 5 rfl rfl) rfl u1087 u1085 u1086 u12 hyX11_in (by decide) (by decide) (Nat.le_of_ble_eq_true rfl) dX11_paper_77 (fun v_77 m_77 h_77 => ?_)
        obtain ⟨e1, e2⟩ := h_77; have e1 := e1.symm; have e2 := e2.symm; subst e1; subst e2
        refine j_ifb_eq X 151 dX11_paper_80 (by decide) (fun c_80 => ?_) (fun c_80 => ?_)
        · refine j_iconst X dX11_paper_151 0 (by decide) ?_
          refine j_istore X dX11_paper_152 (by decide) ?_
          refine j_iconst X dX11_paper_154 5 (by decide) ?_
          refine j_istore X dX11_paper_155 (by decide) ?_
          have lp157 : ∀ (n : Nat) (k : Nat) (gd : Int32), 5 ≤ k → k ≤ 9 → 10 ≤ k + n → (gd = 1 ∧ (jin (mem 69 (60 * s + i)) 0 3 ∧ jin (mem 69 (60 * s + i + 1)) 0 5 ∧ jin (mem 69 (60 * s + i + 2)) 0 4 ∧ jin (mem 69 (60 * s + i + 3)) 0 999 ∧ jin (mem 69 (60 * s + i + 4)) (mem 69 (60 * s + i + 3)).toInt 999) ∧ (∀ q, 5 ≤ q → q < k → jin (mem 69 (60 * s + i + q)) 0 999)) ∨ (gd = 0 ∧ ¬ ((jin (mem 69 (60 * s + i)) 0 3 ∧ jin (mem 69 (60 * s + i + 1)) 0 5 ∧ jin (mem 69 (60 * s + i + 2)) 0 4 ∧ jin (mem 69 (60 * s + i + 3)) 0 999 ∧ jin (mem 69 (60 * s + i + 4)) (mem 69 (60 * s + i + 3)).toInt 999) ∧ (∀ q, 5 ≤ q → q < k → jin (mem 69 (60 * s + i + q)) 0 999))) → J G RX11 cX11_paper 7 0 0 157 (jlv [some (.ref 66), some (.int (nI s)), some (.int (nI i)), some (.int 0), some (.int (nI (60 * s + i))), some (.int gd), some (.int (nI k))]) [] (jS np) (jup mem 66 0 0) := by
            intro n
            induction n with
            | zero =>
              intro k gd hk5 hk9 hn2 hgd
              exact absurd hn2 (by omega)
            | succ n ih157 =>
              intro k gd hk5 hk9 hn2 hgd
              refine j_iload X dX11_paper_157 rfl ?_
              refine j_bipush X dX11_paper_159 9 (by decide) ?_
              refine j_icmp_ge X 203 dX11_paper_161 (by decide) (fun c_161 => ?_) (fun c_161 => ?_)
              · obtain rfl : k = 9 := by clear hE hr hR X; (try simp only [lg_cmp_lt, lg_cmp_gt, lg_cmp_le, lg_cmp_ge] at *); (try simp (disch := omega) only [Int64.le_iff_toInt_le, Int64.lt_iff_toInt_lt, Int32.le_iff_toInt_le, Int32.lt_iff_toInt_lt, fa_eq, fa_lit, fa_litL, nI_toInt, pk_lT, Int32.toInt_toInt64, jadd64, jin, jnoneT] at *); omega
                refine j_iload X dX11_paper_203 rfl ?_
                refine j_if_ne X 211 dX11_paper_205 (by decide) (fun c_205 => ?_) (fun c_205 => ?_)
                · exfalso
                  refine hk ?_
                  obtain ⟨⟨g0, g1, g2, g3, g4⟩, gk⟩ := hgd.resolve_right (fun z => c_205 z.1)|>.2
                  exact ⟨g0, g1, g2, g3, g4, gk 5 (by omega) (by omega), gk 6 (by omega) (by omega), gk 7 (by omega) (by omega), gk 8 (by omega) (by omega)⟩
                · refine j_ldc X dX11_paper_208 u1089 ?_
                  refine s_iret X hE hr dX11_paper_210 rfl ?_
                  first | exact ⟨rfl, rfl⟩ | (exfalso; clear hE hr hR X; (try simp only [lg_cmp_lt, lg_cmp_gt, lg_cmp_le, lg_cmp_ge] at *); (try simp (disch := omega) only [Int64.le_iff_toInt_le, Int64.lt_iff_toInt_lt, Int32.le_iff_toInt_le, Int32.lt_iff_toInt_lt, fa_eq, fa_lit, fa_litL, nI_toInt, pk_lT, Int32.toInt_toInt64, jadd64, jin, jnoneT] at *); omega)
              · have hk2 : k < 9 := by clear hE hr hR X; (try simp only [lg_cmp_lt, lg_cmp_gt, lg_cmp_le, lg_cmp_ge] at *); (try simp (disch := omega) only [Int64.le_iff_toInt_le, Int64.lt_iff_toInt_lt, Int32.le_iff_toInt_le, Int32.lt_iff_toInt_lt, fa_eq, fa_lit, fa_litL, nI_toInt, pk_lT, Int32.toInt_toInt64, jadd64, jin, jnoneT] at *); omega
                refine j_iload X dX11_paper_164 rfl ?_
                refine j_if_eq X 194 dX11_paper_166 (by decide) (fun c_166 => ?_) (fun c_166 => ?_)
                · refine j_iconst X dX11_paper_194 0 (by decide) ?_
                  refine j_istore X dX11_paper_195 (by decide) ?_
                  refine j_iinc X dX11_paper_197 rfl 1 rfl ?_
                  refine j_goto X 157 dX11_paper_200 (by decide) ?_
                  refine j_lv [some (.ref 66), some (.int (nI s)), some (.int (nI i)), some (.int 0), some (.int (nI (60 * s + i))), some (.int _), some (.int (nI (k + 1)))] ⟨rfl, rfl, rfl, rfl, rfl, rfl, (congrArg (fun z => some (Value.int z)) (nI_1 _)), trivial⟩ ?_
                  exact ih157 (k + 1) _ (by omega) (by omega) (by omega) (by first | exact Or.inl ⟨rfl, (hgd.resolve_right (fun z => c_166 z.1)).2.1, fun q h1 h2 => by rcases Nat.lt_or_ge q k with h3 | h3; exact (hgd.resolve_right (fun z => c_166 z.1)).2.2 q h1 h3; rw [show q = k by omega]; exact c_187⟩ | exact Or.inr ⟨rfl, fun z => c_187 (z.2 k hk5 (by omega))⟩ | exact Or.inr ⟨rfl, fun z => (hgd.resolve_left (fun y => by rw [y.1] at c_166; exact absurd c_166 (by decide))).2 ⟨z.1, fun q h1 h2 => z.2 q h1 (by omega)⟩⟩)
                · refine j_aload_n X dX11_paper_169 rfl ?_
                  refine j_getR X 11 4 (by decide) (by decide) rfl u954 (o66 np) (k66 np) _ (p66_4 np) dX11_paper_170 ?_
                  refine j_iload X dX11_paper_173 rfl ?_
                  refine j_iload X dX11_paper_175 rfl ?_
                  refine j_iadd X dX11_paper_177 ?_
                  refine j_nrm _ (by first | (simp only [fa_lit, pk_mul, nI_add]; done) | (simp only [fa_lit, pk_mul, nI_add]; rfl) | rfl) ?_
                  refine j_ialdN X (o69 np) (k69 np) (by rw [l69]; omega) (by rw [l69]; decide) (mem 69) rfl dX11_paper_178 ?_
                  refine j_i2l X dX11_paper_179 ?_
                  refine j_lconst X dX11_paper_180 0 (by decide) ?_
                  refine j_ldc2 X dX11_paper_181 u1118 ?_
                  refine s_callSi X hR (m_inI np _ _ _ _ 0 999 rfl rfl) rfl u1087 u1085 u1086 u12 hyX11_in (by decide) (by decide) (Nat.le_of_ble_eq_true rfl) dX11_paper_184 (fun v_184 m_184 h_184 => ?_)
                  obtain ⟨e1, e2⟩ := h_184; have e1 := e1.symm; have e2 := e2.symm; subst e1; subst e2
                  refine j_ifb_eq X 194 dX11_paper_187 (by decide) (fun c_187 => ?_) (fun c_187 => ?_)
                  · refine j_iconst X dX11_paper_194 0 (by decide) ?_
                    refine j_istore X dX11_paper_195 (by decide) ?_
                    refine j_iinc X dX11_paper_197 rfl 1 rfl ?_
                    refine j_goto X 157 dX11_paper_200 (by decide) ?_
                    refine j_lv [some (.ref 66), some (.int (nI s)), some (.int (nI i)), some (.int 0), some (.int (nI (60 * s + i))), some (.int _), some (.int (nI (k + 1)))] ⟨rfl, rfl, rfl, rfl, rfl, rfl, (congrArg (fun z => some (Value.int z)) (nI_1 _)), trivial⟩ ?_
                    exact ih157 (k + 1) _ (by omega) (by omega) (by omega) (by first | exact Or.inl ⟨rfl, (hgd.resolve_right (fun z => c_166 z.1)).2.1, fun q h1 h2 => by rcases Nat.lt_or_ge q k with h3 | h3; exact (hgd.resolve_right (fun z => c_166 z.1)).2.2 q h1 h3; rw [show q = k by omega]; exact c_187⟩ | exact Or.inr ⟨rfl, fun z => c_187 (z.2 k hk5 (by omega))⟩ | exact Or.inr ⟨rfl, fun z => (hgd.resolve_left (fun y => by rw [y.1] at c_166; exact absurd c_166 (by decide))).2 ⟨z.1, fun q h1 h2 => z.2 q h1 (by omega)⟩⟩)
                  · refine j_iconst X dX11_paper_190 1 (by decide) ?_
                    refine j_goto X 195 dX11_paper_191 (by decide) ?_
                    refine j_istore X dX11_paper_195 (by decide) ?_
                    refine j_iinc X dX11_paper_197 rfl 1 rfl ?_
                    refine j_goto X 157 dX11_paper_200 (by decide) ?_
                    refine j_lv [some (.ref 66), some (.int (nI s)), some (.int (nI i)), some (.int 0), some (.int (nI (60 * s + i))), some (.int _), some (.int (nI (k + 1)))] ⟨rfl, rfl, rfl, rfl, rfl, rfl, (congrArg (fun z => some (Value.int z)) (nI_1 _)), trivial⟩ ?_
                    exact ih157 (k + 1) _ (by omega) (by omega) (by omega) (by first | exact Or.inl ⟨rfl, (hgd.resolve_right (fun z => c_166 z.1)).2.1, fun q h1 h2 => by rcases Nat.lt_or_ge q k with h3 | h3; exact (hgd.resolve_right (fun z => c_166 z.1)).2.2 q h1 h3; rw [show q = k by omega]; exact c_187⟩ | exact Or.inr ⟨rfl, fun z => c_187 (z.2 k hk5 (by omega))⟩ | exact Or.inr ⟨rfl, fun z => (hgd.resolve_left (fun y => by rw [y.1] at c_166; exact absurd c_166 (by decide))).2 ⟨z.1, fun q h1 h2 => z.2 q h1 (by omega)⟩⟩)
          refine j_lv [some (.ref 66), some (.int (nI s)), some (.int (nI i)), some (.int 0), some (.int (nI (60 * s + i))), some (.int _), some (.int (nI 5))] ⟨rfl, rfl, rfl, rfl, rfl, rfl, rfl, trivial⟩ ?_
          exact lp157 10 5 _ (by omega) (by omega) (by omega) (by first | exact Or.inl ⟨rfl, ⟨c_60, c_80, c_100, c_115, c_144⟩, fun q h1 h2 => absurd h2 (by omega)⟩ | exact Or.inr ⟨rfl, fun z => c_60 z.1.1⟩ | exact Or.inr ⟨rfl, fun z => c_80 z.1.2.1⟩ | exact Or.inr ⟨rfl, fun z => c_100 z.1.2.2.1⟩ | exact Or.inr ⟨rfl, fun z => c_115 z.1.2.2.2.1⟩ | exact Or.inr ⟨rfl, fun z => c_144 z.1.2.2.2.2⟩)
        · refine j_aload_n X dX11_paper_83 rfl ?_
          refine j_getR X 11 4 (by decide) (by decide) rfl u954 (o66 np) (k66 np) _ (p66_4 np) dX11_paper_84 ?_
          refine j_iload X dX11_paper_87 rfl ?_
          refine j_iconst X dX11_paper_89 2 (by decide) ?_
          refine j_iadd X dX11_paper_90 ?_
          refine j_nrm _ (by first | (simp only [fa_lit, pk_mul, nI_add]; done) | (simp only [fa_lit, pk_mul, nI_add]; rfl) | rfl) ?_
          refine j_ialdN X (o69 np) (k69 np) (by rw [l69]; omega) (by rw [l69]; decide) (mem 69) rfl dX11_paper_91 ?_
          refine j_i2l X dX11_paper_92 ?_
          refine j_lconst X dX11_paper_93 0 (by decide) ?_
          refine j_ldc2 X dX11_paper_94 u1143 ?_
          refine s_callSi X hR (m_inI np _ _ _ _ 0 4 rfl rfl) rfl u1087 u1085 u1086 u12 hyX11_in (by decide) (by decide) (Nat.le_of_ble_eq_true rfl) dX11_paper_97 (fun v_97 m_97 h_97 => ?_)
          obtain ⟨e1, e2⟩ := h_97; have e1 := e1.symm; have e2 := e2.symm; subst e1; subst e2
          refine j_ifb_eq X 151 dX11_paper_100 (by decide) (fun c_100 => ?_) (fun c_100 => ?_)
          · refine j_iconst X dX11_paper_151 0 (by decide) ?_
            refine j_istore X dX11_paper_152 (by decide) ?_
            refine j_iconst X dX11_paper_154 5 (by decide) ?_
            refine j_istore X dX11_paper_155 (by decide) ?_
            have lp157 : ∀ (n : Nat) (k : Nat) (gd : Int32), 5 ≤ k → k ≤ 9 → 10 ≤ k + n → (gd = 1 ∧ (jin (mem 69 (60 * s + i)) 0 3 ∧ jin (mem 69 (60 * s + i + 1)) 0 5 ∧ jin (mem 69 (60 * s + i + 2)) 0 4 ∧ jin (mem 69 (60 * s + i + 3)) 0 999 ∧ jin (mem 69 (60 * s + i + 4)) (mem 69 (60 * s + i + 3)).toInt 999) ∧ (∀ q, 5 ≤ q → q < k → jin (mem 69 (60 * s + i + q)) 0 999)) ∨ (gd = 0 ∧ ¬ ((jin (mem 69 (60 * s + i)) 0 3 ∧ jin (mem 69 (60 * s + i + 1)) 0 5 ∧ jin (mem 69 (60 * s + i + 2)) 0 4 ∧ jin (mem 69 (60 * s + i + 3)) 0 999 ∧ jin (mem 69 (60 * s + i + 4)) (mem 69 (60 * s + i + 3)).toInt 999) ∧ (∀ q, 5 ≤ q → q < k → jin (mem 69 (60 * s + i + q)) 0 999))) → J G RX11 cX11_paper 7 0 0 157 (jlv [some (.ref 66), some (.int (nI s)), some (.int (nI i)), some (.int 0), some (.int (nI (60 * s + i))), some (.int gd), some (.int (nI k))]) [] (jS np) (jup mem 66 0 0) := by
              intro n
              induction n with
              | zero =>
                intro k gd hk5 hk9 hn2 hgd
                exact absurd hn2 (by omega)
              | succ n ih157 =>
                intro k gd hk5 hk9 hn2 hgd
                refine j_iload X dX11_paper_157 rfl ?_
                refine j_bipush X dX11_paper_159 9 (by decide) ?_
                refine j_icmp_ge X 203 dX11_paper_161 (by decide) (fun c_161 => ?_) (fun c_161 => ?_)
                · obtain rfl : k = 9 := by clear hE hr hR X; (try simp only [lg_cmp_lt, lg_cmp_gt, lg_cmp_le, lg_cmp_ge] at *); (try simp (disch := omega) only [Int64.le_iff_toInt_le, Int64.lt_iff_toInt_lt, Int32.le_iff_toInt_le, Int32.lt_iff_toInt_lt, fa_eq, fa_lit, fa_litL, nI_toInt, pk_lT, Int32.toInt_toInt64, jadd64, jin, jnoneT] at *); omega
                  refine j_iload X dX11_paper_203 rfl ?_
                  refine j_if_ne X 211 dX11_paper_205 (by decide) (fun c_205 => ?_) (fun c_205 => ?_)
                  · exfalso
                    refine hk ?_
                    obtain ⟨⟨g0, g1, g2, g3, g4⟩, gk⟩ := hgd.resolve_right (fun z => c_205 z.1)|>.2
                    exact ⟨g0, g1, g2, g3, g4, gk 5 (by omega) (by omega), gk 6 (by omega) (by omega), gk 7 (by omega) (by omega), gk 8 (by omega) (by omega)⟩
                  · refine j_ldc X dX11_paper_208 u1089 ?_
                    refine s_iret X hE hr dX11_paper_210 rfl ?_
                    first | exact ⟨rfl, rfl⟩ | (exfalso; clear hE hr hR X; (try simp only [lg_cmp_lt, lg_cmp_gt, lg_cmp_le, lg_cmp_ge] at *); (try simp (disch := omega) only [Int64.le_iff_toInt_le, Int64.lt_iff_toInt_lt, Int32.le_iff_toInt_le, Int32.lt_iff_toInt_lt, fa_eq, fa_lit, fa_litL, nI_toInt, pk_lT, Int32.toInt_toInt64, jadd64, jin, jnoneT] at *); omega)
                · have hk2 : k < 9 := by clear hE hr hR X; (try simp only [lg_cmp_lt, lg_cmp_gt, lg_cmp_le, lg_cmp_ge] at *); (try simp (disch := omega) only [Int64.le_iff_toInt_le, Int64.lt_iff_toInt_lt, Int32.le_iff_toInt_le, Int32.lt_iff_toInt_lt, fa_eq, fa_lit, fa_litL, nI_toInt, pk_lT, Int32.toInt_toInt64, jadd64, jin, jnoneT] at *); omega
                  refine j_iload X dX11_paper_164 rfl ?_
                  refine j_if_eq X 194 dX11_paper_166 (by decide) (fun c_166 => ?_) (fun c_166 => ?_)
                  · refine j_iconst X dX11_paper_194 0 (by decide) ?_
                    refine j_istore X dX11_paper_195 (by decide) ?_
                    refine j_iinc X dX11_paper_197 rfl 1 rfl ?_
                    refine j_goto X 157 dX11_paper_200 (by decide) ?_
                    refine j_lv [some (.ref 66), some (.int (nI s)), some (.int (nI i)), some (.int 0), some (.int (nI (60 * s + i))), some (.int _), some (.int (nI (k + 1)))] ⟨rfl, rfl, rfl, rfl, rfl, rfl, (congrArg (fun z => some (Value.int z)) (nI_1 _)), trivial⟩ ?_
                    exact ih157 (k + 1) _ (by omega) (by omega) (by omega) (by first | exact Or.inl ⟨rfl, (hgd.resolve_right (fun z => c_166 z.1)).2.1, fun q h1 h2 => by rcases Nat.lt_or_ge q k with h3 | h3; exact (hgd.resolve_right (fun z => c_166 z.1)).2.2 q h1 h3; rw [show q = k by omega]; exact c_187⟩ | exact Or.inr ⟨rfl, fun z => c_187 (z.2 k hk5 (by omega))⟩ | exact Or.inr ⟨rfl, fun z => (hgd.resolve_left (fun y => by rw [y.1] at c_166; exact absurd c_166 (by decide))).2 ⟨z.1, fun q h1 h2 => z.2 q h1 (by omega)⟩⟩)
                  · refine j_aload_n X dX11_paper_169 rfl ?_
                    refine j_getR X 11 4 (by decide) (by decide) rfl u954 (o66 np) (k66 np) _ (p66_4 np) dX11_paper_170 ?_
                    refine j_iload X dX11_paper_173 rfl ?_
                    refine j_iload X dX11_paper_175 rfl ?_
                    refine j_iadd X dX11_paper_177 ?_
                    refine j_nrm _ (by first | (simp only [fa_lit, pk_mul, nI_add]; done) | (simp only [fa_lit, pk_mul, nI_add]; rfl) | rfl) ?_
                    refine j_ialdN X (o69 np) (k69 np) (by rw [l69]; omega) (by rw [l69]; decide) (mem 69) rfl dX11_paper_178 ?_
                    refine j_i2l X dX11_paper_179 ?_
                    refine j_lconst X dX11_paper_180 0 (by decide) ?_
                    refine j_ldc2 X dX11_paper_181 u1118 ?_
                    refine s_callSi X hR (m_inI np _ _ _ _ 0 999 rfl rfl) rfl u1087 u1085 u1086 u12 hyX11_in (by decide) (by decide) (Nat.le_of_ble_eq_true rfl) dX11_paper_184 (fun v_184 m_184 h_184 => ?_)
                    obtain ⟨e1, e2⟩ := h_184; have e1 := e1.symm; have e2 := e2.symm; subst e1; subst e2
                    refine j_ifb_eq X 194 dX11_paper_187 (by decide) (fun c_187 => ?_) (fun c_187 => ?_)
                    · refine j_iconst X dX11_paper_194 0 (by decide) ?_
                      refine j_istore X dX11_paper_195 (by decide) ?_
                      refine j_iinc X dX11_paper_197 rfl 1 rfl ?_
                      refine j_goto X 157 dX11_paper_200 (by decide) ?_
                      refine j_lv [some (.ref 66), some (.int (nI s)), some (.int (nI i)), some (.int 0), some (.int (nI (60 * s + i))), some (.int _), some (.int (nI (k + 1)))] ⟨rfl, rfl, rfl, rfl, rfl, rfl, (congrArg (fun z => some (Value.int z)) (nI_1 _)), trivial⟩ ?_
                      exact ih157 (k + 1) _ (by omega) (by omega) (by omega) (by first | exact Or.inl ⟨rfl, (hgd.resolve_right (fun z => c_166 z.1)).2.1, fun q h1 h2 => by rcases Nat.lt_or_ge q k with h3 | h3; exact (hgd.resolve_right (fun z => c_166 z.1)).2.2 q h1 h3; rw [show q = k by omega]; exact c_187⟩ | exact Or.inr ⟨rfl, fun z => c_187 (z.2 k hk5 (by omega))⟩ | exact Or.inr ⟨rfl, fun z => (hgd.resolve_left (fun y => by rw [y.1] at c_166; exact absurd c_166 (by decide))).2 ⟨z.1, fun q h1 h2 => z.2 q h1 (by omega)⟩⟩)
                    · refine j_iconst X dX11_paper_190 1 (by decide) ?_
                      refine j_goto X 195 dX11_paper_191 (by decide) ?_
                      refine j_istore X dX11_paper_195 (by decide) ?_
                      refine j_iinc X dX11_paper_197 rfl 1 rfl ?_
                      refine j_goto X 157 dX11_paper_200 (by decide) ?_
                      refine j_lv [some (.ref 66), some (.int (nI s)), some (.int (nI i)), some (.int 0), some (.int (nI (60 * s + i))), some (.int _), some (.int (nI (k + 1)))] ⟨rfl, rfl, rfl, rfl, rfl, rfl, (congrArg (fun z => some (Value.int z)) (nI_1 _)), trivial⟩ ?_
                      exact ih157 (k + 1) _ (by omega) (by omega) (by omega) (by first | exact Or.inl ⟨rfl, (hgd.resolve_right (fun z => c_166 z.1)).2.1, fun q h1 h2 => by rcases Nat.lt_or_ge q k with h3 | h3; exact (hgd.resolve_right (fun z => c_166 z.1)).2.2 q h1 h3; rw [show q = k by omega]; exact c_187⟩ | exact Or.inr ⟨rfl, fun z => c_187 (z.2 k hk5 (by omega))⟩ | exact Or.inr ⟨rfl, fun z => (hgd.resolve_left (fun y => by rw [y.1] at c_166; exact absurd c_166 (by decide))).2 ⟨z.1, fun q h1 h2 => z.2 q h1 (by omega)⟩⟩)
            refine j_lv [some (.ref 66), some (.int (nI s)), some (.int (nI i)), some (.int 0), some (.int (nI (60 * s + i))), some (.int _), some (.int (nI 5))] ⟨rfl, rfl, rfl, rfl, rfl, rfl, rfl, trivial⟩ ?_
            exact lp157 10 5 _ (by omega) (by omega) (by omega) (by first | exact Or.inl ⟨rfl, ⟨c_60, c_80, c_100, c_115, c_144⟩, fun q h1 h2 => absurd h2 (by omega)⟩ | exact Or.inr ⟨rfl, fun z => c_60 z.1.1⟩ | exact Or.inr ⟨rfl, fun z => c_80 z.1.2.1⟩ | exact Or.inr ⟨rfl, fun z => c_100 z.1.2.2.1⟩ | exact Or.inr ⟨rfl, fun z => c_115 z.1.2.2.2.1⟩ | exact Or.inr ⟨rfl, fun z => c_144 z.1.2.2.2.2⟩)
          · refine j_aload_n X dX11_paper_103 rfl ?_
            refine j_getR X 11 4 (by decide) (by decide) rfl u954 (o66 np) (k66 np) _ (p66_4 np) dX11_paper_104 ?_
            refine j_iload X dX11_paper_107 rfl ?_
            refine j_iconst X dX11_paper_109 3 (by decide) ?_
            refine j_iadd X dX11_paper_110 ?_
            refine j_nrm _ (by first | (simp only [fa_lit, pk_mul, nI_add]; done) | (simp only [fa_lit, pk_mul, nI_add]; rfl) | rfl) ?_
            refine j_ialdN X (o69 np) (k69 np) (by rw [l69]; omega) (by rw [l69]; decide) (mem 69) rfl dX11_paper_111 ?_
            refine s_callSi X hR (m_isDay np _ _) rfl u1117 u1115 u1116 u12 hyX11_isDay (by decide) (by decide) (Nat.le_of_ble_eq_true rfl) dX11_paper_112 (fun v_112 m_112 h_112 => ?_)
            obtain ⟨e1, e2⟩ := h_112; have e1 := e1.symm; have e2 := e2.symm; subst e1; subst e2
            refine j_ifb_eq X 151 dX11_paper_115 (by decide) (fun c_115 => ?_) (fun c_115 => ?_)
            · refine j_iconst X dX11_paper_151 0 (by decide) ?_
              refine j_istore X dX11_paper_152 (by decide) ?_
              refine j_iconst X dX11_paper_154 5 (by decide) ?_
              refine j_istore X dX11_paper_155 (by decide) ?_
              have lp157 : ∀ (n : Nat) (k : Nat) (gd : Int32), 5 ≤ k → k ≤ 9 → 10 ≤ k + n → (gd = 1 ∧ (jin (mem 69 (60 * s + i)) 0 3 ∧ jin (mem 69 (60 * s + i + 1)) 0 5 ∧ jin (mem 69 (60 * s + i + 2)) 0 4 ∧ jin (mem 69 (60 * s + i + 3)) 0 999 ∧ jin (mem 69 (60 * s + i + 4)) (mem 69 (60 * s + i + 3)).toInt 999) ∧ (∀ q, 5 ≤ q → q < k → jin (mem 69 (60 * s + i + q)) 0 999)) ∨ (gd = 0 ∧ ¬ ((jin (mem 69 (60 * s + i)) 0 3 ∧ jin (mem 69 (60 * s + i + 1)) 0 5 ∧ jin (mem 69 (60 * s + i + 2)) 0 4 ∧ jin (mem 69 (60 * s + i + 3)) 0 999 ∧ jin (mem 69 (60 * s + i + 4)) (mem 69 (60 * s + i + 3)).toInt 999) ∧ (∀ q, 5 ≤ q → q < k → jin (mem 69 (60 * s + i + q)) 0 999))) → J G RX11 cX11_paper 7 0 0 157 (jlv [some (.ref 66), some (.int (nI s)), some (.int (nI i)), some (.int 0), some (.int (nI (60 * s + i))), some (.int gd), some (.int (nI k))]) [] (jS np) (jup mem 66 0 0) := by
                intro n
                induction n with
                | zero =>
                  intro k gd hk5 hk9 hn2 hgd
                  exact absurd hn2 (by omega)
                | succ n ih157 =>
                  intro k gd hk5 hk9 hn2 hgd
                  refine j_iload X dX11_paper_157 rfl ?_
                  refine j_bipush X dX11_paper_159 9 (by decide) ?_
                  refine j_icmp_ge X 203 dX11_paper_161 (by decide) (fun c_161 => ?_) (fun c_161 => ?_)
                  · obtain rfl : k = 9 := by clear hE hr hR X; (try simp only [lg_cmp_lt, lg_cmp_gt, lg_cmp_le, lg_cmp_ge] at *); (try simp (disch := omega) only [Int64.le_iff_toInt_le, Int64.lt_iff_toInt_lt, Int32.le_iff_toInt_le, Int32.lt_iff_toInt_lt, fa_eq, fa_lit, fa_litL, nI_toInt, pk_lT, Int32.toInt_toInt64, jadd64, jin, jnoneT] at *); omega
                    refine j_iload X dX11_paper_203 rfl ?_
                    refine j_if_ne X 211 dX11_paper_205 (by decide) (fun c_205 => ?_) (fun c_205 => ?_)
                    · exfalso
                      refine hk ?_
                      obtain ⟨⟨g0, g1, g2, g3, g4⟩, gk⟩ := hgd.resolve_right (fun z => c_205 z.1)|>.2
                      exact ⟨g0, g1, g2, g3, g4, gk 5 (by omega) (by omega), gk 6 (by omega) (by omega), gk 7 (by omega) (by omega), gk 8 (by omega) (by omega)⟩
                    · refine j_ldc X dX11_paper_208 u1089 ?_
                      refine s_iret X hE hr dX11_paper_210 rfl ?_
                      first | exact ⟨rfl, rfl⟩ | (exfalso; clear hE hr hR X; (try simp only [lg_cmp_lt, lg_cmp_gt, lg_cmp_le, lg_cmp_ge] at *); (try simp (disch := omega) only [Int64.le_iff_toInt_le, Int64.lt_iff_toInt_lt, Int32.le_iff_toInt_le, Int32.lt_iff_toInt_lt, fa_eq, fa_lit, fa_litL, nI_toInt, pk_lT, Int32.toInt_toInt64, jadd64, jin, jnoneT] at *); omega)
                  · have hk2 : k < 9 := by clear hE hr hR X; (try simp only [lg_cmp_lt, lg_cmp_gt, lg_cmp_le, lg_cmp_ge] at *); (try simp (disch := omega) only [Int64.le_iff_toInt_le, Int64.lt_iff_toInt_lt, Int32.le_iff_toInt_le, Int32.lt_iff_toInt_lt, fa_eq, fa_lit, fa_litL, nI_toInt, pk_lT, Int32.toInt_toInt64, jadd64, jin, jnoneT] at *); omega
                    refine j_iload X dX11_paper_164 rfl ?_
                    refine j_if_eq X 194 dX11_paper_166 (by decide) (fun c_166 => ?_) (fun c_166 => ?_)
                    · refine j_iconst X dX11_paper_194 0 (by decide) ?_
                      refine j_istore X dX11_paper_195 (by decide) ?_
                      refine j_iinc X dX11_paper_197 rfl 1 rfl ?_
                      refine j_goto X 157 dX11_paper_200 (by decide) ?_
                      refine j_lv [some (.ref 66), some (.int (nI s)), some (.int (nI i)), some (.int 0), some (.int (nI (60 * s + i))), some (.int _), some (.int (nI (k + 1)))] ⟨rfl, rfl, rfl, rfl, rfl, rfl, (congrArg (fun z => some (Value.int z)) (nI_1 _)), trivial⟩ ?_
                      exact ih157 (k + 1) _ (by omega) (by omega) (by omega) (by first | exact Or.inl ⟨rfl, (hgd.resolve_right (fun z => c_166 z.1)).2.1, fun q h1 h2 => by rcases Nat.lt_or_ge q k with h3 | h3; exact (hgd.resolve_right (fun z => c_166 z.1)).2.2 q h1 h3; rw [show q = k by omega]; exact c_187⟩ | exact Or.inr ⟨rfl, fun z => c_187 (z.2 k hk5 (by omega))⟩ | exact Or.inr ⟨rfl, fun z => (hgd.resolve_left (fun y => by rw [y.1] at c_166; exact absurd c_166 (by decide))).2 ⟨z.1, fun q h1 h2 => z.2 q h1 (by omega)⟩⟩)
                    · refine j_aload_n X dX11_paper_169 rfl ?_
                      refine j_getR X 11 4 (by decide) (by decide) rfl u954 (o66 np) (k66 np) _ (p66_4 np) dX11_paper_170 ?_
                      refine j_iload X dX11_paper_173 rfl ?_
                      refine j_iload X dX11_paper_175 rfl ?_
                      refine j_iadd X dX11_paper_177 ?_
                      refine j_nrm _ (by first | (simp only [fa_lit, pk_mul, nI_add]; done) | (simp only [fa_lit, pk_mul, nI_add]; rfl) | rfl) ?_
                      refine j_ialdN X (o69 np) (k69 np) (by rw [l69]; omega) (by rw [l69]; decide) (mem 69) rfl dX11_paper_178 ?_
                      refine j_i2l X dX11_paper_179 ?_
                      refine j_lconst X dX11_paper_180 0 (by decide) ?_
                      refine j_ldc2 X dX11_paper_181 u1118 ?_
                      refine s_callSi X hR (m_inI np _ _ _ _ 0 999 rfl rfl) rfl u1087 u1085 u1086 u12 hyX11_in (by decide) (by decide) (Nat.le_of_ble_eq_true rfl) dX11_paper_184 (fun v_184 m_184 h_184 => ?_)
                      obtain ⟨e1, e2⟩ := h_184; have e1 := e1.symm; have e2 := e2.symm; subst e1; subst e2
                      refine j_ifb_eq X 194 dX11_paper_187 (by decide) (fun c_187 => ?_) (fun c_187 => ?_)
                      · refine j_iconst X dX11_paper_194 0 (by decide) ?_
                        refine j_istore X dX11_paper_195 (by decide) ?_
                        refine j_iinc X dX11_paper_197 rfl 1 rfl ?_
                        refine j_goto X 157 dX11_paper_200 (by decide) ?_
                        refine j_lv [some (.ref 66), some (.int (nI s)), some (.int (nI i)), some (.int 0), some (.int (nI (60 * s + i))), some (.int _), some (.int (nI (k + 1)))] ⟨rfl, rfl, rfl, rfl, rfl, rfl, (congrArg (fun z => some (Value.int z)) (nI_1 _)), trivial⟩ ?_
                        exact ih157 (k + 1) _ (by omega) (by omega) (by omega) (by first | exact Or.inl ⟨rfl, (hgd.resolve_right (fun z => c_166 z.1)).2.1, fun q h1 h2 => by rcases Nat.lt_or_ge q k with h3 | h3; exact (hgd.resolve_right (fun z => c_166 z.1)).2.2 q h1 h3; rw [show q = k by omega]; exact c_187⟩ | exact Or.inr ⟨rfl, fun z => c_187 (z.2 k hk5 (by omega))⟩ | exact Or.inr ⟨rfl, fun z => (hgd.resolve_left (fun y => by rw [y.1] at c_166; exact absurd c_166 (by decide))).2 ⟨z.1, fun q h1 h2 => z.2 q h1 (by omega)⟩⟩)
                      · refine j_iconst X dX11_paper_190 1 (by decide) ?_
                        refine j_goto X 195 dX11_paper_191 (by decide) ?_
                        refine j_istore X dX11_paper_195 (by decide) ?_
                        refine j_iinc X dX11_paper_197 rfl 1 rfl ?_
                        refine j_goto X 157 dX11_paper_200 (by decide) ?_
                        refine j_lv [some (.ref 66), some (.int (nI s)), some (.int (nI i)), some (.int 0), some (.int (nI (60 * s + i))), some (.int _), some (.int (nI (k + 1)))] ⟨rfl, rfl, rfl, rfl, rfl, rfl, (congrArg (fun z => some (Value.int z)) (nI_1 _)), trivial⟩ ?_
                        exact ih157 (k + 1) _ (by omega) (by omega) (by omega) (by first | exact Or.inl ⟨rfl, (hgd.resolve_right (fun z => c_166 z.1)).2.1, fun q h1 h2 => by rcases Nat.lt_or_ge q k with h3 | h3; exact (hgd.resolve_right (fun z => c_166 z.1)).2.2 q h1 h3; rw [show q = k by omega]; exact c_187⟩ | exact Or.inr ⟨rfl, fun z => c_187 (z.2 k hk5 (by omega))⟩ | exact Or.inr ⟨rfl, fun z => (hgd.resolve_left (fun y => by rw [y.1] at c_166; exact absurd c_166 (by decide))).2 ⟨z.1, fun q h1 h2 => z.2 q h1 (by omega)⟩⟩)
              refine j_lv [some (.ref 66), some (.int (nI s)), some (.int (nI i)), some (.int 0), some (.int (nI (60 * s + i))), some (.int _), some (.int (nI 5))] ⟨rfl, rfl, rfl, rfl, rfl, rfl, rfl, trivial⟩ ?_
              exact lp157 10 5 _ (by omega) (by omega) (by omega) (by first | exact Or.inl ⟨rfl, ⟨c_60, c_80, c_100, c_115, c_144⟩, fun q h1 h2 => absurd h2 (by omega)⟩ | exact Or.inr ⟨rfl, fun z => c_60 z.1.1⟩ | exact Or.inr ⟨rfl, fun z => c_80 z.1.2.1⟩ | exact Or.inr ⟨rfl, fun z => c_100 z.1.2.2.1⟩ | exact Or.inr ⟨rfl, fun z => c_115 z.1.2.2.2.1⟩ | exact Or.inr ⟨rfl, fun z => c_144 z.1.2.2.2.2⟩)
            · refine j_aload_n X dX11_paper_118 rfl ?_
              refine j_getR X 11 4 (by decide) (by decide) rfl u954 (o66 np) (k66 np) _ (p66_4 np) dX11_paper_119 ?_
              refine j_iload X dX11_paper_122 rfl ?_
              refine j_iconst X dX11_paper_124 4 (by decide) ?_
              refine j_iadd X dX11_paper_125 ?_
              refine j_nrm _ (by first | (simp only [fa_lit, pk_mul, nI_add]; done) | (simp only [fa_lit, pk_mul, nI_add]; rfl) | rfl) ?_
              refine j_ialdN X (o69 np) (k69 np) (by rw [l69]; omega) (by rw [l69]; decide) (mem 69) rfl dX11_paper_126 ?_
              refine j_i2l X dX11_paper_127 ?_
              refine j_aload_n X dX11_paper_128 rfl ?_
              refine j_getR X 11 4 (by decide) (by decide) rfl u954 (o66 np) (k66 np) _ (p66_4 np) dX11_paper_129 ?_
              refine j_iload X dX11_paper_132 rfl ?_
              refine j_iconst X dX11_paper_134 3 (by decide) ?_
              refine j_iadd X dX11_paper_135 ?_
              refine j_nrm _ (by first | (simp only [fa_lit, pk_mul, nI_add]; done) | (simp only [fa_lit, pk_mul, nI_add]; rfl) | rfl) ?_
              refine j_ialdN X (o69 np) (k69 np) (by rw [l69]; omega) (by rw [l69]; decide) (mem 69) rfl dX11_paper_136 ?_
              refine j_i2l X dX11_paper_137 ?_
              refine j_ldc2 X dX11_paper_138 u1118 ?_
              refine s_callSi X hR (m_inI np _ _ _ _ (mem 69 (60 * s + i + 3)).toInt 999 (Int32.toInt_toInt64 _) rfl) rfl u1087 u1085 u1086 u12 hyX11_in (by decide) (by decide) (Nat.le_of_ble_eq_true rfl) dX11_paper_141 (fun v_141 m_141 h_141 => ?_)
              obtain ⟨e1, e2⟩ := h_141; have e1 := e1.symm; have e2 := e2.symm; subst e1; subst e2
              refine j_ifb_eq X 151 dX11_paper_144 (by decide) (fun c_144 => ?_) (fun c_144 => ?_)
              · refine j_iconst X dX11_paper_151 0 (by decide) ?_
                refine j_istore X dX11_paper_152 (by decide) ?_
                refine j_iconst X dX11_paper_154 5 (by decide) ?_
                refine j_istore X dX11_paper_155 (by decide) ?_
                have lp157 : ∀ (n : Nat) (k : Nat) (gd : Int32), 5 ≤ k → k ≤ 9 → 10 ≤ k + n → (gd = 1 ∧ (jin (mem 69 (60 * s + i)) 0 3 ∧ jin (mem 69 (60 * s + i + 1)) 0 5 ∧ jin (mem 69 (60 * s + i + 2)) 0 4 ∧ jin (mem 69 (60 * s + i + 3)) 0 999 ∧ jin (mem 69 (60 * s + i + 4)) (mem 69 (60 * s + i + 3)).toInt 999) ∧ (∀ q, 5 ≤ q → q < k → jin (mem 69 (60 * s + i + q)) 0 999)) ∨ (gd = 0 ∧ ¬ ((jin (mem 69 (60 * s + i)) 0 3 ∧ jin (mem 69 (60 * s + i + 1)) 0 5 ∧ jin (mem 69 (60 * s + i + 2)) 0 4 ∧ jin (mem 69 (60 * s + i + 3)) 0 999 ∧ jin (mem 69 (60 * s + i + 4)) (mem 69 (60 * s + i + 3)).toInt 999) ∧ (∀ q, 5 ≤ q → q < k → jin (mem 69 (60 * s + i + q)) 0 999))) → J G RX11 cX11_paper 7 0 0 157 (jlv [some (.ref 66), some (.int (nI s)), some (.int (nI i)), some (.int 0), some (.int (nI (60 * s + i))), some (.int gd), some (.int (nI k))]) [] (jS np) (jup mem 66 0 0) := by
                  intro n
                  induction n with
                  | zero =>
                    intro k gd hk5 hk9 hn2 hgd
                    exact absurd hn2 (by omega)
                  | succ n ih157 =>
                    intro k gd hk5 hk9 hn2 hgd
                    refine j_iload X dX11_paper_157 rfl ?_
                    refine j_bipush X dX11_paper_159 9 (by decide) ?_
                    refine j_icmp_ge X 203 dX11_paper_161 (by decide) (fun c_161 => ?_) (fun c_161 => ?_)
                    · obtain rfl : k = 9 := by clear hE hr hR X; (try simp only [lg_cmp_lt, lg_cmp_gt, lg_cmp_le, lg_cmp_ge] at *); (try simp (disch := omega) only [Int64.le_iff_toInt_le, Int64.lt_iff_toInt_lt, Int32.le_iff_toInt_le, Int32.lt_iff_toInt_lt, fa_eq, fa_lit, fa_litL, nI_toInt, pk_lT, Int32.toInt_toInt64, jadd64, jin, jnoneT] at *); omega
                      refine j_iload X dX11_paper_203 rfl ?_
                      refine j_if_ne X 211 dX11_paper_205 (by decide) (fun c_205 => ?_) (fun c_205 => ?_)
                      · exfalso
                        refine hk ?_
                        obtain ⟨⟨g0, g1, g2, g3, g4⟩, gk⟩ := hgd.resolve_right (fun z => c_205 z.1)|>.2
                        exact ⟨g0, g1, g2, g3, g4, gk 5 (by omega) (by omega), gk 6 (by omega) (by omega), gk 7 (by omega) (by omega), gk 8 (by omega) (by omega)⟩
                      · refine j_ldc X dX11_paper_208 u1089 ?_
                        refine s_iret X hE hr dX11_paper_210 rfl ?_
                        first | exact ⟨rfl, rfl⟩ | (exfalso; clear hE hr hR X; (try simp only [lg_cmp_lt, lg_cmp_gt, lg_cmp_le, lg_cmp_ge] at *); (try simp (disch := omega) only [Int64.le_iff_toInt_le, Int64.lt_iff_toInt_lt, Int32.le_iff_toInt_le, Int32.lt_iff_toInt_lt, fa_eq, fa_lit, fa_litL, nI_toInt, pk_lT, Int32.toInt_toInt64, jadd64, jin, jnoneT] at *); omega)
                    · have hk2 : k < 9 := by clear hE hr hR X; (try simp only [lg_cmp_lt, lg_cmp_gt, lg_cmp_le, lg_cmp_ge] at *); (try simp (disch := omega) only [Int64.le_iff_toInt_le, Int64.lt_iff_toInt_lt, Int32.le_iff_toInt_le, Int32.lt_iff_toInt_lt, fa_eq, fa_lit, fa_litL, nI_toInt, pk_lT, Int32.toInt_toInt64, jadd64, jin, jnoneT] at *); omega
                      refine j_iload X dX11_paper_164 rfl ?_
                      refine j_if_eq X 194 dX11_paper_166 (by decide) (fun c_166 => ?_) (fun c_166 => ?_)
                      · refine j_iconst X dX11_paper_194 0 (by decide) ?_
                        refine j_istore X dX11_paper_195 (by decide) ?_
                        refine j_iinc X dX11_paper_197 rfl 1 rfl ?_
                        refine j_goto X 157 dX11_paper_200 (by decide) ?_
                        refine j_lv [some (.ref 66), some (.int (nI s)), some (.int (nI i)), some (.int 0), some (.int (nI (60 * s + i))), some (.int _), some (.int (nI (k + 1)))] ⟨rfl, rfl, rfl, rfl, rfl, rfl, (congrArg (fun z => some (Value.int z)) (nI_1 _)), trivial⟩ ?_
                        exact ih157 (k + 1) _ (by omega) (by omega) (by omega) (by first | exact Or.inl ⟨rfl, (hgd.resolve_right (fun z => c_166 z.1)).2.1, fun q h1 h2 => by rcases Nat.lt_or_ge q k with h3 | h3; exact (hgd.resolve_right (fun z => c_166 z.1)).2.2 q h1 h3; rw [show q = k by omega]; exact c_187⟩ | exact Or.inr ⟨rfl, fun z => c_187 (z.2 k hk5 (by omega))⟩ | exact Or.inr ⟨rfl, fun z => (hgd.resolve_left (fun y => by rw [y.1] at c_166; exact absurd c_166 (by decide))).2 ⟨z.1, fun q h1 h2 => z.2 q h1 (by omega)⟩⟩)
                      · refine j_aload_n X dX11_paper_169 rfl ?_
                        refine j_getR X 11 4 (by decide) (by decide) rfl u954 (o66 np) (k66 np) _ (p66_4 np) dX11_paper_170 ?_
                        refine j_iload X dX11_paper_173 rfl ?_
                        refine j_iload X dX11_paper_175 rfl ?_
                        refine j_iadd X dX11_paper_177 ?_
                        refine j_nrm _ (by first | (simp only [fa_lit, pk_mul, nI_add]; done) | (simp only [fa_lit, pk_mul, nI_add]; rfl) | rfl) ?_
                        refine j_ialdN X (o69 np) (k69 np) (by rw [l69]; omega) (by rw [l69]; decide) (mem 69) rfl dX11_paper_178 ?_
                        refine j_i2l X dX11_paper_179 ?_
                        refine j_lconst X dX11_paper_180 0 (by decide) ?_
                        refine j_ldc2 X dX11_paper_181 u1118 ?_
                        refine s_callSi X hR (m_inI np _ _ _ _ 0 999 rfl rfl) rfl u1087 u1085 u1086 u12 hyX11_in (by decide) (by decide) (Nat.le_of_ble_eq_true rfl) dX11_paper_184 (fun v_184 m_184 h_184 => ?_)
                        obtain ⟨e1, e2⟩ := h_184; have e1 := e1.symm; have e2 := e2.symm; subst e1; subst e2
                        refine j_ifb_eq X 194 dX11_paper_187 (by decide) (fun c_187 => ?_) (fun c_187 => ?_)
                        · refine j_iconst X dX11_paper_194 0 (by decide) ?_
                          refine j_istore X dX11_paper_195 (by decide) ?_
                          refine j_iinc X dX11_paper_197 rfl 1 rfl ?_
                          refine j_goto X 157 dX11_paper_200 (by decide) ?_
                          refine j_lv [some (.ref 66), some (.int (nI s)), some (.int (nI i)), some (.int 0), some (.int (nI (60 * s + i))), some (.int _), some (.int (nI (k + 1)))] ⟨rfl, rfl, rfl, rfl, rfl, rfl, (congrArg (fun z => some (Value.int z)) (nI_1 _)), trivial⟩ ?_
                          exact ih157 (k + 1) _ (by omega) (by omega) (by omega) (by first | exact Or.inl ⟨rfl, (hgd.resolve_right (fun z => c_166 z.1)).2.1, fun q h1 h2 => by rcases Nat.lt_or_ge q k with h3 | h3; exact (hgd.resolve_right (fun z => c_166 z.1)).2.2 q h1 h3; rw [show q = k by omega]; exact c_187⟩ | exact Or.inr ⟨rfl, fun z => c_187 (z.2 k hk5 (by omega))⟩ | exact Or.inr ⟨rfl, fun z => (hgd.resolve_left (fun y => by rw [y.1] at c_166; exact absurd c_166 (by decide))).2 ⟨z.1, fun q h1 h2 => z.2 q h1 (by omega)⟩⟩)
                        · refine j_iconst X dX11_paper_190 1 (by decide) ?_
                          refine j_goto X 195 dX11_paper_191 (by decide) ?_
                          refine j_istore X dX11_paper_195 (by decide) ?_
                          refine j_iinc X dX11_paper_197 rfl 1 rfl ?_
                          refine j_goto X 157 dX11_paper_200 (by decide) ?_
                          refine j_lv [some (.ref 66), some (.int (nI s)), some (.int (nI i)), some (.int 0), some (.int (nI (60 * s + i))), some (.int _), some (.int (nI (k + 1)))] ⟨rfl, rfl, rfl, rfl, rfl, rfl, (congrArg (fun z => some (Value.int z)) (nI_1 _)), trivial⟩ ?_
                          exact ih157 (k + 1) _ (by omega) (by omega) (by omega) (by first | exact Or.inl ⟨rfl, (hgd.resolve_right (fun z => c_166 z.1)).2.1, fun q h1 h2 => by rcases Nat.lt_or_ge q k with h3 | h3; exact (hgd.resolve_right (fun z => c_166 z.1)).2.2 q h1 h3; rw [show q = k by omega]; exact c_187⟩ | exact Or.inr ⟨rfl, fun z => c_187 (z.2 k hk5 (by omega))⟩ | exact Or.inr ⟨rfl, fun z => (hgd.resolve_left (fun y => by rw [y.1] at c_166; exact absurd c_166 (by decide))).2 ⟨z.1, fun q h1 h2 => z.2 q h1 (by omega)⟩⟩)
                refine j_lv [some (.ref 66), some (.int (nI s)), some (.int (nI i)), some (.int 0), some (.int (nI (60 * s + i))), some (.int _), some (.int (nI 5))] ⟨rfl, rfl, rfl, rfl, rfl, rfl, rfl, trivial⟩ ?_
                exact lp157 10 5 _ (by omega) (by omega) (by omega) (by first | exact Or.inl ⟨rfl, ⟨c_60, c_80, c_100, c_115, c_144⟩, fun q h1 h2 => absurd h2 (by omega)⟩ | exact Or.inr ⟨rfl, fun z => c_60 z.1.1⟩ | exact Or.inr ⟨rfl, fun z => c_80 z.1.2.1⟩ | exact Or.inr ⟨rfl, fun z => c_100 z.1.2.2.1⟩ | exact Or.inr ⟨rfl, fun z => c_115 z.1.2.2.2.1⟩ | exact Or.inr ⟨rfl, fun z => c_144 z.1.2.2.2.2⟩)
              · refine j_iconst X dX11_paper_147 1 (by decide) ?_
                refine j_goto X 152 dX11_paper_148 (by decide) ?_
                refine j_istore X dX11_paper_152 (by decide) ?_
                refine j_iconst X dX11_paper_154 5 (by decide) ?_
                refine j_istore X dX11_paper_155 (by decide) ?_
                have lp157 : ∀ (n : Nat) (k : Nat) (gd : Int32), 5 ≤ k → k ≤ 9 → 10 ≤ k + n → (gd = 1 ∧ (jin (mem 69 (60 * s + i)) 0 3 ∧ jin (mem 69 (60 * s + i + 1)) 0 5 ∧ jin (mem 69 (60 * s + i + 2)) 0 4 ∧ jin (mem 69 (60 * s + i + 3)) 0 999 ∧ jin (mem 69 (60 * s + i + 4)) (mem 69 (60 * s + i + 3)).toInt 999) ∧ (∀ q, 5 ≤ q → q < k → jin (mem 69 (60 * s + i + q)) 0 999)) ∨ (gd = 0 ∧ ¬ ((jin (mem 69 (60 * s + i)) 0 3 ∧ jin (mem 69 (60 * s + i + 1)) 0 5 ∧ jin (mem 69 (60 * s + i + 2)) 0 4 ∧ jin (mem 69 (60 * s + i + 3)) 0 999 ∧ jin (mem 69 (60 * s + i + 4)) (mem 69 (60 * s + i + 3)).toInt 999) ∧ (∀ q, 5 ≤ q → q < k → jin (mem 69 (60 * s + i + q)) 0 999))) → J G RX11 cX11_paper 7 0 0 157 (jlv [some (.ref 66), some (.int (nI s)), some (.int (nI i)), some (.int 0), some (.int (nI (60 * s + i))), some (.int gd), some (.int (nI k))]) [] (jS np) (jup mem 66 0 0) := by
                  intro n
                  induction n with
                  | zero =>
                    intro k gd hk5 hk9 hn2 hgd
                    exact absurd hn2 (by omega)
                  | succ n ih157 =>
                    intro k gd hk5 hk9 hn2 hgd
                    refine j_iload X dX11_paper_157 rfl ?_
                    refine j_bipush X dX11_paper_159 9 (by decide) ?_
                    refine j_icmp_ge X 203 dX11_paper_161 (by decide) (fun c_161 => ?_) (fun c_161 => ?_)
                    · obtain rfl : k = 9 := by clear hE hr hR X; (try simp only [lg_cmp_lt, lg_cmp_gt, lg_cmp_le, lg_cmp_ge] at *); (try simp (disch := omega) only [Int64.le_iff_toInt_le, Int64.lt_iff_toInt_lt, Int32.le_iff_toInt_le, Int32.lt_iff_toInt_lt, fa_eq, fa_lit, fa_litL, nI_toInt, pk_lT, Int32.toInt_toInt64, jadd64, jin, jnoneT] at *); omega
                      refine j_iload X dX11_paper_203 rfl ?_
                      refine j_if_ne X 211 dX11_paper_205 (by decide) (fun c_205 => ?_) (fun c_205 => ?_)
                      · exfalso
                        refine hk ?_
                        obtain ⟨⟨g0, g1, g2, g3, g4⟩, gk⟩ := hgd.resolve_right (fun z => c_205 z.1)|>.2
                        exact ⟨g0, g1, g2, g3, g4, gk 5 (by omega) (by omega), gk 6 (by omega) (by omega), gk 7 (by omega) (by omega), gk 8 (by omega) (by omega)⟩
                      · refine j_ldc X dX11_paper_208 u1089 ?_
                        refine s_iret X hE hr dX11_paper_210 rfl ?_
                        first | exact ⟨rfl, rfl⟩ | (exfalso; clear hE hr hR X; (try simp only [lg_cmp_lt, lg_cmp_gt, lg_cmp_le, lg_cmp_ge] at *); (try simp (disch := omega) only [Int64.le_iff_toInt_le, Int64.lt_iff_toInt_lt, Int32.le_iff_toInt_le, Int32.lt_iff_toInt_lt, fa_eq, fa_lit, fa_litL, nI_toInt, pk_lT, Int32.toInt_toInt64, jadd64, jin, jnoneT] at *); omega)
                    · have hk2 : k < 9 := by clear hE hr hR X; (try simp only [lg_cmp_lt, lg_cmp_gt, lg_cmp_le, lg_cmp_ge] at *); (try simp (disch := omega) only [Int64.le_iff_toInt_le, Int64.lt_iff_toInt_lt, Int32.le_iff_toInt_le, Int32.lt_iff_toInt_lt, fa_eq, fa_lit, fa_litL, nI_toInt, pk_lT, Int32.toInt_toInt64, jadd64, jin, jnoneT] at *); omega
                      refine j_iload X dX11_paper_164 rfl ?_
                      refine j_if_eq X 194 dX11_paper_166 (by decide) (fun c_166 => ?_) (fun c_166 => ?_)
                      · refine j_iconst X dX11_paper_194 0 (by decide) ?_
                        refine j_istore X dX11_paper_195 (by decide) ?_
                        refine j_iinc X dX11_paper_197 rfl 1 rfl ?_
                        refine j_goto X 157 dX11_paper_200 (by decide) ?_
                        refine j_lv [some (.ref 66), some (.int (nI s)), some (.int (nI i)), some (.int 0), some (.int (nI (60 * s + i))), some (.int _), some (.int (nI (k + 1)))] ⟨rfl, rfl, rfl, rfl, rfl, rfl, (congrArg (fun z => some (Value.int z)) (nI_1 _)), trivial⟩ ?_
                        exact ih157 (k + 1) _ (by omega) (by omega) (by omega) (by first | exact Or.inl ⟨rfl, (hgd.resolve_right (fun z => c_166 z.1)).2.1, fun q h1 h2 => by rcases Nat.lt_or_ge q k with h3 | h3; exact (hgd.resolve_right (fun z => c_166 z.1)).2.2 q h1 h3; rw [show q = k by omega]; exact c_187⟩ | exact Or.inr ⟨rfl, fun z => c_187 (z.2 k hk5 (by omega))⟩ | exact Or.inr ⟨rfl, fun z => (hgd.resolve_left (fun y => by rw [y.1] at c_166; exact absurd c_166 (by decide))).2 ⟨z.1, fun q h1 h2 => z.2 q h1 (by omega)⟩⟩)
                      · refine j_aload_n X dX11_paper_169 rfl ?_
                        refine j_getR X 11 4 (by decide) (by decide) rfl u954 (o66 np) (k66 np) _ (p66_4 np) dX11_paper_170 ?_
                        refine j_iload X dX11_paper_173 rfl ?_
                        refine j_iload X dX11_paper_175 rfl ?_
                        refine j_iadd X dX11_paper_177 ?_
                        refine j_nrm _ (by first | (simp only [fa_lit, pk_mul, nI_add]; done) | (simp only [fa_lit, pk_mul, nI_add]; rfl) | rfl) ?_
                        refine j_ialdN X (o69 np) (k69 np) (by rw [l69]; omega) (by rw [l69]; decide) (mem 69) rfl dX11_paper_178 ?_
                        refine j_i2l X dX11_paper_179 ?_
                        refine j_lconst X dX11_paper_180 0 (by decide) ?_
                        refine j_ldc2 X dX11_paper_181 u1118 ?_
                        refine s_callSi X hR (m_inI np _ _ _ _ 0 999 rfl rfl) rfl u1087 u1085 u1086 u12 hyX11_in (by decide) (by decide) (Nat.le_of_ble_eq_true rfl) dX11_paper_184 (fun v_184 m_184 h_184 => ?_)
                        obtain ⟨e1, e2⟩ := h_184; have e1 := e1.symm; have e2 := e2.symm; subst e1; subst e2
                        refine j_ifb_eq X 194 dX11_paper_187 (by decide) (fun c_187 => ?_) (fun c_187 => ?_)
                        · refine j_iconst X dX11_paper_194 0 (by decide) ?_
                          refine j_istore X dX11_paper_195 (by decide) ?_
                          refine j_iinc X dX11_paper_197 rfl 1 rfl ?_
                          refine j_goto X 157 dX11_paper_200 (by decide) ?_
                          refine j_lv [some (.ref 66), some (.int (nI s)), some (.int (nI i)), some (.int 0), some (.int (nI (60 * s + i))), some (.int _), some (.int (nI (k + 1)))] ⟨rfl, rfl, rfl, rfl, rfl, rfl, (congrArg (fun z => some (Value.int z)) (nI_1 _)), trivial⟩ ?_
                          exact ih157 (k + 1) _ (by omega) (by omega) (by omega) (by first | exact Or.inl ⟨rfl, (hgd.resolve_right (fun z => c_166 z.1)).2.1, fun q h1 h2 => by rcases Nat.lt_or_ge q k with h3 | h3; exact (hgd.resolve_right (fun z => c_166 z.1)).2.2 q h1 h3; rw [show q = k by omega]; exact c_187⟩ | exact Or.inr ⟨rfl, fun z => c_187 (z.2 k hk5 (by omega))⟩ | exact Or.inr ⟨rfl, fun z => (hgd.resolve_left (fun y => by rw [y.1] at c_166; exact absurd c_166 (by decide))).2 ⟨z.1, fun q h1 h2 => z.2 q h1 (by omega)⟩⟩)
                        · refine j_iconst X dX11_paper_190 1 (by decide) ?_
                          refine j_goto X 195 dX11_paper_191 (by decide) ?_
                          refine j_istore X dX11_paper_195 (by decide) ?_
                          refine j_iinc X dX11_paper_197 rfl 1 rfl ?_
                          refine j_goto X 157 dX11_paper_200 (by decide) ?_
                          refine j_lv [some (.ref 66), some (.int (nI s)), some (.int (nI i)), some (.int 0), some (.int (nI (60 * s + i))), some (.int _), some (.int (nI (k + 1)))] ⟨rfl, rfl, rfl, rfl, rfl, rfl, (congrArg (fun z => some (Value.int z)) (nI_1 _)), trivial⟩ ?_
                          exact ih157 (k + 1) _ (by omega) (by omega) (by omega) (by first | exact Or.inl ⟨rfl, (hgd.resolve_right (fun z => c_166 z.1)).2.1, fun q h1 h2 => by rcases Nat.lt_or_ge q k with h3 | h3; exact (hgd.resolve_right (fun z => c_166 z.1)).2.2 q h1 h3; rw [show q = k by omega]; exact c_187⟩ | exact Or.inr ⟨rfl, fun z => c_187 (z.2 k hk5 (by omega))⟩ | exact Or.inr ⟨rfl, fun z => (hgd.resolve_left (fun y => by rw [y.1] at c_166; exact absurd c_166 (by decide))).2 ⟨z.1, fun q h1 h2 => z.2 q h1 (by omega)⟩⟩)
                refine j_lv [some (.ref 66), some (.int (nI s)), some (.int (nI i)), some (.int 0), some (.int (nI (60 * s + i))), some (.int _), some (.int (nI 5))] ⟨rfl, rfl, rfl, rfl, rfl, rfl, rfl, trivial⟩ ?_
                exact lp157 10 5 _ (by omega) (by omega) (by omega) (by first | exact Or.inl ⟨rfl, ⟨c_60, c_80, c_100, c_115, c_144⟩, fun q h1 h2 => absurd h2 (by omega)⟩ | exact Or.inr ⟨rfl, fun z => c_60 z.1.1⟩ | exact Or.inr ⟨rfl, fun z => c_80 z.1.2.1⟩ | exact Or.inr ⟨rfl, fun z => c_100 z.1.2.2.1⟩ | exact Or.inr ⟨rfl, fun z => c_115 z.1.2.2.2.1⟩ | exact Or.inr ⟨rfl, fun z => c_144 z.1.2.2.2.2⟩)
    · exact absurd (c_21.symm.trans hp) (by rw [fa_lit, nI_eq (by omega) (by omega)]; omega)
  · exfalso
    clear hE hr hR X
    (try simp only [lg_cmp_lt, lg_cmp_gt, lg_cmp_le, lg_cmp_ge] at *); (try simp (disch := omega) only [Int64.le_iff_toInt_le, Int64.lt_iff_toInt_lt, Int32.le_iff_toInt_le, Int32.lt_iff_toInt_lt, fa_eq, fa_lit, fa_litL, nI_toInt, pk_lT, Int32.toInt_toInt64, jadd64, jin, jnoneT] at *); omega
