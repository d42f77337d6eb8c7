set_option maxRecDepth 4000 in
set_option maxHeartbeats 1000000 in
theorem m_paperS (np : Nat) (mem : jMem) (cn s i z : Nat) (hs : s < 8) (hn : cn < 12) (hp : mem 66 9 = nI cn) (hl : 0 ≤ (mem 67 s).toInt) (hz : z ≤ 60) (hm : mem 68 s = nI z) (hi : i + 9 ≤ z) (hk : jPok (mem 69) (60 * s + i)) : jPi yX11_paper cX11_paper 7 .int 3 [.ref 66, .int (nI s), .int (nI i)] np mem (fun v c => v = nI cn ∧ c = jup (jcpr (jup (jup mem 66 0 0) 66 1 0) 69 74 (60 * s + i) (9 * cn) 9) 66 9 (nI (cn + 1))) := by
  refine jPi.of (own := RX11) rfl rfl (Nat.le_of_ble_eq_true rfl) (fun G X hR hr hE => ?_)
  refine j_aload_n X dX11_paper_0 rfl ?_
  refine j_iconst X dX11_paper_1 0 (by decide) ?_
  refine j_putI X 11 0 (by decide) (by decide) rfl rfl rfl rfl u950 (o66 np) (k66 np) dX11_paper_2 ?_
  refine j_iload_n X dX11_paper_5 rfl ?_
  refine s_callSi X hR (m_isSheet np _ _) rfl u1083 u1081 u1082 u12 hyX11_isSheet (by decide) (by decide) (Nat.le_of_ble_eq_true rfl) dX11_paper_6 (fun v_6 m_6 h_6 => ?_)
  obtain ⟨e1, e2⟩ := h_6; have e1 := e1.symm; have e2 := e2.symm; subst e1; subst e2
  refine j_ifb_ne X 15 dX11_paper_9 (by decide) (fun c_9 => ?_) (fun c_9 => ?_)
  · refine j_aload_n X dX11_paper_15 rfl ?_
    refine j_getF X 11 9 (by decide) (by decide) rfl u959 (o66 np) (k66 np) _ rfl dX11_paper_16 ?_
    refine j_bipush X dX11_paper_19 12 (by decide) ?_
    refine j_icmp_ne X 27 dX11_paper_21 (by decide) (fun c_21 => ?_) (fun c_21 => ?_)
    · refine j_aload_n X dX11_paper_27 rfl ?_
      refine j_iload_n X dX11_paper_28 rfl ?_
      refine j_iload_n X dX11_paper_29 rfl ?_
      refine j_bipush X dX11_paper_30 9 (by decide) ?_
      refine s_callVi X hR (m_look np _ s (nI i) 9 hs hl (by rw [show (jup mem 66 0 0) 68 s = nI z from hm, nI_toInt (by omega), nI_toInt (by omega)]; show (0 : Int) ≤ i ∧ (i : Int) + 9 ≤ z; omega)) rfl 11 (by decide) (o66 np) (k66 np) rfl u1141 u1138 u1140 qp38 u12 hyX11_lookItems (by decide) (by decide) (Nat.le_of_ble_eq_true rfl) dX11_paper_32 (fun v_32 m_32 h_32 => ?_)
      obtain ⟨e1, e2⟩ := h_32; have e1 := e1.symm; have e2 := e2.symm; subst e1; subst e2
      refine j_istore_n X dX11_paper_35 (by decide) ?_
      refine j_iload_n X dX11_paper_36 rfl ?_
      refine j_if_ge X 42 dX11_paper_37 (by decide) (fun c_37 => ?_) (fun c_37 => absurd c_37 (by decide))
      refine j_bipush X dX11_paper_42 60 (by decide) ?_
      refine j_iload_n X dX11_paper_44 rfl ?_
      refine j_imul X dX11_paper_45 ?_
      refine j_iload_n X dX11_paper_46 rfl ?_
      refine j_iadd X dX11_paper_47 ?_
      refine j_nrm (nI (60 * s + i)) (by simp only [fa_lit, pk_mul, nI_add]) ?_
      refine j_istore X dX11_paper_48 (by decide) ?_
      refine j_aload_n X dX11_paper_50 rfl ?_
      refine j_getR X 11 4 (by decide) (by decide) rfl u954 (o66 np) (k66 np) _ (p66_4 np) dX11_paper_51 ?_
      refine j_iload X dX11_paper_54 rfl ?_
      refine j_nrm _ (by first | (simp only [fa_lit, pk_mul, nI_add]; done) | (simp only [fa_lit, pk_mul, nI_add]; rfl) | rfl) ?_
      refine j_ialdN X (o69 np) (k69 np) (by rw [l69]; omega) (by rw [l69]; decide) (mem 69) rfl dX11_paper_56 ?_
      refine s_callSi X hR (m_isOffice np _ _) rfl u1113 u1111 u1112 u12 hyX11_isOffice (by decide) (by decide) (Nat.le_of_ble_eq_true rfl) dX11_paper_57 (fun v_57 m_57 h_57 => ?_)
      obtain ⟨e1, e2⟩ := h_57; have e1 := e1.symm; have e2 := e2.symm; subst e1; subst e2
      refine j_ifb_eq X 151 dX11_paper_60 (by decide) (fun c_60 => ?_) (fun c_60 => ?_)
      · exfalso
        clear hE hr hR X
        obtain ⟨g0, g1, g2, g3, g4, -⟩ := hk
        first | exact c_60 g0 | exact c_80 g1 | exact c_100 g2 | exact c_115 g3 | exact c_144 g4
      · refine j_aload_n X dX11_paper_63 rfl ?_
        refine j_getR X 11 4 (by decide) (by decide) rfl u954 (o66 np) (k66 np) _ (p66_4 np) dX11_paper_64 ?_
        refine j_iload X dX11_paper_67 rfl ?_
        refine j_iconst X dX11_paper_69 1 (by decide) ?_
        refine j_iadd X dX11_paper_70 ?_
        refine j_nrm _ (by first | (simp only [fa_lit, pk_mul, nI_add]; done) | (simp only [fa_lit, pk_mul, nI_add]; rfl) | rfl) ?_
        refine j_ialdN X (o69 np) (k69 np) (by rw [l69]; omega) (by rw [l69]; decide) (mem 69) rfl dX11_paper_71 ?_
        refine j_i2l X dX11_paper_72 ?_
        refine j_lconst X dX11_paper_73 0 (by decide) ?_
        refine j_ldc2 X dX11_paper_74 u1142 ?_
        refine s_callSi X hR (m_inI np _ _ _ _ 0 5 rfl rfl) rfl u1087 u1085 u1086 u12 hyX11_in (by decide) (by decide) (Nat.le_of_ble_eq_true rfl) dX11_paper_77 (fun v_77 m_77 h_77 => ?_)
        obtain ⟨e1, e2⟩ := h_77; have e1 := e1.symm; have e2 := e2.symm; subst e1; subst e2
        refine j_ifb_eq X 151 dX11_paper_80 (by decide) (fun c_80 => ?_) (fun c_80 => ?_)
        · exfalso
          clear hE hr hR X
          obtain ⟨g0, g1, g2, g3, g4, -⟩ := hk
          first | exact c_60 g0 | exact c_80 g1 | exact c_100 g2 | exact c_115 g3 | exact c_144 g4
        · refine j_aload_n X dX11_paper_83 rfl ?_
          refine j_getR X 11 4 (by decide) (by decide) rfl u954 (o66 np) (k66 np) _ (p66_4 np) dX11_paper_84 ?_
          refine j_iload X dX11_paper_87 rfl ?_
          refine j_iconst X dX11_paper_89 2 (by decide) ?_
          refine j_iadd X dX11_paper_90 ?_
          refine j_nrm _ (by first | (simp only [fa_lit, pk_mul, nI_add]; done) | (simp only [fa_lit, pk_mul, nI_add]; rfl) | rfl) ?_
          refine j_ialdN X (o69 np) (k69 np) (by rw [l69]; omega) (by rw [l69]; decide) (mem 69) rfl dX11_paper_91 ?_
          refine j_i2l X dX11_paper_92 ?_
          refine j_lconst X dX11_paper_93 0 (by decide) ?_
          refine j_ldc2 X dX11_paper_94 u1143 ?_
          refine s_callSi X hR (m_inI np _ _ _ _ 0 4 rfl rfl) rfl u1087 u1085 u1086 u12 hyX11_in (by decide) (by decide) (Nat.le_of_ble_eq_true rfl) dX11_paper_97 (fun v_97 m_97 h_97 => ?_)
          obtain ⟨e1, e2⟩ := h_97; have e1 := e1.symm; have e2 := e2.symm; subst e1; subst e2
          refine j_ifb_eq X 151 dX11_paper_100 (by decide) (fun c_100 => ?_) (fun c_100 => ?_)
          · exfalso
            clear hE hr hR X
            obtain ⟨g0, g1, g2, g3, g4, -⟩ := hk
            first | exact c_60 g0 | exact c_80 g1 | exact c_100 g2 | exact c_115 g3 | exact c_144 g4
          · refine j_aload_n X dX11_paper_103 rfl ?_
            refine j_getR X 11 4 (by decide) (by decide) rfl u954 (o66 np) (k66 np) _ (p66_4 np) dX11_paper_104 ?_
            refine j_iload X dX11_paper_107 rfl ?_
            refine j_iconst X dX11_paper_109 3 (by decide) ?_
            refine j_iadd X dX11_paper_110 ?_
            refine j_nrm _ (by first | (simp only [fa_lit, pk_mul, nI_add]; done) | (simp only [fa_lit, pk_mul, nI_add]; rfl) | rfl) ?_
            refine j_ialdN X (o69 np) (k69 np) (by rw [l69]; omega) (by rw [l69]; decide) (mem 69) rfl dX11_paper_111 ?_
            refine s_callSi X hR (m_isDay np _ _) rfl u1117 u1115 u1116 u12 hyX11_isDay (by decide) (by decide) (Nat.le_of_ble_eq_true rfl) dX11_paper_112 (fun v_112 m_112 h_112 => ?_)
            obtain ⟨e1, e2⟩ := h_112; have e1 := e1.symm; have e2 := e2.symm; subst e1; subst e2
            refine j_ifb_eq X 151 dX11_paper_115 (by decide) (fun c_115 => ?_) (fun c_115 => ?_)
            · exfalso
              clear hE hr hR X
              obtain ⟨g0, g1, g2, g3, g4, -⟩ := hk
              first | exact c_60 g0 | exact c_80 g1 | exact c_100 g2 | exact c_115 g3 | exact c_144 g4
            · refine j_aload_n X dX11_paper_118 rfl ?_
              refine j_getR X 11 4 (by decide) (by decide) rfl u954 (o66 np) (k66 np) _ (p66_4 np) dX11_paper_119 ?_
              refine j_iload X dX11_paper_122 rfl ?_
              refine j_iconst X dX11_paper_124 4 (by decide) ?_
              refine j_iadd X dX11_paper_125 ?_
              refine j_nrm _ (by first | (simp only [fa_lit, pk_mul, nI_add]; done) | (simp only [fa_lit, pk_mul, nI_add]; rfl) | rfl) ?_
              refine j_ialdN X (o69 np) (k69 np) (by rw [l69]; omega) (by rw [l69]; decide) (mem 69) rfl dX11_paper_126 ?_
              refine j_i2l X dX11_paper_127 ?_
              refine j_aload_n X dX11_paper_128 rfl ?_
              refine j_getR X 11 4 (by decide) (by decide) rfl u954 (o66 np) (k66 np) _ (p66_4 np) dX11_paper_129 ?_
              refine j_iload X dX11_paper_132 rfl ?_
              refine j_iconst X dX11_paper_134 3 (by decide) ?_
              refine j_iadd X dX11_paper_135 ?_
              refine j_nrm _ (by first | (simp only [fa_lit, pk_mul, nI_add]; done) | (simp only [fa_lit, pk_mul, nI_add]; rfl) | rfl) ?_
              refine j_ialdN X (o69 np) (k69 np) (by rw [l69]; omega) (by rw [l69]; decide) (mem 69) rfl dX11_paper_136 ?_
              refine j_i2l X dX11_paper_137 ?_
              refine j_ldc2 X dX11_paper_138 u1118 ?_
              refine s_callSi X hR (m_inI np _ _ _ _ (mem 69 (60 * s + i + 3)).toInt 999 (Int32.toInt_toInt64 _) rfl) rfl u1087 u1085 u1086 u12 hyX11_in (by decide) (by decide) (Nat.le_of_ble_eq_true rfl) dX11_paper_141 (fun v_141 m_141 h_141 => ?_)
              obtain ⟨e1, e2⟩ := h_141; have e1 := e1.symm; have e2 := e2.symm; subst e1; subst e2
              refine j_ifb_eq X 151 dX11_paper_144 (by decide) (fun c_144 => ?_) (fun c_144 => ?_)
              · exfalso
                clear hE hr hR X
                obtain ⟨g0, g1, g2, g3, g4, -⟩ := hk
                first | exact c_60 g0 | exact c_80 g1 | exact c_100 g2 | exact c_115 g3 | exact c_144 g4
              · refine j_iconst X dX11_paper_147 1 (by decide) ?_
                refine j_goto X 152 dX11_paper_148 (by decide) ?_
                refine j_istore X dX11_paper_152 (by decide) ?_
                refine j_iconst X dX11_paper_154 5 (by decide) ?_
                refine j_istore X dX11_paper_155 (by decide) ?_
                have lp157 : ∀ (n : Nat) (k : Nat), 5 ≤ k → k ≤ 9 → 10 ≤ k + n → J G RX11 cX11_paper 7 0 0 157 (jlv [some (.ref 66), some (.int (nI s)), some (.int (nI i)), some (.int 0), some (.int (nI (60 * s + i))), some (.int 1), some (.int (nI k))]) [] (jS np) (jup mem 66 0 0) := by
                  intro n
                  induction n with
                  | zero =>
                    intro k hk5 hk9 hn2
                    exact absurd hn2 (by omega)
                  | succ n ih157 =>
                    intro k hk5 hk9 hn2
                    refine j_iload X dX11_paper_157 rfl ?_
                    refine j_bipush X dX11_paper_159 9 (by decide) ?_
                    refine j_icmp_ge X 203 dX11_paper_161 (by decide) (fun c_161 => ?_) (fun c_161 => ?_)
                    · obtain rfl : k = 9 := by clear hE hr hR X; (try simp only [lg_cmp_lt, lg_cmp_gt, lg_cmp_le, lg_cmp_ge] at *); (try simp (disch := omega) only [Int64.le_iff_toInt_le, Int64.lt_iff_toInt_lt, Int32.le_iff_toInt_le, Int32.lt_iff_toInt_lt, fa_eq, fa_lit, fa_litL, nI_toInt, pk_lT, Int32.toInt_toInt64, jadd64, jin, jnoneT] at *); omega
                      refine j_iload X dX11_paper_203 rfl ?_
                      refine j_if_ne X 211 dX11_paper_205 (by decide) (fun c_205 => ?_) (fun c_205 => ?_)
                      · refine j_aload_n X dX11_paper_211 rfl ?_
                        refine j_iconst X dX11_paper_212 0 (by decide) ?_
                        refine j_putI X 11 1 (by decide) (by decide) rfl rfl rfl rfl u951 (o66 np) (k66 np) dX11_paper_213 ?_
                        refine j_iconst X dX11_paper_216 0 (by decide) ?_
                        refine j_istore X dX11_paper_217 (by decide) ?_
                        have lp219 : ∀ (n : Nat) (k : Nat), k ≤ 9 → 10 ≤ k + n → J G RX11 cX11_paper 7 0 0 219 (jlv [some (.ref 66), some (.int (nI s)), some (.int (nI i)), some (.int 0), some (.int (nI (60 * s + i))), some (.int 1), some (.int (nI k))]) [] (jS np) (jcpr (jup (jup mem 66 0 0) 66 1 0) 69 74 (60 * s + i) (9 * cn) k) := by
                          intro n
                          induction n with
                          | zero =>
                            intro k hk9 hn2
                            exact absurd hn2 (by omega)
                          | succ n ih219 =>
                            intro k hk9 hn2
                            refine j_iload X dX11_paper_219 rfl ?_
                            refine j_bipush X dX11_paper_221 9 (by decide) ?_
                            refine j_icmp_ge X 257 dX11_paper_223 (by decide) (fun c_223 => ?_) (fun c_223 => ?_)
                            · obtain rfl : k = 9 := by clear hE hr hR X; (try simp only [lg_cmp_lt, lg_cmp_gt, lg_cmp_le, lg_cmp_ge] at *); (try simp (disch := omega) only [Int64.le_iff_toInt_le, Int64.lt_iff_toInt_lt, Int32.le_iff_toInt_le, Int32.lt_iff_toInt_lt, fa_eq, fa_lit, fa_litL, nI_toInt, pk_lT, Int32.toInt_toInt64, jadd64, jin, jnoneT] at *); omega
                              refine j_aload_n X dX11_paper_257 rfl ?_
                              refine j_dup X dX11_paper_258 rfl ?_
                              refine j_getF X 11 9 (by decide) (by decide) rfl u959 (o66 np) (k66 np) _ rfl dX11_paper_259 ?_
                              refine j_nrm (nI cn) hp ?_
                              refine j_iconst X dX11_paper_262 1 (by decide) ?_
                              refine j_iadd X dX11_paper_263 ?_
                              refine j_nrm _ (nI_1 cn) ?_
                              refine j_putI X 11 9 (by decide) (by decide) rfl rfl rfl rfl u959 (o66 np) (k66 np) dX11_paper_264 ?_
                              refine j_aload_n X dX11_paper_267 rfl ?_
                              refine j_getF X 11 9 (by decide) (by decide) rfl u959 (o66 np) (k66 np) _ rfl dX11_paper_268 ?_
                              refine j_nrm (nI (cn + 1)) rfl ?_
                              refine j_iconst X dX11_paper_271 1 (by decide) ?_
                              refine j_isub X dX11_paper_272 ?_
                              refine j_nrm (nI cn) (nI_pred cn) ?_
                              refine s_iret X hE hr dX11_paper_273 rfl ?_
                              first | exact ⟨rfl, rfl⟩ | (exfalso; clear hE hr hR X; (try simp only [lg_cmp_lt, lg_cmp_gt, lg_cmp_le, lg_cmp_ge] at *); (try simp (disch := omega) only [Int64.le_iff_toInt_le, Int64.lt_iff_toInt_lt, Int32.le_iff_toInt_le, Int32.lt_iff_toInt_lt, fa_eq, fa_lit, fa_litL, nI_toInt, pk_lT, Int32.toInt_toInt64, jadd64, jin, jnoneT] at *); omega)
                            · have hk2 : k < 9 := by clear hE hr hR X; (try simp only [lg_cmp_lt, lg_cmp_gt, lg_cmp_le, lg_cmp_ge] at *); (try simp (disch := omega) only [Int64.le_iff_toInt_le, Int64.lt_iff_toInt_lt, Int32.le_iff_toInt_le, Int32.lt_iff_toInt_lt, fa_eq, fa_lit, fa_litL, nI_toInt, pk_lT, Int32.toInt_toInt64, jadd64, jin, jnoneT] at *); omega
                              refine j_aload_n X dX11_paper_226 rfl ?_
                              refine j_getR X 11 10 (by decide) (by decide) rfl u960 (o66 np) (k66 np) _ (p66_10 np) dX11_paper_227 ?_
                              refine j_bipush X dX11_paper_230 9 (by decide) ?_
                              refine j_aload_n X dX11_paper_232 rfl ?_
                              refine j_getF X 11 9 (by decide) (by decide) rfl u959 (o66 np) (k66 np) _ rfl dX11_paper_233 ?_
                              refine j_nrm (nI cn) hp ?_
                              refine j_imul X dX11_paper_236 ?_
                              refine j_iload X dX11_paper_237 rfl ?_
                              refine j_iadd X dX11_paper_239 ?_
                              refine j_aload_n X dX11_paper_240 rfl ?_
                              refine j_getR X 11 4 (by decide) (by decide) rfl u954 (o66 np) (k66 np) _ (p66_4 np) dX11_paper_241 ?_
                              refine j_iload X dX11_paper_244 rfl ?_
                              refine j_iload X dX11_paper_246 rfl ?_
                              refine j_iadd X dX11_paper_248 ?_
                              refine j_nrm _ (by first | (simp only [fa_lit, pk_mul, nI_add]; done) | (simp only [fa_lit, pk_mul, nI_add]; rfl) | rfl) ?_
                              refine j_ialdN X (o69 np) (k69 np) (by rw [l69]; omega) (by rw [l69]; decide) (mem 69) rfl dX11_paper_249 ?_
                              refine j_nrm2 _ (by first | (simp only [fa_lit, pk_mul, nI_add]; done) | (simp only [fa_lit, pk_mul, nI_add]; rfl) | rfl) ?_
                              refine j_iastN X (o74 np) (k74 np) (by rw [l74]; omega) (by rw [l74]; decide) dX11_paper_250 ?_
                              refine j_iinc X dX11_paper_251 rfl 1 rfl ?_
                              refine j_goto X 219 dX11_paper_254 (by decide) ?_
                              refine j_mem (jcpr (jup (jup mem 66 0 0) 66 1 0) 69 74 (60 * s + i) (9 * cn) (k + 1)) (jcpr_s (by decide)) ?_
                              refine j_lv [some (.ref 66), some (.int (nI s)), some (.int (nI i)), some (.int 0), some (.int (nI (60 * s + i))), some (.int 1), some (.int (nI (k + 1)))] ⟨rfl, rfl, rfl, rfl, rfl, rfl, (congrArg (fun z => some (Value.int z)) (nI_1 _)), trivial⟩ ?_
                              exact ih219 (k + 1) (by omega) (by omega)
                        refine j_mem (jcpr (jup (jup mem 66 0 0) 66 1 0) 69 74 (60 * s + i) (9 * cn) 0) (jcpr_0 _ _ _ _ _).symm ?_
                        refine j_lv [some (.ref 66), some (.int (nI s)), some (.int (nI i)), some (.int 0), some (.int (nI (60 * s + i))), some (.int 1), some (.int (nI 0))] ⟨rfl, rfl, rfl, rfl, rfl, rfl, rfl, trivial⟩ ?_
                        exact lp219 10 0 (by omega) (by omega)
                      · exfalso
                        exact absurd c_205 (by decide)
                    · have hk2 : k < 9 := by clear hE hr hR X; (try simp only [lg_cmp_lt, lg_cmp_gt, lg_cmp_le, lg_cmp_ge] at *); (try simp (disch := omega) only [Int64.le_iff_toInt_le, Int64.lt_iff_toInt_lt, Int32.le_iff_toInt_le, Int32.lt_iff_toInt_lt, fa_eq, fa_lit, fa_litL, nI_toInt, pk_lT, Int32.toInt_toInt64, jadd64, jin, jnoneT] at *); omega
                      refine j_iload X dX11_paper_164 rfl ?_
                      refine j_if_eq X 194 dX11_paper_166 (by decide) (fun c_166 => ?_) (fun c_166 => ?_)
                      · exfalso
                        first | exact absurd c_166 (by decide) | exact c_187 (jPok_5 hk hk5 hk2)
                      · refine j_aload_n X dX11_paper_169 rfl ?_
                        refine j_getR X 11 4 (by decide) (by decide) rfl u954 (o66 np) (k66 np) _ (p66_4 np) dX11_paper_170 ?_
                        refine j_iload X dX11_paper_173 rfl ?_
                        refine j_iload X dX11_paper_175 rfl ?_
                        refine j_iadd X dX11_paper_177 ?_
                        refine j_nrm _ (by first | (simp only [fa_lit, pk_mul, nI_add]; done) | (simp only [fa_lit, pk_mul, nI_add]; rfl) | rfl) ?_
                        refine j_ialdN X (o69 np) (k69 np) (by rw [l69]; omega) (by rw [l69]; decide) (mem 69) rfl dX11_paper_178 ?_
                        refine j_i2l X dX11_paper_179 ?_
                        refine j_lconst X dX11_paper_180 0 (by decide) ?_
                        refine j_ldc2 X dX11_paper_181 u1118 ?_
                        refine s_callSi X hR (m_inI np _ _ _ _ 0 999 rfl rfl) rfl u1087 u1085 u1086 u12 hyX11_in (by decide) (by decide) (Nat.le_of_ble_eq_true rfl) dX11_paper_184 (fun v_184 m_184 h_184 => ?_)
                        obtain ⟨e1, e2⟩ := h_184; have e1 := e1.symm; have e2 := e2.symm; subst e1; subst e2
                        refine j_ifb_eq X 194 dX11_paper_187 (by decide) (fun c_187 => ?_) (fun c_187 => ?_)
                        · exfalso
                          first | exact absurd c_166 (by decide) | exact c_187 (jPok_5 hk hk5 hk2)
                        · refine j_iconst X dX11_paper_190 1 (by decide) ?_
                          refine j_goto X 195 dX11_paper_191 (by decide) ?_
                          refine j_istore X dX11_paper_195 (by decide) ?_
                          refine j_iinc X dX11_paper_197 rfl 1 rfl ?_
                          refine j_goto X 157 dX11_paper_200 (by decide) ?_
                          refine j_lv [some (.ref 66), some (.int (nI s)), some (.int (nI i)), some (.int 0), some (.int (nI (60 * s + i))), some (.int 1), some (.int (nI (k + 1)))] ⟨rfl, rfl, rfl, rfl, rfl, rfl, (congrArg (fun z => some (Value.int z)) (nI_1 _)), trivial⟩ ?_
                          exact ih157 (k + 1) (by omega) (by omega) (by omega)
                refine j_lv [some (.ref 66), some (.int (nI s)), some (.int (nI i)), some (.int 0), some (.int (nI (60 * s + i))), some (.int 1), some (.int (nI 5))] ⟨rfl, rfl, rfl, rfl, rfl, rfl, rfl, trivial⟩ ?_
                exact lp157 10 5 (by omega) (by omega) (by omega)
    · exact absurd (c_21.symm.trans hp) (by rw [fa_lit, nI_eq (by omega) (by omega)]; omega)
  · exfalso
    clear hE hr hR X
    (try simp only [lg_cmp_lt, lg_cmp_gt, lg_cmp_le, lg_cmp_ge] at *); (try simp (disch := omega) only [Int64.le_iff_toInt_le, Int64.lt_iff_toInt_lt, Int32.le_iff_toInt_le, Int32.lt_iff_toInt_lt, fa_eq, fa_lit, fa_litL, nI_toInt, pk_lT, Int32.toInt_toInt64, jadd64, jin, jnoneT] at *); omega
theorem jMet_c {f g : Nat → Int32} : ∀ a, (∀ b, b < a → f (2 * b) = g (2 * b)) → jMet f a = jMet g a
  | 0, _ => rfl
  | a + 1, h => by
    unfold jMet
    rw [jMet_c a (fun b hb => h b (by omega)), h a (by omega)]
theorem jFok_c {f g : Nat → Int32} {n : Nat} (h : ∀ k, k < 2 * n → f k = g k) (hf : jFok f n) : jFok g n := fun a ha => by
  have q := hf a ha
  rw [h (2 * a) (by omega), h (2 * a + 1) (by omega), jMet_c a (fun b hb => h (2 * b) (by omega))] at q
  exact q
theorem jLv_c {xs x2 : Nat → Nat} {pl i c : Nat} (hi : xs i = x2 i) : ∀ n, (∀ j, j < n → xs j = x2 j) → jLv xs pl i c n = jLv x2 pl i c n
  | 0, _ => rfl
  | n + 1, h => by
    unfold jLv
    rw [jLv_c hi n (fun j hj => h j (by omega)), hi, h n (by omega)]
theorem jLag_c {xs x2 ys y2 : Nat → Nat} {n pl : Nat} (h : ∀ j, j < n → xs j = x2 j ∧ ys j = y2 j) : ∀ a, a ≤ n → jLag xs ys n pl a = jLag x2 y2 n pl a
  | 0, _ => rfl
  | a + 1, ha => by
    unfold jLag
    rw [jLag_c h a (by omega), jLv_c (h a (by omega)).1 n (fun j hj => (h j hj).1), (h a (by omega)).2]
theorem jPos_c {xs x2 ys y2 : Nat → Nat} {k n : Nat} (hk : k ≤ n) (h : ∀ j, j < n → xs j = x2 j ∧ ys j = y2 j) : jPos xs ys k n = jPos x2 y2 k n := by
  unfold jPos
  refine jAll_c _ (fun a ha => ?_)
  rw [jLag_c (pl := xs (k + a)) (fun j hj => h j (by omega)) k (Nat.le_refl _), (h (k + a) (by omega)).1, (h (k + a) (by omega)).2]
theorem Inv.sj {np : Nat} {mem m1 : jMem} {S : List Nat} (h : Inv np mem) (k : Int32) (hJ : jeq S (jup mem 0 14 k) m1) (hS : S.all (fun y => KS.contains y && !([0, 66, 51, 55, 63].contains y)) = true) : Inv np (jup (jup m1 66 0 0) 66 1 k) := by
  have h0 : m1 0 = jup mem 0 14 k 0 := hJ 0 (fun z => by
    have := List.all_eq_true.mp hS 0 z
    rw [Bool.and_eq_true] at this
    exact absurd this.2 (by decide))
  refine h.st ((((jch.rf.up rfl).eq hJ hS).up rfl).up rfl) ?_
  rw [jup_o (by decide), jup_o (by decide), jup_s, h0, jup_s]
theorem sim_friends (np : Nat) (mem : jMem) (h : Inv np mem) (s i q k : Int32) : Sim yX10_friends cX10_friends 6 4 yX11_friends cX11_friends 10 3 [.int s, .int i, .int q, .int k] np mem := by
  by_cases hb : jin s 0 7 ∧ jin q 1 6 ∧ jin k 0 4
  · obtain ⟨h1, h2, h3⟩ := hb
    obtain ⟨s, hs8, -, rfl⟩ := jin_n h1
    have hs8 : s < 8 := by omega
    obtain ⟨q, hq2, hq3, rfl⟩ := jin_n (x := q) (c := 6) ⟨by have := h2.1; omega, h2.2⟩
    have hq1 := h2.1
    rw [nI_toInt hq3] at hq1
    have hq1 : 1 ≤ q := by omega
    have hq : q ≤ 6 := by omega
    obtain ⟨k, hk2, -, rfl⟩ := jin_n h3
    have hk : k ≤ 4 := by omega
    rcases h.1.1 s hs8 with ⟨g1, g2⟩ | ⟨z, hz, g12, g68, g67, hl⟩
    · exact Sim.ee (c_friends_null np mem s q k i hs8 hq1 hq hk g1) (m_friends_null np _ s q k i hs8 hq1 hq hk g2) rfl (h.f2 1)
    · have hl0 : 0 ≤ (mem 67 s).toInt := by rw [g67]; exact hl.1
      have h2q : (nI (2 * q)).toInt = 2 * q := nI_toInt (by omega)
      by_cases hi : 0 ≤ i.toInt ∧ i.toInt + (nI (2 * q)).toInt ≤ z
      · obtain ⟨i, -, hi31, rfl⟩ := jin_n (x := i) (c := 60) ⟨hi.1, by omega⟩
        rw [nI_toInt hi31, h2q] at hi
        have hi9 : i + 2 * q ≤ z := by omega
        have hf : ∀ a, a < 2 * q → (fun k => mem (3 + s) (i + k)) a = (fun k => mem 69 (60 * s + i + k)) a := fun a ha => by
          show mem (3 + s) (i + a) = mem 69 (60 * s + i + a)
          rw [Nat.add_assoc]
          exact (h.1.2 s hs8 (i + a) (by omega)).symm
        have hxy : ∀ a, a < q → jFx (fun k => mem (3 + s) (i + k)) a = jFx (fun k => mem 69 (60 * s + i + k)) a ∧ jFy (fun k => mem (3 + s) (i + k)) a = jFy (fun k => mem 69 (60 * s + i + k)) a := fun a ha => ⟨congrArg Int32.toNatClampNeg (hf (2 * a) (by omega)), congrArg Int32.toNatClampNeg (hf (2 * a + 1) (by omega))⟩
        have jj : ∀ m1 : jMem, jeq [30, 31] (jup mem 0 14 0) m1 → m1 67 = mem 67 ∧ m1 68 = mem 68 ∧ m1 69 = mem 69 := fun m1 hJ => ⟨hJ 67 (by decide), hJ 68 (by decide), hJ 69 (by decide)⟩
        by_cases hok : jFok (fun k => mem (3 + s) (i + k)) q
        · have hok2 := jFok_c hf hok
          rcases Nat.eq_zero_or_pos k with hk0 | hk0
          · subst hk0
            refine Sim.of (c_friends0 np mem s i q z hs8 hq1 hq hz g12 hi9 hok) (fun v1 m1 q1 => ?_)
            obtain ⟨rfl, hJ⟩ := q1
            obtain ⟨j67, j68, j69⟩ := jj m1 hJ
            refine ⟨_, m_friends0 np m1 s i q z hs8 hq1 hq (by rw [j67]; exact hl0) hz (by rw [j68]; exact g68) hi9 (by rw [j69]; exact hok2), fun v2 m2 q2 => ?_⟩
            obtain ⟨rfl, rfl⟩ := q2
            exact ⟨by rw [j69]; exact congrArg nI (jLag_c hxy q (Nat.le_refl _)), h.sj 0 hJ (by decide)⟩
          · rcases Nat.lt_or_ge q k with hqk | hqk
            · refine Sim.of (c_friends_few np mem s i q k z hs8 hq1 hq hk hz g12 hi9 hok hqk) (fun v1 m1 q1 => ?_)
              obtain ⟨rfl, hJ⟩ := q1
              obtain ⟨j67, j68, j69⟩ := jj m1 hJ
              refine ⟨_, m_friends_few np m1 s i q k z hs8 hq1 hq hk (by rw [j67]; exact hl0) hz (by rw [j68]; exact g68) hi9 (by rw [j69]; exact hok2) hqk, fun v2 m2 q2 => ?_⟩
              obtain ⟨rfl, rfl⟩ := q2
              exact ⟨rfl, h.sj 0 hJ (by decide)⟩
            · refine Sim.of (c_friends np mem s i q k z hs8 hq1 hq hk hz g12 hi9 hok hk0 hqk) (fun v1 m1 q1 => ?_)
              obtain ⟨rfl, hJ⟩ := q1
              obtain ⟨j67, j68, j69⟩ := jj m1 hJ
              refine ⟨_, m_friends np m1 s i q k z hs8 hq1 hq hk (by rw [j67]; exact hl0) hz (by rw [j68]; exact g68) hi9 (by rw [j69]; exact hok2) hk0 hqk, fun v2 m2 q2 => ?_⟩
              obtain ⟨rfl, rfl⟩ := q2
              exact ⟨by rw [j69, jPos_c hqk hxy], h.sj 0 hJ (by decide)⟩
        · have hok2 : ¬ jFok (fun k => mem 69 (60 * s + i + k)) q := fun z9 => hok (jFok_c (fun a ha => (hf a ha).symm) z9)
          refine Sim.of (c_friends_item np mem s i q k z hs8 hq1 hq hk hz g12 hi9 hok) (fun v1 m1 q1 => ?_)
          obtain ⟨rfl, hJ⟩ := q1
          have j67 := hJ 67 (by decide)
          have j68 := hJ 68 (by decide)
          have j69 := hJ 69 (by decide)
          refine ⟨_, m_friends_item np m1 s i q k z hs8 hq1 hq hk (by rw [j67]; exact hl0) hz (by rw [j68]; exact g68) hi9 (by rw [j69]; exact hok2), fun v2 m2 q2 => ?_⟩
          obtain ⟨rfl, rfl⟩ := q2
          exact ⟨rfl, h.s0 ((jch.rf.eq hJ (by decide)).up rfl)⟩
      · exact Sim.ee (c_friends_place np mem s q k z i hs8 hq1 hq hk hz g12 hi) (m_friends_place np _ s q k i hs8 hq1 hq hk hl0 (by show _ ∨ _ > (mem 68 s).toInt; rw [g68, nI_toInt (n := z) (by omega)]; omega)) rfl (h.f2 2)
  · exact Sim.ee (c_friends_bad np mem s i q k hb) (m_friends_bad np _ s i q k hb) rfl h.th
theorem jQcm_c {F G : Nat → Int32} {q : Nat} (h : ∀ w, w < q → F (2 * w) = G (2 * w)) : jQcm F q = jQcm G q := by
  funext w
  unfold jQcm
  by_cases e : w < q
  · rw [if_pos e, if_pos e, h w e]
  · rw [if_neg e, if_neg e]
theorem jQlm_c {F G : Nat → Int32} {q : Nat} (h : ∀ w, w < q → F (2 * w + 1) = G (2 * w + 1)) : jQlm F q = jQlm G q := by
  funext w
  unfold jQlm
  by_cases e : w < q
  · rw [if_pos e, if_pos e, h w e]
  · rw [if_neg e, if_neg e]
theorem jQok_c {F G : Nat → Int32} {q : Nat} (h : ∀ k, k < 2 * q → F k = G k) (hf : jQok F q) : jQok G q := fun w hw => by
  have a := hf w hw
  rw [h (2 * w) (by omega), h (2 * w + 1) (by omega)] at a
  exact a
theorem sim_queue (np : Nat) (mem : jMem) (h : Inv np mem) (s i q k : Int32) : Sim yX10_queue cX10_queue 6 12 yX11_queue cX11_queue 11 3 [.int s, .int i, .int q, .int k] np mem := by
  by_cases hb : jin s 0 7 ∧ jin q 1 7 ∧ jin k (-1) (q.toInt - 1)
  · obtain ⟨h1, h2, h3⟩ := hb
    obtain ⟨s, hs8, -, rfl⟩ := jin_n h1
    have hs8 : s < 8 := by omega
    obtain ⟨q, hq2, hq3, rfl⟩ := jin_n (x := q) (c := 7) ⟨by have := h2.1; omega, h2.2⟩
    have hq1 := h2.1
    rw [nI_toInt hq3] at hq1
    have hq1 : 1 ≤ q := by omega
    have hq : q ≤ 7 := by omega
    rw [nI_toInt hq3] at h3
    by_cases hm1 : k.toInt = -1
    · obtain rfl : k = -1 := Int32.toInt_inj.mp hm1
      rcases h.1.1 s hs8 with ⟨g1, g2⟩ | ⟨z, hz, g12, g68, g67, hl⟩
      · exact Sim.ee (c_queue_sum_null np mem s q i hs8 hq1 hq g1) (m_queue_sum_null np _ s q i hs8 hq1 hq g2) rfl (h.f2 1)
      · have hl0 : 0 ≤ (mem 67 s).toInt := by rw [g67]; exact hl.1
        have h2q : (nI (2 * q)).toInt = 2 * q := nI_toInt (by omega)
        by_cases hi : 0 ≤ i.toInt ∧ i.toInt + (nI (2 * q)).toInt ≤ z
        · obtain ⟨i, -, hi31, rfl⟩ := jin_n (x := i) (c := 60) ⟨hi.1, by omega⟩
          rw [nI_toInt hi31, h2q] at hi
          have hi9 : i + 2 * q ≤ z := by omega
          have hf : ∀ a, a < 2 * q → (fun k => mem (3 + s) (i + k)) a = (fun k => mem 69 (60 * s + i + k)) a := fun a ha => by
            show mem (3 + s) (i + a) = mem 69 (60 * s + i + a)
            rw [Nat.add_assoc]
            exact (h.1.2 s hs8 (i + a) (by omega)).symm
          have e1 := jQcm_c (F := fun k => mem (3 + s) (i + k)) (G := fun k => mem 69 (60 * s + i + k)) (q := q) (fun w hw => hf (2 * w) (by omega))
          have e2 := jQlm_c (F := fun k => mem (3 + s) (i + k)) (G := fun k => mem 69 (60 * s + i + k)) (q := q) (fun w hw => hf (2 * w + 1) (by omega))
          by_cases hok : jQok (fun k => mem (3 + s) (i + k)) q
          · have hok2 := jQok_c hf hok
            refine Sim.of (c_queue_sum np mem s i q z hs8 hq1 hq hz g12 hi9 hok) (fun v1 m1 q1 => ?_)
            obtain ⟨rfl, hJ⟩ := q1
            have j67 : m1 67 = mem 67 := hJ 67 (by decide)
            have j68 : m1 68 = mem 68 := hJ 68 (by decide)
            have j69 : m1 69 = mem 69 := hJ 69 (by decide)
            refine ⟨_, m_queue_sum np m1 s i q z hs8 hq1 hq (by rw [j67]; exact hl0) hz (by rw [j68]; exact g68) hi9 (by rw [j69]; exact hok2), fun v2 m2 q2 => ?_⟩
            obtain ⟨rfl, hK⟩ := q2
            exact ⟨by rw [j69, e1, e2], (h.sj 0 hJ (by decide)).s0 (jch.rf.eq hK (by decide))⟩
          · have hok2 : ¬ jQok (fun k => mem 69 (60 * s + i + k)) q := fun z9 => hok (jQok_c (fun a ha => (hf a ha).symm) z9)
            refine Sim.of (c_queue_sum_item np mem s i q z hs8 hq1 hq hz g12 hi9 hok) (fun v1 m1 q1 => ?_)
            obtain ⟨rfl, hJ⟩ := q1
            have j67 := hJ 67 (by decide)
            have j68 := hJ 68 (by decide)
            have j69 := hJ 69 (by decide)
            refine ⟨_, m_queue_sum_item np m1 s i q z hs8 hq1 hq (by rw [j67]; exact hl0) hz (by rw [j68]; exact g68) hi9 (by rw [j69]; exact hok2), fun v2 m2 q2 => ?_⟩
            obtain ⟨rfl, hK⟩ := q2
            exact ⟨rfl, h.s0 (((jch.rf.eq hJ (by decide)).up rfl).eq hK (by decide))⟩
        · exact Sim.ee (c_queue_sum_place np mem s q z i hs8 hq1 hq hz g12 hi) (m_queue_sum_place np _ s q i hs8 hq1 hq hl0 (by show _ ∨ _ > (mem 68 s).toInt; rw [g68, nI_toInt (n := z) (by omega)]; omega)) rfl (h.f2 2)
    · obtain ⟨k, hk2, hk3, rfl⟩ := jin_n (x := k) (c := 6) ⟨by have := h3.1; omega, by have := h3.2; omega⟩
      have hkq : k < q := by have := h3.2; rw [nI_toInt hk3] at this; omega
      rcases h.1.1 s hs8 with ⟨g1, g2⟩ | ⟨z, hz, g12, g68, g67, hl⟩
      · exact Sim.ee (c_queue_at_null np mem s q k i hs8 hq1 hq hkq g1) (m_queue_at_null np _ s q k i hs8 hq1 hq hkq g2) rfl (h.f2 1)
      · have hl0 : 0 ≤ (mem 67 s).toInt := by rw [g67]; exact hl.1
        have h2q : (nI (2 * q)).toInt = 2 * q := nI_toInt (by omega)
        by_cases hi : 0 ≤ i.toInt ∧ i.toInt + (nI (2 * q)).toInt ≤ z
        · obtain ⟨i, -, hi31, rfl⟩ := jin_n (x := i) (c := 60) ⟨hi.1, by omega⟩
          rw [nI_toInt hi31, h2q] at hi
          have hi9 : i + 2 * q ≤ z := by omega
          have hf : ∀ a, a < 2 * q → (fun k => mem (3 + s) (i + k)) a = (fun k => mem 69 (60 * s + i + k)) a := fun a ha => by
            show mem (3 + s) (i + a) = mem 69 (60 * s + i + a)
            rw [Nat.add_assoc]
            exact (h.1.2 s hs8 (i + a) (by omega)).symm
          have e1 := jQcm_c (F := fun k => mem (3 + s) (i + k)) (G := fun k => mem 69 (60 * s + i + k)) (q := q) (fun w hw => hf (2 * w) (by omega))
          have e2 := jQlm_c (F := fun k => mem (3 + s) (i + k)) (G := fun k => mem 69 (60 * s + i + k)) (q := q) (fun w hw => hf (2 * w + 1) (by omega))
          by_cases hok : jQok (fun k => mem (3 + s) (i + k)) q
          · have hok2 := jQok_c hf hok
            refine Sim.of (c_queue_at np mem s i q z k hs8 hq1 hq hkq hz g12 hi9 hok) (fun v1 m1 q1 => ?_)
            obtain ⟨rfl, hJ⟩ := q1
            have j67 : m1 67 = mem 67 := hJ 67 (by decide)
            have j68 : m1 68 = mem 68 := hJ 68 (by decide)
            have j69 : m1 69 = mem 69 := hJ 69 (by decide)
            refine ⟨_, m_queue_at np m1 s i q z k hs8 hq1 hq hkq (by rw [j67]; exact hl0) hz (by rw [j68]; exact g68) hi9 (by rw [j69]; exact hok2), fun v2 m2 q2 => ?_⟩
            obtain ⟨rfl, hK⟩ := q2
            exact ⟨by rw [j69, e1, e2], (h.sj 0 hJ (by decide)).s0 (jch.rf.eq hK (by decide))⟩
          · have hok2 : ¬ jQok (fun k => mem 69 (60 * s + i + k)) q := fun z9 => hok (jQok_c (fun a ha => (hf a ha).symm) z9)
            refine Sim.of (c_queue_at_item np mem s i q z k hs8 hq1 hq hkq hz g12 hi9 hok) (fun v1 m1 q1 => ?_)
            obtain ⟨rfl, hJ⟩ := q1
            have j67 := hJ 67 (by decide)
            have j68 := hJ 68 (by decide)
            have j69 := hJ 69 (by decide)
            refine ⟨_, m_queue_at_item np m1 s i q z k hs8 hq1 hq hkq (by rw [j67]; exact hl0) hz (by rw [j68]; exact g68) hi9 (by rw [j69]; exact hok2), fun v2 m2 q2 => ?_⟩
            obtain ⟨rfl, hK⟩ := q2
            exact ⟨rfl, h.s0 (((jch.rf.eq hJ (by decide)).up rfl).eq hK (by decide))⟩
        · exact Sim.ee (c_queue_at_place np mem s q z k i hs8 hq1 hq hkq hz g12 hi) (m_queue_at_place np _ s q k i hs8 hq1 hq hkq hl0 (by show _ ∨ _ > (mem 68 s).toInt; rw [g68, nI_toInt (n := z) (by omega)]; omega)) rfl (h.f2 2)
  · exact Sim.ee (c_queue_bad np mem s i q k hb) (m_queue_bad np _ s i q k hb) rfl h.th
/-- a paper is told on both sides: as it was, or one more -/
def SimP (av : List Value) (np : Nat) (mem : jMem) : Prop := Sim yX10_paper cX10_paper 5 3 yX11_paper cX11_paper 7 3 av np mem ∨ ∃ (x : Int32) (M1 : jMem), jCt yX10_paper cX10_paper 5 (some .int) 3 2 12 (.ref 0 :: av) (jS np) mem (fun a b c => a = some (.int x) ∧ b = jS (np + 1) ∧ c = M1) ∧ ∃ P2, jPi yX11_paper cX11_paper 7 .int 3 (.ref 66 :: av) (np + 1) M1 P2 ∧ ∀ v2 m2, P2 v2 m2 → x = v2 ∧ Inv (np + 1) m2
theorem mP_o {mem : jMem} {np s i y : Nat} (h1 : ¬ y = 92 + 2 * np) (h2 : ¬ y = 93 + 2 * np) : jup (jup (mPap2 mem np s i) 0 12 (nI (np + 1))) 0 14 0 y = jup (jup mem 0 12 (nI (np + 1))) 0 14 0 y := by
  by_cases h0 : y = 0
  · subst h0
    unfold mPap2 mPap
    rw [jup_c, jup_c, jup_c, jup_c, va_o (by omega), jup_o (by omega), jup_o (by omega), jup_o (by omega), jup_o (by omega), jup_o (by omega), jup_o (by omega), jup_o (by omega)]
  · rw [jup_o h0, jup_o h0, jup_o h0, jup_o h0]
    unfold mPap2 mPap
    rw [va_o h2, jup_o h1, jup_o h1, jup_o h1, jup_o h1, jup_o h1, jup_o h1, jup_o h1]
theorem paper_i3 {np : Nat} {mem : jMem} (h : Inv np mem) {s i : Nat} (hs : s < 8) (hi : i + 9 ≤ 60) (hn : np < 12) (hk : jPok (mem (3 + s)) i) : Inv (np + 1) (jup (jcpr (jup (jup (jup (jup (mPap2 mem np s i) 0 12 (nI (np + 1))) 0 14 0) 66 0 0) 66 1 0) 69 74 (60 * s + i) (9 * np) 9) 66 9 (nI (np + 1))) := by
  generalize hM : jup (jup (mPap2 mem np s i) 0 12 (nI (np + 1))) 0 14 0 = M1
  have o1 : ∀ y, ¬ y = 92 + 2 * np → ¬ y = 93 + 2 * np → M1 y = jup (jup mem 0 12 (nI (np + 1))) 0 14 0 y := fun y a b => by rw [← hM]; exact mP_o a b
  have o2 : ∀ y, y ≠ 0 → ¬ y = 92 + 2 * np → ¬ y = 93 + 2 * np → M1 y = mem y := fun y a b c => by rw [o1 y b c, jup_o a, jup_o a]
  generalize hM2 : jup (jcpr (jup (jup M1 66 0 0) 66 1 0) 69 74 (60 * s + i) (9 * np) 9) 66 9 (nI (np + 1)) = M2
  have p1 : ∀ y, y ≠ 66 → y ≠ 74 → M2 y = M1 y := fun y a b => by
    rw [← hM2, jup_o a]
    unfold jcpr
    rw [va_o b, jup_o a, jup_o a]
  have p66 : ∀ k, k ≠ 0 → k ≠ 1 → k ≠ 9 → M2 66 k = mem 66 k := fun k a b c => by
    rw [← hM2, jup_n c]
    unfold jcpr
    rw [va_o (by decide), jup_n b, jup_n a, o2 66 (by decide) (by omega) (by omega)]
  have p669 : M2 66 9 = nI (np + 1) := by rw [← hM2, jup_s]
  have p661 : M2 66 1 = 0 := by
    rw [← hM2, jup_n (by decide)]
    unfold jcpr
    rw [va_o (by decide), jup_s]
  have p74 : ∀ k, M2 74 k = if 9 * np ≤ k ∧ k < 9 * np + 9 then mem 69 (60 * s + i + (k - 9 * np)) else mem 74 k := fun k => by
    rw [← hM2, jup_o (by decide)]
    unfold jcpr
    rw [va_c]
    unfold va_cpy
    rw [jup_o (by decide), jup_o (by decide), jup_o (by decide), jup_o (by decide), o2 69 (by decide) (by omega) (by omega), o2 74 (by decide) (by omega) (by omega)]
  have q0 : ∀ k, k ≠ 12 → k ≠ 14 → M2 0 k = mem 0 k := fun k a b => by rw [p1 0 (by decide) (by decide), o1 0 (by omega) (by omega), jup_n b, jup_n a]
  have q012 : M2 0 12 = nI (np + 1) := by rw [p1 0 (by decide) (by decide), o1 0 (by omega) (by omega), jup_n (by decide), jup_s]
  have q014 : M2 0 14 = 0 := by rw [p1 0 (by decide) (by decide), o1 0 (by omega) (by omega), jup_s]
  have q1 : ∀ y, y ≠ 0 → y ≠ 66 → y ≠ 74 → ¬ y = 92 + 2 * np → ¬ y = 93 + 2 * np → M2 y = mem y := fun y a b c d e => by rw [p1 y b c, o2 y a d e]
  obtain ⟨h1, h2, h3, h4, h5, h6, h7, h8, h9, h10, h11, h12⟩ := h
  obtain ⟨hn12, hp0, hp66, hpp, hp75, hpz⟩ := h3
  have hch : jch [74, 92, 93, 94, 95, 96, 97, 98, 99, 100, 101, 102, 103, 104, 105, 106, 107, 108, 109, 110, 111, 112, 113, 114, 115] [12, 14] [0, 1, 9] [] [] [] mem M2 := by
    refine ⟨fun y hy y0 y1 y2 y3 y4 => ?_, fun k hk9 => ?_, fun k hk9 => ?_, ?_, ?_, ?_⟩
    · refine q1 y y0 y1 (fun e => hy (by rw [e]; decide)) (fun e => hy ?_) (fun e => hy ?_)
      · rw [e]; rcases (show np = 0 ∨ np = 1 ∨ np = 2 ∨ np = 3 ∨ np = 4 ∨ np = 5 ∨ np = 6 ∨ np = 7 ∨ np = 8 ∨ np = 9 ∨ np = 10 ∨ np = 11 by omega) with rfl | rfl | rfl | rfl | rfl | rfl | rfl | rfl | rfl | rfl | rfl | rfl <;> decide
      · rw [e]; rcases (show np = 0 ∨ np = 1 ∨ np = 2 ∨ np = 3 ∨ np = 4 ∨ np = 5 ∨ np = 6 ∨ np = 7 ∨ np = 8 ∨ np = 9 ∨ np = 10 ∨ np = 11 by omega) with rfl | rfl | rfl | rfl | rfl | rfl | rfl | rfl | rfl | rfl | rfl | rfl <;> decide
    · exact q0 k (fun e => hk9 (by rw [e]; decide)) (fun e => hk9 (by rw [e]; decide))
    · exact p66 k (fun e => hk9 (by rw [e]; decide)) (fun e => hk9 (by rw [e]; decide)) (fun e => hk9 (by rw [e]; decide))
    · rw [q1 51 (by decide) (by decide) (by decide) (by omega) (by omega)]; exact jso.rf
    · rw [q1 55 (by decide) (by decide) (by decide) (by omega) (by omega)]; exact jso.rf
    · rw [q1 63 (by decide) (by decide) (by decide) (by omega) (by omega)]; exact jso.rf
  have h8' : I8 np M2 := h11.fr hch (by decide) (by decide) (by decide)
  refine ⟨h1.fr hch (by decide), h2.fr hch (by decide), ⟨by omega, q012, p669, fun p hp => ?_, fun p a b => ?_, fun y hy => ?_⟩, h4.fr hch (by decide) (by decide), by show M2 0 14 = M2 66 1; rw [q014, p661], h6.fr hch (by decide), h7.fr hch (by decide), h8.fr hch (by decide), h9.fr hch (by decide) (by decide) (by decide), h10.fr hch (by decide) (by decide), ?_, h12.fr hch (by decide) (by decide) (by decide)⟩
  · by_cases e : p = np
    · subst e
      have it : ∀ k, k < 9 → M2 74 (9 * p + k) = mem (3 + s) (i + k) := fun k hk9 => by
        rw [p74, if_pos ⟨by omega, by omega⟩, show 60 * s + i + (9 * p + k - 9 * p) = 60 * s + (i + k) by omega]
        exact h1.2 s hs (i + k) (by omega)
      have mm : ∀ k, M2 (92 + 2 * p) k = mPap mem p s i (92 + 2 * p) k := fun k => by
        rw [p1 _ (by omega) (by omega), ← hM, jup_o (by omega), jup_o (by omega)]
        unfold mPap2
        rw [va_o (by omega)]
      have mf : ∀ k, k < 4 → M2 (93 + 2 * p) k = mem (3 + s) (i + 5 + k) := fun k hk9 => by
        rw [p1 _ (by omega) (by omega), ← hM, jup_o (by omega), jup_o (by omega)]
        unfold mPap2
        rw [va_c]
        unfold va_cpy
        rw [if_pos ⟨by omega, by omega⟩]
        unfold mPap
        rw [jup_o (by omega), jup_o (by omega), jup_o (by omega), jup_o (by omega), jup_o (by omega), jup_o (by omega), jup_o (by omega), Nat.sub_zero]
      have i0 := it 0 (by omega)
      rw [Nat.add_zero, Nat.add_zero] at i0
      have f0 := mf 0 (by omega)
      rw [Nat.add_zero] at f0
      unfold I3p
      rw [mm 0, mm 1, mm 2, mm 3, mm 4, mm 5, mm 7, f0, mf 1 (by omega), mf 2 (by omega), mf 3 (by omega), i0, it 1 (by omega), it 2 (by omega), it 3 (by omega), it 4 (by omega), it 5 (by omega), it 6 (by omega), it 7 (by omega), it 8 (by omega), q1 75 (by decide) (by decide) (by decide) (by omega) (by omega)]
      unfold mPap
      refine ⟨?_, ?_, ?_, ?_, ?_, ?_, rfl, rfl, rfl, rfl, ?_, ?_⟩
      · rw [jup_n (by decide), jup_n (by decide), jup_n (by decide), jup_n (by decide), jup_n (by decide), jup_s]
      · rw [jup_n (by decide), jup_n (by decide), jup_n (by decide), jup_n (by decide), jup_s]
      · rw [jup_n (by decide), jup_n (by decide), jup_n (by decide), jup_s]
      · rw [jup_n (by decide), jup_n (by decide), jup_s]
      · rw [jup_n (by decide), jup_s]
      · rw [jup_s]
      · obtain ⟨a0, a1, a2, a3, a4, a5, a6, a7, a8⟩ := hk
        unfold jPok
        rw [i0, it 1 (by omega), it 2 (by omega), it 3 (by omega), it 4 (by omega), it 5 (by omega), it 6 (by omega), it 7 (by omega), it 8 (by omega)]
        exact ⟨a0, a1, a2, a3, a4, a5, a6, a7, a8⟩
      · rw [jup_n (by decide), jup_n (by decide), jup_n (by decide), jup_n (by decide), jup_n (by decide), jup_n (by decide), jup_s]
        exact Or.inl ⟨rfl, hp75 p (Nat.le_refl _) hn⟩
    · have hQ := hpp p (by omega)
      have t74 : ∀ k, k < 9 → M2 74 (9 * p + k) = mem 74 (9 * p + k) := fun k hk9 => by rw [p74, if_neg (by omega)]
      have t0 := t74 0 (by omega)
      rw [Nat.add_zero] at t0
      unfold I3p jPok at hQ ⊢
      rw [q1 (92 + 2 * p) (by omega) (by omega) (by omega) (by omega) (by omega), q1 (93 + 2 * p) (by omega) (by omega) (by omega) (by omega) (by omega), q1 75 (by decide) (by decide) (by decide) (by omega) (by omega), t0, t74 1 (by omega), t74 2 (by omega), t74 3 (by omega), t74 4 (by omega), t74 5 (by omega), t74 6 (by omega), t74 7 (by omega), t74 8 (by omega)]
      exact hQ
  · rw [q1 75 (by decide) (by decide) (by decide) (by omega) (by omega)]; exact hp75 p (by omega) b
  · rw [q1 y (by omega) (by omega) (by omega) (by omega) (by omega)]; exact hpz y (by omega)
  · obtain ⟨q, hq, a1, a2, a3⟩ := h8'
    exact ⟨q, hq, a1, a2, fun s2 hs2 => by obtain ⟨sp, b1, b2⟩ := a3 s2 hs2; exact ⟨sp, by omega, b2⟩⟩
theorem sim_paper (np : Nat) (mem : jMem) (h : Inv np mem) (s i : Int32) : SimP [.int s, .int i] np mem := by
  obtain ⟨hn, hp0, hp66, hpp, hp75, hpz⟩ := h.2.2.1
  by_cases hs : jin s 0 7
  · by_cases h12 : np = 12
    · subst h12
      exact Or.inl (Sim.ee (c_paper_full 12 mem s i hs hp0) (m_paper_full 12 _ s i hs hp66) rfl h.th)
    · have hn12 : np < 12 := by omega
      obtain ⟨s, hs8, -, rfl⟩ := jin_n hs
      have hs8 : s < 8 := by omega
      rcases h.1.1 s hs8 with ⟨g1, g2⟩ | ⟨z, hz, g12, g68, g67, hl⟩
      · exact Or.inl (Sim.ee (c_paper_null np mem s i hs8 hn12 hp0 g1) (m_paper_null np _ s i hs8 hn12 hp66 g2) rfl (h.f2 1))
      · have hl0 : 0 ≤ (mem 67 s).toInt := by rw [g67]; exact hl.1
        have h9 : (9 : Int32).toInt = 9 := by decide
        by_cases hi : 0 ≤ i.toInt ∧ 0 ≤ (9 : Int32).toInt ∧ i.toInt + (9 : Int32).toInt ≤ z
        · rw [h9] at hi
          obtain ⟨i, -, hi31, rfl⟩ := jin_n (x := i) (c := 60) ⟨hi.1, by omega⟩
          rw [nI_toInt hi31] at hi
          have hi9 : i + 9 ≤ z := by omega
          have it : ∀ k, k < 9 → mem 69 (60 * s + i + k) = mem (3 + s) (i + k) := fun k hk9 => by
            rw [Nat.add_assoc]
            exact h.1.2 s hs8 (i + k) (by omega)
          have hpk : jPok (mem 69) (60 * s + i) ↔ jPok (mem (3 + s)) i := by
            have i0 := it 0 (by omega)
            rw [Nat.add_zero, Nat.add_zero] at i0
            unfold jPok
            rw [i0, it 1 (by omega), it 2 (by omega), it 3 (by omega), it 4 (by omega), it 5 (by omega), it 6 (by omega), it 7 (by omega), it 8 (by omega)]
          by_cases hk : jPok (mem (3 + s)) i
          · refine Or.inr ⟨nI np, _, c_paper np mem s i z hs8 hn12 hp0 hz g12 hi9 hk (hpz _ (by omega)) (hpz _ (by omega)), ?_⟩
            have e66 : jup (jup (mPap2 mem np s i) 0 12 (nI (np + 1))) 0 14 0 66 = mem 66 := by rw [mP_o (by omega) (by omega), jup_o (by decide), jup_o (by decide)]
            have e67 : jup (jup (mPap2 mem np s i) 0 12 (nI (np + 1))) 0 14 0 67 = mem 67 := by rw [mP_o (by omega) (by omega), jup_o (by decide), jup_o (by decide)]
            have e68 : jup (jup (mPap2 mem np s i) 0 12 (nI (np + 1))) 0 14 0 68 = mem 68 := by rw [mP_o (by omega) (by omega), jup_o (by decide), jup_o (by decide)]
            have e69 : jup (jup (mPap2 mem np s i) 0 12 (nI (np + 1))) 0 14 0 69 = mem 69 := by rw [mP_o (by omega) (by omega), jup_o (by decide), jup_o (by decide)]
            refine ⟨_, m_paperS (np + 1) _ np s i z hs8 hn12 (by rw [e66]; exact hp66) (by rw [e67]; exact hl0) hz (by rw [e68]; exact g68) hi9 (by rw [e69]; exact hpk.mpr hk), fun v2 m2 q2 => ?_⟩
            obtain ⟨rfl, rfl⟩ := q2
            exact ⟨rfl, paper_i3 h hs8 (by omega) hn12 hk⟩
          · exact Or.inl (Sim.ee (c_paper_item np mem s i z hs8 hn12 hp0 hz g12 hi9 hk) (m_paper_item np _ s i z hs8 hn12 hp66 hl0 hz g68 hi9 (fun q => hk (hpk.mp q))) rfl h.th)
        · exact Or.inl (Sim.ee (c_paper_place np mem s z i hs8 hn12 hp0 hz g12 hi) (m_paper_place np _ s i hs8 hn12 hp66 hl0 (by show _ ∨ _ > (mem 68 s).toInt; rw [g68, nI_toInt (n := z) (by omega)]; rw [h9] at hi; omega)) rfl (h.f2 2))
  · exact Or.inl (Sim.ee (c_paper_bad np mem s i hs) (m_paper_bad np _ s i hs) rfl h.th)
