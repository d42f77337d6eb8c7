theorem jDA_w {B : Nat → Nat} {z p : Nat} {dn : Bool} {s0 s : aSt} {mem m2 m3 : jMem} {S S3 : Nat → Nat} (hA : jDA B z dn s0 mem p s S m2) (hdn : dn = true) (hJ : jeq [80, 81, 82, 83, 84] m2 m3) (hS : jSM m3 S3) : jDA B z dn s0 mem p s S3 m3 := by
  obtain ⟨a1, a2, a3, a4, a5, a6⟩ := hA
  have e66 : m3 66 = m2 66 := hJ 66 (by decide)
  refine ⟨⟨⟨a1.1.1, fun i hi => by rw [hJ 85 (by decide)]; exact a1.1.2 i hi⟩, by rw [e66]; exact a1.2.1, a1.2.2.1, by rw [e66]; exact a1.2.2.2⟩, by rw [e66]; exact a2, a3, hS, a5.tr ⟨hJ.mo (by simp), by rw [e66]; exact jso.rf⟩, fun e => ?_⟩
  rw [hdn] at e
  cases e
theorem jDA_31 {B : Nat → Nat} {z p : Nat} {dn : Bool} {s0 s : aSt} {mem m2 : jMem} {S : Nat → Nat} (hA : jDA B z dn s0 mem p s S m2) (hD : mem 66 31 = jIsD dn) : m2 66 31 = jIsD dn := (hA.2.2.2.2.1.2 31 (by decide)).trans hD
theorem jDF_31 {B : Nat → Nat} {z : Nat} {dn : Bool} {s0 : aSt} {mem m2 : jMem} (hF : jDF B z dn s0 mem m2) (hD : mem 66 31 = jIsD dn) : m2 66 31 = jIsD dn := by
  obtain ⟨code, plc, h1, h3, hc, hp, hpl, hR, hdn, hJ1, hS1⟩ := hF
  exact (hS1 31 (by decide)).trans hD
theorem jIsD_t {dn : Bool} (h : ¬ jIsD dn = 0) : dn = true := by
  cases hd : dn with
  | true => rfl
  | false => rw [hd] at h; exact absurd (by decide) h
def jDq (B : Nat → Nat) (z : Nat) (dn : Bool) (s0 : aSt) (m0 : jMem) (c : Nat) (m2 : jMem) : Prop := (∃ p2 d k S2, d < 4 ∧ k ≤ 8 ∧ tAw B z p2 = 3 ∧ jDA B z dn s0 m0 p2 (2, p2, d, k, 0, 0, c, S2) (aUp dn S2 d k) m2) ∨ jDF B z dn s0 m0 m2
def jRq (B : Nat → Nat) (z : Nat) (dn : Bool) (s0 : aSt) (m0 : jMem) (c : Nat) (m2 : jMem) : Prop := (∃ p2 d k S2, d < 4 ∧ k < 16 ∧ ¬ tK B z p2 = 3 ∧ jDA B z dn s0 m0 p2 (6, p2, d, k, 0, 0, c, S2) (aUp dn S2 (4 + d) k) m2) ∨ jDF B z dn s0 m0 m2
set_option maxRecDepth 4000 in
set_option maxHeartbeats 1000000 in
theorem m_readDoor (np : Nat) (mem : jMem) (p z c : Nat) (B : Nat → Nat) (dn : Bool) (s0 : aSt) (m0 : jMem) (S : Nat → Nat) (hA : jDA B z dn s0 m0 p (1, p, 0, 0, 0, 0, c, S) S mem) (hD : m0 66 31 = jIsD dn) (hnf : dn = true → ∀ x, aR (aF B z dn) s0 x → x.1 ≠ 7) : jPv yX11_readDoor cX11_readDoor 6 5 [.ref 66] np mem (jDq B z dn s0 m0 c) := by
  refine jPv.of (own := RX11) rfl rfl (Nat.le_of_ble_eq_true rfl) (fun G X hR hr hE => ?_)
  refine j_aload_n X dX11_readDoor_0 rfl ?_
  refine j_iconst X dX11_readDoor_1 3 (by decide) ?_
  refine s_callVi X hR (m_numberTo np _ p z 3 B hA.1 hA.2.1 (by omega)) rfl 11 (by decide) (o66 np) (k66 np) rfl u1335 u1332 u1334 qp57 u12 hyX11_numberTo (by decide) (by decide) (Nat.le_of_ble_eq_true rfl) dX11_readDoor_2 (fun v_2 m_2 h_2 => ?_)
  refine j_istore_n X dX11_readDoor_5 (by decide) ?_
  refine j_iconst X dX11_readDoor_6 0 (by decide) ?_
  refine j_istore_n X dX11_readDoor_7 (by decide) ?_
  have lp8 : ∀ (n : Nat) (dv kv : Int32) (m2 : jMem), (∃ p2 d k S2, dv = nI d ∧ kv = nI k ∧ d < 4 ∧ k ≤ 8 ∧ jDA B z dn s0 m0 p2 (2, p2, d, k, 0, 0, c, S2) S2 m2 ∧ z + 2 ≤ p2 + n) ∨ (jDF B z dn s0 m0 m2 ∧ 1 ≤ n) → J G RX11 cX11_readDoor 6 0 0 8 (jlv [some (.ref 66), some (.int dv), some (.int kv)]) [] (jS np) (m2) := by
    intro n
    induction n with
    | zero =>
      intro dv kv m2 hI
      exact absurd (show 1 ≤ 0 from hI.elim (fun e => by obtain ⟨_, _, _, _, _, _, _, _, e1, e2⟩ := e; have := e1.1.2.2.1; omega) (fun e => e.2)) (by omega)
    | succ n ih8 =>
      intro dv kv m2 hI
      refine j_aload_n X dX11_readDoor_8 rfl ?_
      refine j_getF X 11 29 (by decide) (by decide) rfl u980 (o66 np) (k66 np) (m2 66) rfl dX11_readDoor_9 ?_
      refine j_if_ne X 128 dX11_readDoor_12 (by decide) (fun c_12 => ?_) (fun c_12 => ?_)
      · have hF := (hI.resolve_left (fun ⟨_, _, _, _, _, _, _, _, e, _⟩ => c_12 e.2.1)).1
        refine j_aload_n X dX11_readDoor_128 rfl ?_
        refine j_getF X 11 31 (by decide) (by decide) rfl u982 (o66 np) (k66 np) (m2 66) rfl dX11_readDoor_129 ?_
        refine j_nrm (jIsD dn) (jDF_31 hF hD) ?_
        refine j_if_eq X 142 dX11_readDoor_132 (by decide) (fun c_132 => ?_) (fun c_132 => ?_)
        · refine s_vret X hE hr dX11_readDoor_142 ?_
          exact Or.inr hF
        · exact absurd (jIsD_0.mpr (jDF_dn hF)) c_132
      · obtain ⟨p2, d, k, S2, rfl, rfl, hd4, hk8, hA2, hfu⟩ := hI.resolve_right (fun e => jDF_29 e.1 c_12)
        have hpz := hA2.1.2.2.1
        have h300 := hA2.1.1.1
        have hal := tAw_lt B z p2
        refine j_aload_n X dX11_readDoor_15 rfl ?_
        refine s_callVi X hR (m_askOfWord np _ p2 z B hA2.1) rfl 11 (by decide) (o66 np) (k66 np) rfl u1339 u1336 u1338 qp58 u12 hyX11_askOfWord (by decide) (by decide) (Nat.le_of_ble_eq_true rfl) dX11_readDoor_16 (fun v_16 m_16 h_16 => ?_)
        obtain ⟨e1, e2⟩ := h_16; have e1 := e1.symm; have e2 := e2.symm; subst e1; subst e2
        refine j_ldc X dX11_readDoor_19 u950 ?_
        refine j_icmp_eq X 128 dX11_readDoor_21 (by decide) (fun c_21 => ?_) (fun c_21 => ?_)
        · have haw : tAw B z p2 = 3 := by
            by_cases e : tAw B z p2 = 3
            · exact e
            · rw [if_neg e] at c_21
              exact absurd c_21 (jnn (by omega))
          refine j_aload_n X dX11_readDoor_128 rfl ?_
          refine j_getF X 11 31 (by decide) (by decide) rfl u982 (o66 np) (k66 np) (m2 66) rfl dX11_readDoor_129 ?_
          refine j_nrm (jIsD dn) (jDA_31 hA2 hD) ?_
          refine j_if_eq X 142 dX11_readDoor_132 (by decide) (fun c_132 => ?_) (fun c_132 => ?_)
          · refine s_vret X hE hr dX11_readDoor_142 ?_
            have hdn := jIsD_0.mp c_132
            subst hdn
            exact Or.inl ⟨p2, d, k, S2, hd4, hk8, haw, hA2⟩
          · refine j_aload_n X dX11_readDoor_135 rfl ?_
            refine j_getR X 11 17 (by decide) (by decide) rfl u968 (o66 np) (k66 np) _ (p66_17 np) dX11_readDoor_136 ?_
            refine j_iload_n X dX11_readDoor_139 rfl ?_
            refine j_iload_n X dX11_readDoor_140 rfl ?_
            refine j_nrm2 _ (by first | (simp only [fa_lit, pk_mul, nI_add]; done) | (simp only [fa_lit, pk_mul, nI_add]; rfl) | rfl) ?_
            refine j_iastN X (o81 np) (k81 np) (by rw [l81]; omega) (by rw [l81]; decide) dX11_readDoor_141 ?_
            refine s_vret X hE hr dX11_readDoor_142 ?_
            have hdn := jIsD_t c_132
            subst hdn
            exact Or.inl ⟨p2, d, k, S2, hd4, hk8, haw, jDA_w hA2 rfl (jeq.up jeq.rf (by decide)) (jSM_cn hA2.2.2.2.1 hd4)⟩
        · refine j_aload_n X dX11_readDoor_24 rfl ?_
          refine s_callVi X hR (m_askOfWord np _ p2 z B hA2.1) rfl 11 (by decide) (o66 np) (k66 np) rfl u1339 u1336 u1338 qp58 u12 hyX11_askOfWord (by decide) (by decide) (Nat.le_of_ble_eq_true rfl) dX11_readDoor_25 (fun v_25 m_25 h_25 => ?_)
          obtain ⟨e1, e2⟩ := h_25; have e1 := e1.symm; have e2 := e2.symm; subst e1; subst e2
          have haw : ¬ tAw B z p2 = 3 := fun e => c_21 (if_pos e)
          refine j_nrm (nI (tAw B z p2)) (if_neg haw) ?_
          refine j_istore_n X dX11_readDoor_28 (by decide) ?_
          refine j_iload_n X dX11_readDoor_29 rfl ?_
          refine j_bipush X dX11_readDoor_30 8 (by decide) ?_
          refine j_icmp_ne X 40 dX11_readDoor_32 (by decide) (fun c_32 => ?_) (fun c_32 => ?_)
          · have hk9 : ¬ k = 8 := fun e => c_32 (congrArg nI e)
            refine j_aload_n X dX11_readDoor_40 rfl ?_
            refine j_iconst X dX11_readDoor_41 1 (by decide) ?_
            refine s_callVv X hR (m_must_step np _ p2 z B hA2.1 hA2.2.1) rfl 11 (by decide) (o66 np) (k66 np) rfl u1323 u1320 u1322 qp54 u12 hyX11_must (by decide) (by decide) (Nat.le_of_ble_eq_true rfl) dX11_readDoor_42 (fun m_42 h_42 => ?_)
            have hA3 := jDA_st hA2 (aF_2a haw hk9) h_42.1 h_42.2.1 h_42.2.2
            refine j_aload_n X dX11_readDoor_45 rfl ?_
            refine j_iconst X dX11_readDoor_46 3 (by decide) ?_
            refine s_callVi X hR (m_numberTo np _ (tN B z p2) z 3 B hA3.1 hA3.2.1 (by omega)) rfl 11 (by decide) (o66 np) (k66 np) rfl u1335 u1332 u1334 qp57 u12 hyX11_numberTo (by decide) (by decide) (Nat.le_of_ble_eq_true rfl) dX11_readDoor_47 (fun v_47 m_47 h_47 => ?_)
            by_cases h0 : m_47 66 29 = 0
            · obtain ⟨hb, hv4, hJ4, hS4, hT4⟩ := jNq_ok h_47 hA3.2.1 h0
              subst hv4
              refine j_istore X dX11_readDoor_50 (by decide) ?_
              refine j_iload_n X dX11_readDoor_52 rfl ?_
              refine j_iconst X dX11_readDoor_53 2 (by decide) ?_
              refine j_icmp_ne X 67 dX11_readDoor_54 (by decide) (fun c_54 => ?_) (fun c_54 => ?_)
              · have hw2 : ¬ tAw B z p2 = 2 := fun e => c_54 (congrArg nI e)
                refine j_iconst X dX11_readDoor_67 0 (by decide) ?_
                refine j_istore X dX11_readDoor_68 (by decide) ?_
                refine j_aload_n X dX11_readDoor_70 rfl ?_
                refine j_getF X 11 29 (by decide) (by decide) rfl u980 (o66 np) (k66 np) (m_47 66) rfl dX11_readDoor_71 ?_
                refine j_if_ne X 122 dX11_readDoor_74 (by decide) (fun c_74 => ?_) (fun c_74 => ?_)
                · exact absurd h0 c_74
                · have hA5 := jDA_st hA3 (aF_3 hb hw2) hJ4 hS4 hT4
                  have hp4 : p2 < tN B z (tN B z p2) := by
                    have e1 := (tN_gt (B := B) (n := z) (p := p2) (by rw [tAw_k haw]; decide)).1
                    have e2 := tF_ge (B := B) (n := z) (p := tN B z p2)
                    have e3 := tN_ge (B := B) (n := z) (p := tN B z p2)
                    omega
                  refine j_aload_n X dX11_readDoor_77 rfl ?_
                  refine j_getF X 11 31 (by decide) (by decide) rfl u982 (o66 np) (k66 np) (m_47 66) rfl dX11_readDoor_78 ?_
                  refine j_nrm (jIsD dn) (jDA_31 hA5 hD) ?_
                  refine j_if_eq X 122 dX11_readDoor_81 (by decide) (fun c_81 => ?_) (fun c_81 => ?_)
                  · refine j_iinc X dX11_readDoor_122 rfl 1 rfl ?_
                    refine j_goto X 8 dX11_readDoor_125 (by decide) ?_
                    have hdn := jIsD_0.mp c_81
                    subst hdn
                    have hA7 := hA5
                    refine j_lv [some (.ref 66), some (_), some (_)] ⟨rfl, rfl, rfl, trivial⟩ ?_
                    exact ih8 _ _ _ (Or.inl ⟨_, d, k + 1, _, rfl, nI_1 k, hd4, by omega, hA7, by omega⟩)
                  · refine j_aload_n X dX11_readDoor_84 rfl ?_
                    refine j_getR X 11 18 (by decide) (by decide) rfl u969 (o66 np) (k66 np) _ (p66_18 np) dX11_readDoor_85 ?_
                    refine j_bipush X dX11_readDoor_88 8 (by decide) ?_
                    refine j_iload_n X dX11_readDoor_90 rfl ?_
                    refine j_imul X dX11_readDoor_91 ?_
                    refine j_iload_n X dX11_readDoor_92 rfl ?_
                    refine j_iadd X dX11_readDoor_93 ?_
                    refine j_iload_n X dX11_readDoor_94 rfl ?_
                    refine j_nrm2 _ (by first | (simp only [fa_lit, pk_mul, nI_add]; done) | (simp only [fa_lit, pk_mul, nI_add]; rfl) | rfl) ?_
                    refine j_iastN X (o82 np) (k82 np) (by rw [l82]; omega) (by rw [l82]; decide) dX11_readDoor_95 ?_
                    refine j_aload_n X dX11_readDoor_96 rfl ?_
                    refine j_getR X 11 19 (by decide) (by decide) rfl u970 (o66 np) (k66 np) _ (p66_19 np) dX11_readDoor_97 ?_
                    refine j_bipush X dX11_readDoor_100 8 (by decide) ?_
                    refine j_iload_n X dX11_readDoor_102 rfl ?_
                    refine j_imul X dX11_readDoor_103 ?_
                    refine j_iload_n X dX11_readDoor_104 rfl ?_
                    refine j_iadd X dX11_readDoor_105 ?_
                    refine j_iload X dX11_readDoor_106 rfl ?_
                    refine j_nrm2 _ (by first | (simp only [fa_lit, pk_mul, nI_add]; done) | (simp only [fa_lit, pk_mul, nI_add]; rfl) | rfl) ?_
                    refine j_iastN X (o83 np) (k83 np) (by rw [l83]; omega) (by rw [l83]; decide) dX11_readDoor_108 ?_
                    refine j_aload_n X dX11_readDoor_109 rfl ?_
                    refine j_getR X 11 20 (by decide) (by decide) rfl u971 (o66 np) (k66 np) _ (p66_20 np) dX11_readDoor_110 ?_
                    refine j_bipush X dX11_readDoor_113 8 (by decide) ?_
                    refine j_iload_n X dX11_readDoor_115 rfl ?_
                    refine j_imul X dX11_readDoor_116 ?_
                    refine j_iload_n X dX11_readDoor_117 rfl ?_
                    refine j_iadd X dX11_readDoor_118 ?_
                    refine j_iload X dX11_readDoor_119 rfl ?_
                    refine j_nrm2 _ (by first | (simp only [fa_lit, pk_mul, nI_add]; done) | (simp only [fa_lit, pk_mul, nI_add]; rfl) | rfl) ?_
                    refine j_iastN X (o84 np) (k84 np) (by rw [l84]; omega) (by rw [l84]; decide) dX11_readDoor_121 ?_
                    refine j_iinc X dX11_readDoor_122 rfl 1 rfl ?_
                    refine j_goto X 8 dX11_readDoor_125 (by decide) ?_
                    have hdn := jIsD_t c_81
                    subst hdn
                    have hA7 := jDA_w hA5 rfl (jeq.up (jeq.up (jeq.up jeq.rf (by decide)) (by decide)) (by decide)) (jSM_wr (d := d) (k := k) (w := tAw B z p2) (o := tV B z (tN B z p2)) (b := 0) hA5.2.2.2.1 hd4 (by omega))
                    refine j_lv [some (.ref 66), some (_), some (_)] ⟨rfl, rfl, rfl, trivial⟩ ?_
                    exact ih8 _ _ _ (Or.inl ⟨_, d, k + 1, _, rfl, nI_1 k, hd4, by omega, hA7, by omega⟩)
              · have haw2 : tAw B z p2 = 2 := (nI_eq (by omega) (by omega)).mp (show nI (tAw B z p2) = nI 2 from c_54)
                have hA4 := jDA_st hA3 (aF_3o hb haw2) hJ4 hS4 hT4
                refine j_aload_n X dX11_readDoor_57 rfl ?_
                refine j_sipush X dX11_readDoor_58 999 (by decide) ?_
                refine s_callVi X hR (m_numberTo np _ (tN B z (tN B z p2)) z 999 B hA4.1 hA4.2.1 (by omega)) rfl 11 (by decide) (o66 np) (k66 np) rfl u1335 u1332 u1334 qp57 u12 hyX11_numberTo (by decide) (by decide) (Nat.le_of_ble_eq_true rfl) dX11_readDoor_61 (fun v_61 m_61 h_61 => ?_)
                refine j_goto X 68 dX11_readDoor_64 (by decide) ?_
                refine j_istore X dX11_readDoor_68 (by decide) ?_
                refine j_aload_n X dX11_readDoor_70 rfl ?_
                refine j_getF X 11 29 (by decide) (by decide) rfl u980 (o66 np) (k66 np) (m_61 66) rfl dX11_readDoor_71 ?_
                refine j_if_ne X 122 dX11_readDoor_74 (by decide) (fun c_74 => ?_) (fun c_74 => ?_)
                · have hn6 := jNq_no h_61 hA4.2.1 c_74
                  have hF6 := jDF_mk hA4 (aF_num4 hn6.1) hnf (by rcases aNc_12 B z (tN B z (tN B z p2)) with e | e <;> omega) (by rcases aNc_12 B z (tN B z (tN B z p2)) with e | e <;> omega) hn6.2.1 (hn6.2.2.1.mo (by simp)) hn6.2.2.2.1 hn6.2.2.2.2
                  refine j_iinc X dX11_readDoor_122 rfl 1 rfl ?_
                  refine j_goto X 8 dX11_readDoor_125 (by decide) ?_
                  refine j_lv [some (.ref 66), some (_), some (_)] ⟨rfl, rfl, rfl, trivial⟩ ?_
                  exact ih8 _ _ _ (Or.inr ⟨hF6, by omega⟩)
                · obtain ⟨hb6, hv6, hJ6, hS6, hT6⟩ := jNq_ok h_61 hA4.2.1 c_74
                  subst hv6
                  have hA5 := jDA_st hA4 (aF_4 hb6) hJ6 hS6 hT6
                  have hp4 : p2 < tN B z (tN B z (tN B z p2)) := by
                    have e1 := (tN_gt (B := B) (n := z) (p := p2) (by rw [tAw_k haw]; decide)).1
                    have e2 := tF_ge (B := B) (n := z) (p := tN B z p2)
                    have e3 := tN_ge (B := B) (n := z) (p := tN B z p2)
                    have e4 := tF_ge (B := B) (n := z) (p := tN B z (tN B z p2))
                    have e5 := tN_ge (B := B) (n := z) (p := tN B z (tN B z p2))
                    omega
                  refine j_aload_n X dX11_readDoor_77 rfl ?_
                  refine j_getF X 11 31 (by decide) (by decide) rfl u982 (o66 np) (k66 np) (m_61 66) rfl dX11_readDoor_78 ?_
                  refine j_nrm (jIsD dn) (jDA_31 hA5 hD) ?_
                  refine j_if_eq X 122 dX11_readDoor_81 (by decide) (fun c_81 => ?_) (fun c_81 => ?_)
                  · refine j_iinc X dX11_readDoor_122 rfl 1 rfl ?_
                    refine j_goto X 8 dX11_readDoor_125 (by decide) ?_
                    have hdn := jIsD_0.mp c_81
                    subst hdn
                    have hA7 := hA5
                    refine j_lv [some (.ref 66), some (_), some (_)] ⟨rfl, rfl, rfl, trivial⟩ ?_
                    exact ih8 _ _ _ (Or.inl ⟨_, d, k + 1, _, rfl, nI_1 k, hd4, by omega, hA7, by omega⟩)
                  · have haw3 := haw2
                    refine j_aload_n X dX11_readDoor_84 rfl ?_
                    refine j_getR X 11 18 (by decide) (by decide) rfl u969 (o66 np) (k66 np) _ (p66_18 np) dX11_readDoor_85 ?_
                    refine j_bipush X dX11_readDoor_88 8 (by decide) ?_
                    refine j_iload_n X dX11_readDoor_90 rfl ?_
                    refine j_imul X dX11_readDoor_91 ?_
                    refine j_iload_n X dX11_readDoor_92 rfl ?_
                    refine j_iadd X dX11_readDoor_93 ?_
                    refine j_iload_n X dX11_readDoor_94 rfl ?_
                    refine j_nrm2 _ (by first | (simp only [fa_lit, pk_mul, nI_add]; done) | (simp only [fa_lit, pk_mul, nI_add]; rfl) | rfl) ?_
                    refine j_iastN X (o82 np) (k82 np) (by rw [l82]; omega) (by rw [l82]; decide) dX11_readDoor_95 ?_
                    refine j_aload_n X dX11_readDoor_96 rfl ?_
                    refine j_getR X 11 19 (by decide) (by decide) rfl u970 (o66 np) (k66 np) _ (p66_19 np) dX11_readDoor_97 ?_
                    refine j_bipush X dX11_readDoor_100 8 (by decide) ?_
                    refine j_iload_n X dX11_readDoor_102 rfl ?_
                    refine j_imul X dX11_readDoor_103 ?_
                    refine j_iload_n X dX11_readDoor_104 rfl ?_
                    refine j_iadd X dX11_readDoor_105 ?_
                    refine j_iload X dX11_readDoor_106 rfl ?_
                    refine j_nrm2 _ (by first | (simp only [fa_lit, pk_mul, nI_add]; done) | (simp only [fa_lit, pk_mul, nI_add]; rfl) | rfl) ?_
                    refine j_iastN X (o83 np) (k83 np) (by rw [l83]; omega) (by rw [l83]; decide) dX11_readDoor_108 ?_
                    refine j_aload_n X dX11_readDoor_109 rfl ?_
                    refine j_getR X 11 20 (by decide) (by decide) rfl u971 (o66 np) (k66 np) _ (p66_20 np) dX11_readDoor_110 ?_
                    refine j_bipush X dX11_readDoor_113 8 (by decide) ?_
                    refine j_iload_n X dX11_readDoor_115 rfl ?_
                    refine j_imul X dX11_readDoor_116 ?_
                    refine j_iload_n X dX11_readDoor_117 rfl ?_
                    refine j_iadd X dX11_readDoor_118 ?_
                    refine j_iload X dX11_readDoor_119 rfl ?_
                    refine j_nrm2 _ (by first | (simp only [fa_lit, pk_mul, nI_add]; done) | (simp only [fa_lit, pk_mul, nI_add]; rfl) | rfl) ?_
                    refine j_iastN X (o84 np) (k84 np) (by rw [l84]; omega) (by rw [l84]; decide) dX11_readDoor_121 ?_
                    refine j_iinc X dX11_readDoor_122 rfl 1 rfl ?_
                    refine j_goto X 8 dX11_readDoor_125 (by decide) ?_
                    have hdn := jIsD_t c_81
                    subst hdn
                    have hA7 := jDA_w hA5 rfl (jeq.up (jeq.up (jeq.up jeq.rf (by decide)) (by decide)) (by decide)) (jSM_wr (d := d) (k := k) (w := tAw B z p2) (o := tV B z (tN B z p2)) (b := (tV B z (tN B z (tN B z p2)))) hA5.2.2.2.1 hd4 (by omega))
                    refine j_lv [some (.ref 66), some (_), some (_)] ⟨rfl, rfl, rfl, trivial⟩ ?_
                    exact ih8 _ _ _ (Or.inl ⟨_, d, k + 1, _, rfl, nI_1 k, hd4, by omega, hA7, by omega⟩)
            · have hn4 := jNq_no h_47 hA3.2.1 h0
              have hF4 := jDF_mk hA3 (aF_num (Or.inr (Or.inl rfl)) hn4.1) hnf (by rcases aNc_12 B z (tN B z p2) with e | e <;> omega) (by rcases aNc_12 B z (tN B z p2) with e | e <;> omega) hn4.2.1 (hn4.2.2.1.mo (by simp)) hn4.2.2.2.1 hn4.2.2.2.2
              obtain ⟨kf, hkf1, hkf2, hkf3⟩ := jDF_fl hF4
              refine j_istore X dX11_readDoor_50 (by decide) ?_
              refine j_iload_n X dX11_readDoor_52 rfl ?_
              refine j_iconst X dX11_readDoor_53 2 (by decide) ?_
              refine j_icmp_ne X 67 dX11_readDoor_54 (by decide) (fun c_54 => ?_) (fun c_54 => ?_)
              · refine j_iconst X dX11_readDoor_67 0 (by decide) ?_
                refine j_istore X dX11_readDoor_68 (by decide) ?_
                refine j_aload_n X dX11_readDoor_70 rfl ?_
                refine j_getF X 11 29 (by decide) (by decide) rfl u980 (o66 np) (k66 np) (m_47 66) rfl dX11_readDoor_71 ?_
                refine j_if_ne X 122 dX11_readDoor_74 (by decide) (fun c_74 => ?_) (fun c_74 => ?_)
                · refine j_iinc X dX11_readDoor_122 rfl 1 rfl ?_
                  refine j_goto X 8 dX11_readDoor_125 (by decide) ?_
                  refine j_lv [some (.ref 66), some (_), some (_)] ⟨rfl, rfl, rfl, trivial⟩ ?_
                  exact ih8 _ _ _ (Or.inr ⟨hF4, by omega⟩)
                · exact absurd c_74 (jDF_29 hF4)
              · refine j_aload_n X dX11_readDoor_57 rfl ?_
                refine j_sipush X dX11_readDoor_58 999 (by decide) ?_
                refine s_callVi X hR (m_numberTo_f np _ _ kf hkf3 hkf1 hkf2) rfl 11 (by decide) (o66 np) (k66 np) rfl u1335 u1332 u1334 qp57 u12 hyX11_numberTo (by decide) (by decide) (Nat.le_of_ble_eq_true rfl) dX11_readDoor_61 (fun v_61 m_61 h_61 => ?_)
                obtain ⟨e1, e2⟩ := h_61; have e1 := e1.symm; have e2 := e2.symm; subst e1; subst e2
                refine j_goto X 68 dX11_readDoor_64 (by decide) ?_
                refine j_istore X dX11_readDoor_68 (by decide) ?_
                refine j_aload_n X dX11_readDoor_70 rfl ?_
                refine j_getF X 11 29 (by decide) (by decide) rfl u980 (o66 np) (k66 np) (m_47 66) rfl dX11_readDoor_71 ?_
                refine j_if_ne X 122 dX11_readDoor_74 (by decide) (fun c_74 => ?_) (fun c_74 => ?_)
                · refine j_iinc X dX11_readDoor_122 rfl 1 rfl ?_
                  refine j_goto X 8 dX11_readDoor_125 (by decide) ?_
                  refine j_lv [some (.ref 66), some (_), some (_)] ⟨rfl, rfl, rfl, trivial⟩ ?_
                  exact ih8 _ _ _ (Or.inr ⟨hF4, by omega⟩)
                · exact absurd c_74 (jDF_29 hF4)
          · refine j_aload_n X dX11_readDoor_35 rfl ?_
            refine j_iconst X dX11_readDoor_36 3 (by decide) ?_
            refine s_callVv X hR (m_bad0 np _ 3 hA2.2.1) rfl 11 (by decide) (o66 np) (k66 np) rfl u1327 u1324 u1326 qp55 u12 hyX11_bad (by decide) (by decide) (Nat.le_of_ble_eq_true rfl) dX11_readDoor_37 (fun m_37 h_37 => ?_)
            have h_37 := h_37.symm; subst h_37
            obtain rfl : k = 8 := (nI_eq (by omega) (by omega)).mp (show nI k = nI 8 from c_32)
            have hF3 := jDF_mk (m3 := jup (jup m2 66 29 3) 66 30 (m2 66 27)) hA2 (aF_2m haw) hnf (by omega) (by omega) (jeq.up (jeq.up jeq.rf (by decide)) (by decide)) (jso.up (jso.up jso.rf (by decide)) (by decide)) (by rw [jup_n (by decide), jup_s]; rfl) (by rw [jup_s]; exact hA2.1.2.2.2.2.2.1)
            refine j_aload_n X dX11_readDoor_40 rfl ?_
            refine j_iconst X dX11_readDoor_41 1 (by decide) ?_
            refine s_callVv X hR (m_must_f np _ (by rw [jup_n (by decide), jup_s]; decide)) rfl 11 (by decide) (o66 np) (k66 np) rfl u1323 u1320 u1322 qp54 u12 hyX11_must (by decide) (by decide) (Nat.le_of_ble_eq_true rfl) dX11_readDoor_42 (fun m_42 h_42 => ?_)
            have h_42 := h_42.symm; subst h_42
            refine j_aload_n X dX11_readDoor_45 rfl ?_
            refine j_iconst X dX11_readDoor_46 3 (by decide) ?_
            refine s_callVi X hR (m_numberTo_f np _ _ 3 (by rw [jup_n (by decide), jup_s]; rfl) (by omega) (by omega)) rfl 11 (by decide) (o66 np) (k66 np) rfl u1335 u1332 u1334 qp57 u12 hyX11_numberTo (by decide) (by decide) (Nat.le_of_ble_eq_true rfl) dX11_readDoor_47 (fun v_47 m_47 h_47 => ?_)
            obtain ⟨e1, e2⟩ := h_47; have e1 := e1.symm; have e2 := e2.symm; subst e1; subst e2
            refine j_istore X dX11_readDoor_50 (by decide) ?_
            refine j_iload_n X dX11_readDoor_52 rfl ?_
            refine j_iconst X dX11_readDoor_53 2 (by decide) ?_
            refine j_icmp_ne X 67 dX11_readDoor_54 (by decide) (fun c_54 => ?_) (fun c_54 => ?_)
            · refine j_iconst X dX11_readDoor_67 0 (by decide) ?_
              refine j_istore X dX11_readDoor_68 (by decide) ?_
              refine j_aload_n X dX11_readDoor_70 rfl ?_
              refine j_getF X 11 29 (by decide) (by decide) rfl u980 (o66 np) (k66 np) _ rfl dX11_readDoor_71 ?_
              refine j_nrm 3 (by rw [jup_n (by decide), jup_s]) ?_
              refine j_if_ne X 122 dX11_readDoor_74 (by decide) (fun c_74 => ?_) (fun c_74 => ?_)
              · refine j_iinc X dX11_readDoor_122 rfl 1 rfl ?_
                refine j_goto X 8 dX11_readDoor_125 (by decide) ?_
                refine j_lv [some (.ref 66), some (_), some (_)] ⟨rfl, rfl, rfl, trivial⟩ ?_
                exact ih8 _ _ _ (Or.inr ⟨hF3, by omega⟩)
              · exact absurd c_74 (by decide)
            · refine j_aload_n X dX11_readDoor_57 rfl ?_
              refine j_sipush X dX11_readDoor_58 999 (by decide) ?_
              refine s_callVi X hR (m_numberTo_f np _ _ 3 (by rw [jup_n (by decide), jup_s]; rfl) (by omega) (by omega)) rfl 11 (by decide) (o66 np) (k66 np) rfl u1335 u1332 u1334 qp57 u12 hyX11_numberTo (by decide) (by decide) (Nat.le_of_ble_eq_true rfl) dX11_readDoor_61 (fun v_61 m_61 h_61 => ?_)
              obtain ⟨e1, e2⟩ := h_61; have e1 := e1.symm; have e2 := e2.symm; subst e1; subst e2
              refine j_goto X 68 dX11_readDoor_64 (by decide) ?_
              refine j_istore X dX11_readDoor_68 (by decide) ?_
              refine j_aload_n X dX11_readDoor_70 rfl ?_
              refine j_getF X 11 29 (by decide) (by decide) rfl u980 (o66 np) (k66 np) _ rfl dX11_readDoor_71 ?_
              refine j_nrm 3 (by rw [jup_n (by decide), jup_s]) ?_
              refine j_if_ne X 122 dX11_readDoor_74 (by decide) (fun c_74 => ?_) (fun c_74 => ?_)
              · refine j_iinc X dX11_readDoor_122 rfl 1 rfl ?_
                refine j_goto X 8 dX11_readDoor_125 (by decide) ?_
                refine j_lv [some (.ref 66), some (_), some (_)] ⟨rfl, rfl, rfl, trivial⟩ ?_
                exact ih8 _ _ _ (Or.inr ⟨hF3, by omega⟩)
              · exact absurd c_74 (by decide)
  refine j_lv [some (.ref 66), some (.int v_2), some (.int 0)] ⟨rfl, rfl, rfl, trivial⟩ ?_
  exact lp8 (z + 2) _ _ _ (by
      by_cases h0 : m_2 66 29 = 0
      · obtain ⟨hb, hv, hJ, hS, hT⟩ := jNq_ok h_2 hA.2.1 h0
        exact Or.inl ⟨_, _, 0, S, hv, rfl, by have := hb.2; omega, by omega, jDA_st hA (aF_1 hb) hJ hS hT, by omega⟩
      · have hn2 := jNq_no h_2 hA.2.1 h0
        exact Or.inr ⟨jDF_mk hA (aF_num (Or.inl rfl) hn2.1) hnf (by rcases aNc_12 B z p with e | e <;> omega) (by rcases aNc_12 B z p with e | e <;> omega) hn2.2.1 (hn2.2.2.1.mo (by simp)) hn2.2.2.2.1 hn2.2.2.2.2, by omega⟩)
