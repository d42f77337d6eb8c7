theorem jDA_w {B : Nat → Nat} {z p : Nat} {dn : Bool} {s0 s : aSt} {mem m2 m3 : jMem} {S S3 : Nat → Nat} (hA : jDA B z dn s0 mem p s S m2) (hdn : dn = true) (hJ : jeq [80, 81, 82, 83, 84] m2 m3) (hS : jSM m3 S3) : jDA B z dn s0 mem p s S3 m3 := by
  obtain ⟨a1, a2, a3, a4, a5, a6⟩ := hA
  have e66 : m3 66 = m2 66 := hJ 66 (by decide)
  refine ⟨⟨⟨a1.1.1, fun i hi => by rw [hJ 85 (by decide)]; exact a1.1.2 i hi⟩, by rw [e66]; exact a1.2.1, a1.2.2.1, by rw [e66]; exact a1.2.2.2⟩, by rw [e66]; exact a2, a3, hS, a5.tr ⟨hJ.mo (by simp), by rw [e66]; exact jso.rf⟩, fun e => ?_⟩
  rw [hdn] at e
  cases e
theorem jDA_31 {B : Nat → Nat} {z p : Nat} {dn : Bool} {s0 s : aSt} {mem m2 : jMem} {S : Nat → Nat} (hA : jDA B z dn s0 mem p s S m2) (hD : mem 66 31 = jIsD dn) : m2 66 31 = jIsD dn := (hA.2.2.2.2.1.2 31 (by decide)).trans hD
theorem jDF_31 {B : Nat → Nat} {z : Nat} {dn : Bool} {s0 : aSt} {mem m2 : jMem} (hF : jDF B z dn s0 mem m2) (hD : mem 66 31 = jIsD dn) : m2 66 31 = jIsD dn := by
  obtain ⟨code, plc, h1, h3, hc, hp, hpl, hR, hdn, hJ1, hS1⟩ := hF
  exact (hS1 31 (by decide)).trans hD
theorem jIsD_t {dn : Bool} (h : ¬ jIsD dn = 0) : dn = true := by
  cases hd : dn with
  | true => rfl
  | false => rw [hd] at h; exact absurd (by decide) h
def jDq (B : Nat → Nat) (z : Nat) (dn : Bool) (s0 : aSt) (m0 : jMem) (c p : Nat) (m2 : jMem) : Prop := (∃ p2 d k S2, p ≤ p2 ∧ d < 4 ∧ k ≤ 8 ∧ tAw B z p2 = 3 ∧ jDA B z dn s0 m0 p2 (2, p2, d, k, 0, 0, c, S2) (aUp dn S2 d k) m2) ∨ jDF B z dn s0 m0 m2
def jRq (B : Nat → Nat) (z : Nat) (dn : Bool) (s0 : aSt) (m0 : jMem) (c p : Nat) (m2 : jMem) : Prop := (∃ p2 d k S2, p ≤ p2 ∧ d < 4 ∧ k < 16 ∧ ¬ tK B z p2 = 3 ∧ jDA B z dn s0 m0 p2 (6, p2, d, k, 0, 0, c, S2) (aUp dn S2 (4 + d) k) m2) ∨ jDF B z dn s0 m0 m2
set_option maxRecDepth 4000 in
set_option maxHeartbeats 1000000 in
theorem m_readDoor (np : Nat) (mem : jMem) (p z c : Nat) (B : Nat → Nat) (dn : Bool) (s0 : aSt) (m0 : jMem) (S : Nat → Nat) (hA : jDA B z dn s0 m0 p (1, p, 0, 0, 0, 0, c, S) S mem) (hD : m0 66 31 = jIsD dn) (hnf : dn = true → ∀ x, aR (aF B z dn) s0 x → x.1 ≠ 7) : jPv yX11_readDoor cX11_readDoor 6 5 [.ref 66] np mem (jDq B z dn s0 m0 c p) := by
  refine jPv.of (own := RX11) rfl rfl (Nat.le_of_ble_eq_true rfl) (fun G X hR hr hE => ?_)
  refine j_aload_n X dX11_readDoor_0 rfl ?_
  refine j_iconst X dX11_readDoor_1 3 (by decide) ?_
  refine s_callVi X hR (m_numberTo np _ p z 3 B hA.1 hA.2.1 (by omega)) rfl 11 (by decide) (o66 np) (k66 np) rfl u1334 u1331 u1333 qp57 u12 hyX11_numberTo (by decide) (by decide) (Nat.le_of_ble_eq_true rfl) dX11_readDoor_2 (fun v_2 m_2 h_2 => ?_)
  refine j_istore_n X dX11_readDoor_5 (by decide) ?_
  refine j_iconst X dX11_readDoor_6 0 (by decide) ?_
  refine j_istore_n X dX11_readDoor_7 (by decide) ?_
  have lp8 : ∀ (n : Nat) (dv kv : Int32) (m2 : jMem), (∃ p2 d k S2, dv = nI d ∧ kv = nI k ∧ d < 4 ∧ k ≤ 8 ∧ jDA B z dn s0 m0 p2 (2, p2, d, k, 0, 0, c, S2) S2 m2 ∧ z + 2 ≤ p2 + n ∧ p ≤ p2) ∨ (jDF B z dn s0 m0 m2 ∧ 1 ≤ n) → J G RX11 cX11_readDoor 6 0 0 8 (jlv [some (.ref 66), some (.int dv), some (.int kv)]) [] (jS np) (m2) := by
    intro n
    induction n with
    | zero =>
      intro dv kv m2 hI
      exact absurd (show 1 ≤ 0 from hI.elim (fun e => by obtain ⟨_, _, _, _, _, _, _, _, e1, e2, _⟩ := e; have := e1.1.2.2.1; omega) (fun e => e.2)) (by omega)
    | succ n ih8 =>
      intro dv kv m2 hI
      refine j_aload_n X dX11_readDoor_8 rfl ?_
      refine j_getF X 11 29 (by decide) (by decide) rfl u979 (o66 np) (k66 np) (m2 66) rfl dX11_readDoor_9 ?_
      refine j_if_ne X 128 dX11_readDoor_12 (by decide) (fun c_12 => ?_) (fun c_12 => ?_)
      · have hF := (hI.resolve_left (fun ⟨_, _, _, _, _, _, _, _, e, _⟩ => c_12 e.2.1)).1
        refine j_aload_n X dX11_readDoor_128 rfl ?_
        refine j_getF X 11 31 (by decide) (by decide) rfl u981 (o66 np) (k66 np) (m2 66) rfl dX11_readDoor_129 ?_
        refine j_nrm (jIsD dn) (jDF_31 hF hD) ?_
        refine j_if_eq X 142 dX11_readDoor_132 (by decide) (fun c_132 => ?_) (fun c_132 => ?_)
        · refine s_vret X hE hr dX11_readDoor_142 ?_
          exact Or.inr hF
        · exact absurd (jIsD_0.mpr (jDF_dn hF)) c_132
      · obtain ⟨p2, d, k, S2, rfl, rfl, hd4, hk8, hA2, hfu, hpp⟩ := hI.resolve_right (fun e => jDF_29 e.1 c_12)
        have hpz := hA2.1.2.2.1
        have h300 := hA2.1.1.1
        have hal := tAw_lt B z p2
        refine j_aload_n X dX11_readDoor_15 rfl ?_
        refine s_callVi X hR (m_askOfWord np _ p2 z B hA2.1) rfl 11 (by decide) (o66 np) (k66 np) rfl u1338 u1335 u1337 qp58 u12 hyX11_askOfWord (by decide) (by decide) (Nat.le_of_ble_eq_true rfl) dX11_readDoor_16 (fun v_16 m_16 h_16 => ?_)
        obtain ⟨e1, e2⟩ := h_16; have e1 := e1.symm; have e2 := e2.symm; subst e1; subst e2
        refine j_ldc X dX11_readDoor_19 u949 ?_
        refine j_icmp_eq X 128 dX11_readDoor_21 (by decide) (fun c_21 => ?_) (fun c_21 => ?_)
        · have haw : tAw B z p2 = 3 := by
            by_cases e : tAw B z p2 = 3
            · exact e
            · rw [if_neg e] at c_21
              exact absurd c_21 (jnn (by omega))
          refine j_aload_n X dX11_readDoor_128 rfl ?_
          refine j_getF X 11 31 (by decide) (by decide) rfl u981 (o66 np) (k66 np) (m2 66) rfl dX11_readDoor_129 ?_
          refine j_nrm (jIsD dn) (jDA_31 hA2 hD) ?_
          refine j_if_eq X 142 dX11_readDoor_132 (by decide) (fun c_132 => ?_) (fun c_132 => ?_)
          · refine s_vret X hE hr dX11_readDoor_142 ?_
            have hdn := jIsD_0.mp c_132
            subst hdn
            exact Or.inl ⟨p2, d, k, S2, hpp, hd4, hk8, haw, hA2⟩
          · refine j_aload_n X dX11_readDoor_135 rfl ?_
            refine j_getR X 11 17 (by decide) (by decide) rfl u967 (o66 np) (k66 np) _ (p66_17 np) dX11_readDoor_136 ?_
            refine j_iload_n X dX11_readDoor_139 rfl ?_
            refine j_iload_n X dX11_readDoor_140 rfl ?_
            refine j_nrm2 _ (by first | (simp only [fa_lit, pk_mul, nI_add]; done) | (simp only [fa_lit, pk_mul, nI_add]; rfl) | rfl) ?_
            refine j_iastN X (o81 np) (k81 np) (by rw [l81]; omega) (by rw [l81]; decide) dX11_readDoor_141 ?_
            refine s_vret X hE hr dX11_readDoor_142 ?_
            have hdn := jIsD_t c_132
            subst hdn
            exact Or.inl ⟨p2, d, k, S2, hpp, hd4, hk8, haw, jDA_w hA2 rfl (jeq.up jeq.rf (by decide)) (jSM_cn hA2.2.2.2.1 hd4)⟩
        · refine j_aload_n X dX11_readDoor_24 rfl ?_
          refine s_callVi X hR (m_askOfWord np _ p2 z B hA2.1) rfl 11 (by decide) (o66 np) (k66 np) rfl u1338 u1335 u1337 qp58 u12 hyX11_askOfWord (by decide) (by decide) (Nat.le_of_ble_eq_true rfl) dX11_readDoor_25 (fun v_25 m_25 h_25 => ?_)
          obtain ⟨e1, e2⟩ := h_25; have e1 := e1.symm; have e2 := e2.symm; subst e1; subst e2
          have haw : ¬ tAw B z p2 = 3 := fun e => c_21 (if_pos e)
          refine j_nrm (nI (tAw B z p2)) (if_neg haw) ?_
          refine j_istore_n X dX11_readDoor_28 (by decide) ?_
          refine j_iload_n X dX11_readDoor_29 rfl ?_
          refine j_bipush X dX11_readDoor_30 8 (by decide) ?_
          refine j_icmp_ne X 40 dX11_readDoor_32 (by decide) (fun c_32 => ?_) (fun c_32 => ?_)
          · have hk9 : ¬ k = 8 := fun e => c_32 (congrArg nI e)
            refine j_aload_n X dX11_readDoor_40 rfl ?_
            refine j_iconst X dX11_readDoor_41 1 (by decide) ?_
            refine s_callVv X hR (m_must_step np _ p2 z B hA2.1 hA2.2.1) rfl 11 (by decide) (o66 np) (k66 np) rfl u1322 u1319 u1321 qp54 u12 hyX11_must (by decide) (by decide) (Nat.le_of_ble_eq_true rfl) dX11_readDoor_42 (fun m_42 h_42 => ?_)
            have hA3 := jDA_st hA2 (aF_2a haw hk9) h_42.1 h_42.2.1 h_42.2.2
            refine j_aload_n X dX11_readDoor_45 rfl ?_
            refine j_iconst X dX11_readDoor_46 3 (by decide) ?_
            refine s_callVi X hR (m_numberTo np _ (tN B z p2) z 3 B hA3.1 hA3.2.1 (by omega)) rfl 11 (by decide) (o66 np) (k66 np) rfl u1334 u1331 u1333 qp57 u12 hyX11_numberTo (by decide) (by decide) (Nat.le_of_ble_eq_true rfl) dX11_readDoor_47 (fun v_47 m_47 h_47 => ?_)
            by_cases h0 : m_47 66 29 = 0
            · obtain ⟨hb, hv4, hJ4, hS4, hT4⟩ := jNq_ok h_47 hA3.2.1 h0
              subst hv4
              refine j_istore X dX11_readDoor_50 (by decide) ?_
              refine j_iload_n X dX11_readDoor_52 rfl ?_
              refine j_iconst X dX11_readDoor_53 2 (by decide) ?_
              refine j_icmp_ne X 67 dX11_readDoor_54 (by decide) (fun c_54 => ?_) (fun c_54 => ?_)
              · have hw2 : ¬ tAw B z p2 = 2 := fun e => c_54 (congrArg nI e)
                refine j_iconst X dX11_readDoor_67 0 (by decide) ?_
                refine j_istore X dX11_readDoor_68 (by decide) ?_
                refine j_aload_n X dX11_readDoor_70 rfl ?_
                refine j_getF X 11 29 (by decide) (by decide) rfl u979 (o66 np) (k66 np) (m_47 66) rfl dX11_readDoor_71 ?_
                refine j_if_ne X 122 dX11_readDoor_74 (by decide) (fun c_74 => ?_) (fun c_74 => ?_)
                · exact absurd h0 c_74
                · have hA5 := jDA_st hA3 (aF_3 hb hw2) hJ4 hS4 hT4
                  have hp4 : p2 < tN B z (tN B z p2) := by
                    have e1 := (tN_gt (B := B) (n := z) (p := p2) (by rw [tAw_k haw]; decide)).1
                    have e2 := tF_ge (B := B) (n := z) (p := tN B z p2)
                    have e3 := tN_ge (B := B) (n := z) (p := tN B z p2)
                    omega
                  refine j_aload_n X dX11_readDoor_77 rfl ?_
                  refine j_getF X 11 31 (by decide) (by decide) rfl u981 (o66 np) (k66 np) (m_47 66) rfl dX11_readDoor_78 ?_
                  refine j_nrm (jIsD dn) (jDA_31 hA5 hD) ?_
                  refine j_if_eq X 122 dX11_readDoor_81 (by decide) (fun c_81 => ?_) (fun c_81 => ?_)
                  · refine j_iinc X dX11_readDoor_122 rfl 1 rfl ?_
                    refine j_goto X 8 dX11_readDoor_125 (by decide) ?_
                    have hdn := jIsD_0.mp c_81
                    subst hdn
                    have hA7 := hA5
                    refine j_lv [some (.ref 66), some (_), some (_)] ⟨rfl, rfl, rfl, trivial⟩ ?_
                    exact ih8 _ _ _ (Or.inl ⟨_, d, k + 1, _, rfl, nI_1 k, hd4, by omega, hA7, by omega, by omega⟩)
                  · refine j_aload_n X dX11_readDoor_84 rfl ?_
                    refine j_getR X 11 18 (by decide) (by decide) rfl u968 (o66 np) (k66 np) _ (p66_18 np) dX11_readDoor_85 ?_
                    refine j_bipush X dX11_readDoor_88 8 (by decide) ?_
                    refine j_iload_n X dX11_readDoor_90 rfl ?_
                    refine j_imul X dX11_readDoor_91 ?_
                    refine j_iload_n X dX11_readDoor_92 rfl ?_
                    refine j_iadd X dX11_readDoor_93 ?_
                    refine j_iload_n X dX11_readDoor_94 rfl ?_
                    refine j_nrm2 _ (by first | (simp only [fa_lit, pk_mul, nI_add]; done) | (simp only [fa_lit, pk_mul, nI_add]; rfl) | rfl) ?_
                    refine j_iastN X (o82 np) (k82 np) (by rw [l82]; omega) (by rw [l82]; decide) dX11_readDoor_95 ?_
                    refine j_aload_n X dX11_readDoor_96 rfl ?_
                    refine j_getR X 11 19 (by decide) (by decide) rfl u969 (o66 np) (k66 np) _ (p66_19 np) dX11_readDoor_97 ?_
                    refine j_bipush X dX11_readDoor_100 8 (by decide) ?_
                    refine j_iload_n X dX11_readDoor_102 rfl ?_
                    refine j_imul X dX11_readDoor_103 ?_
                    refine j_iload_n X dX11_readDoor_104 rfl ?_
                    refine j_iadd X dX11_readDoor_105 ?_
                    refine j_iload X dX11_readDoor_106 rfl ?_
                    refine j_nrm2 _ (by first | (simp only [fa_lit, pk_mul, nI_add]; done) | (simp only [fa_lit, pk_mul, nI_add]; rfl) | rfl) ?_
                    refine j_iastN X (o83 np) (k83 np) (by rw [l83]; omega) (by rw [l83]; decide) dX11_readDoor_108 ?_
                    refine j_aload_n X dX11_readDoor_109 rfl ?_
                    refine j_getR X 11 20 (by decide) (by decide) rfl u970 (o66 np) (k66 np) _ (p66_20 np) dX11_readDoor_110 ?_
                    refine j_bipush X dX11_readDoor_113 8 (by decide) ?_
                    refine j_iload_n X dX11_readDoor_115 rfl ?_
                    refine j_imul X dX11_readDoor_116 ?_
                    refine j_iload_n X dX11_readDoor_117 rfl ?_
                    refine j_iadd X dX11_readDoor_118 ?_
                    refine j_iload X dX11_readDoor_119 rfl ?_
                    refine j_nrm2 _ (by first | (simp only [fa_lit, pk_mul, nI_add]; done) | (simp only [fa_lit, pk_mul, nI_add]; rfl) | rfl) ?_
                    refine j_iastN X (o84 np) (k84 np) (by rw [l84]; omega) (by rw [l84]; decide) dX11_readDoor_121 ?_
                    refine j_iinc X dX11_readDoor_122 rfl 1 rfl ?_
                    refine j_goto X 8 dX11_readDoor_125 (by decide) ?_
                    have hdn := jIsD_t c_81
                    subst hdn
                    have hA7 := jDA_w hA5 rfl (jeq.up (jeq.up (jeq.up jeq.rf (by decide)) (by decide)) (by decide)) (jSM_wr (d := d) (k := k) (w := tAw B z p2) (o := tV B z (tN B z p2)) (b := 0) hA5.2.2.2.1 hd4 (by omega))
                    refine j_lv [some (.ref 66), some (_), some (_)] ⟨rfl, rfl, rfl, trivial⟩ ?_
                    exact ih8 _ _ _ (Or.inl ⟨_, d, k + 1, _, rfl, nI_1 k, hd4, by omega, hA7, by omega, by omega⟩)
              · have haw2 : tAw B z p2 = 2 := (nI_eq (by omega) (by omega)).mp (show nI (tAw B z p2) = nI 2 from c_54)
                have hA4 := jDA_st hA3 (aF_3o hb haw2) hJ4 hS4 hT4
                refine j_aload_n X dX11_readDoor_57 rfl ?_
                refine j_sipush X dX11_readDoor_58 999 (by decide) ?_
                refine s_callVi X hR (m_numberTo np _ (tN B z (tN B z p2)) z 999 B hA4.1 hA4.2.1 (by omega)) rfl 11 (by decide) (o66 np) (k66 np) rfl u1334 u1331 u1333 qp57 u12 hyX11_numberTo (by decide) (by decide) (Nat.le_of_ble_eq_true rfl) dX11_readDoor_61 (fun v_61 m_61 h_61 => ?_)
                refine j_goto X 68 dX11_readDoor_64 (by decide) ?_
                refine j_istore X dX11_readDoor_68 (by decide) ?_
                refine j_aload_n X dX11_readDoor_70 rfl ?_
                refine j_getF X 11 29 (by decide) (by decide) rfl u979 (o66 np) (k66 np) (m_61 66) rfl dX11_readDoor_71 ?_
                refine j_if_ne X 122 dX11_readDoor_74 (by decide) (fun c_74 => ?_) (fun c_74 => ?_)
                · have hn6 := jNq_no h_61 hA4.2.1 c_74
                  have hF6 := jDF_mk hA4 (aF_num4 hn6.1) hnf (by rcases aNc_12 B z (tN B z (tN B z p2)) with e | e <;> omega) (by rcases aNc_12 B z (tN B z (tN B z p2)) with e | e <;> omega) hn6.2.1 (hn6.2.2.1.mo (by simp)) hn6.2.2.2.1 hn6.2.2.2.2
                  refine j_iinc X dX11_readDoor_122 rfl 1 rfl ?_
                  refine j_goto X 8 dX11_readDoor_125 (by decide) ?_
                  refine j_lv [some (.ref 66), some (_), some (_)] ⟨rfl, rfl, rfl, trivial⟩ ?_
                  exact ih8 _ _ _ (Or.inr ⟨hF6, by omega⟩)
                · obtain ⟨hb6, hv6, hJ6, hS6, hT6⟩ := jNq_ok h_61 hA4.2.1 c_74
                  subst hv6
                  have hA5 := jDA_st hA4 (aF_4 hb6) hJ6 hS6 hT6
                  have hp4 : p2 < tN B z (tN B z (tN B z p2)) := by
                    have e1 := (tN_gt (B := B) (n := z) (p := p2) (by rw [tAw_k haw]; decide)).1
                    have e2 := tF_ge (B := B) (n := z) (p := tN B z p2)
                    have e3 := tN_ge (B := B) (n := z) (p := tN B z p2)
                    have e4 := tF_ge (B := B) (n := z) (p := tN B z (tN B z p2))
                    have e5 := tN_ge (B := B) (n := z) (p := tN B z (tN B z p2))
                    omega
                  refine j_aload_n X dX11_readDoor_77 rfl ?_
                  refine j_getF X 11 31 (by decide) (by decide) rfl u981 (o66 np) (k66 np) (m_61 66) rfl dX11_readDoor_78 ?_
                  refine j_nrm (jIsD dn) (jDA_31 hA5 hD) ?_
                  refine j_if_eq X 122 dX11_readDoor_81 (by decide) (fun c_81 => ?_) (fun c_81 => ?_)
                  · refine j_iinc X dX11_readDoor_122 rfl 1 rfl ?_
                    refine j_goto X 8 dX11_readDoor_125 (by decide) ?_
                    have hdn := jIsD_0.mp c_81
                    subst hdn
                    have hA7 := hA5
                    refine j_lv [some (.ref 66), some (_), some (_)] ⟨rfl, rfl, rfl, trivial⟩ ?_
                    exact ih8 _ _ _ (Or.inl ⟨_, d, k + 1, _, rfl, nI_1 k, hd4, by omega, hA7, by omega, by omega⟩)
                  · have haw3 := haw2
                    refine j_aload_n X dX11_readDoor_84 rfl ?_
                    refine j_getR X 11 18 (by decide) (by decide) rfl u968 (o66 np) (k66 np) _ (p66_18 np) dX11_readDoor_85 ?_
                    refine j_bipush X dX11_readDoor_88 8 (by decide) ?_
                    refine j_iload_n X dX11_readDoor_90 rfl ?_
                    refine j_imul X dX11_readDoor_91 ?_
                    refine j_iload_n X dX11_readDoor_92 rfl ?_
                    refine j_iadd X dX11_readDoor_93 ?_
                    refine j_iload_n X dX11_readDoor_94 rfl ?_
                    refine j_nrm2 _ (by first | (simp only [fa_lit, pk_mul, nI_add]; done) | (simp only [fa_lit, pk_mul, nI_add]; rfl) | rfl) ?_
                    refine j_iastN X (o82 np) (k82 np) (by rw [l82]; omega) (by rw [l82]; decide) dX11_readDoor_95 ?_
                    refine j_aload_n X dX11_readDoor_96 rfl ?_
                    refine j_getR X 11 19 (by decide) (by decide) rfl u969 (o66 np) (k66 np) _ (p66_19 np) dX11_readDoor_97 ?_
                    refine j_bipush X dX11_readDoor_100 8 (by decide) ?_
                    refine j_iload_n X dX11_readDoor_102 rfl ?_
                    refine j_imul X dX11_readDoor_103 ?_
                    refine j_iload_n X dX11_readDoor_104 rfl ?_
                    refine j_iadd X dX11_readDoor_105 ?_
                    refine j_iload X dX11_readDoor_106 rfl ?_
                    refine j_nrm2 _ (by first | (simp only [fa_lit, pk_mul, nI_add]; done) | (simp only [fa_lit, pk_mul, nI_add]; rfl) | rfl) ?_
                    refine j_iastN X (o83 np) (k83 np) (by rw [l83]; omega) (by rw [l83]; decide) dX11_readDoor_108 ?_
                    refine j_aload_n X dX11_readDoor_109 rfl ?_
                    refine j_getR X 11 20 (by decide) (by decide) rfl u970 (o66 np) (k66 np) _ (p66_20 np) dX11_readDoor_110 ?_
                    refine j_bipush X dX11_readDoor_113 8 (by decide) ?_
                    refine j_iload_n X dX11_readDoor_115 rfl ?_
                    refine j_imul X dX11_readDoor_116 ?_
                    refine j_iload_n X dX11_readDoor_117 rfl ?_
                    refine j_iadd X dX11_readDoor_118 ?_
                    refine j_iload X dX11_readDoor_119 rfl ?_
                    refine j_nrm2 _ (by first | (simp only [fa_lit, pk_mul, nI_add]; done) | (simp only [fa_lit, pk_mul, nI_add]; rfl) | rfl) ?_
                    refine j_iastN X (o84 np) (k84 np) (by rw [l84]; omega) (by rw [l84]; decide) dX11_readDoor_121 ?_
                    refine j_iinc X dX11_readDoor_122 rfl 1 rfl ?_
                    refine j_goto X 8 dX11_readDoor_125 (by decide) ?_
                    have hdn := jIsD_t c_81
                    subst hdn
                    have hA7 := jDA_w hA5 rfl (jeq.up (jeq.up (jeq.up jeq.rf (by decide)) (by decide)) (by decide)) (jSM_wr (d := d) (k := k) (w := tAw B z p2) (o := tV B z (tN B z p2)) (b := (tV B z (tN B z (tN B z p2)))) hA5.2.2.2.1 hd4 (by omega))
                    refine j_lv [some (.ref 66), some (_), some (_)] ⟨rfl, rfl, rfl, trivial⟩ ?_
                    exact ih8 _ _ _ (Or.inl ⟨_, d, k + 1, _, rfl, nI_1 k, hd4, by omega, hA7, by omega, by omega⟩)
            · have hn4 := jNq_no h_47 hA3.2.1 h0
              have hF4 := jDF_mk hA3 (aF_num (Or.inr (Or.inl rfl)) hn4.1) hnf (by rcases aNc_12 B z (tN B z p2) with e | e <;> omega) (by rcases aNc_12 B z (tN B z p2) with e | e <;> omega) hn4.2.1 (hn4.2.2.1.mo (by simp)) hn4.2.2.2.1 hn4.2.2.2.2
              obtain ⟨kf, hkf1, hkf2, hkf3⟩ := jDF_fl hF4
              refine j_istore X dX11_readDoor_50 (by decide) ?_
              refine j_iload_n X dX11_readDoor_52 rfl ?_
              refine j_iconst X dX11_readDoor_53 2 (by decide) ?_
              refine j_icmp_ne X 67 dX11_readDoor_54 (by decide) (fun c_54 => ?_) (fun c_54 => ?_)
              · refine j_iconst X dX11_readDoor_67 0 (by decide) ?_
                refine j_istore X dX11_readDoor_68 (by decide) ?_
                refine j_aload_n X dX11_readDoor_70 rfl ?_
                refine j_getF X 11 29 (by decide) (by decide) rfl u979 (o66 np) (k66 np) (m_47 66) rfl dX11_readDoor_71 ?_
                refine j_if_ne X 122 dX11_readDoor_74 (by decide) (fun c_74 => ?_) (fun c_74 => ?_)
                · refine j_iinc X dX11_readDoor_122 rfl 1 rfl ?_
                  refine j_goto X 8 dX11_readDoor_125 (by decide) ?_
                  refine j_lv [some (.ref 66), some (_), some (_)] ⟨rfl, rfl, rfl, trivial⟩ ?_
                  exact ih8 _ _ _ (Or.inr ⟨hF4, by omega⟩)
                · exact absurd c_74 (jDF_29 hF4)
              · refine j_aload_n X dX11_readDoor_57 rfl ?_
                refine j_sipush X dX11_readDoor_58 999 (by decide) ?_
                refine s_callVi X hR (m_numberTo_f np _ _ kf hkf3 hkf1 hkf2) rfl 11 (by decide) (o66 np) (k66 np) rfl u1334 u1331 u1333 qp57 u12 hyX11_numberTo (by decide) (by decide) (Nat.le_of_ble_eq_true rfl) dX11_readDoor_61 (fun v_61 m_61 h_61 => ?_)
                obtain ⟨e1, e2⟩ := h_61; have e1 := e1.symm; have e2 := e2.symm; subst e1; subst e2
                refine j_goto X 68 dX11_readDoor_64 (by decide) ?_
                refine j_istore X dX11_readDoor_68 (by decide) ?_
                refine j_aload_n X dX11_readDoor_70 rfl ?_
                refine j_getF X 11 29 (by decide) (by decide) rfl u979 (o66 np) (k66 np) (m_47 66) rfl dX11_readDoor_71 ?_
                refine j_if_ne X 122 dX11_readDoor_74 (by decide) (fun c_74 => ?_) (fun c_74 => ?_)
                · refine j_iinc X dX11_readDoor_122 rfl 1 rfl ?_
                  refine j_goto X 8 dX11_readDoor_125 (by decide) ?_
                  refine j_lv [some (.ref 66), some (_), some (_)] ⟨rfl, rfl, rfl, trivial⟩ ?_
                  exact ih8 _ _ _ (Or.inr ⟨hF4, by omega⟩)
                · exact absurd c_74 (jDF_29 hF4)
          · refine j_aload_n X dX11_readDoor_35 rfl ?_
            refine j_iconst X dX11_readDoor_36 3 (by decide) ?_
            refine s_callVv X hR (m_bad0 np _ 3 hA2.2.1) rfl 11 (by decide) (o66 np) (k66 np) rfl u1326 u1323 u1325 qp55 u12 hyX11_bad (by decide) (by decide) (Nat.le_of_ble_eq_true rfl) dX11_readDoor_37 (fun m_37 h_37 => ?_)
            have h_37 := h_37.symm; subst h_37
            obtain rfl : k = 8 := (nI_eq (by omega) (by omega)).mp (show nI k = nI 8 from c_32)
            have hF3 := jDF_mk (m3 := jup (jup m2 66 29 3) 66 30 (m2 66 27)) hA2 (aF_2m haw) hnf (by omega) (by omega) (jeq.up (jeq.up jeq.rf (by decide)) (by decide)) (jso.up (jso.up jso.rf (by decide)) (by decide)) (by rw [jup_n (by decide), jup_s]; rfl) (by rw [jup_s]; exact hA2.1.2.2.2.2.2.1)
            refine j_aload_n X dX11_readDoor_40 rfl ?_
            refine j_iconst X dX11_readDoor_41 1 (by decide) ?_
            refine s_callVv X hR (m_must_f np _ (by rw [jup_n (by decide), jup_s]; decide)) rfl 11 (by decide) (o66 np) (k66 np) rfl u1322 u1319 u1321 qp54 u12 hyX11_must (by decide) (by decide) (Nat.le_of_ble_eq_true rfl) dX11_readDoor_42 (fun m_42 h_42 => ?_)
            have h_42 := h_42.symm; subst h_42
            refine j_aload_n X dX11_readDoor_45 rfl ?_
            refine j_iconst X dX11_readDoor_46 3 (by decide) ?_
            refine s_callVi X hR (m_numberTo_f np _ _ 3 (by rw [jup_n (by decide), jup_s]; rfl) (by omega) (by omega)) rfl 11 (by decide) (o66 np) (k66 np) rfl u1334 u1331 u1333 qp57 u12 hyX11_numberTo (by decide) (by decide) (Nat.le_of_ble_eq_true rfl) dX11_readDoor_47 (fun v_47 m_47 h_47 => ?_)
            obtain ⟨e1, e2⟩ := h_47; have e1 := e1.symm; have e2 := e2.symm; subst e1; subst e2
            refine j_istore X dX11_readDoor_50 (by decide) ?_
            refine j_iload_n X dX11_readDoor_52 rfl ?_
            refine j_iconst X dX11_readDoor_53 2 (by decide) ?_
            refine j_icmp_ne X 67 dX11_readDoor_54 (by decide) (fun c_54 => ?_) (fun c_54 => ?_)
            · refine j_iconst X dX11_readDoor_67 0 (by decide) ?_
              refine j_istore X dX11_readDoor_68 (by decide) ?_
              refine j_aload_n X dX11_readDoor_70 rfl ?_
              refine j_getF X 11 29 (by decide) (by decide) rfl u979 (o66 np) (k66 np) _ rfl dX11_readDoor_71 ?_
              refine j_nrm 3 (by rw [jup_n (by decide), jup_s]) ?_
              refine j_if_ne X 122 dX11_readDoor_74 (by decide) (fun c_74 => ?_) (fun c_74 => ?_)
              · refine j_iinc X dX11_readDoor_122 rfl 1 rfl ?_
                refine j_goto X 8 dX11_readDoor_125 (by decide) ?_
                refine j_lv [some (.ref 66), some (_), some (_)] ⟨rfl, rfl, rfl, trivial⟩ ?_
                exact ih8 _ _ _ (Or.inr ⟨hF3, by omega⟩)
              · exact absurd c_74 (by decide)
            · refine j_aload_n X dX11_readDoor_57 rfl ?_
              refine j_sipush X dX11_readDoor_58 999 (by decide) ?_
              refine s_callVi X hR (m_numberTo_f np _ _ 3 (by rw [jup_n (by decide), jup_s]; rfl) (by omega) (by omega)) rfl 11 (by decide) (o66 np) (k66 np) rfl u1334 u1331 u1333 qp57 u12 hyX11_numberTo (by decide) (by decide) (Nat.le_of_ble_eq_true rfl) dX11_readDoor_61 (fun v_61 m_61 h_61 => ?_)
              obtain ⟨e1, e2⟩ := h_61; have e1 := e1.symm; have e2 := e2.symm; subst e1; subst e2
              refine j_goto X 68 dX11_readDoor_64 (by decide) ?_
              refine j_istore X dX11_readDoor_68 (by decide) ?_
              refine j_aload_n X dX11_readDoor_70 rfl ?_
              refine j_getF X 11 29 (by decide) (by decide) rfl u979 (o66 np) (k66 np) _ rfl dX11_readDoor_71 ?_
              refine j_nrm 3 (by rw [jup_n (by decide), jup_s]) ?_
              refine j_if_ne X 122 dX11_readDoor_74 (by decide) (fun c_74 => ?_) (fun c_74 => ?_)
              · refine j_iinc X dX11_readDoor_122 rfl 1 rfl ?_
                refine j_goto X 8 dX11_readDoor_125 (by decide) ?_
                refine j_lv [some (.ref 66), some (_), some (_)] ⟨rfl, rfl, rfl, trivial⟩ ?_
                exact ih8 _ _ _ (Or.inr ⟨hF3, by omega⟩)
              · exact absurd c_74 (by decide)
  have hpn0 : p ≤ tN B z p := Nat.le_trans tF_ge tN_ge
  refine j_lv [some (.ref 66), some (.int v_2), some (.int 0)] ⟨rfl, rfl, rfl, trivial⟩ ?_
  exact lp8 (z + 2) _ _ _ (by
      by_cases h0 : m_2 66 29 = 0
      · obtain ⟨hb, hv, hJ, hS, hT⟩ := jNq_ok h_2 hA.2.1 h0
        exact Or.inl ⟨_, _, 0, S, hv, rfl, by have := hb.2; omega, by omega, jDA_st hA (aF_1 hb) hJ hS hT, by omega, hpn0⟩
      · have hn2 := jNq_no h_2 hA.2.1 h0
        exact Or.inr ⟨jDF_mk hA (aF_num (Or.inl rfl) hn2.1) hnf (by rcases aNc_12 B z p with e | e <;> omega) (by rcases aNc_12 B z p with e | e <;> omega) hn2.2.1 (hn2.2.2.1.mo (by simp)) hn2.2.2.2.1 hn2.2.2.2.2, by omega⟩)
set_option maxRecDepth 4000 in
set_option maxHeartbeats 1000000 in
theorem m_readRight (np : Nat) (mem : jMem) (p z c : Nat) (B : Nat → Nat) (dn : Bool) (s0 : aSt) (m0 : jMem) (S : Nat → Nat) (hA : jDA B z dn s0 m0 p (5, p, 0, 0, 0, 0, c, S) S mem) (hD : m0 66 31 = jIsD dn) (hnf : dn = true → ∀ x, aR (aF B z dn) s0 x → x.1 ≠ 7) : jPv yX11_readRight cX11_readRight 3 5 [.ref 66] np mem (jRq B z dn s0 m0 c p) := by
  refine jPv.of (own := RX11) rfl rfl (Nat.le_of_ble_eq_true rfl) (fun G X hR hr hE => ?_)
  refine j_aload_n X dX11_readRight_0 rfl ?_
  refine j_iconst X dX11_readRight_1 3 (by decide) ?_
  refine s_callVi X hR (m_numberTo np _ p z 3 B hA.1 hA.2.1 (by omega)) rfl 11 (by decide) (o66 np) (k66 np) rfl u1334 u1331 u1333 qp57 u12 hyX11_numberTo (by decide) (by decide) (Nat.le_of_ble_eq_true rfl) dX11_readRight_2 (fun v_2 m_2 h_2 => ?_)
  refine j_istore_n X dX11_readRight_5 (by decide) ?_
  refine j_iconst X dX11_readRight_6 0 (by decide) ?_
  refine j_istore_n X dX11_readRight_7 (by decide) ?_
  have lp8 : ∀ (n : Nat) (dv kv : Int32) (m2 : jMem), (∃ p2 d k S2, dv = nI d ∧ kv = nI k ∧ d < 4 ∧ k < 16 ∧ jDA B z dn s0 m0 p2 (6, p2, d, k, 0, 0, c, S2) S2 m2 ∧ z + 2 ≤ p2 + n ∧ p ≤ p2) ∨ (jDF B z dn s0 m0 m2 ∧ 1 ≤ n) → J G RX11 cX11_readRight 3 0 0 8 (jlv [some (.ref 66), some (.int dv), some (.int kv)]) [] (jS np) (m2) := by
    intro n
    induction n with
    | zero =>
      intro dv kv m2 hI
      exact absurd (show 1 ≤ 0 from hI.elim (fun e => by obtain ⟨_, _, _, _, _, _, _, _, e1, e2, _⟩ := e; have := e1.1.2.2.1; omega) (fun e => e.2)) (by omega)
    | succ n ih8 =>
      intro dv kv m2 hI
      refine j_aload_n X dX11_readRight_8 rfl ?_
      refine j_getF X 11 29 (by decide) (by decide) rfl u979 (o66 np) (k66 np) (m2 66) rfl dX11_readRight_9 ?_
      refine j_if_ne X 36 dX11_readRight_12 (by decide) (fun c_12 => ?_) (fun c_12 => ?_)
      · have hF := (hI.resolve_left (fun ⟨_, _, _, _, _, _, _, _, e, _⟩ => c_12 e.2.1)).1
        refine j_aload_n X dX11_readRight_36 rfl ?_
        refine j_getF X 11 31 (by decide) (by decide) rfl u981 (o66 np) (k66 np) (m2 66) rfl dX11_readRight_37 ?_
        refine j_nrm (jIsD dn) (jDF_31 hF hD) ?_
        refine j_if_eq X 50 dX11_readRight_40 (by decide) (fun c_40 => ?_) (fun c_40 => ?_)
        · refine s_vret X hE hr dX11_readRight_50 ?_
          exact Or.inr hF
        · exact absurd (jIsD_0.mpr (jDF_dn hF)) c_40
      · obtain ⟨p2, d, k, S2, rfl, rfl, hd4, hk8, hA2, hfu, hpp⟩ := hI.resolve_right (fun e => jDF_29 e.1 c_12)
        have hpz := hA2.1.2.2.1
        have h300 := hA2.1.1.1
        have hkl := tK_lt B z p2
        refine j_aload_n X dX11_readRight_15 rfl ?_
        refine j_getF X 11 26 (by decide) (by decide) rfl u976 (o66 np) (k66 np) (m2 66) rfl dX11_readRight_16 ?_
        refine j_nrm (nI (tK B z p2)) hA2.1.2.2.2.2.1 ?_
        refine j_iconst X dX11_readRight_19 3 (by decide) ?_
        refine j_icmp_ne X 36 dX11_readRight_20 (by decide) (fun c_20 => ?_) (fun c_20 => ?_)
        · have hk3 : ¬ tK B z p2 = 3 := fun e => c_20 (congrArg nI e)
          refine j_aload_n X dX11_readRight_36 rfl ?_
          refine j_getF X 11 31 (by decide) (by decide) rfl u981 (o66 np) (k66 np) (m2 66) rfl dX11_readRight_37 ?_
          refine j_nrm (jIsD dn) (jDA_31 hA2 hD) ?_
          refine j_if_eq X 50 dX11_readRight_40 (by decide) (fun c_40 => ?_) (fun c_40 => ?_)
          · refine s_vret X hE hr dX11_readRight_50 ?_
            have hdn := jIsD_0.mp c_40
            subst hdn
            exact Or.inl ⟨p2, d, k, S2, hpp, hd4, hk8, hk3, hA2⟩
          · refine j_aload_n X dX11_readRight_43 rfl ?_
            refine j_getR X 11 16 (by decide) (by decide) rfl u966 (o66 np) (k66 np) _ (p66_16 np) dX11_readRight_44 ?_
            refine j_iload_n X dX11_readRight_47 rfl ?_
            refine j_iload_n X dX11_readRight_48 rfl ?_
            refine j_nrm2 _ (by first | (simp only [fa_lit, pk_mul, nI_add]; done) | (simp only [fa_lit, pk_mul, nI_add]; rfl) | rfl) ?_
            refine j_iastN X (o80 np) (k80 np) (by rw [l80]; omega) (by rw [l80]; decide) dX11_readRight_49 ?_
            refine s_vret X hE hr dX11_readRight_50 ?_
            have hdn := jIsD_t c_40
            subst hdn
            exact Or.inl ⟨p2, d, k, S2, hpp, hd4, hk8, hk3, jDA_w hA2 rfl (jeq.up jeq.rf (by decide)) (jSM_rt hA2.2.2.2.1 hd4)⟩
        · have hk3 : tK B z p2 = 3 := (nI_eq (by omega) (by omega)).mp (show nI (tK B z p2) = nI 3 from c_20)
          refine j_iload_n X dX11_readRight_23 rfl ?_
          refine j_iconst X dX11_readRight_24 1 (by decide) ?_
          refine j_aload_n X dX11_readRight_25 rfl ?_
          refine j_iconst X dX11_readRight_26 3 (by decide) ?_
          refine s_callVi X hR (m_numberTo np _ p2 z 3 B hA2.1 hA2.2.1 (by omega)) rfl 11 (by decide) (o66 np) (k66 np) rfl u1334 u1331 u1333 qp57 u12 hyX11_numberTo (by decide) (by decide) (Nat.le_of_ble_eq_true rfl) dX11_readRight_27 (fun v_27 m_27 h_27 => ?_)
          refine j_ishl X dX11_readRight_30 ?_
          refine j_ior X dX11_readRight_31 ?_
          refine j_istore_n X dX11_readRight_32 (by decide) ?_
          refine j_goto X 8 dX11_readRight_33 (by decide) ?_
          refine j_lv [some (.ref 66), some (_), some (_)] ⟨rfl, rfl, rfl, trivial⟩ ?_
          exact ih8 _ _ _ (by
                    by_cases h0 : m_27 66 29 = 0
                    · obtain ⟨hb, hv, hJ, hS, hT⟩ := jNq_ok h_27 hA2.2.1 h0
                      have hb2 := hb.2
                      have e1 := (tN_gt (B := B) (n := z) (p := p2) (by rw [hk3]; decide)).1
                      have e2 : 2 ^ tV B z p2 < 2 ^ 4 := Nat.pow_lt_pow_right (by omega) (by omega)
                      exact Or.inl ⟨_, d, k ||| 2 ^ tV B z p2, S2, rfl, by rw [hv, j1l (by omega), jorN], hd4, Nat.or_lt_two_pow (n := 4) hk8 e2, jDA_st hA2 (aF_6 hb) hJ hS hT, by omega, by omega⟩
                    · have hn2 := jNq_no h_27 hA2.2.1 h0
                      exact Or.inr ⟨jDF_mk hA2 (aF_6n hk3 hn2.1) hnf (by rcases aNc_12 B z p2 with e | e <;> omega) (by rcases aNc_12 B z p2 with e | e <;> omega) hn2.2.1 (hn2.2.2.1.mo (by simp)) hn2.2.2.2.1 hn2.2.2.2.2, by omega⟩)
  have hpn0 : p ≤ tN B z p := Nat.le_trans tF_ge tN_ge
  refine j_lv [some (.ref 66), some (.int v_2), some (.int 0)] ⟨rfl, rfl, rfl, trivial⟩ ?_
  exact lp8 (z + 2) _ _ _ (by
      by_cases h0 : m_2 66 29 = 0
      · obtain ⟨hb, hv, hJ, hS, hT⟩ := jNq_ok h_2 hA.2.1 h0
        exact Or.inl ⟨_, _, 0, S, hv, rfl, by have := hb.2; omega, by omega, jDA_st hA (aF_5 hb) hJ hS hT, by omega, hpn0⟩
      · have hn2 := jNq_no h_2 hA.2.1 h0
        exact Or.inr ⟨jDF_mk hA (aF_num (Or.inr (Or.inr rfl)) hn2.1) hnf (by rcases aNc_12 B z p with e | e <;> omega) (by rcases aNc_12 B z p with e | e <;> omega) hn2.2.1 (hn2.2.2.1.mo (by simp)) hn2.2.2.2.1 hn2.2.2.2.2, by omega⟩)
/-- what the model holds when it has read all texts -/
def jAq (B : Nat → Nat) (z : Nat) (dn : Bool) (S : Nat → Nat) (mem m2 : jMem) : Prop := (∃ p c S2, jDA B z dn (0, 0, 0, 0, 0, 0, 0, S) (jup mem 66 32 (nI c)) p (0, p, 0, 0, 0, 0, c, S2) S2 m2 ∧ tK B z p = 1 ∧ c ≤ 300) ∨ ∃ x, jDF B z dn (0, 0, 0, 0, 0, 0, 0, S) (jup mem 66 32 x) m2
theorem jup_jup {m : jMem} {o k : Nat} {x y : Int32} : jup (jup m o k x) o k y = jup m o k y := by
  funext i j
  by_cases e : i = o
  · subst e
    by_cases e2 : j = k
    · subst e2; rw [jup_s, jup_s]
    · rw [jup_n e2, jup_n e2, jup_n e2]
  · rw [jup_o e, jup_o e, jup_o e]
theorem jDF_rb {B : Nat → Nat} {z : Nat} {dn : Bool} {s0 : aSt} {mem m2 : jMem} {x y : Int32} (h : jDF B z dn s0 (jup mem 66 32 x) m2) : jDF B z dn s0 (jup mem 66 32 y) (jup m2 66 32 y) := by
  have := jDF_b (x := y) h
  rw [jup_jup] at this
  exact this
theorem jrb1 {mem c : jMem} {x y : Int32} (h : jeq [66] (jup (jup mem 66 25 x) 66 32 y) c) : jeq [66] (jup mem 66 32 y) c := fun i hi => by
  have e : ¬ i = 66 := fun e => hi (by simp [e])
  rw [h i hi, jup_o e, jup_o e, jup_o e]
theorem jrb2 {mem c : jMem} {x y : Int32} (h : jso [25, 26, 27, 28] (jup (jup mem 66 25 x) 66 32 y 66) (c 66)) : jso [25, 26, 27, 28, 29, 30] (jup mem 66 32 y 66) (c 66) := fun j hj => by
  have e25 : ¬ j = 25 := fun e => hj (by simp [e])
  rw [h j (fun z => hj (by simp at z ⊢; omega))]
  by_cases e : j = 32
  · subst e; rw [jup_s, jup_s]
  · rw [jup_n e, jup_n e, jup_n e25]
set_option maxRecDepth 4000 in
set_option maxHeartbeats 1000000 in
theorem m_readAll (np : Nat) (mem : jMem) (z : Nat) (B : Nat → Nat) (dn : Bool) (S : Nat → Nat) (h8 : jBy8 mem B z) (hz : mem 66 24 = nI z) (hf : mem 66 29 = 0) (hD : mem 66 31 = jIsD dn) (hSM : jSM mem S) (hnf : dn = true → ∀ x, aR (aF B z dn) (0, 0, 0, 0, 0, 0, 0, S) x → x.1 ≠ 7) : jPv yX11_readAll cX11_readAll 3 6 [.ref 66] np mem (jAq B z dn S mem) := by
  refine jPv.of (own := RX11) rfl rfl (Nat.le_of_ble_eq_true rfl) (fun G X hR hr hE => ?_)
  refine j_aload_n X dX11_readAll_0 rfl ?_
  refine j_iconst X dX11_readAll_1 0 (by decide) ?_
  refine j_putI X 11 25 (by decide) (by decide) rfl rfl rfl rfl u975 (o66 np) (k66 np) dX11_readAll_2 ?_
  refine j_aload_n X dX11_readAll_5 rfl ?_
  refine j_iconst X dX11_readAll_6 0 (by decide) ?_
  refine j_putI X 11 32 (by decide) (by decide) rfl rfl rfl rfl u982 (o66 np) (k66 np) dX11_readAll_7 ?_
  refine j_aload_n X dX11_readAll_10 rfl ?_
  refine s_callVv X hR (m_step np _ 0 z B ⟨h8.1, fun i hi => by rw [jup_o (by decide), jup_o (by decide)]; exact h8.2 i hi⟩ (by rw [jup_n (by decide), jup_n (by decide)]; exact hz) (Nat.zero_le _) (by rw [jup_n (by decide), jup_s]; rfl)) rfl 11 (by decide) (o66 np) (k66 np) rfl u1302 u1299 u1301 qp51 u12 hyX11_step (by decide) (by decide) (Nat.le_of_ble_eq_true rfl) dX11_readAll_11 (fun m_11 h_11 => ?_)
  have h300 := h8.1
  have lp14 : ∀ (n : Nat) (m2 : jMem), (∃ p c S2, jDA B z dn (0, 0, 0, 0, 0, 0, 0, S) (jup mem 66 32 (nI c)) p (0, p, 0, 0, 0, 0, c, S2) S2 m2 ∧ c ≤ p ∧ z + 2 ≤ p + n) ∨ ((∃ x, jDF B z dn (0, 0, 0, 0, 0, 0, 0, S) (jup mem 66 32 x) m2) ∧ 1 ≤ n) → J G RX11 cX11_readAll 3 0 0 14 (jlv [some (.ref 66)]) [] (jS np) (m2) := by
    intro n
    induction n with
    | zero =>
      intro m2 hI
      exact absurd (show 1 ≤ 0 from hI.elim (fun e => by obtain ⟨_, _, _, e1, _, e2⟩ := e; have := e1.1.2.2.1; omega) (fun e => e.2)) (by omega)
    | succ n ih14 =>
      intro m2 hI
      refine j_aload_n X dX11_readAll_14 rfl ?_
      refine j_getF X 11 29 (by decide) (by decide) rfl u979 (o66 np) (k66 np) (m2 66) rfl dX11_readAll_15 ?_
      refine j_if_ne X 129 dX11_readAll_18 (by decide) (fun c_18 => ?_) (fun c_18 => ?_)
      · refine s_vret X hE hr dX11_readAll_129 ?_
        exact Or.inr (hI.resolve_left (fun ⟨_, _, _, e, _⟩ => c_18 e.2.1)).1
      · obtain ⟨p, c, S2, hA2, hcp, hfu⟩ := hI.resolve_right (fun e => by obtain ⟨⟨x, e1⟩, -⟩ := e; exact jDF_29 e1 c_18)
        have hpz := hA2.1.2.2.1
        have hkl := tK_lt B z p
        have hwl := tWd_lt (B := B) (z := z) (p := p) (fun i hi => (hA2.1.1.2 i hi).2)
        refine j_aload_n X dX11_readAll_21 rfl ?_
        refine j_getF X 11 26 (by decide) (by decide) rfl u976 (o66 np) (k66 np) (m2 66) rfl dX11_readAll_22 ?_
        refine j_nrm (nI (tK B z p)) hA2.1.2.2.2.2.1 ?_
        refine j_iconst X dX11_readAll_25 1 (by decide) ?_
        refine j_icmp_eq X 129 dX11_readAll_26 (by decide) (fun c_26 => ?_) (fun c_26 => ?_)
        · refine s_vret X hE hr dX11_readAll_129 ?_
          exact Or.inl ⟨p, c, S2, hA2, (nI_eq (by omega) (by omega)).mp (show nI (tK B z p) = nI 1 from c_26), by have := hA2.1.1.1; omega⟩
        · have hk1 : ¬ tK B z p = 1 := fun e => c_26 (congrArg nI e)
          have hpn := (tN_gt (B := B) (n := z) (p := p) hk1).1
          refine j_aload_n X dX11_readAll_29 rfl ?_
          refine s_callVl X hR (m_word np _ p z B hA2.1) rfl 11 (by decide) (o66 np) (k66 np) rfl u1316 u1313 u1315 qp53 u12 hyX11_word (by decide) (by decide) (Nat.le_of_ble_eq_true rfl) dX11_readAll_30 (fun v_30 m_30 h_30 => ?_)
          obtain ⟨e1, e2⟩ := h_30; have e1 := e1.symm; have e2 := e2.symm; subst e1; subst e2
          refine j_lstore_n X dX11_readAll_33 (by decide) ?_
          refine j_aload_n X dX11_readAll_34 rfl ?_
          refine j_lload_n X dX11_readAll_35 rfl ?_
          refine j_ldc2 X dX11_readAll_36 u1317 ?_
          refine j_lcmp X dX11_readAll_39 ?_
          refine j_if_eq X 51 dX11_readAll_40 (by decide) (fun c_40 => ?_) (fun c_40 => ?_)
          · have hwd : tWd B z p = 1685024626 := (pk_lEQ (by omega) (by omega)).mp ((lg_cmp_eq _ _).mp c_40)
            refine j_iconst X dX11_readAll_51 1 (by decide) ?_
            refine j_goto X 56 dX11_readAll_52 (by decide) ?_
            refine s_callVv X hR (m_must_step np _ p z B hA2.1 hA2.2.1) rfl 11 (by decide) (o66 np) (k66 np) rfl u1322 u1319 u1321 qp54 u12 hyX11_must (by decide) (by decide) (Nat.le_of_ble_eq_true rfl) dX11_readAll_56 (fun m_56 h_56 => ?_)
            have hA3 := jDA_st hA2 (aF_0d hk1 hwd) h_56.1 h_56.2.1 h_56.2.2
            refine j_aload_n X dX11_readAll_59 rfl ?_
            refine j_getF X 11 29 (by decide) (by decide) rfl u979 (o66 np) (k66 np) (m_56 66) rfl dX11_readAll_60 ?_
            refine j_nrm 0 hA3.2.1 ?_
            refine j_if_ne X 81 dX11_readAll_63 (by decide) (fun c_63 => ?_) (fun c_63 => ?_)
            · exact absurd rfl c_63
            · refine j_lload_n X dX11_readAll_66 rfl ?_
              refine j_ldc2 X dX11_readAll_67 u1317 ?_
              refine j_lcmp X dX11_readAll_70 ?_
              refine j_if_ne X 81 dX11_readAll_71 (by decide) (fun c_71 => ?_) (fun c_71 => ?_)
              · exact absurd ((lg_cmp_eq _ _).mpr (congrArg lN hwd)) c_71
              · refine j_aload_n X dX11_readAll_74 rfl ?_
                refine s_callVv X hR (m_readDoor np _ (tN B z p) z c B dn (0, 0, 0, 0, 0, 0, 0, S) (jup mem 66 32 (nI c)) S2 hA3 ((jup_n (by decide)).trans hD) hnf) rfl 11 (by decide) (o66 np) (k66 np) rfl u1330 u1327 u1329 qp56 u12 hyX11_readDoor (by decide) (by decide) (Nat.le_of_ble_eq_true rfl) dX11_readAll_75 (fun m_75 h_75 => ?_)
                refine j_goto X 92 dX11_readAll_78 (by decide) ?_
                refine j_aload_n X dX11_readAll_92 rfl ?_
                refine j_getF X 11 29 (by decide) (by decide) rfl u979 (o66 np) (k66 np) (m_75 66) rfl dX11_readAll_93 ?_
                refine j_if_ne X 116 dX11_readAll_96 (by decide) (fun c_96 => ?_) (fun c_96 => ?_)
                · refine j_aload_n X dX11_readAll_116 rfl ?_
                  refine j_dup X dX11_readAll_117 rfl ?_
                  refine j_getF X 11 32 (by decide) (by decide) rfl u982 (o66 np) (k66 np) (m_75 66) rfl dX11_readAll_118 ?_
                  refine j_iconst X dX11_readAll_121 1 (by decide) ?_
                  refine j_iadd X dX11_readAll_122 ?_
                  refine j_putI X 11 32 (by decide) (by decide) rfl rfl rfl rfl u982 (o66 np) (k66 np) dX11_readAll_123 ?_
                  refine j_goto X 14 dX11_readAll_126 (by decide) ?_
                  refine j_lv [some (.ref 66)] ⟨rfl, trivial⟩ ?_
                  exact ih14 _ (Or.inr ⟨⟨_, jDF_rb (h_75.resolve_left (fun ⟨_, _, _, _, _, _, _, _, e⟩ => c_96 e.2.1))⟩, by omega⟩)
                · obtain ⟨p5, d, k, S5, hpp, hd4, hk8, haw, hA5⟩ := h_75.resolve_right (fun e => jDF_29 e c_96)
                  have hsf := aF_2s (B := B) (z := z) (p := p5) (d := d) (k := k) (w := 0) (o := 0) (c := c) (dn := dn) (S := S5) haw
                  have hkl := tK_lt B z p5
                  have hpz5 := hA5.1.2.2.1
                  refine j_aload_n X dX11_readAll_99 rfl ?_
                  refine j_aload_n X dX11_readAll_100 rfl ?_
                  refine j_getF X 11 26 (by decide) (by decide) rfl u976 (o66 np) (k66 np) (m_75 66) rfl dX11_readAll_101 ?_
                  refine j_nrm (nI (tK B z p5)) hA5.1.2.2.2.2.1 ?_
                  refine j_iconst X dX11_readAll_104 4 (by decide) ?_
                  refine j_icmp_ne X 112 dX11_readAll_105 (by decide) (fun c_105 => ?_) (fun c_105 => ?_)
                  · have hst := hsf.trans (if_neg (fun e => c_105 (congrArg nI e)))
                    have hF7 := jDF_mk (m3 := jup (jup m_75 66 29 1) 66 30 (m_75 66 27)) hA5 hst hnf (by omega) (by omega) (jeq.up (jeq.up jeq.rf (by decide)) (by decide)) (jso.up (jso.up jso.rf (by decide)) (by decide)) (by rw [jup_n (by decide), jup_s]; rfl) (by rw [jup_s]; exact hA5.1.2.2.2.2.2.1)
                    refine j_iconst X dX11_readAll_112 0 (by decide) ?_
                    refine s_callVv X hR (m_must_bad np _ hA5.2.1) rfl 11 (by decide) (o66 np) (k66 np) rfl u1322 u1319 u1321 qp54 u12 hyX11_must (by decide) (by decide) (Nat.le_of_ble_eq_true rfl) dX11_readAll_113 (fun m_113 h_113 => ?_)
                    have h_113 := h_113.symm; subst h_113
                    refine j_aload_n X dX11_readAll_116 rfl ?_
                    refine j_dup X dX11_readAll_117 rfl ?_
                    refine j_getF X 11 32 (by decide) (by decide) rfl u982 (o66 np) (k66 np) _ rfl dX11_readAll_118 ?_
                    refine j_iconst X dX11_readAll_121 1 (by decide) ?_
                    refine j_iadd X dX11_readAll_122 ?_
                    refine j_putI X 11 32 (by decide) (by decide) rfl rfl rfl rfl u982 (o66 np) (k66 np) dX11_readAll_123 ?_
                    refine j_goto X 14 dX11_readAll_126 (by decide) ?_
                    refine j_lv [some (.ref 66)] ⟨rfl, trivial⟩ ?_
                    exact ih14 _ (Or.inr ⟨⟨_, jDF_rb hF7⟩, by omega⟩)
                  · have hst := hsf.trans (if_pos ((nI_eq (by omega) (by omega)).mp (show nI (tK B z p5) = nI 4 from c_105)))
                    have hk4 : tK B z p5 = 4 := (nI_eq (by omega) (by omega)).mp (show nI (tK B z p5) = nI 4 from c_105)
                    have hpn5 := (tN_gt (B := B) (n := z) (p := p5) (by rw [hk4]; decide)).1
                    refine j_iconst X dX11_readAll_108 1 (by decide) ?_
                    refine j_goto X 113 dX11_readAll_109 (by decide) ?_
                    refine s_callVv X hR (m_must_step np _ p5 z B hA5.1 hA5.2.1) rfl 11 (by decide) (o66 np) (k66 np) rfl u1322 u1319 u1321 qp54 u12 hyX11_must (by decide) (by decide) (Nat.le_of_ble_eq_true rfl) dX11_readAll_113 (fun m_113 h_113 => ?_)
                    have hA6 := jDA_st hA5 hst h_113.1 h_113.2.1 h_113.2.2
                    refine j_aload_n X dX11_readAll_116 rfl ?_
                    refine j_dup X dX11_readAll_117 rfl ?_
                    refine j_getF X 11 32 (by decide) (by decide) rfl u982 (o66 np) (k66 np) (m_113 66) rfl dX11_readAll_118 ?_
                    refine j_nrm (nI c) ((hA6.2.2.2.2.1.2 32 (by decide)).trans jup_s) ?_
                    refine j_iconst X dX11_readAll_121 1 (by decide) ?_
                    refine j_iadd X dX11_readAll_122 ?_
                    refine j_nrm (nI (c + 1)) (nI_1 c) ?_
                    refine j_putI X 11 32 (by decide) (by decide) rfl rfl rfl rfl u982 (o66 np) (k66 np) dX11_readAll_123 ?_
                    refine j_goto X 14 dX11_readAll_126 (by decide) ?_
                    refine j_lv [some (.ref 66)] ⟨rfl, trivial⟩ ?_
                    exact ih14 _ (Or.inl ⟨tN B z p5, c + 1, _, by have := jDA_b (x := nI (c + 1)) hA6; rw [jup_jup] at this; exact this, by omega, by omega⟩)
          · refine j_lload_n X dX11_readAll_43 rfl ?_
            refine j_ldc2 X dX11_readAll_44 u1318 ?_
            refine j_lcmp X dX11_readAll_47 ?_
            refine j_if_ne X 55 dX11_readAll_48 (by decide) (fun c_48 => ?_) (fun c_48 => ?_)
            · have hwd : ¬ tWd B z p = 1685024626 := fun e => c_40 ((lg_cmp_eq _ _).mpr (congrArg lN e))
              have hwr : ¬ tWd B z p = 491394656372 := fun e => c_48 ((lg_cmp_eq _ _).mpr (congrArg lN e))
              have hFn := jDF_mk (m3 := jup (jup m2 66 29 1) 66 30 (m2 66 27)) hA2 (aF_0n hk1 hwd hwr) hnf (by omega) (by omega) (jeq.up (jeq.up jeq.rf (by decide)) (by decide)) (jso.up (jso.up jso.rf (by decide)) (by decide)) (by rw [jup_n (by decide), jup_s]; rfl) (by rw [jup_s]; exact hA2.1.2.2.2.2.2.1)
              refine j_iconst X dX11_readAll_55 0 (by decide) ?_
              refine s_callVv X hR (m_must_bad np _ hA2.2.1) rfl 11 (by decide) (o66 np) (k66 np) rfl u1322 u1319 u1321 qp54 u12 hyX11_must (by decide) (by decide) (Nat.le_of_ble_eq_true rfl) dX11_readAll_56 (fun m_56 h_56 => ?_)
              have h_56 := h_56.symm; subst h_56
              refine j_aload_n X dX11_readAll_59 rfl ?_
              refine j_getF X 11 29 (by decide) (by decide) rfl u979 (o66 np) (k66 np) _ rfl dX11_readAll_60 ?_
              refine j_nrm 1 (by rw [jup_n (by decide), jup_s]) ?_
              refine j_if_ne X 81 dX11_readAll_63 (by decide) (fun c_63 => ?_) (fun c_63 => ?_)
              · refine j_aload_n X dX11_readAll_81 rfl ?_
                refine j_getF X 11 29 (by decide) (by decide) rfl u979 (o66 np) (k66 np) _ rfl dX11_readAll_82 ?_
                refine j_nrm 1 (by rw [jup_n (by decide), jup_s]) ?_
                refine j_if_ne X 92 dX11_readAll_85 (by decide) (fun c_85 => ?_) (fun c_85 => ?_)
                · refine j_aload_n X dX11_readAll_92 rfl ?_
                  refine j_getF X 11 29 (by decide) (by decide) rfl u979 (o66 np) (k66 np) _ rfl dX11_readAll_93 ?_
                  refine j_nrm 1 (by rw [jup_n (by decide), jup_s]) ?_
                  refine j_if_ne X 116 dX11_readAll_96 (by decide) (fun c_96 => ?_) (fun c_96 => ?_)
                  · refine j_aload_n X dX11_readAll_116 rfl ?_
                    refine j_dup X dX11_readAll_117 rfl ?_
                    refine j_getF X 11 32 (by decide) (by decide) rfl u982 (o66 np) (k66 np) _ rfl dX11_readAll_118 ?_
                    refine j_iconst X dX11_readAll_121 1 (by decide) ?_
                    refine j_iadd X dX11_readAll_122 ?_
                    refine j_putI X 11 32 (by decide) (by decide) rfl rfl rfl rfl u982 (o66 np) (k66 np) dX11_readAll_123 ?_
                    refine j_goto X 14 dX11_readAll_126 (by decide) ?_
                    refine j_lv [some (.ref 66)] ⟨rfl, trivial⟩ ?_
                    exact ih14 _ (Or.inr ⟨⟨_, jDF_rb hFn⟩, by omega⟩)
                  · exact absurd c_96 (by decide)
                · exact absurd c_85 (by decide)
              · exact absurd c_63 (by decide)
            · have hwd : ¬ tWd B z p = 1685024626 := fun e => c_40 ((lg_cmp_eq _ _).mpr (congrArg lN e))
              have hwr : tWd B z p = 491394656372 := (pk_lEQ (by omega) (by omega)).mp ((lg_cmp_eq _ _).mp c_48)
              refine j_iconst X dX11_readAll_51 1 (by decide) ?_
              refine j_goto X 56 dX11_readAll_52 (by decide) ?_
              refine s_callVv X hR (m_must_step np _ p z B hA2.1 hA2.2.1) rfl 11 (by decide) (o66 np) (k66 np) rfl u1322 u1319 u1321 qp54 u12 hyX11_must (by decide) (by decide) (Nat.le_of_ble_eq_true rfl) dX11_readAll_56 (fun m_56 h_56 => ?_)
              have hA3 := jDA_st hA2 (aF_0r hk1 hwd hwr) h_56.1 h_56.2.1 h_56.2.2
              refine j_aload_n X dX11_readAll_59 rfl ?_
              refine j_getF X 11 29 (by decide) (by decide) rfl u979 (o66 np) (k66 np) (m_56 66) rfl dX11_readAll_60 ?_
              refine j_nrm 0 hA3.2.1 ?_
              refine j_if_ne X 81 dX11_readAll_63 (by decide) (fun c_63 => ?_) (fun c_63 => ?_)
              · exact absurd rfl c_63
              · refine j_lload_n X dX11_readAll_66 rfl ?_
                refine j_ldc2 X dX11_readAll_67 u1317 ?_
                refine j_lcmp X dX11_readAll_70 ?_
                refine j_if_ne X 81 dX11_readAll_71 (by decide) (fun c_71 => ?_) (fun c_71 => ?_)
                · refine j_aload_n X dX11_readAll_81 rfl ?_
                  refine j_getF X 11 29 (by decide) (by decide) rfl u979 (o66 np) (k66 np) (m_56 66) rfl dX11_readAll_82 ?_
                  refine j_nrm 0 hA3.2.1 ?_
                  refine j_if_ne X 92 dX11_readAll_85 (by decide) (fun c_85 => ?_) (fun c_85 => ?_)
                  · exact absurd rfl c_85
                  · refine j_aload_n X dX11_readAll_88 rfl ?_
                    refine s_callVv X hR (m_readRight np _ (tN B z p) z c B dn (0, 0, 0, 0, 0, 0, 0, S) (jup mem 66 32 (nI c)) S2 hA3 ((jup_n (by decide)).trans hD) hnf) rfl 11 (by decide) (o66 np) (k66 np) rfl u1345 u1342 u1344 qp59 u12 hyX11_readRight (by decide) (by decide) (Nat.le_of_ble_eq_true rfl) dX11_readAll_89 (fun m_89 h_89 => ?_)
                    refine j_aload_n X dX11_readAll_92 rfl ?_
                    refine j_getF X 11 29 (by decide) (by decide) rfl u979 (o66 np) (k66 np) (m_89 66) rfl dX11_readAll_93 ?_
                    refine j_if_ne X 116 dX11_readAll_96 (by decide) (fun c_96 => ?_) (fun c_96 => ?_)
                    · refine j_aload_n X dX11_readAll_116 rfl ?_
                      refine j_dup X dX11_readAll_117 rfl ?_
                      refine j_getF X 11 32 (by decide) (by decide) rfl u982 (o66 np) (k66 np) (m_89 66) rfl dX11_readAll_118 ?_
                      refine j_iconst X dX11_readAll_121 1 (by decide) ?_
                      refine j_iadd X dX11_readAll_122 ?_
                      refine j_putI X 11 32 (by decide) (by decide) rfl rfl rfl rfl u982 (o66 np) (k66 np) dX11_readAll_123 ?_
                      refine j_goto X 14 dX11_readAll_126 (by decide) ?_
                      refine j_lv [some (.ref 66)] ⟨rfl, trivial⟩ ?_
                      exact ih14 _ (Or.inr ⟨⟨_, jDF_rb (h_89.resolve_left (fun ⟨_, _, _, _, _, _, _, _, e⟩ => c_96 e.2.1))⟩, by omega⟩)
                    · obtain ⟨p5, d, k, S5, hpp, hd4, hk8, haw, hA5⟩ := h_89.resolve_right (fun e => jDF_29 e c_96)
                      have hsf := aF_6s (B := B) (z := z) (p := p5) (d := d) (k := k) (w := 0) (o := 0) (c := c) (dn := dn) (S := S5) haw
                      have hkl := tK_lt B z p5
                      have hpz5 := hA5.1.2.2.1
                      refine j_aload_n X dX11_readAll_99 rfl ?_
                      refine j_aload_n X dX11_readAll_100 rfl ?_
                      refine j_getF X 11 26 (by decide) (by decide) rfl u976 (o66 np) (k66 np) (m_89 66) rfl dX11_readAll_101 ?_
                      refine j_nrm (nI (tK B z p5)) hA5.1.2.2.2.2.1 ?_
                      refine j_iconst X dX11_readAll_104 4 (by decide) ?_
                      refine j_icmp_ne X 112 dX11_readAll_105 (by decide) (fun c_105 => ?_) (fun c_105 => ?_)
                      · have hst := hsf.trans (if_neg (fun e => c_105 (congrArg nI e)))
                        have hF7 := jDF_mk (m3 := jup (jup m_89 66 29 1) 66 30 (m_89 66 27)) hA5 hst hnf (by omega) (by omega) (jeq.up (jeq.up jeq.rf (by decide)) (by decide)) (jso.up (jso.up jso.rf (by decide)) (by decide)) (by rw [jup_n (by decide), jup_s]; rfl) (by rw [jup_s]; exact hA5.1.2.2.2.2.2.1)
                        refine j_iconst X dX11_readAll_112 0 (by decide) ?_
                        refine s_callVv X hR (m_must_bad np _ hA5.2.1) rfl 11 (by decide) (o66 np) (k66 np) rfl u1322 u1319 u1321 qp54 u12 hyX11_must (by decide) (by decide) (Nat.le_of_ble_eq_true rfl) dX11_readAll_113 (fun m_113 h_113 => ?_)
                        have h_113 := h_113.symm; subst h_113
                        refine j_aload_n X dX11_readAll_116 rfl ?_
                        refine j_dup X dX11_readAll_117 rfl ?_
                        refine j_getF X 11 32 (by decide) (by decide) rfl u982 (o66 np) (k66 np) _ rfl dX11_readAll_118 ?_
                        refine j_iconst X dX11_readAll_121 1 (by decide) ?_
                        refine j_iadd X dX11_readAll_122 ?_
                        refine j_putI X 11 32 (by decide) (by decide) rfl rfl rfl rfl u982 (o66 np) (k66 np) dX11_readAll_123 ?_
                        refine j_goto X 14 dX11_readAll_126 (by decide) ?_
                        refine j_lv [some (.ref 66)] ⟨rfl, trivial⟩ ?_
                        exact ih14 _ (Or.inr ⟨⟨_, jDF_rb hF7⟩, by omega⟩)
                      · have hst := hsf.trans (if_pos ((nI_eq (by omega) (by omega)).mp (show nI (tK B z p5) = nI 4 from c_105)))
                        have hk4 : tK B z p5 = 4 := (nI_eq (by omega) (by omega)).mp (show nI (tK B z p5) = nI 4 from c_105)
                        have hpn5 := (tN_gt (B := B) (n := z) (p := p5) (by rw [hk4]; decide)).1
                        refine j_iconst X dX11_readAll_108 1 (by decide) ?_
                        refine j_goto X 113 dX11_readAll_109 (by decide) ?_
                        refine s_callVv X hR (m_must_step np _ p5 z B hA5.1 hA5.2.1) rfl 11 (by decide) (o66 np) (k66 np) rfl u1322 u1319 u1321 qp54 u12 hyX11_must (by decide) (by decide) (Nat.le_of_ble_eq_true rfl) dX11_readAll_113 (fun m_113 h_113 => ?_)
                        have hA6 := jDA_st hA5 hst h_113.1 h_113.2.1 h_113.2.2
                        refine j_aload_n X dX11_readAll_116 rfl ?_
                        refine j_dup X dX11_readAll_117 rfl ?_
                        refine j_getF X 11 32 (by decide) (by decide) rfl u982 (o66 np) (k66 np) (m_113 66) rfl dX11_readAll_118 ?_
                        refine j_nrm (nI c) ((hA6.2.2.2.2.1.2 32 (by decide)).trans jup_s) ?_
                        refine j_iconst X dX11_readAll_121 1 (by decide) ?_
                        refine j_iadd X dX11_readAll_122 ?_
                        refine j_nrm (nI (c + 1)) (nI_1 c) ?_
                        refine j_putI X 11 32 (by decide) (by decide) rfl rfl rfl rfl u982 (o66 np) (k66 np) dX11_readAll_123 ?_
                        refine j_goto X 14 dX11_readAll_126 (by decide) ?_
                        refine j_lv [some (.ref 66)] ⟨rfl, trivial⟩ ?_
                        exact ih14 _ (Or.inl ⟨tN B z p5, c + 1, _, by have := jDA_b (x := nI (c + 1)) hA6; rw [jup_jup] at this; exact this, by omega, by omega⟩)
                · exact absurd ((pk_lEQ (by omega) (by omega)).mp (show lN (tWd B z p) = lN 1685024626 from (lg_cmp_eq _ _).mp c_71)) hwd
  refine j_lv [some (.ref 66)] ⟨rfl, trivial⟩ ?_
  exact lp14 (z + 2) _ (Or.inl ⟨0, 0, S, ⟨⟨⟨h300, fun i hi => by rw [h_11.1 85 (by decide), jup_o (by decide), jup_o (by decide)]; exact h8.2 i hi⟩, by rw [h_11.2.1 24 (by decide), jup_n (by decide), jup_n (by decide)]; exact hz, Nat.zero_le _, h_11.2.2⟩, by rw [h_11.2.1 29 (by decide), jup_n (by decide), jup_n (by decide)]; exact hf, aR.rf, jSM_66 (jSM_66 hSM (jeq.up (jeq.up jeq.rf (by decide)) (by decide))) h_11.1, ⟨(jrb1 h_11.1).mo (by simp), jrb2 h_11.2.1⟩, fun _ => jrb1 h_11.1⟩, Nat.le_refl _, by omega⟩)
