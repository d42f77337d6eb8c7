theorem jRm_0 {G : jG} {d mc ms : Nat} (h : jRm G d mc ms) : jRm G d 0 0 := by
  obtain ⟨⟨p, l, e, R, s, m, args, below, meth, c, Q⟩, dC, dI, A, n0, ad0⟩ := G
  exact ⟨h.1, h.2.1, Nat.zero_le _, Nat.zero_le _⟩
/-- a method of an object, in any room -/
theorem l_callVi {G : jG} {own : String} {cc : ByteArray} {nL u us pc nLy d dd RC RS idx np : Nat} {lv : Nat → Option Value} {rest st av : List Value} {mem : jMem} {y : MethodName} {ccy : ByteArray} {ty : FieldType} {P : Int32 → jMem → Prop} {o : Nat} (X : jOk G own cc nL) (hR : jRm G dd RC RS) (hu : u ≤ RC ∧ us ≤ RS) (hM : jPi y ccy nLy ty d (.ref o :: av) np mem P) (hst : st = av.reverse ++ .ref o :: rest) (ci : Nat) (hci : ci < 12) (ho : o < (jS np).1) (hkd : (jS np).2.1 o = ci) (hcy : jC ci = y.cls) (hc : Cond.code y ccy nLy (some ty) ∈ jW) (hlk : Cond.methodLink own idx y ∈ jW) (hs : Cond.instanceMethod y ∈ jW) (hse : Cond.selects y.cls y y ∈ jW) (hini : Cond.initialized y.cls ∈ jW) (hy : y.cls ≠ "java/lang/invoke/MethodHandle" ∧ y.cls ≠ "java/lang/invoke/VarHandle" ∧ (parseMethodDescriptor y.desc).map (fun d => d.parameters.length) = some av.length) (hn : nLy ≤ 45) (hdd : d + 1 ≤ dd) (hW : (rest.map fun v => v.category).sum ≤ 8) (hd : decode cc pc = .ok (.invokevirtual idx, 3)) (k : ∀ v m, P v m → J G own cc nL u us (pc + 3) lv (.int v :: rest) (jS np) m) : J G own cc nL u us pc lv st (jS np) mem := j_callV X hR hM hst ci hci ho hkd hcy hc hlk hs hse hini hy hn hdd hW ⟨hu.1, hu.2⟩ hd (fun r sh2 m hp => by obtain ⟨rfl, v, rfl, hp⟩ := hp; exact ⟨Or.inl rfl, k v m hp⟩)
set_option maxRecDepth 4000 in
set_option maxHeartbeats 1000000 in
theorem c_isTold (np : Nat) (mem : jMem) (s i : Nat) (hs : s < 8) (hi : i + 9 ≤ 60) (hk : jPok (mem (3 + s)) i) : jPi yX6_isTold cX6_isTold 3 .boolean 2 [.ref (3 + s), .int (nI i)] np mem (fun v c => v = 1 ∧ c = mem) := by
  refine jPi.of (own := RX6) rfl rfl (Nat.le_of_ble_eq_true rfl) (fun G X hR hr hE => ?_)
  obtain ⟨q0, q1, q2, q3, q4a, q5, q6, q7, q8⟩ := hk
  have q4 : jin (mem (3 + s) (i + 4)) 0 999 := ⟨by have a1 := q3.1; have a2 := q4a.1; omega, q4a.2⟩
  refine j_iconst X dX6_isTold_0 0 (by decide) ?_
  refine j_istore_n X dX6_isTold_1 (by decide) ?_
  refine j_iload_n X dX6_isTold_2 rfl ?_
  refine j_bipush X dX6_isTold_3 9 (by decide) ?_
  refine j_icmp_ge X 33 dX6_isTold_5 (by decide) (fun c_5 => absurd c_5 (by decide)) (fun c_5 => ?_)
  refine j_aload_n X dX6_isTold_8 rfl ?_
  refine j_iload_n X dX6_isTold_9 rfl ?_
  refine j_iload_n X dX6_isTold_10 rfl ?_
  refine j_iadd X dX6_isTold_11 ?_
  refine j_nrm (nI (i + 0)) (by rw [show (0 : Int32) = nI 0 from by decide, nI_add]) ?_
  refine j_ialdN X (o2_r np (by omega)) (k2_r np (by omega)) (by rw [l2_r np (by omega)]; omega) (by rw [l2_r np (by omega)]; decide) (mem (3 + s)) rfl dX6_isTold_12 ?_
  refine j_iconst X dX6_isTold_13 0 (by decide) ?_
  refine j_limits X dX6_isTold_14 ?_
  refine j_iload_n X dX6_isTold_17 rfl ?_
  refine j_nrm (nI 0) (by decide) ?_
  refine j_lim X (by decide) dX6_isTold_18 ?_
  refine s_callNi X hR (c_withinI np _ _ _ _ 0 3 rfl (by decide)) rfl u293 (by decide) u292 u1 hyX10_within (by decide) (by decide) (Nat.le_of_ble_eq_true rfl) dX6_isTold_19 (fun v_19 m_19 h_19 => ?_)
  obtain ⟨e1, e2⟩ := h_19; have e1 := e1.symm; have e2 := e2.symm; subst e1; subst e2
  refine j_ifb_ne X 27 dX6_isTold_22 (by decide) (fun c_22 => ?_) (fun c_22 => ?_)
  · refine j_iinc X dX6_isTold_27 rfl 1 rfl ?_
    refine j_goto X 2 dX6_isTold_30 (by decide) ?_
    refine j_iload_n X dX6_isTold_2 rfl ?_
    refine j_bipush X dX6_isTold_3 9 (by decide) ?_
    refine j_icmp_ge X 33 dX6_isTold_5 (by decide) (fun c_5 => absurd c_5 (by decide)) (fun c_5 => ?_)
    refine j_aload_n X dX6_isTold_8 rfl ?_
    refine j_iload_n X dX6_isTold_9 rfl ?_
    refine j_iload_n X dX6_isTold_10 rfl ?_
    refine j_iadd X dX6_isTold_11 ?_
    refine j_nrm (nI (i + 1)) (by rw [show (0 + 1 : Int32) = nI 1 from by decide, nI_add]) ?_
    refine j_ialdN X (o2_r np (by omega)) (k2_r np (by omega)) (by rw [l2_r np (by omega)]; omega) (by rw [l2_r np (by omega)]; decide) (mem (3 + s)) rfl dX6_isTold_12 ?_
    refine j_iconst X dX6_isTold_13 0 (by decide) ?_
    refine j_limits X dX6_isTold_14 ?_
    refine j_iload_n X dX6_isTold_17 rfl ?_
    refine j_nrm (nI 1) (by decide) ?_
    refine j_lim X (by decide) dX6_isTold_18 ?_
    refine s_callNi X hR (c_withinI np _ _ _ _ 0 5 rfl (by decide)) rfl u293 (by decide) u292 u1 hyX10_within (by decide) (by decide) (Nat.le_of_ble_eq_true rfl) dX6_isTold_19 (fun v_19 m_19 h_19 => ?_)
    obtain ⟨e1, e2⟩ := h_19; have e1 := e1.symm; have e2 := e2.symm; subst e1; subst e2
    refine j_ifb_ne X 27 dX6_isTold_22 (by decide) (fun c_22 => ?_) (fun c_22 => ?_)
    · refine j_iinc X dX6_isTold_27 rfl 1 rfl ?_
      refine j_goto X 2 dX6_isTold_30 (by decide) ?_
      refine j_iload_n X dX6_isTold_2 rfl ?_
      refine j_bipush X dX6_isTold_3 9 (by decide) ?_
      refine j_icmp_ge X 33 dX6_isTold_5 (by decide) (fun c_5 => absurd c_5 (by decide)) (fun c_5 => ?_)
      refine j_aload_n X dX6_isTold_8 rfl ?_
      refine j_iload_n X dX6_isTold_9 rfl ?_
      refine j_iload_n X dX6_isTold_10 rfl ?_
      refine j_iadd X dX6_isTold_11 ?_
      refine j_nrm (nI (i + 2)) (by rw [show (0 + 1 + 1 : Int32) = nI 2 from by decide, nI_add]) ?_
      refine j_ialdN X (o2_r np (by omega)) (k2_r np (by omega)) (by rw [l2_r np (by omega)]; omega) (by rw [l2_r np (by omega)]; decide) (mem (3 + s)) rfl dX6_isTold_12 ?_
      refine j_iconst X dX6_isTold_13 0 (by decide) ?_
      refine j_limits X dX6_isTold_14 ?_
      refine j_iload_n X dX6_isTold_17 rfl ?_
      refine j_nrm (nI 2) (by decide) ?_
      refine j_lim X (by decide) dX6_isTold_18 ?_
      refine s_callNi X hR (c_withinI np _ _ _ _ 0 4 rfl (by decide)) rfl u293 (by decide) u292 u1 hyX10_within (by decide) (by decide) (Nat.le_of_ble_eq_true rfl) dX6_isTold_19 (fun v_19 m_19 h_19 => ?_)
      obtain ⟨e1, e2⟩ := h_19; have e1 := e1.symm; have e2 := e2.symm; subst e1; subst e2
      refine j_ifb_ne X 27 dX6_isTold_22 (by decide) (fun c_22 => ?_) (fun c_22 => ?_)
      · refine j_iinc X dX6_isTold_27 rfl 1 rfl ?_
        refine j_goto X 2 dX6_isTold_30 (by decide) ?_
        refine j_iload_n X dX6_isTold_2 rfl ?_
        refine j_bipush X dX6_isTold_3 9 (by decide) ?_
        refine j_icmp_ge X 33 dX6_isTold_5 (by decide) (fun c_5 => absurd c_5 (by decide)) (fun c_5 => ?_)
        refine j_aload_n X dX6_isTold_8 rfl ?_
        refine j_iload_n X dX6_isTold_9 rfl ?_
        refine j_iload_n X dX6_isTold_10 rfl ?_
        refine j_iadd X dX6_isTold_11 ?_
        refine j_nrm (nI (i + 3)) (by rw [show (0 + 1 + 1 + 1 : Int32) = nI 3 from by decide, nI_add]) ?_
        refine j_ialdN X (o2_r np (by omega)) (k2_r np (by omega)) (by rw [l2_r np (by omega)]; omega) (by rw [l2_r np (by omega)]; decide) (mem (3 + s)) rfl dX6_isTold_12 ?_
        refine j_iconst X dX6_isTold_13 0 (by decide) ?_
        refine j_limits X dX6_isTold_14 ?_
        refine j_iload_n X dX6_isTold_17 rfl ?_
        refine j_nrm (nI 3) (by decide) ?_
        refine j_lim X (by decide) dX6_isTold_18 ?_
        refine s_callNi X hR (c_withinI np _ _ _ _ 0 999 rfl (by decide)) rfl u293 (by decide) u292 u1 hyX10_within (by decide) (by decide) (Nat.le_of_ble_eq_true rfl) dX6_isTold_19 (fun v_19 m_19 h_19 => ?_)
        obtain ⟨e1, e2⟩ := h_19; have e1 := e1.symm; have e2 := e2.symm; subst e1; subst e2
        refine j_ifb_ne X 27 dX6_isTold_22 (by decide) (fun c_22 => ?_) (fun c_22 => ?_)
        · refine j_iinc X dX6_isTold_27 rfl 1 rfl ?_
          refine j_goto X 2 dX6_isTold_30 (by decide) ?_
          refine j_iload_n X dX6_isTold_2 rfl ?_
          refine j_bipush X dX6_isTold_3 9 (by decide) ?_
          refine j_icmp_ge X 33 dX6_isTold_5 (by decide) (fun c_5 => absurd c_5 (by decide)) (fun c_5 => ?_)
          refine j_aload_n X dX6_isTold_8 rfl ?_
          refine j_iload_n X dX6_isTold_9 rfl ?_
          refine j_iload_n X dX6_isTold_10 rfl ?_
          refine j_iadd X dX6_isTold_11 ?_
          refine j_nrm (nI (i + 4)) (by rw [show (0 + 1 + 1 + 1 + 1 : Int32) = nI 4 from by decide, nI_add]) ?_
          refine j_ialdN X (o2_r np (by omega)) (k2_r np (by omega)) (by rw [l2_r np (by omega)]; omega) (by rw [l2_r np (by omega)]; decide) (mem (3 + s)) rfl dX6_isTold_12 ?_
          refine j_iconst X dX6_isTold_13 0 (by decide) ?_
          refine j_limits X dX6_isTold_14 ?_
          refine j_iload_n X dX6_isTold_17 rfl ?_
          refine j_nrm (nI 4) (by decide) ?_
          refine j_lim X (by decide) dX6_isTold_18 ?_
          refine s_callNi X hR (c_withinI np _ _ _ _ 0 999 rfl (by decide)) rfl u293 (by decide) u292 u1 hyX10_within (by decide) (by decide) (Nat.le_of_ble_eq_true rfl) dX6_isTold_19 (fun v_19 m_19 h_19 => ?_)
          obtain ⟨e1, e2⟩ := h_19; have e1 := e1.symm; have e2 := e2.symm; subst e1; subst e2
          refine j_ifb_ne X 27 dX6_isTold_22 (by decide) (fun c_22 => ?_) (fun c_22 => ?_)
          · refine j_iinc X dX6_isTold_27 rfl 1 rfl ?_
            refine j_goto X 2 dX6_isTold_30 (by decide) ?_
            refine j_iload_n X dX6_isTold_2 rfl ?_
            refine j_bipush X dX6_isTold_3 9 (by decide) ?_
            refine j_icmp_ge X 33 dX6_isTold_5 (by decide) (fun c_5 => absurd c_5 (by decide)) (fun c_5 => ?_)
            refine j_aload_n X dX6_isTold_8 rfl ?_
            refine j_iload_n X dX6_isTold_9 rfl ?_
            refine j_iload_n X dX6_isTold_10 rfl ?_
            refine j_iadd X dX6_isTold_11 ?_
            refine j_nrm (nI (i + 5)) (by rw [show (0 + 1 + 1 + 1 + 1 + 1 : Int32) = nI 5 from by decide, nI_add]) ?_
            refine j_ialdN X (o2_r np (by omega)) (k2_r np (by omega)) (by rw [l2_r np (by omega)]; omega) (by rw [l2_r np (by omega)]; decide) (mem (3 + s)) rfl dX6_isTold_12 ?_
            refine j_iconst X dX6_isTold_13 0 (by decide) ?_
            refine j_limits X dX6_isTold_14 ?_
            refine j_iload_n X dX6_isTold_17 rfl ?_
            refine j_nrm (nI 5) (by decide) ?_
            refine j_lim X (by decide) dX6_isTold_18 ?_
            refine s_callNi X hR (c_withinI np _ _ _ _ 0 999 rfl (by decide)) rfl u293 (by decide) u292 u1 hyX10_within (by decide) (by decide) (Nat.le_of_ble_eq_true rfl) dX6_isTold_19 (fun v_19 m_19 h_19 => ?_)
            obtain ⟨e1, e2⟩ := h_19; have e1 := e1.symm; have e2 := e2.symm; subst e1; subst e2
            refine j_ifb_ne X 27 dX6_isTold_22 (by decide) (fun c_22 => ?_) (fun c_22 => ?_)
            · refine j_iinc X dX6_isTold_27 rfl 1 rfl ?_
              refine j_goto X 2 dX6_isTold_30 (by decide) ?_
              refine j_iload_n X dX6_isTold_2 rfl ?_
              refine j_bipush X dX6_isTold_3 9 (by decide) ?_
              refine j_icmp_ge X 33 dX6_isTold_5 (by decide) (fun c_5 => absurd c_5 (by decide)) (fun c_5 => ?_)
              refine j_aload_n X dX6_isTold_8 rfl ?_
              refine j_iload_n X dX6_isTold_9 rfl ?_
              refine j_iload_n X dX6_isTold_10 rfl ?_
              refine j_iadd X dX6_isTold_11 ?_
              refine j_nrm (nI (i + 6)) (by rw [show (0 + 1 + 1 + 1 + 1 + 1 + 1 : Int32) = nI 6 from by decide, nI_add]) ?_
              refine j_ialdN X (o2_r np (by omega)) (k2_r np (by omega)) (by rw [l2_r np (by omega)]; omega) (by rw [l2_r np (by omega)]; decide) (mem (3 + s)) rfl dX6_isTold_12 ?_
              refine j_iconst X dX6_isTold_13 0 (by decide) ?_
              refine j_limits X dX6_isTold_14 ?_
              refine j_iload_n X dX6_isTold_17 rfl ?_
              refine j_nrm (nI 6) (by decide) ?_
              refine j_lim X (by decide) dX6_isTold_18 ?_
              refine s_callNi X hR (c_withinI np _ _ _ _ 0 999 rfl (by decide)) rfl u293 (by decide) u292 u1 hyX10_within (by decide) (by decide) (Nat.le_of_ble_eq_true rfl) dX6_isTold_19 (fun v_19 m_19 h_19 => ?_)
              obtain ⟨e1, e2⟩ := h_19; have e1 := e1.symm; have e2 := e2.symm; subst e1; subst e2
              refine j_ifb_ne X 27 dX6_isTold_22 (by decide) (fun c_22 => ?_) (fun c_22 => ?_)
              · refine j_iinc X dX6_isTold_27 rfl 1 rfl ?_
                refine j_goto X 2 dX6_isTold_30 (by decide) ?_
                refine j_iload_n X dX6_isTold_2 rfl ?_
                refine j_bipush X dX6_isTold_3 9 (by decide) ?_
                refine j_icmp_ge X 33 dX6_isTold_5 (by decide) (fun c_5 => absurd c_5 (by decide)) (fun c_5 => ?_)
                refine j_aload_n X dX6_isTold_8 rfl ?_
                refine j_iload_n X dX6_isTold_9 rfl ?_
                refine j_iload_n X dX6_isTold_10 rfl ?_
                refine j_iadd X dX6_isTold_11 ?_
                refine j_nrm (nI (i + 7)) (by rw [show (0 + 1 + 1 + 1 + 1 + 1 + 1 + 1 : Int32) = nI 7 from by decide, nI_add]) ?_
                refine j_ialdN X (o2_r np (by omega)) (k2_r np (by omega)) (by rw [l2_r np (by omega)]; omega) (by rw [l2_r np (by omega)]; decide) (mem (3 + s)) rfl dX6_isTold_12 ?_
                refine j_iconst X dX6_isTold_13 0 (by decide) ?_
                refine j_limits X dX6_isTold_14 ?_
                refine j_iload_n X dX6_isTold_17 rfl ?_
                refine j_nrm (nI 7) (by decide) ?_
                refine j_lim X (by decide) dX6_isTold_18 ?_
                refine s_callNi X hR (c_withinI np _ _ _ _ 0 999 rfl (by decide)) rfl u293 (by decide) u292 u1 hyX10_within (by decide) (by decide) (Nat.le_of_ble_eq_true rfl) dX6_isTold_19 (fun v_19 m_19 h_19 => ?_)
                obtain ⟨e1, e2⟩ := h_19; have e1 := e1.symm; have e2 := e2.symm; subst e1; subst e2
                refine j_ifb_ne X 27 dX6_isTold_22 (by decide) (fun c_22 => ?_) (fun c_22 => ?_)
                · refine j_iinc X dX6_isTold_27 rfl 1 rfl ?_
                  refine j_goto X 2 dX6_isTold_30 (by decide) ?_
                  refine j_iload_n X dX6_isTold_2 rfl ?_
                  refine j_bipush X dX6_isTold_3 9 (by decide) ?_
                  refine j_icmp_ge X 33 dX6_isTold_5 (by decide) (fun c_5 => absurd c_5 (by decide)) (fun c_5 => ?_)
                  refine j_aload_n X dX6_isTold_8 rfl ?_
                  refine j_iload_n X dX6_isTold_9 rfl ?_
                  refine j_iload_n X dX6_isTold_10 rfl ?_
                  refine j_iadd X dX6_isTold_11 ?_
                  refine j_nrm (nI (i + 8)) (by rw [show (0 + 1 + 1 + 1 + 1 + 1 + 1 + 1 + 1 : Int32) = nI 8 from by decide, nI_add]) ?_
                  refine j_ialdN X (o2_r np (by omega)) (k2_r np (by omega)) (by rw [l2_r np (by omega)]; omega) (by rw [l2_r np (by omega)]; decide) (mem (3 + s)) rfl dX6_isTold_12 ?_
                  refine j_iconst X dX6_isTold_13 0 (by decide) ?_
                  refine j_limits X dX6_isTold_14 ?_
                  refine j_iload_n X dX6_isTold_17 rfl ?_
                  refine j_nrm (nI 8) (by decide) ?_
                  refine j_lim X (by decide) dX6_isTold_18 ?_
                  refine s_callNi X hR (c_withinI np _ _ _ _ 0 999 rfl (by decide)) rfl u293 (by decide) u292 u1 hyX10_within (by decide) (by decide) (Nat.le_of_ble_eq_true rfl) dX6_isTold_19 (fun v_19 m_19 h_19 => ?_)
                  obtain ⟨e1, e2⟩ := h_19; have e1 := e1.symm; have e2 := e2.symm; subst e1; subst e2
                  refine j_ifb_ne X 27 dX6_isTold_22 (by decide) (fun c_22 => ?_) (fun c_22 => ?_)
                  · refine j_iinc X dX6_isTold_27 rfl 1 rfl ?_
                    refine j_goto X 2 dX6_isTold_30 (by decide) ?_
                    refine j_iload_n X dX6_isTold_2 rfl ?_
                    refine j_bipush X dX6_isTold_3 9 (by decide) ?_
                    refine j_icmp_ge X 33 dX6_isTold_5 (by decide) (fun c_5 => ?_) (fun c_5 => absurd c_5 (by decide))
                    refine j_aload_n X dX6_isTold_33 rfl ?_
                    refine j_iload_n X dX6_isTold_34 rfl ?_
                    refine j_iconst X dX6_isTold_35 3 (by decide) ?_
                    refine j_iadd X dX6_isTold_36 ?_
                    refine j_nrm _ (by first | (simp only [fa_lit, pk_mul, nI_add]; done) | (simp only [fa_lit, pk_mul, nI_add]; rfl) | rfl) ?_
                    refine j_ialdN X (o2_r np (by omega)) (k2_r np (by omega)) (by rw [l2_r np (by omega)]; omega) (by rw [l2_r np (by omega)]; decide) (mem (3 + s)) rfl dX6_isTold_37 ?_
                    refine j_aload_n X dX6_isTold_38 rfl ?_
                    refine j_iload_n X dX6_isTold_39 rfl ?_
                    refine j_iconst X dX6_isTold_40 4 (by decide) ?_
                    refine j_iadd X dX6_isTold_41 ?_
                    refine j_nrm _ (by first | (simp only [fa_lit, pk_mul, nI_add]; done) | (simp only [fa_lit, pk_mul, nI_add]; rfl) | rfl) ?_
                    refine j_ialdN X (o2_r np (by omega)) (k2_r np (by omega)) (by rw [l2_r np (by omega)]; omega) (by rw [l2_r np (by omega)]; decide) (mem (3 + s)) rfl dX6_isTold_42 ?_
                    refine j_icmp_gt X 50 dX6_isTold_43 (by decide) (fun c_43 => ?_) (fun c_43 => ?_)
                    · exfalso
                      have := q4a.1
                      clear hE hr hR X
                      (try simp only [lg_cmp_lt, lg_cmp_gt, lg_cmp_le, lg_cmp_ge] at *); (try simp (disch := omega) only [Int64.le_iff_toInt_le, Int64.lt_iff_toInt_lt, Int32.le_iff_toInt_le, Int32.lt_iff_toInt_lt, fa_eq, fa_lit, fa_litL, nI_toInt, pk_lT, Int32.toInt_toInt64, jadd64, jin, jnoneT] at *); omega
                    · refine j_iconst X dX6_isTold_46 1 (by decide) ?_
                      refine j_goto X 51 dX6_isTold_47 (by decide) ?_
                      refine s_iret X hE hr dX6_isTold_51 (by first | exact jb_nar | rfl) ?_
                      first | exact ⟨rfl, rfl⟩ | (exfalso; clear hE hr hR X; (try simp only [lg_cmp_lt, lg_cmp_gt, lg_cmp_le, lg_cmp_ge] at *); (try simp (disch := omega) only [Int64.le_iff_toInt_le, Int64.lt_iff_toInt_lt, Int32.le_iff_toInt_le, Int32.lt_iff_toInt_lt, fa_eq, fa_lit, fa_litL, nI_toInt, pk_lT, Int32.toInt_toInt64, jadd64, jin, jnoneT] at *); omega)
                  · exact absurd q8 c_22
                · exact absurd q7 c_22
              · exact absurd q6 c_22
            · exact absurd q5 c_22
          · exact absurd q4 c_22
        · exact absurd q3 c_22
      · exact absurd q2 c_22
    · exact absurd q1 c_22
  · exact absurd q0 c_22
set_option maxRecDepth 4000 in
set_option maxHeartbeats 1000000 in
theorem c_isTold_no (np : Nat) (mem : jMem) (s i : Nat) (hs : s < 8) (hi : i + 9 ≤ 60) (hk : ¬ jPok (mem (3 + s)) i) : jPi yX6_isTold cX6_isTold 3 .boolean 2 [.ref (3 + s), .int (nI i)] np mem (fun v c => v = 0 ∧ c = mem) := by
  refine jPi.of (own := RX6) rfl rfl (Nat.le_of_ble_eq_true rfl) (fun G X hR hr hE => ?_)
  refine j_iconst X dX6_isTold_0 0 (by decide) ?_
  refine j_istore_n X dX6_isTold_1 (by decide) ?_
  refine j_iload_n X dX6_isTold_2 rfl ?_
  refine j_bipush X dX6_isTold_3 9 (by decide) ?_
  refine j_icmp_ge X 33 dX6_isTold_5 (by decide) (fun c_5 => absurd c_5 (by decide)) (fun c_5 => ?_)
  refine j_aload_n X dX6_isTold_8 rfl ?_
  refine j_iload_n X dX6_isTold_9 rfl ?_
  refine j_iload_n X dX6_isTold_10 rfl ?_
  refine j_iadd X dX6_isTold_11 ?_
  refine j_nrm (nI (i + 0)) (by rw [show (0 : Int32) = nI 0 from by decide, nI_add]) ?_
  refine j_ialdN X (o2_r np (by omega)) (k2_r np (by omega)) (by rw [l2_r np (by omega)]; omega) (by rw [l2_r np (by omega)]; decide) (mem (3 + s)) rfl dX6_isTold_12 ?_
  refine j_iconst X dX6_isTold_13 0 (by decide) ?_
  refine j_limits X dX6_isTold_14 ?_
  refine j_iload_n X dX6_isTold_17 rfl ?_
  refine j_nrm (nI 0) (by decide) ?_
  refine j_lim X (by decide) dX6_isTold_18 ?_
  refine s_callNi X hR (c_withinI np _ _ _ _ 0 3 rfl (by decide)) rfl u293 (by decide) u292 u1 hyX10_within (by decide) (by decide) (Nat.le_of_ble_eq_true rfl) dX6_isTold_19 (fun v_19 m_19 h_19 => ?_)
  obtain ⟨e1, e2⟩ := h_19; have e1 := e1.symm; have e2 := e2.symm; subst e1; subst e2
  refine j_ifb_ne X 27 dX6_isTold_22 (by decide) (fun c_22 => ?_) (fun c_22 => ?_)
  · have q0 : jin (mem (3 + s) (i + 0)) 0 3 := c_22
    refine j_iinc X dX6_isTold_27 rfl 1 rfl ?_
    refine j_goto X 2 dX6_isTold_30 (by decide) ?_
    refine j_iload_n X dX6_isTold_2 rfl ?_
    refine j_bipush X dX6_isTold_3 9 (by decide) ?_
    refine j_icmp_ge X 33 dX6_isTold_5 (by decide) (fun c_5 => absurd c_5 (by decide)) (fun c_5 => ?_)
    refine j_aload_n X dX6_isTold_8 rfl ?_
    refine j_iload_n X dX6_isTold_9 rfl ?_
    refine j_iload_n X dX6_isTold_10 rfl ?_
    refine j_iadd X dX6_isTold_11 ?_
    refine j_nrm (nI (i + 1)) (by rw [show (0 + 1 : Int32) = nI 1 from by decide, nI_add]) ?_
    refine j_ialdN X (o2_r np (by omega)) (k2_r np (by omega)) (by rw [l2_r np (by omega)]; omega) (by rw [l2_r np (by omega)]; decide) (mem (3 + s)) rfl dX6_isTold_12 ?_
    refine j_iconst X dX6_isTold_13 0 (by decide) ?_
    refine j_limits X dX6_isTold_14 ?_
    refine j_iload_n X dX6_isTold_17 rfl ?_
    refine j_nrm (nI 1) (by decide) ?_
    refine j_lim X (by decide) dX6_isTold_18 ?_
    refine s_callNi X hR (c_withinI np _ _ _ _ 0 5 rfl (by decide)) rfl u293 (by decide) u292 u1 hyX10_within (by decide) (by decide) (Nat.le_of_ble_eq_true rfl) dX6_isTold_19 (fun v_19 m_19 h_19 => ?_)
    obtain ⟨e1, e2⟩ := h_19; have e1 := e1.symm; have e2 := e2.symm; subst e1; subst e2
    refine j_ifb_ne X 27 dX6_isTold_22 (by decide) (fun c_22 => ?_) (fun c_22 => ?_)
    · have q1 : jin (mem (3 + s) (i + 1)) 0 5 := c_22
      refine j_iinc X dX6_isTold_27 rfl 1 rfl ?_
      refine j_goto X 2 dX6_isTold_30 (by decide) ?_
      refine j_iload_n X dX6_isTold_2 rfl ?_
      refine j_bipush X dX6_isTold_3 9 (by decide) ?_
      refine j_icmp_ge X 33 dX6_isTold_5 (by decide) (fun c_5 => absurd c_5 (by decide)) (fun c_5 => ?_)
      refine j_aload_n X dX6_isTold_8 rfl ?_
      refine j_iload_n X dX6_isTold_9 rfl ?_
      refine j_iload_n X dX6_isTold_10 rfl ?_
      refine j_iadd X dX6_isTold_11 ?_
      refine j_nrm (nI (i + 2)) (by rw [show (0 + 1 + 1 : Int32) = nI 2 from by decide, nI_add]) ?_
      refine j_ialdN X (o2_r np (by omega)) (k2_r np (by omega)) (by rw [l2_r np (by omega)]; omega) (by rw [l2_r np (by omega)]; decide) (mem (3 + s)) rfl dX6_isTold_12 ?_
      refine j_iconst X dX6_isTold_13 0 (by decide) ?_
      refine j_limits X dX6_isTold_14 ?_
      refine j_iload_n X dX6_isTold_17 rfl ?_
      refine j_nrm (nI 2) (by decide) ?_
      refine j_lim X (by decide) dX6_isTold_18 ?_
      refine s_callNi X hR (c_withinI np _ _ _ _ 0 4 rfl (by decide)) rfl u293 (by decide) u292 u1 hyX10_within (by decide) (by decide) (Nat.le_of_ble_eq_true rfl) dX6_isTold_19 (fun v_19 m_19 h_19 => ?_)
      obtain ⟨e1, e2⟩ := h_19; have e1 := e1.symm; have e2 := e2.symm; subst e1; subst e2
      refine j_ifb_ne X 27 dX6_isTold_22 (by decide) (fun c_22 => ?_) (fun c_22 => ?_)
      · have q2 : jin (mem (3 + s) (i + 2)) 0 4 := c_22
        refine j_iinc X dX6_isTold_27 rfl 1 rfl ?_
        refine j_goto X 2 dX6_isTold_30 (by decide) ?_
        refine j_iload_n X dX6_isTold_2 rfl ?_
        refine j_bipush X dX6_isTold_3 9 (by decide) ?_
        refine j_icmp_ge X 33 dX6_isTold_5 (by decide) (fun c_5 => absurd c_5 (by decide)) (fun c_5 => ?_)
        refine j_aload_n X dX6_isTold_8 rfl ?_
        refine j_iload_n X dX6_isTold_9 rfl ?_
        refine j_iload_n X dX6_isTold_10 rfl ?_
        refine j_iadd X dX6_isTold_11 ?_
        refine j_nrm (nI (i + 3)) (by rw [show (0 + 1 + 1 + 1 : Int32) = nI 3 from by decide, nI_add]) ?_
        refine j_ialdN X (o2_r np (by omega)) (k2_r np (by omega)) (by rw [l2_r np (by omega)]; omega) (by rw [l2_r np (by omega)]; decide) (mem (3 + s)) rfl dX6_isTold_12 ?_
        refine j_iconst X dX6_isTold_13 0 (by decide) ?_
        refine j_limits X dX6_isTold_14 ?_
        refine j_iload_n X dX6_isTold_17 rfl ?_
        refine j_nrm (nI 3) (by decide) ?_
        refine j_lim X (by decide) dX6_isTold_18 ?_
        refine s_callNi X hR (c_withinI np _ _ _ _ 0 999 rfl (by decide)) rfl u293 (by decide) u292 u1 hyX10_within (by decide) (by decide) (Nat.le_of_ble_eq_true rfl) dX6_isTold_19 (fun v_19 m_19 h_19 => ?_)
        obtain ⟨e1, e2⟩ := h_19; have e1 := e1.symm; have e2 := e2.symm; subst e1; subst e2
        refine j_ifb_ne X 27 dX6_isTold_22 (by decide) (fun c_22 => ?_) (fun c_22 => ?_)
        · have q3 : jin (mem (3 + s) (i + 3)) 0 999 := c_22
          refine j_iinc X dX6_isTold_27 rfl 1 rfl ?_
          refine j_goto X 2 dX6_isTold_30 (by decide) ?_
          refine j_iload_n X dX6_isTold_2 rfl ?_
          refine j_bipush X dX6_isTold_3 9 (by decide) ?_
          refine j_icmp_ge X 33 dX6_isTold_5 (by decide) (fun c_5 => absurd c_5 (by decide)) (fun c_5 => ?_)
          refine j_aload_n X dX6_isTold_8 rfl ?_
          refine j_iload_n X dX6_isTold_9 rfl ?_
          refine j_iload_n X dX6_isTold_10 rfl ?_
          refine j_iadd X dX6_isTold_11 ?_
          refine j_nrm (nI (i + 4)) (by rw [show (0 + 1 + 1 + 1 + 1 : Int32) = nI 4 from by decide, nI_add]) ?_
          refine j_ialdN X (o2_r np (by omega)) (k2_r np (by omega)) (by rw [l2_r np (by omega)]; omega) (by rw [l2_r np (by omega)]; decide) (mem (3 + s)) rfl dX6_isTold_12 ?_
          refine j_iconst X dX6_isTold_13 0 (by decide) ?_
          refine j_limits X dX6_isTold_14 ?_
          refine j_iload_n X dX6_isTold_17 rfl ?_
          refine j_nrm (nI 4) (by decide) ?_
          refine j_lim X (by decide) dX6_isTold_18 ?_
          refine s_callNi X hR (c_withinI np _ _ _ _ 0 999 rfl (by decide)) rfl u293 (by decide) u292 u1 hyX10_within (by decide) (by decide) (Nat.le_of_ble_eq_true rfl) dX6_isTold_19 (fun v_19 m_19 h_19 => ?_)
          obtain ⟨e1, e2⟩ := h_19; have e1 := e1.symm; have e2 := e2.symm; subst e1; subst e2
          refine j_ifb_ne X 27 dX6_isTold_22 (by decide) (fun c_22 => ?_) (fun c_22 => ?_)
          · have q4 : jin (mem (3 + s) (i + 4)) 0 999 := c_22
            refine j_iinc X dX6_isTold_27 rfl 1 rfl ?_
            refine j_goto X 2 dX6_isTold_30 (by decide) ?_
            refine j_iload_n X dX6_isTold_2 rfl ?_
            refine j_bipush X dX6_isTold_3 9 (by decide) ?_
            refine j_icmp_ge X 33 dX6_isTold_5 (by decide) (fun c_5 => absurd c_5 (by decide)) (fun c_5 => ?_)
            refine j_aload_n X dX6_isTold_8 rfl ?_
            refine j_iload_n X dX6_isTold_9 rfl ?_
            refine j_iload_n X dX6_isTold_10 rfl ?_
            refine j_iadd X dX6_isTold_11 ?_
            refine j_nrm (nI (i + 5)) (by rw [show (0 + 1 + 1 + 1 + 1 + 1 : Int32) = nI 5 from by decide, nI_add]) ?_
            refine j_ialdN X (o2_r np (by omega)) (k2_r np (by omega)) (by rw [l2_r np (by omega)]; omega) (by rw [l2_r np (by omega)]; decide) (mem (3 + s)) rfl dX6_isTold_12 ?_
            refine j_iconst X dX6_isTold_13 0 (by decide) ?_
            refine j_limits X dX6_isTold_14 ?_
            refine j_iload_n X dX6_isTold_17 rfl ?_
            refine j_nrm (nI 5) (by decide) ?_
            refine j_lim X (by decide) dX6_isTold_18 ?_
            refine s_callNi X hR (c_withinI np _ _ _ _ 0 999 rfl (by decide)) rfl u293 (by decide) u292 u1 hyX10_within (by decide) (by decide) (Nat.le_of_ble_eq_true rfl) dX6_isTold_19 (fun v_19 m_19 h_19 => ?_)
            obtain ⟨e1, e2⟩ := h_19; have e1 := e1.symm; have e2 := e2.symm; subst e1; subst e2
            refine j_ifb_ne X 27 dX6_isTold_22 (by decide) (fun c_22 => ?_) (fun c_22 => ?_)
            · have q5 : jin (mem (3 + s) (i + 5)) 0 999 := c_22
              refine j_iinc X dX6_isTold_27 rfl 1 rfl ?_
              refine j_goto X 2 dX6_isTold_30 (by decide) ?_
              refine j_iload_n X dX6_isTold_2 rfl ?_
              refine j_bipush X dX6_isTold_3 9 (by decide) ?_
              refine j_icmp_ge X 33 dX6_isTold_5 (by decide) (fun c_5 => absurd c_5 (by decide)) (fun c_5 => ?_)
              refine j_aload_n X dX6_isTold_8 rfl ?_
              refine j_iload_n X dX6_isTold_9 rfl ?_
              refine j_iload_n X dX6_isTold_10 rfl ?_
              refine j_iadd X dX6_isTold_11 ?_
              refine j_nrm (nI (i + 6)) (by rw [show (0 + 1 + 1 + 1 + 1 + 1 + 1 : Int32) = nI 6 from by decide, nI_add]) ?_
              refine j_ialdN X (o2_r np (by omega)) (k2_r np (by omega)) (by rw [l2_r np (by omega)]; omega) (by rw [l2_r np (by omega)]; decide) (mem (3 + s)) rfl dX6_isTold_12 ?_
              refine j_iconst X dX6_isTold_13 0 (by decide) ?_
              refine j_limits X dX6_isTold_14 ?_
              refine j_iload_n X dX6_isTold_17 rfl ?_
              refine j_nrm (nI 6) (by decide) ?_
              refine j_lim X (by decide) dX6_isTold_18 ?_
              refine s_callNi X hR (c_withinI np _ _ _ _ 0 999 rfl (by decide)) rfl u293 (by decide) u292 u1 hyX10_within (by decide) (by decide) (Nat.le_of_ble_eq_true rfl) dX6_isTold_19 (fun v_19 m_19 h_19 => ?_)
              obtain ⟨e1, e2⟩ := h_19; have e1 := e1.symm; have e2 := e2.symm; subst e1; subst e2
              refine j_ifb_ne X 27 dX6_isTold_22 (by decide) (fun c_22 => ?_) (fun c_22 => ?_)
              · have q6 : jin (mem (3 + s) (i + 6)) 0 999 := c_22
                refine j_iinc X dX6_isTold_27 rfl 1 rfl ?_
                refine j_goto X 2 dX6_isTold_30 (by decide) ?_
                refine j_iload_n X dX6_isTold_2 rfl ?_
                refine j_bipush X dX6_isTold_3 9 (by decide) ?_
                refine j_icmp_ge X 33 dX6_isTold_5 (by decide) (fun c_5 => absurd c_5 (by decide)) (fun c_5 => ?_)
                refine j_aload_n X dX6_isTold_8 rfl ?_
                refine j_iload_n X dX6_isTold_9 rfl ?_
                refine j_iload_n X dX6_isTold_10 rfl ?_
                refine j_iadd X dX6_isTold_11 ?_
                refine j_nrm (nI (i + 7)) (by rw [show (0 + 1 + 1 + 1 + 1 + 1 + 1 + 1 : Int32) = nI 7 from by decide, nI_add]) ?_
                refine j_ialdN X (o2_r np (by omega)) (k2_r np (by omega)) (by rw [l2_r np (by omega)]; omega) (by rw [l2_r np (by omega)]; decide) (mem (3 + s)) rfl dX6_isTold_12 ?_
                refine j_iconst X dX6_isTold_13 0 (by decide) ?_
                refine j_limits X dX6_isTold_14 ?_
                refine j_iload_n X dX6_isTold_17 rfl ?_
                refine j_nrm (nI 7) (by decide) ?_
                refine j_lim X (by decide) dX6_isTold_18 ?_
                refine s_callNi X hR (c_withinI np _ _ _ _ 0 999 rfl (by decide)) rfl u293 (by decide) u292 u1 hyX10_within (by decide) (by decide) (Nat.le_of_ble_eq_true rfl) dX6_isTold_19 (fun v_19 m_19 h_19 => ?_)
                obtain ⟨e1, e2⟩ := h_19; have e1 := e1.symm; have e2 := e2.symm; subst e1; subst e2
                refine j_ifb_ne X 27 dX6_isTold_22 (by decide) (fun c_22 => ?_) (fun c_22 => ?_)
                · have q7 : jin (mem (3 + s) (i + 7)) 0 999 := c_22
                  refine j_iinc X dX6_isTold_27 rfl 1 rfl ?_
                  refine j_goto X 2 dX6_isTold_30 (by decide) ?_
                  refine j_iload_n X dX6_isTold_2 rfl ?_
                  refine j_bipush X dX6_isTold_3 9 (by decide) ?_
                  refine j_icmp_ge X 33 dX6_isTold_5 (by decide) (fun c_5 => absurd c_5 (by decide)) (fun c_5 => ?_)
                  refine j_aload_n X dX6_isTold_8 rfl ?_
                  refine j_iload_n X dX6_isTold_9 rfl ?_
                  refine j_iload_n X dX6_isTold_10 rfl ?_
                  refine j_iadd X dX6_isTold_11 ?_
                  refine j_nrm (nI (i + 8)) (by rw [show (0 + 1 + 1 + 1 + 1 + 1 + 1 + 1 + 1 : Int32) = nI 8 from by decide, nI_add]) ?_
                  refine j_ialdN X (o2_r np (by omega)) (k2_r np (by omega)) (by rw [l2_r np (by omega)]; omega) (by rw [l2_r np (by omega)]; decide) (mem (3 + s)) rfl dX6_isTold_12 ?_
                  refine j_iconst X dX6_isTold_13 0 (by decide) ?_
                  refine j_limits X dX6_isTold_14 ?_
                  refine j_iload_n X dX6_isTold_17 rfl ?_
                  refine j_nrm (nI 8) (by decide) ?_
                  refine j_lim X (by decide) dX6_isTold_18 ?_
                  refine s_callNi X hR (c_withinI np _ _ _ _ 0 999 rfl (by decide)) rfl u293 (by decide) u292 u1 hyX10_within (by decide) (by decide) (Nat.le_of_ble_eq_true rfl) dX6_isTold_19 (fun v_19 m_19 h_19 => ?_)
                  obtain ⟨e1, e2⟩ := h_19; have e1 := e1.symm; have e2 := e2.symm; subst e1; subst e2
                  refine j_ifb_ne X 27 dX6_isTold_22 (by decide) (fun c_22 => ?_) (fun c_22 => ?_)
                  · have q8 : jin (mem (3 + s) (i + 8)) 0 999 := c_22
                    refine j_iinc X dX6_isTold_27 rfl 1 rfl ?_
                    refine j_goto X 2 dX6_isTold_30 (by decide) ?_
                    refine j_iload_n X dX6_isTold_2 rfl ?_
                    refine j_bipush X dX6_isTold_3 9 (by decide) ?_
                    refine j_icmp_ge X 33 dX6_isTold_5 (by decide) (fun c_5 => ?_) (fun c_5 => absurd c_5 (by decide))
                    refine j_aload_n X dX6_isTold_33 rfl ?_
                    refine j_iload_n X dX6_isTold_34 rfl ?_
                    refine j_iconst X dX6_isTold_35 3 (by decide) ?_
                    refine j_iadd X dX6_isTold_36 ?_
                    refine j_nrm _ (by first | (simp only [fa_lit, pk_mul, nI_add]; done) | (simp only [fa_lit, pk_mul, nI_add]; rfl) | rfl) ?_
                    refine j_ialdN X (o2_r np (by omega)) (k2_r np (by omega)) (by rw [l2_r np (by omega)]; omega) (by rw [l2_r np (by omega)]; decide) (mem (3 + s)) rfl dX6_isTold_37 ?_
                    refine j_aload_n X dX6_isTold_38 rfl ?_
                    refine j_iload_n X dX6_isTold_39 rfl ?_
                    refine j_iconst X dX6_isTold_40 4 (by decide) ?_
                    refine j_iadd X dX6_isTold_41 ?_
                    refine j_nrm _ (by first | (simp only [fa_lit, pk_mul, nI_add]; done) | (simp only [fa_lit, pk_mul, nI_add]; rfl) | rfl) ?_
                    refine j_ialdN X (o2_r np (by omega)) (k2_r np (by omega)) (by rw [l2_r np (by omega)]; omega) (by rw [l2_r np (by omega)]; decide) (mem (3 + s)) rfl dX6_isTold_42 ?_
                    refine j_icmp_gt X 50 dX6_isTold_43 (by decide) (fun c_43 => ?_) (fun c_43 => ?_)
                    · refine j_iconst X dX6_isTold_50 0 (by decide) ?_
                      refine s_iret X hE hr dX6_isTold_51 (by first | exact jb_nar | rfl) ?_
                      first | exact ⟨rfl, rfl⟩ | (exfalso; clear hE hr hR X; (try simp only [lg_cmp_lt, lg_cmp_gt, lg_cmp_le, lg_cmp_ge] at *); (try simp (disch := omega) only [Int64.le_iff_toInt_le, Int64.lt_iff_toInt_lt, Int32.le_iff_toInt_le, Int32.lt_iff_toInt_lt, fa_eq, fa_lit, fa_litL, nI_toInt, pk_lT, Int32.toInt_toInt64, jadd64, jin, jnoneT] at *); omega)
                    · exfalso
                      apply hk
                      refine ⟨q0, q1, q2, q3, ⟨?_, q4.2⟩, q5, q6, q7, q8⟩
                      clear hE hr hR X hk
                      (try simp only [lg_cmp_lt, lg_cmp_gt, lg_cmp_le, lg_cmp_ge] at *); (try simp (disch := omega) only [Int64.le_iff_toInt_le, Int64.lt_iff_toInt_lt, Int32.le_iff_toInt_le, Int32.lt_iff_toInt_lt, fa_eq, fa_lit, fa_litL, nI_toInt, pk_lT, Int32.toInt_toInt64, jadd64, jin, jnoneT] at *); omega
                  · refine j_iconst X dX6_isTold_25 0 (by decide) ?_
                    refine s_iret X hE hr dX6_isTold_26 (by first | exact jb_nar | rfl) ?_
                    first | exact ⟨rfl, rfl⟩ | (exfalso; clear hE hr hR X; (try simp only [lg_cmp_lt, lg_cmp_gt, lg_cmp_le, lg_cmp_ge] at *); (try simp (disch := omega) only [Int64.le_iff_toInt_le, Int64.lt_iff_toInt_lt, Int32.le_iff_toInt_le, Int32.lt_iff_toInt_lt, fa_eq, fa_lit, fa_litL, nI_toInt, pk_lT, Int32.toInt_toInt64, jadd64, jin, jnoneT] at *); omega)
                · refine j_iconst X dX6_isTold_25 0 (by decide) ?_
                  refine s_iret X hE hr dX6_isTold_26 (by first | exact jb_nar | rfl) ?_
                  first | exact ⟨rfl, rfl⟩ | (exfalso; clear hE hr hR X; (try simp only [lg_cmp_lt, lg_cmp_gt, lg_cmp_le, lg_cmp_ge] at *); (try simp (disch := omega) only [Int64.le_iff_toInt_le, Int64.lt_iff_toInt_lt, Int32.le_iff_toInt_le, Int32.lt_iff_toInt_lt, fa_eq, fa_lit, fa_litL, nI_toInt, pk_lT, Int32.toInt_toInt64, jadd64, jin, jnoneT] at *); omega)
              · refine j_iconst X dX6_isTold_25 0 (by decide) ?_
                refine s_iret X hE hr dX6_isTold_26 (by first | exact jb_nar | rfl) ?_
                first | exact ⟨rfl, rfl⟩ | (exfalso; clear hE hr hR X; (try simp only [lg_cmp_lt, lg_cmp_gt, lg_cmp_le, lg_cmp_ge] at *); (try simp (disch := omega) only [Int64.le_iff_toInt_le, Int64.lt_iff_toInt_lt, Int32.le_iff_toInt_le, Int32.lt_iff_toInt_lt, fa_eq, fa_lit, fa_litL, nI_toInt, pk_lT, Int32.toInt_toInt64, jadd64, jin, jnoneT] at *); omega)
            · refine j_iconst X dX6_isTold_25 0 (by decide) ?_
              refine s_iret X hE hr dX6_isTold_26 (by first | exact jb_nar | rfl) ?_
              first | exact ⟨rfl, rfl⟩ | (exfalso; clear hE hr hR X; (try simp only [lg_cmp_lt, lg_cmp_gt, lg_cmp_le, lg_cmp_ge] at *); (try simp (disch := omega) only [Int64.le_iff_toInt_le, Int64.lt_iff_toInt_lt, Int32.le_iff_toInt_le, Int32.lt_iff_toInt_lt, fa_eq, fa_lit, fa_litL, nI_toInt, pk_lT, Int32.toInt_toInt64, jadd64, jin, jnoneT] at *); omega)
          · refine j_iconst X dX6_isTold_25 0 (by decide) ?_
            refine s_iret X hE hr dX6_isTold_26 (by first | exact jb_nar | rfl) ?_
            first | exact ⟨rfl, rfl⟩ | (exfalso; clear hE hr hR X; (try simp only [lg_cmp_lt, lg_cmp_gt, lg_cmp_le, lg_cmp_ge] at *); (try simp (disch := omega) only [Int64.le_iff_toInt_le, Int64.lt_iff_toInt_lt, Int32.le_iff_toInt_le, Int32.lt_iff_toInt_lt, fa_eq, fa_lit, fa_litL, nI_toInt, pk_lT, Int32.toInt_toInt64, jadd64, jin, jnoneT] at *); omega)
        · refine j_iconst X dX6_isTold_25 0 (by decide) ?_
          refine s_iret X hE hr dX6_isTold_26 (by first | exact jb_nar | rfl) ?_
          first | exact ⟨rfl, rfl⟩ | (exfalso; clear hE hr hR X; (try simp only [lg_cmp_lt, lg_cmp_gt, lg_cmp_le, lg_cmp_ge] at *); (try simp (disch := omega) only [Int64.le_iff_toInt_le, Int64.lt_iff_toInt_lt, Int32.le_iff_toInt_le, Int32.lt_iff_toInt_lt, fa_eq, fa_lit, fa_litL, nI_toInt, pk_lT, Int32.toInt_toInt64, jadd64, jin, jnoneT] at *); omega)
      · refine j_iconst X dX6_isTold_25 0 (by decide) ?_
        refine s_iret X hE hr dX6_isTold_26 (by first | exact jb_nar | rfl) ?_
        first | exact ⟨rfl, rfl⟩ | (exfalso; clear hE hr hR X; (try simp only [lg_cmp_lt, lg_cmp_gt, lg_cmp_le, lg_cmp_ge] at *); (try simp (disch := omega) only [Int64.le_iff_toInt_le, Int64.lt_iff_toInt_lt, Int32.le_iff_toInt_le, Int32.lt_iff_toInt_lt, fa_eq, fa_lit, fa_litL, nI_toInt, pk_lT, Int32.toInt_toInt64, jadd64, jin, jnoneT] at *); omega)
    · refine j_iconst X dX6_isTold_25 0 (by decide) ?_
      refine s_iret X hE hr dX6_isTold_26 (by first | exact jb_nar | rfl) ?_
      first | exact ⟨rfl, rfl⟩ | (exfalso; clear hE hr hR X; (try simp only [lg_cmp_lt, lg_cmp_gt, lg_cmp_le, lg_cmp_ge] at *); (try simp (disch := omega) only [Int64.le_iff_toInt_le, Int64.lt_iff_toInt_lt, Int32.le_iff_toInt_le, Int32.lt_iff_toInt_lt, fa_eq, fa_lit, fa_litL, nI_toInt, pk_lT, Int32.toInt_toInt64, jadd64, jin, jnoneT] at *); omega)
  · refine j_iconst X dX6_isTold_25 0 (by decide) ?_
    refine s_iret X hE hr dX6_isTold_26 (by first | exact jb_nar | rfl) ?_
    first | exact ⟨rfl, rfl⟩ | (exfalso; clear hE hr hR X; (try simp only [lg_cmp_lt, lg_cmp_gt, lg_cmp_le, lg_cmp_ge] at *); (try simp (disch := omega) only [Int64.le_iff_toInt_le, Int64.lt_iff_toInt_lt, Int32.le_iff_toInt_le, Int32.lt_iff_toInt_lt, fa_eq, fa_lit, fa_litL, nI_toInt, pk_lT, Int32.toInt_toInt64, jadd64, jin, jnoneT] at *); omega)
set_option maxRecDepth 4000 in
set_option maxHeartbeats 1000000 in
theorem c_paper_bad (np : Nat) (mem : jMem) (s i : Int32) (h : ¬ jin s 0 7) : jPi yX10_paper cX10_paper 5 .int 3 [.ref 0, .int s, .int i] np mem (fun v c => v = -1000001 ∧ c = mem) := by
  refine jPi.of (own := RX10) rfl rfl (Nat.le_of_ble_eq_true rfl) (fun G X hR hr hE => ?_)
  refine j_iload_n X dX10_paper_0 rfl ?_
  refine s_callSi X hR (c_isNumber np _ _) rfl u290 u288 u289 u2 hyX7_isNumber (by decide) (by decide) (Nat.le_of_ble_eq_true rfl) dX10_paper_1 (fun v_1 m_1 h_1 => ?_)
  obtain ⟨e1, e2⟩ := h_1; have e1 := e1.symm; have e2 := e2.symm; subst e1; subst e2
  refine j_ifb_ne X 10 dX10_paper_4 (by decide) (fun c_4 => ?_) (fun c_4 => ?_)
  · exact absurd c_4 h
  · refine j_ldc X dX10_paper_7 u295 ?_
    refine s_iret X hE hr dX10_paper_9 rfl ?_
    first | exact ⟨rfl, rfl⟩ | (exfalso; clear hE hr hR X; (try simp only [lg_cmp_lt, lg_cmp_gt, lg_cmp_le, lg_cmp_ge] at *); (try simp (disch := omega) only [Int64.le_iff_toInt_le, Int64.lt_iff_toInt_lt, Int32.le_iff_toInt_le, Int32.lt_iff_toInt_lt, fa_eq, fa_lit, fa_litL, nI_toInt, pk_lT, Int32.toInt_toInt64, jadd64, jin, jnoneT] at *); omega)
set_option maxRecDepth 4000 in
set_option maxHeartbeats 1000000 in
theorem c_paper_full (np : Nat) (mem : jMem) (s i : Int32) (h : jin s 0 7) (hp : mem 0 12 = nI 12) : jPi yX10_paper cX10_paper 5 .int 3 [.ref 0, .int s, .int i] np mem (fun v c => v = -1000003 ∧ c = mem) := by
  refine jPi.of (own := RX10) rfl rfl (Nat.le_of_ble_eq_true rfl) (fun G X hR hr hE => ?_)
  refine j_iload_n X dX10_paper_0 rfl ?_
  refine s_callSi X hR (c_isNumber np _ _) rfl u290 u288 u289 u2 hyX7_isNumber (by decide) (by decide) (Nat.le_of_ble_eq_true rfl) dX10_paper_1 (fun v_1 m_1 h_1 => ?_)
  obtain ⟨e1, e2⟩ := h_1; have e1 := e1.symm; have e2 := e2.symm; subst e1; subst e2
  refine j_ifb_ne X 10 dX10_paper_4 (by decide) (fun c_4 => ?_) (fun c_4 => ?_)
  · refine j_aload_n X dX10_paper_10 rfl ?_
    refine j_getF X 10 12 (by decide) (by decide) rfl u250 (o0 np) (k0 np) (mem 0) rfl dX10_paper_11 ?_
    refine j_nrm (nI 12) hp ?_
    refine j_bipush X dX10_paper_14 12 (by decide) ?_
    refine j_icmp_lt X 22 dX10_paper_16 (by decide) (fun c_16 => ?_) (fun c_16 => ?_)
    · exact absurd c_16 (by decide)
    · refine j_ldc X dX10_paper_19 u361 ?_
      refine s_iret X hE hr dX10_paper_21 rfl ?_
      first | exact ⟨rfl, rfl⟩ | (exfalso; clear hE hr hR X; (try simp only [lg_cmp_lt, lg_cmp_gt, lg_cmp_le, lg_cmp_ge] at *); (try simp (disch := omega) only [Int64.le_iff_toInt_le, Int64.lt_iff_toInt_lt, Int32.le_iff_toInt_le, Int32.lt_iff_toInt_lt, fa_eq, fa_lit, fa_litL, nI_toInt, pk_lT, Int32.toInt_toInt64, jadd64, jin, jnoneT] at *); omega)
  · exact absurd h c_4
set_option maxRecDepth 4000 in
set_option maxHeartbeats 1000000 in
theorem c_paper_null (np : Nat) (mem : jMem) (s : Nat) (i : Int32) (hs : s < 8) (hn : np < 12) (hp : mem 0 12 = nI np) (hm : mem 12 s = -1) : jPi yX10_paper cX10_paper 5 .int 3 [.ref 0, .int (nI s), .int i] np mem (fun v c => v = -1000010 - 1 ∧ c = jup mem 0 14 1) := by
  refine jPi.of (own := RX10) rfl rfl (Nat.le_of_ble_eq_true rfl) (fun G X hR hr hE => ?_)
  refine j_iload_n X dX10_paper_0 rfl ?_
  refine s_callSi X hR (c_isNumber np _ _) rfl u290 u288 u289 u2 hyX7_isNumber (by decide) (by decide) (Nat.le_of_ble_eq_true rfl) dX10_paper_1 (fun v_1 m_1 h_1 => ?_)
  obtain ⟨e1, e2⟩ := h_1; have e1 := e1.symm; have e2 := e2.symm; subst e1; subst e2
  refine j_ifb_ne X 10 dX10_paper_4 (by decide) (fun c_4 => ?_) (fun c_4 => ?_)
  · refine j_aload_n X dX10_paper_10 rfl ?_
    refine j_getF X 10 12 (by decide) (by decide) rfl u250 (o0 np) (k0 np) (mem 0) rfl dX10_paper_11 ?_
    refine j_nrm (nI np) hp ?_
    refine j_bipush X dX10_paper_14 12 (by decide) ?_
    refine j_icmp_lt X 22 dX10_paper_16 (by decide) (fun c_16 => ?_) (fun c_16 => ?_)
    · refine j_aload_n X dX10_paper_22 rfl ?_
      refine j_getR X 10 0 (by decide) (by decide) rfl u238 (o0 np) (k0 np) _ (p0_0 np) dX10_paper_23 ?_
      refine j_iload_n X dX10_paper_26 rfl ?_
      refine j_iload_n X dX10_paper_27 rfl ?_
      refine j_bipush X dX10_paper_28 9 (by decide) ?_
      refine s_callVi X hR (c_trouble_null np _ s _ _ hs hm) rfl 7 (by decide) (o1 np) (k1 np) rfl u316 u313 u314 u315 u2 hyX7_troubleAt (by decide) (by decide) (Nat.le_of_ble_eq_true rfl) dX10_paper_30 (fun v_30 m_30 h_30 => ?_)
      obtain ⟨e1, e2⟩ := h_30; have e1 := e1.symm; have e2 := e2.symm; subst e1; subst e2
      refine j_istore_n X dX10_paper_33 (by decide) ?_
      refine j_iload_n X dX10_paper_34 rfl ?_
      refine j_if_eq X 44 dX10_paper_35 (by decide) (fun c_35 => absurd c_35 (by decide)) (fun c_35 => ?_)
      refine j_aload_n X dX10_paper_38 rfl ?_
      refine j_iload_n X dX10_paper_39 rfl ?_
      refine s_callVi X hR (c_finding np _ _) rfl 10 (by decide) (o0 np) (k0 np) rfl u299 u296 u298 qp0 u1 hyX10_finding (by decide) (by decide) (Nat.le_of_ble_eq_true rfl) dX10_paper_40 (fun v_40 m_40 h_40 => ?_)
      obtain ⟨e1, e2⟩ := h_40; have e1 := e1.symm; have e2 := e2.symm; subst e1; subst e2
      refine s_iret X hE hr dX10_paper_43 rfl ?_
      first | exact ⟨rfl, rfl⟩ | (exfalso; clear hE hr hR X; (try simp only [lg_cmp_lt, lg_cmp_gt, lg_cmp_le, lg_cmp_ge] at *); (try simp (disch := omega) only [Int64.le_iff_toInt_le, Int64.lt_iff_toInt_lt, Int32.le_iff_toInt_le, Int32.lt_iff_toInt_lt, fa_eq, fa_lit, fa_litL, nI_toInt, pk_lT, Int32.toInt_toInt64, jadd64, jin, jnoneT] at *); omega)
    · exact absurd (nI_lt hn (by omega)) c_16
  · exact absurd (show jin (nI s) 0 7 from ⟨by rw [nI_toInt (by omega)]; omega, by rw [nI_toInt (by omega)]; omega⟩) c_4
set_option maxRecDepth 4000 in
set_option maxHeartbeats 1000000 in
theorem c_paper_place (np : Nat) (mem : jMem) (s z : Nat) (i : Int32) (hs : s < 8) (hn : np < 12) (hp : mem 0 12 = nI np) (hz : z ≤ 60) (hm : mem 12 s = nI z) (hi : ¬ (0 ≤ i.toInt ∧ 0 ≤ (9 : Int32).toInt ∧ i.toInt + (9 : Int32).toInt ≤ z)) : jPi yX10_paper cX10_paper 5 .int 3 [.ref 0, .int (nI s), .int i] np mem (fun v c => v = -1000010 - 2 ∧ c = jup mem 0 14 2) := by
  refine jPi.of (own := RX10) rfl rfl (Nat.le_of_ble_eq_true rfl) (fun G X hR hr hE => ?_)
  refine j_iload_n X dX10_paper_0 rfl ?_
  refine s_callSi X hR (c_isNumber np _ _) rfl u290 u288 u289 u2 hyX7_isNumber (by decide) (by decide) (Nat.le_of_ble_eq_true rfl) dX10_paper_1 (fun v_1 m_1 h_1 => ?_)
  obtain ⟨e1, e2⟩ := h_1; have e1 := e1.symm; have e2 := e2.symm; subst e1; subst e2
  refine j_ifb_ne X 10 dX10_paper_4 (by decide) (fun c_4 => ?_) (fun c_4 => ?_)
  · refine j_aload_n X dX10_paper_10 rfl ?_
    refine j_getF X 10 12 (by decide) (by decide) rfl u250 (o0 np) (k0 np) (mem 0) rfl dX10_paper_11 ?_
    refine j_nrm (nI np) hp ?_
    refine j_bipush X dX10_paper_14 12 (by decide) ?_
    refine j_icmp_lt X 22 dX10_paper_16 (by decide) (fun c_16 => ?_) (fun c_16 => ?_)
    · refine j_aload_n X dX10_paper_22 rfl ?_
      refine j_getR X 10 0 (by decide) (by decide) rfl u238 (o0 np) (k0 np) _ (p0_0 np) dX10_paper_23 ?_
      refine j_iload_n X dX10_paper_26 rfl ?_
      refine j_iload_n X dX10_paper_27 rfl ?_
      refine j_bipush X dX10_paper_28 9 (by decide) ?_
      refine s_callVi X hR (c_trouble_place np _ s z _ _ hs hz hm hi) rfl 7 (by decide) (o1 np) (k1 np) rfl u316 u313 u314 u315 u2 hyX7_troubleAt (by decide) (by decide) (Nat.le_of_ble_eq_true rfl) dX10_paper_30 (fun v_30 m_30 h_30 => ?_)
      obtain ⟨e1, e2⟩ := h_30; have e1 := e1.symm; have e2 := e2.symm; subst e1; subst e2
      refine j_istore_n X dX10_paper_33 (by decide) ?_
      refine j_iload_n X dX10_paper_34 rfl ?_
      refine j_if_eq X 44 dX10_paper_35 (by decide) (fun c_35 => absurd c_35 (by decide)) (fun c_35 => ?_)
      refine j_aload_n X dX10_paper_38 rfl ?_
      refine j_iload_n X dX10_paper_39 rfl ?_
      refine s_callVi X hR (c_finding np _ _) rfl 10 (by decide) (o0 np) (k0 np) rfl u299 u296 u298 qp0 u1 hyX10_finding (by decide) (by decide) (Nat.le_of_ble_eq_true rfl) dX10_paper_40 (fun v_40 m_40 h_40 => ?_)
      obtain ⟨e1, e2⟩ := h_40; have e1 := e1.symm; have e2 := e2.symm; subst e1; subst e2
      refine s_iret X hE hr dX10_paper_43 rfl ?_
      first | exact ⟨rfl, rfl⟩ | (exfalso; clear hE hr hR X; (try simp only [lg_cmp_lt, lg_cmp_gt, lg_cmp_le, lg_cmp_ge] at *); (try simp (disch := omega) only [Int64.le_iff_toInt_le, Int64.lt_iff_toInt_lt, Int32.le_iff_toInt_le, Int32.lt_iff_toInt_lt, fa_eq, fa_lit, fa_litL, nI_toInt, pk_lT, Int32.toInt_toInt64, jadd64, jin, jnoneT] at *); omega)
    · exact absurd (nI_lt hn (by omega)) c_16
  · exact absurd (show jin (nI s) 0 7 from ⟨by rw [nI_toInt (by omega)]; omega, by rw [nI_toInt (by omega)]; omega⟩) c_4
set_option maxRecDepth 4000 in
set_option maxHeartbeats 1000000 in
theorem c_paper_item (np : Nat) (mem : jMem) (s i z : Nat) (hs : s < 8) (hn : np < 12) (hp : mem 0 12 = nI np) (hz : z ≤ 60) (hm : mem 12 s = nI z) (hi : i + 9 ≤ z) (hk : ¬ jPok (mem (3 + s)) i) : jPi yX10_paper cX10_paper 5 .int 3 [.ref 0, .int (nI s), .int (nI i)] np mem (fun v c => v = -1000001 ∧ c = mem) := by
  refine jPi.of (own := RX10) rfl rfl (Nat.le_of_ble_eq_true rfl) (fun G X hR hr hE => ?_)
  refine j_iload_n X dX10_paper_0 rfl ?_
  refine s_callSi X hR (c_isNumber np _ _) rfl u290 u288 u289 u2 hyX7_isNumber (by decide) (by decide) (Nat.le_of_ble_eq_true rfl) dX10_paper_1 (fun v_1 m_1 h_1 => ?_)
  obtain ⟨e1, e2⟩ := h_1; have e1 := e1.symm; have e2 := e2.symm; subst e1; subst e2
  refine j_ifb_ne X 10 dX10_paper_4 (by decide) (fun c_4 => ?_) (fun c_4 => ?_)
  · refine j_aload_n X dX10_paper_10 rfl ?_
    refine j_getF X 10 12 (by decide) (by decide) rfl u250 (o0 np) (k0 np) (mem 0) rfl dX10_paper_11 ?_
    refine j_nrm (nI np) hp ?_
    refine j_bipush X dX10_paper_14 12 (by decide) ?_
    refine j_icmp_lt X 22 dX10_paper_16 (by decide) (fun c_16 => ?_) (fun c_16 => ?_)
    · refine j_aload_n X dX10_paper_22 rfl ?_
      refine j_getR X 10 0 (by decide) (by decide) rfl u238 (o0 np) (k0 np) _ (p0_0 np) dX10_paper_23 ?_
      refine j_iload_n X dX10_paper_26 rfl ?_
      refine j_iload_n X dX10_paper_27 rfl ?_
      refine j_bipush X dX10_paper_28 9 (by decide) ?_
      refine s_callVi X hR (c_trouble np _ s z _ _ hs hz hm ⟨by rw [nI_toInt (by omega)]; omega, by decide, by rw [nI_toInt (by omega)]; show (i : Int) + 9 ≤ z; omega⟩) rfl 7 (by decide) (o1 np) (k1 np) rfl u316 u313 u314 u315 u2 hyX7_troubleAt (by decide) (by decide) (Nat.le_of_ble_eq_true rfl) dX10_paper_30 (fun v_30 m_30 h_30 => ?_)
      obtain ⟨e1, e2⟩ := h_30; have e1 := e1.symm; have e2 := e2.symm; subst e1; subst e2
      refine j_istore_n X dX10_paper_33 (by decide) ?_
      refine j_iload_n X dX10_paper_34 rfl ?_
      refine j_if_eq X 44 dX10_paper_35 (by decide) (fun c_35 => ?_) (fun c_35 => absurd c_35 (by decide))
      refine j_aload_n X dX10_paper_44 rfl ?_
      refine j_getR X 10 0 (by decide) (by decide) rfl u238 (o0 np) (k0 np) _ (p0_0 np) dX10_paper_45 ?_
      refine j_getR X 7 0 (by decide) (by decide) rfl u41 (o1 np) (k1 np) _ (p1_0 np) dX10_paper_48 ?_
      refine j_iload_n X dX10_paper_51 rfl ?_
      refine j_nrm _ (by first | (simp only [fa_lit, pk_mul, nI_add]; done) | (simp only [fa_lit, pk_mul, nI_add]; rfl) | rfl) ?_
      refine j_aaldIN X (o2 np) (k2 np) (by rw [l2]; omega) (by rw [l2]; decide) (p2_r np (by omega)) dX10_paper_52 ?_
      refine j_astore X dX10_paper_53 (by decide) ?_
      refine j_aload X dX10_paper_55 rfl ?_
      refine j_iload_n X dX10_paper_57 rfl ?_
      refine s_callSi X hR (c_isTold_no np _ s i hs (by omega) hk) rfl u381 u379 u380 u14 hyX6_isTold (by decide) (by decide) (Nat.le_of_ble_eq_true rfl) dX10_paper_58 (fun v_58 m_58 h_58 => ?_)
      obtain ⟨e1, e2⟩ := h_58; have e1 := e1.symm; have e2 := e2.symm; subst e1; subst e2
      refine j_if_ne X 67 dX10_paper_61 (by decide) (fun c_61 => absurd c_61 (by decide)) (fun c_61 => ?_)
      refine j_ldc X dX10_paper_64 u295 ?_
      refine s_iret X hE hr dX10_paper_66 rfl ?_
      first | exact ⟨rfl, rfl⟩ | (exfalso; clear hE hr hR X; (try simp only [lg_cmp_lt, lg_cmp_gt, lg_cmp_le, lg_cmp_ge] at *); (try simp (disch := omega) only [Int64.le_iff_toInt_le, Int64.lt_iff_toInt_lt, Int32.le_iff_toInt_le, Int32.lt_iff_toInt_lt, fa_eq, fa_lit, fa_litL, nI_toInt, pk_lT, Int32.toInt_toInt64, jadd64, jin, jnoneT] at *); omega)
    · exact absurd (nI_lt hn (by omega)) c_16
  · exact absurd (show jin (nI s) 0 7 from ⟨by rw [nI_toInt (by omega)]; omega, by rw [nI_toInt (by omega)]; omega⟩) c_4
def ptN (np : Nat) : Nat → Nat → Option Nat := va_up (jpt np) (92 + 2 * np) (fun _ => none)
theorem jpt_e (np p : Nat) : jpt np (92 + 2 * p) = fun j => if j = 6 then some (93 + 2 * p) else none := by
  funext j
  rw [Nat.add_comm 92, Nat.add_comm 93]
  show (if 92 ≤ 2 * p + 92 ∧ (2 * p + 92) % 2 = 0 ∧ j = 6 then some (2 * p + 92 + 1) else none) = _
  by_cases h : j = 6
  · rw [if_pos ⟨by omega, by omega, h⟩, if_pos h]
  · rw [if_neg (fun q => h q.2.2), if_neg h]
theorem jpt_o (np p : Nat) : jpt np (93 + 2 * p) = fun _ => none := by
  funext j
  rw [Nat.add_comm 93]
  show (if 92 ≤ 2 * p + 93 ∧ (2 * p + 93) % 2 = 0 ∧ j = 6 then some (2 * p + 93 + 1) else none) = _
  rw [if_neg (fun q => by omega)]
def shN (np : Nat) : jSh := (92 + 2 * np + 1, jkd, jln, ptN np)
def shQ (np : Nat) : jSh := (92 + 2 * np + 2, jkd, jln, va_up (ptN np) (92 + 2 * np) (va_up (ptN np (92 + 2 * np)) 6 (some (93 + 2 * np))))
def mPap (mem : jMem) (np s i : Nat) : jMem := jup (jup (jup (jup (jup (jup (jup mem (92 + 2 * np) 7 1000) (92 + 2 * np) 0 (nI np)) (92 + 2 * np) 1 (mem (3 + s) i)) (92 + 2 * np) 2 (mem (3 + s) (i + 1))) (92 + 2 * np) 3 (mem (3 + s) (i + 2))) (92 + 2 * np) 4 (mem (3 + s) (i + 3))) (92 + 2 * np) 5 (mem (3 + s) (i + 4))
def mPap2 (mem : jMem) (np s i : Nat) : jMem := va_up (mPap mem np s i) (93 + 2 * np) (va_cpy (mPap mem np s i (3 + s)) (mPap mem np s i (93 + 2 * np)) (i + 5) 0 4)
set_option maxRecDepth 4000 in
set_option maxHeartbeats 2000000 in
theorem i_Paper (np : Nat) (mem : jMem) (s i : Nat) (hs : s < 8) (hi : i + 9 ≤ 60) (hn : np < 12) (hm : mem (93 + 2 * np) = fun _ => 0) : jCt yX6_init cX6_init 4 none 1 1 4 [.ref (92 + 2 * np), .int (nI np), .ref (3 + s), .int (nI i)] (shN np) mem (fun a b c => a = none ∧ b = shQ np ∧ c = mPap2 mem np s i) := by
  refine jCt.of rfl (Nat.le_of_ble_eq_true rfl) (fun G X hR hr hin hE => ?_)
  have hin0 := hin rfl
  have e1 : (shN np).1 = 93 + 2 * np := by show 92 + 2 * np + 1 = _; omega
  have ho : (92 + 2 * np) < 92 + 2 * np + 2 := by omega
  have hoQ : (92 + 2 * np) < (shQ np).1 := by show _ < 92 + 2 * np + 2; omega
  have hoR : 3 + s < (shQ np).1 := by show _ < 92 + 2 * np + 2; omega
  refine j_lv [some (.ref (92 + 2 * np)), some (.int (nI np)), some (.ref (3 + s)), some (.int (nI i))] ⟨rfl, rfl, rfl, rfl, trivial⟩ ?_
  refine j_aload_n X dX6_init_0 rfl ?_
  refine j_objI X hR (by decide) u389 (Nat.le_of_ble_eq_true rfl) dX6_init_1 ?_
  refine j_aload_n X dX6_init_4 rfl ?_
  refine j_iconst X dX6_init_5 4 (by decide) ?_
  refine j_nrm (nI 4) rfl ?_
  refine j_newI (sh := shN np) X hR (Nat.le_of_ble_eq_true rfl) (Nat.le_of_ble_eq_true rfl) (by rw [e1]; exact kPf np np) (by rw [e1]; exact lPf np np) (by rw [e1]; show va_up (jpt np) (92 + 2 * np) (fun _ => none) (93 + 2 * np) = _; rw [va_up_ne _ _ (by omega), jpt_o]) (by rw [e1]; exact hm) (by rw [e1]; show 93 + 2 * np + 1 ≤ 1000000; omega) (by decide) (jvo_l (fun v hv => by simp only [List.mem_cons, Option.some.injEq, List.not_mem_nil, or_false] at hv; rcases hv with rfl | rfl | rfl | rfl <;> first | exact jok_i | exact jok_r (Or.inl (by show _ < 92 + 2 * np + 1; omega))) (fun v hv => by simp only [List.mem_cons, List.not_mem_nil, or_false] at hv; subst hv; exact jok_r (Or.inl (by show _ < 92 + 2 * np + 1; omega)))) dX6_init_6 ?_
  rw [e1]
  refine j_as (92 + 2 * np + 2, jkd, jln, ptN np) (Prod.ext (by show 93 + 2 * np + 1 = 92 + 2 * np + 2; omega) rfl) ?_
  refine j_putRF (sh := (92 + 2 * np + 2, jkd, jln, ptN np)) X 6 6 (by decide) (by decide) hin0 rfl (93 + 2 * np) (by show _ < 92 + 2 * np + 2; omega) rfl rfl rfl rfl u405 ho (kP np np) dX6_init_8 ?_
  refine j_as (shQ np) rfl ?_
  refine j_aload_n X dX6_init_11 rfl ?_
  refine j_sipush X dX6_init_12 1000 (by decide) ?_
  refine j_putI X 6 7 (by decide) (by decide) rfl rfl rfl rfl u409 hoQ (kP np np) dX6_init_15 ?_
  refine j_aload_n X dX6_init_18 rfl ?_
  refine j_iload_n X dX6_init_19 rfl ?_
  refine j_putIF X 6 0 (by decide) (by decide) hin0 rfl rfl rfl rfl rfl u391 hoQ (kP np np) dX6_init_20 ?_
  refine j_aload_n X dX6_init_23 rfl ?_
  refine j_aload_n X dX6_init_24 rfl ?_
  refine j_iload_n X dX6_init_25 rfl ?_
  refine j_ialdN X hoR (k2_r np hs) (by show _ < (jS np).2.2.1 (3 + s); rw [l2_r np hs]; omega) (by show (jS np).2.2.1 (3 + s) < _; rw [l2_r np hs]; decide) (mem (3 + s)) (by rw [jup_o (by omega), jup_o (by omega)]) dX6_init_26 ?_
  refine j_putIF X 6 1 (by decide) (by decide) hin0 rfl rfl rfl rfl rfl u393 hoQ (kP np np) dX6_init_27 ?_
  refine j_aload_n X dX6_init_30 rfl ?_
  refine j_aload_n X dX6_init_31 rfl ?_
  refine j_iload_n X dX6_init_32 rfl ?_
  refine j_iconst X dX6_init_33 1 (by decide) ?_
  refine j_iadd X dX6_init_34 ?_
  refine j_nrm (nI (i + 1)) (by rw [show (1 : Int32) = nI 1 from rfl, nI_add]) ?_
  refine j_ialdN X hoR (k2_r np hs) (by show _ < (jS np).2.2.1 (3 + s); rw [l2_r np hs]; omega) (by show (jS np).2.2.1 (3 + s) < _; rw [l2_r np hs]; decide) (mem (3 + s)) (by rw [jup_o (by omega), jup_o (by omega), jup_o (by omega)]) dX6_init_35 ?_
  refine j_putIF X 6 2 (by decide) (by decide) hin0 rfl rfl rfl rfl rfl u396 hoQ (kP np np) dX6_init_36 ?_
  refine j_aload_n X dX6_init_39 rfl ?_
  refine j_aload_n X dX6_init_40 rfl ?_
  refine j_iload_n X dX6_init_41 rfl ?_
  refine j_iconst X dX6_init_42 2 (by decide) ?_
  refine j_iadd X dX6_init_43 ?_
  refine j_nrm (nI (i + 2)) (by rw [show (2 : Int32) = nI 2 from rfl, nI_add]) ?_
  refine j_ialdN X hoR (k2_r np hs) (by show _ < (jS np).2.2.1 (3 + s); rw [l2_r np hs]; omega) (by show (jS np).2.2.1 (3 + s) < _; rw [l2_r np hs]; decide) (mem (3 + s)) (by rw [jup_o (by omega), jup_o (by omega), jup_o (by omega), jup_o (by omega)]) dX6_init_44 ?_
  refine j_putIF X 6 3 (by decide) (by decide) hin0 rfl rfl rfl rfl rfl u398 hoQ (kP np np) dX6_init_45 ?_
  refine j_aload_n X dX6_init_48 rfl ?_
  refine j_aload_n X dX6_init_49 rfl ?_
  refine j_iload_n X dX6_init_50 rfl ?_
  refine j_iconst X dX6_init_51 3 (by decide) ?_
  refine j_iadd X dX6_init_52 ?_
  refine j_nrm (nI (i + 3)) (by rw [show (3 : Int32) = nI 3 from rfl, nI_add]) ?_
  refine j_ialdN X hoR (k2_r np hs) (by show _ < (jS np).2.2.1 (3 + s); rw [l2_r np hs]; omega) (by show (jS np).2.2.1 (3 + s) < _; rw [l2_r np hs]; decide) (mem (3 + s)) (by rw [jup_o (by omega), jup_o (by omega), jup_o (by omega), jup_o (by omega), jup_o (by omega)]) dX6_init_53 ?_
  refine j_putIF X 6 4 (by decide) (by decide) hin0 rfl rfl rfl rfl rfl u399 hoQ (kP np np) dX6_init_54 ?_
  refine j_aload_n X dX6_init_57 rfl ?_
  refine j_aload_n X dX6_init_58 rfl ?_
  refine j_iload_n X dX6_init_59 rfl ?_
  refine j_iconst X dX6_init_60 4 (by decide) ?_
  refine j_iadd X dX6_init_61 ?_
  refine j_nrm (nI (i + 4)) (by rw [show (4 : Int32) = nI 4 from rfl, nI_add]) ?_
  refine j_ialdN X hoR (k2_r np hs) (by show _ < (jS np).2.2.1 (3 + s); rw [l2_r np hs]; omega) (by show (jS np).2.2.1 (3 + s) < _; rw [l2_r np hs]; decide) (mem (3 + s)) (by rw [jup_o (by omega), jup_o (by omega), jup_o (by omega), jup_o (by omega), jup_o (by omega), jup_o (by omega)]) dX6_init_62 ?_
  refine j_putIF X 6 5 (by decide) (by decide) hin0 rfl rfl rfl rfl rfl u402 hoQ (kP np np) dX6_init_63 ?_
  refine j_aload_n X dX6_init_66 rfl ?_
  refine j_iload_n X dX6_init_67 rfl ?_
  refine j_iconst X dX6_init_68 5 (by decide) ?_
  refine j_iadd X dX6_init_69 ?_
  refine j_nrm (nI (i + 5)) (by rw [show (5 : Int32) = nI 5 from rfl, nI_add]) ?_
  refine j_aload_n X dX6_init_70 rfl ?_
  refine j_getR X 6 6 (by decide) (by decide) rfl u405 hoQ (kP np np) (93 + 2 * np) (by show va_up (ptN np) (92 + 2 * np) _ (92 + 2 * np) 6 = _; rw [va_up_self, va_up_self]) dX6_init_71 ?_
  refine j_iconst X dX6_init_74 0 (by decide) ?_
  refine j_nrm (nI 0) rfl ?_
  refine j_iconst X dX6_init_75 4 (by decide) ?_
  refine j_nrm (nI 4) rfl ?_
  refine j_acopy X hR (by decide) u390 (Nat.le_of_ble_eq_true rfl) hoR (k2_r np hs) (by show _ < 92 + 2 * np + 2; omega) (kPf np np) (by show _ ≤ (jS np).2.2.1 (3 + s); rw [l2_r np hs]; omega) (by show _ ≤ (jS np).2.2.1 _; rw [lPf]; decide) (by show (jS np).2.2.1 (3 + s) < _; rw [l2_r np hs]; decide) (by show (jS np).2.2.1 _ < _; rw [lPf]; decide) dX6_init_76 ?_
  refine j_return X hE hr (Nat.le_of_ble_eq_true rfl) (Nat.le_of_ble_eq_true rfl) dX6_init_79 ⟨rfl, rfl, rfl⟩
theorem jpt_np {np np' i : Nat} (h : ¬ i = 27) : jpt np i = jpt np' i := by
  unfold jpt
  split <;> first | rfl | exact absurd rfl h
theorem jpt_new (np i j : Nat) : jpt (np + 1) i j = (jupS (shQ np) 27 np (some (92 + 2 * np))).2.2.2 i j := by
  show _ = va_up (va_up (ptN np) (92 + 2 * np) (va_up (ptN np (92 + 2 * np)) 6 (some (93 + 2 * np)))) 27 (va_up (va_up (ptN np) (92 + 2 * np) (va_up (ptN np (92 + 2 * np)) 6 (some (93 + 2 * np))) 27) np (some (92 + 2 * np))) i j
  by_cases h27 : i = 27
  · subst h27
    rw [va_up_self, va_up_ne (k := 92 + 2 * np) (j := 27) _ _ (by omega)]
    unfold ptN
    rw [va_up_ne (k := 92 + 2 * np) (j := 27) _ _ (by omega)]
    show (if j < np + 1 then some (92 + 2 * j) else none) = va_up (fun j => if j < np then some (92 + 2 * j) else none) np (some (92 + 2 * np)) j
    by_cases hj : j = np
    · subst hj; rw [va_up_self, if_pos (by omega)]
    · rw [va_up_ne _ _ hj]
      by_cases hk : j < np
      · rw [if_pos hk, if_pos (by omega)]
      · rw [if_neg hk, if_neg (by omega)]
  · rw [va_up_ne _ _ h27]
    by_cases hP : i = 92 + 2 * np
    · subst hP
      rw [va_up_self, jpt_e]
      unfold ptN
      rw [va_up_self]
      show (if j = 6 then _ else _) = va_up (fun _ => none) 6 (some (93 + 2 * np)) j
      by_cases h6 : j = 6
      · subst h6; rw [va_up_self, if_pos rfl]
      · rw [va_up_ne _ _ h6, if_neg h6]
    · rw [va_up_ne _ _ hP]
      unfold ptN
      rw [va_up_ne _ _ hP]
      exact congrFun (jpt_np h27) j
theorem mPap2_0 {mem : jMem} {np s i : Nat} (hs : s < 8) : mPap2 mem np s i 0 = mem 0 := by
  unfold mPap2 mPap
  rw [va_up_ne _ _ (by omega), jup_o (by omega), jup_o (by omega), jup_o (by omega), jup_o (by omega), jup_o (by omega), jup_o (by omega), jup_o (by omega)]
set_option maxRecDepth 4000 in
set_option maxHeartbeats 2000000 in
theorem c_paper (np : Nat) (mem : jMem) (s i z : Nat) (hs : s < 8) (hn : np < 12) (hp : mem 0 12 = nI np) (hz : z ≤ 60) (hm : mem 12 s = nI z) (hi : i + 9 ≤ z) (hk : jPok (mem (3 + s)) i) (hm0 : mem (92 + 2 * np) = fun _ => 0) (hm1 : mem (93 + 2 * np) = fun _ => 0) : jCt yX10_paper cX10_paper 5 (some .int) 3 2 12 [.ref 0, .int (nI s), .int (nI i)] (jS np) mem (fun a b c => a = some (.int (nI np)) ∧ b = jS (np + 1) ∧ c = jup (jup (mPap2 mem np s i) 0 12 (nI (np + 1))) 0 14 0) := by
  refine jCt.of rfl (Nat.le_of_ble_eq_true rfl) (fun G X hR9 hr _ hE => ?_)
  have hR := jRm_0 hR9
  refine j_iload_n X dX10_paper_0 rfl ?_
  refine s_callSi X hR (c_isNumber np _ _) rfl u290 u288 u289 u2 hyX7_isNumber (by decide) (by decide) (Nat.le_of_ble_eq_true rfl) dX10_paper_1 (fun v_1 m_1 h_1 => ?_)
  obtain ⟨e1, e2⟩ := h_1; have e1 := e1.symm; have e2 := e2.symm; subst e1; subst e2
  refine j_ifb_ne X 10 dX10_paper_4 (by decide) (fun c_4 => ?_) (fun c_4 => ?_)
  · refine j_aload_n X dX10_paper_10 rfl ?_
    refine j_getF X 10 12 (by decide) (by decide) rfl u250 (o0 np) (k0 np) (mem 0) rfl dX10_paper_11 ?_
    refine j_nrm (nI np) hp ?_
    refine j_bipush X dX10_paper_14 12 (by decide) ?_
    refine j_icmp_lt X 22 dX10_paper_16 (by decide) (fun c_16 => ?_) (fun c_16 => ?_)
    · refine j_aload_n X dX10_paper_22 rfl ?_
      refine j_getR X 10 0 (by decide) (by decide) rfl u238 (o0 np) (k0 np) _ (p0_0 np) dX10_paper_23 ?_
      refine j_iload_n X dX10_paper_26 rfl ?_
      refine j_iload_n X dX10_paper_27 rfl ?_
      refine j_bipush X dX10_paper_28 9 (by decide) ?_
      refine s_callVi X hR (c_trouble np _ s z _ _ hs hz hm ⟨by rw [nI_toInt (by omega)]; omega, by decide, by rw [nI_toInt (by omega)]; show (i : Int) + 9 ≤ z; omega⟩) rfl 7 (by decide) (o1 np) (k1 np) rfl u316 u313 u314 u315 u2 hyX7_troubleAt (by decide) (by decide) (Nat.le_of_ble_eq_true rfl) dX10_paper_30 (fun v_30 m_30 h_30 => ?_)
      obtain ⟨e1, e2⟩ := h_30; have e1 := e1.symm; have e2 := e2.symm; subst e1; subst e2
      refine j_istore_n X dX10_paper_33 (by decide) ?_
      refine j_iload_n X dX10_paper_34 rfl ?_
      refine j_if_eq X 44 dX10_paper_35 (by decide) (fun c_35 => ?_) (fun c_35 => absurd c_35 (by decide))
      refine j_aload_n X dX10_paper_44 rfl ?_
      refine j_getR X 10 0 (by decide) (by decide) rfl u238 (o0 np) (k0 np) _ (p0_0 np) dX10_paper_45 ?_
      refine j_getR X 7 0 (by decide) (by decide) rfl u41 (o1 np) (k1 np) _ (p1_0 np) dX10_paper_48 ?_
      refine j_iload_n X dX10_paper_51 rfl ?_
      refine j_nrm _ (by first | (simp only [fa_lit, pk_mul, nI_add]; done) | (simp only [fa_lit, pk_mul, nI_add]; rfl) | rfl) ?_
      refine j_aaldIN X (o2 np) (k2 np) (by rw [l2]; omega) (by rw [l2]; decide) (p2_r np (by omega)) dX10_paper_52 ?_
      refine j_astore X dX10_paper_53 (by decide) ?_
      refine j_aload X dX10_paper_55 rfl ?_
      refine j_iload_n X dX10_paper_57 rfl ?_
      refine s_callSi X hR (c_isTold np _ s i hs (by omega) hk) rfl u381 u379 u380 u14 hyX6_isTold (by decide) (by decide) (Nat.le_of_ble_eq_true rfl) dX10_paper_58 (fun v_58 m_58 h_58 => ?_)
      obtain ⟨e1, e2⟩ := h_58; have e1 := e1.symm; have e2 := e2.symm; subst e1; subst e2
      refine j_if_ne X 67 dX10_paper_61 (by decide) (fun c_61 => ?_) (fun c_61 => absurd c_61 (by decide))
      refine j_lv [some (.ref 0), some (.int (nI s)), some (.int (nI i)), some (.int 0), some (.ref (3 + s))] ⟨rfl, rfl, rfl, rfl, rfl, trivial⟩ ?_
      refine j_aload_n X dX10_paper_67 rfl ?_
      refine j_getR X 10 2 (by decide) (by decide) rfl u240 (o0 np) (k0 np) 27 rfl dX10_paper_68 ?_
      refine j_aload_n X dX10_paper_71 rfl ?_
      refine j_getF X 10 12 (by decide) (by decide) rfl u250 (o0 np) (k0 np) (mem 0) rfl dX10_paper_72 ?_
      refine j_nrm (nI np) hp ?_
      refine j_shape (92 + 2 * np, jkd, jln, ptN np) mem rfl (fun i hi => ⟨rfl, rfl, fun j => by show va_up (jpt np) _ _ i j = jpt np i j; rw [va_up_ne _ _ (by have : i < 92 + 2 * np := hi; omega)], rfl⟩) ?_
      refine j_newO X hR9 6 (by decide) u80 u385 u14 (Nat.le_of_ble_eq_true rfl) (Nat.le_of_ble_eq_true rfl) (kP np np) (va_up_self _ _ _) hm0 (by show 92 + 2 * np + 1 ≤ 1000000; omega) (jvo_l (fun v hv => by simp only [List.mem_cons, Option.some.injEq, List.not_mem_nil, or_false] at hv; rcases hv with rfl | rfl | rfl | rfl | rfl <;> first | exact jok_i | exact jok_r (Or.inl (by show _ < 92 + 2 * np; omega))) (fun v hv => by simp only [List.mem_cons, List.not_mem_nil, or_false] at hv; rcases hv with rfl | rfl <;> first | exact jok_i | exact jok_r (Or.inl (by show _ < 92 + 2 * np; omega)))) dX10_paper_75 ?_
      refine j_as (shN np) rfl ?_
      refine j_dup X dX10_paper_78 rfl ?_
      refine j_aload_n X dX10_paper_79 rfl ?_
      refine j_getF X 10 12 (by decide) (by decide) rfl u250 (by show 0 < 92 + 2 * np + 1; omega) rfl (mem 0) rfl dX10_paper_80 ?_
      refine j_nrm (nI np) hp ?_
      refine j_aload X dX10_paper_83 rfl ?_
      refine j_iload_n X dX10_paper_85 rfl ?_
      refine j_callI X hR9 (i_Paper np mem s i hs (by omega) hn hm1) rfl u388 u386 u387 rfl u14 hyX6_init (by decide) (by decide) (Nat.le_of_ble_eq_true rfl) ⟨Nat.le_of_ble_eq_true rfl, Nat.le_of_ble_eq_true rfl⟩ dX10_paper_86 (fun r sh2 mem2 hpp => ?_)
      obtain ⟨rfl, rfl, rfl⟩ := hpp
      refine ⟨Or.inr (jvo_l (fun v hv => by simp only [List.mem_cons, Option.some.injEq, List.not_mem_nil, or_false] at hv; rcases hv with rfl | rfl | rfl | rfl | rfl <;> first | exact jok_i | exact jok_r (Or.inl (by show _ < 92 + 2 * np + 1; omega))) (fun v hv => by simp only [List.mem_cons, List.not_mem_nil, or_false] at hv; rcases hv with rfl | rfl | rfl <;> first | exact jok_i | exact jok_r (Or.inl (by show _ < 92 + 2 * np + 1; omega)))), ?_⟩
      refine j_aastP (t := (92 + 2 * np)) (x := nI np) X (by show 27 < 92 + 2 * np + 2; omega) rfl (vp_in_nI (show np < 12 from hn) (show 12 < 2 ^ 31 by decide)) (by show _ < 92 + 2 * np + 2; omega) (kP np np) dX10_paper_89 ?_
      rw [nI_clamp (by omega)]
      refine j_shape (jS (np + 1)) _ (by show 92 + 2 * (np + 1) = 92 + 2 * np + 2; omega) (fun i hi => ⟨rfl, rfl, fun j => jpt_new np i j, rfl⟩) ?_
      refine j_aload_n X dX10_paper_90 rfl ?_
      refine j_dup X dX10_paper_91 rfl ?_
      refine j_getF X 10 12 (by decide) (by decide) rfl u250 (o0 _) (k0 _) (mem 0) (mPap2_0 hs) dX10_paper_92 ?_
      refine j_nrm (nI np) hp ?_
      refine j_iconst X dX10_paper_95 1 (by decide) ?_
      refine j_iadd X dX10_paper_96 ?_
      refine j_nrm (nI (np + 1)) (nI_1 np) ?_
      refine j_putI X 10 12 (by decide) (by decide) rfl rfl rfl rfl u250 (o0 _) (k0 _) dX10_paper_97 ?_
      refine j_aload_n X dX10_paper_100 rfl ?_
      refine j_aload_n X dX10_paper_101 rfl ?_
      refine j_getI X 10 12 (by decide) (by decide) rfl u250 (o0 _) (k0 _) dX10_paper_102 ?_
      refine j_nrm (nI (np + 1)) jup_s ?_
      refine j_iconst X dX10_paper_105 1 (by decide) ?_
      refine j_isub X dX10_paper_106 ?_
      refine j_nrm (nI np) (nI_pred np) ?_
      refine l_callVi X hR9 ⟨Nat.le_of_ble_eq_true rfl, Nat.le_of_ble_eq_true rfl⟩ (c_found (np + 1) _ (nI np)) rfl 10 (by decide) (o0 _) (k0 _) rfl u308 u305 u307 qp1 u1 hyX10_found (by decide) (by decide) (Nat.le_of_ble_eq_true rfl) dX10_paper_107 (fun v m h => ?_)
      obtain ⟨e1, e2⟩ := h; subst e1; subst e2
      refine j_ireturn X hE hr rfl (Nat.le_of_ble_eq_true rfl) (Nat.le_of_ble_eq_true rfl) dX10_paper_110 ⟨rfl, rfl, rfl⟩
    · exact absurd (nI_lt hn (by omega)) c_16
  · exact absurd (show jin (nI s) 0 7 from ⟨by rw [nI_toInt (by omega)]; omega, by rw [nI_toInt (by omega)]; omega⟩) c_4
