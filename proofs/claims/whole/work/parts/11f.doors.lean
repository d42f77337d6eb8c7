/-- what a reading of all texts comes to: a fault -/
def aBadR (B : Nat → Nat) (z : Nat) (S : Nat → Nat) (code plc : Nat) : Prop := 1 ≤ code ∧ code ≤ 3 ∧ plc ≤ 300 ∧ aR (aF B z false) (0, 0, 0, 0, 0, 0, 0, S) (aFt code plc)
/-- .. or so many texts, and what the doors then ask -/
def aOkR (B : Nat → Nat) (z : Nat) (S : Nat → Nat) (cnt : Nat) (S2 : Nat → Nat) : Prop := cnt ≤ 300 ∧ (∃ p, aR (aF B z true) (0, 0, 0, 0, 0, 0, 0, S) (0, p, 0, 0, 0, 0, cnt, S2) ∧ tK B z p = 1) ∧ ∃ p c S3, aR (aF B z false) (0, 0, 0, 0, 0, 0, 0, S) (0, p, 0, 0, 0, 0, c, S3) ∧ tK B z p = 1
theorem aBad_u {B : Nat → Nat} {z : Nat} {S : Nat → Nat} {a b c d : Nat} (h : aBadR B z S a b) (h2 : aBadR B z S c d) : a = c ∧ b = d := by
  have := aR_u h.2.2.2 rfl h2.2.2.2 rfl
  cases this
  exact ⟨rfl, rfl⟩
theorem aBad_ok {B : Nat → Nat} {z : Nat} {S S2 : Nat → Nat} {a b c : Nat} (h : aBadR B z S a b) (h2 : aOkR B z S c S2) : False := by
  obtain ⟨-, -, p, c3, S3, h3, h4⟩ := h2
  have := aR_u h.2.2.2 rfl h3 (aF_0e h4)
  cases this
theorem aOk_u {B : Nat → Nat} {z : Nat} {S S2 S3 : Nat → Nat} {c d : Nat} (h : aOkR B z S c S2) (h2 : aOkR B z S d S3) : c = d ∧ S2 = S3 := by
  obtain ⟨-, ⟨p, h3, h4⟩, -⟩ := h
  obtain ⟨-, ⟨q, h5, h6⟩, -⟩ := h2
  have := aR_u h3 (aF_0e h4) h5 (aF_0e h6)
  cases this
  exact ⟨rfl, rfl⟩
def jDoM (B : Nat → Nat) (z : Nat) (S : Nat → Nat) (mem : jMem) (v : Int32) (c : jMem) : Prop := jso [0, 22, 23, 24, 25, 26, 27, 28, 29, 30, 31, 32] (mem 66) (c 66) ∧ c 66 22 = 0 ∧ ((∃ code plc, aBadR B z S code plc ∧ v = -1000100 - nI plc ∧ c 66 23 = nI code ∧ jeq [66] mem c) ∨ (∃ cnt S2, aOkR B z S cnt S2 ∧ v = nI cnt ∧ c 66 23 = mem 66 23 ∧ jSM c S2 ∧ jeq [66, 80, 81, 82, 83, 84] mem c))
theorem jM1 {mem : jMem} {z : Nat} : jeq [66] mem (jup (jup (jup (jup (jup mem 66 0 0) 66 24 (nI z)) 66 22 0) 66 29 0) 66 31 0) ∧ jso [0, 22, 23, 24, 25, 26, 27, 28, 29, 30, 31, 32] (mem 66) ((jup (jup (jup (jup (jup mem 66 0 0) 66 24 (nI z)) 66 22 0) 66 29 0) 66 31 0) 66) ∧ (jup (jup (jup (jup (jup mem 66 0 0) 66 24 (nI z)) 66 22 0) 66 29 0) 66 31 0) 66 22 = 0 ∧ (jup (jup (jup (jup (jup mem 66 0 0) 66 24 (nI z)) 66 22 0) 66 29 0) 66 31 0) 66 23 = mem 66 23 ∧ (jup (jup (jup (jup (jup mem 66 0 0) 66 24 (nI z)) 66 22 0) 66 29 0) 66 31 0) 66 24 = nI z ∧ (jup (jup (jup (jup (jup mem 66 0 0) 66 24 (nI z)) 66 22 0) 66 29 0) 66 31 0) 66 29 = 0 ∧ (jup (jup (jup (jup (jup mem 66 0 0) 66 24 (nI z)) 66 22 0) 66 29 0) 66 31 0) 66 31 = 0 := ⟨(jeq.up (jeq.up (jeq.up (jeq.up (jeq.up jeq.rf (by decide)) (by decide)) (by decide)) (by decide)) (by decide)), (jso.up (jso.up (jso.up (jso.up (jso.up jso.rf (by decide)) (by decide)) (by decide)) (by decide)) (by decide)), by simp [jup, va_up], by simp [jup, va_up], by simp [jup, va_up], by simp [jup, va_up], by simp [jup, va_up]⟩
set_option maxRecDepth 4000 in
set_option maxHeartbeats 1000000 in
theorem m_doors (np : Nat) (mem : jMem) (z : Nat) (B S : Nat → Nat) (h8 : jBy8 mem B z) (ht : mem 66 22 = nI z) (hSM : jSM mem S) : jPi yX11_doors cX11_doors 1 .int 7 [.ref 66] np mem (jDoM B z S mem) := by
  refine jPi.of (own := RX11) rfl rfl (Nat.le_of_ble_eq_true rfl) (fun G X hR hr hE => ?_)
  refine j_aload_n X dX11_doors_0 rfl ?_
  refine j_iconst X dX11_doors_1 0 (by decide) ?_
  refine j_putI X 11 0 (by decide) (by decide) rfl rfl rfl rfl u950 (o66 np) (k66 np) dX11_doors_2 ?_
  refine j_aload_n X dX11_doors_5 rfl ?_
  refine j_aload_n X dX11_doors_6 rfl ?_
  refine j_getF X 11 22 (by decide) (by decide) rfl u972 (o66 np) (k66 np) _ rfl dX11_doors_7 ?_
  refine j_nrm (nI z) ((jup_n (by decide)).trans ht) ?_
  refine j_putI X 11 24 (by decide) (by decide) rfl rfl rfl rfl u974 (o66 np) (k66 np) dX11_doors_10 ?_
  refine j_aload_n X dX11_doors_13 rfl ?_
  refine j_iconst X dX11_doors_14 0 (by decide) ?_
  refine j_putI X 11 22 (by decide) (by decide) rfl rfl rfl rfl u972 (o66 np) (k66 np) dX11_doors_15 ?_
  refine j_aload_n X dX11_doors_18 rfl ?_
  refine j_iconst X dX11_doors_19 0 (by decide) ?_
  refine j_putI X 11 29 (by decide) (by decide) rfl rfl rfl rfl u979 (o66 np) (k66 np) dX11_doors_20 ?_
  refine j_aload_n X dX11_doors_23 rfl ?_
  refine j_iconst X dX11_doors_24 0 (by decide) ?_
  refine j_putI X 11 31 (by decide) (by decide) rfl rfl rfl rfl u981 (o66 np) (k66 np) dX11_doors_25 ?_
  refine j_aload_n X dX11_doors_28 rfl ?_
  obtain ⟨k1, k2, k3, k4, k5, k6, k7⟩ := jM1 (mem := mem) (z := z)
  have h300 := h8.1
  refine s_callVv X hR (m_readAll np _ z B false S ⟨h300, fun i hi => by rw [k1 85 (by decide)]; exact h8.2 i hi⟩ k5 k6 k7 (jSM_66 hSM k1) (fun e => absurd e (by decide))) rfl 11 (by decide) (o66 np) (k66 np) rfl u1298 u1295 u1297 qp50 u12 hyX11_readAll (by decide) (by decide) (Nat.le_of_ble_eq_true rfl) dX11_doors_29 (fun m_29 h_29 => ?_)
  refine j_aload_n X dX11_doors_32 rfl ?_
  refine j_getF X 11 29 (by decide) (by decide) rfl u979 (o66 np) (k66 np) (m_29 66) rfl dX11_doors_33 ?_
  refine j_if_le X 56 dX11_doors_36 (by decide) (fun c_36 => ?_) (fun c_36 => ?_)
  · obtain ⟨p, c, S2, hA2, hk1, hc3⟩ := h_29.resolve_right (fun ⟨x, e⟩ => by obtain ⟨k, h1, h2, h3⟩ := jDF_fl e; rw [h3] at c_36; exact absurd c_36 (nI_nle h1 (by omega)))
    have hnf := aR_nf hA2.2.2.1 hk1
    refine j_aload_n X dX11_doors_56 rfl ?_
    refine j_iconst X dX11_doors_57 1 (by decide) ?_
    refine j_putI X 11 31 (by decide) (by decide) rfl rfl rfl rfl u981 (o66 np) (k66 np) dX11_doors_58 ?_
    refine j_aload_n X dX11_doors_61 rfl ?_
    refine s_callVv X hR (m_readAll np _ z B true S ⟨h300, fun i hi => by rw [jup_o (by decide)]; exact hA2.1.1.2 i hi⟩ ((jup_n (by decide)).trans hA2.1.2.1) ((jup_n (by decide)).trans hA2.2.1) (by rw [jup_s]; rfl) (jSM_66 (jSM_66 (jSM_66 (jSM_66 hSM k1) (jeq.up jeq.rf (by decide))) (hA2.2.2.2.2.2 rfl)) (jeq.up jeq.rf (by decide))) (fun _ => hnf)) rfl 11 (by decide) (o66 np) (k66 np) rfl u1298 u1295 u1297 qp50 u12 hyX11_readAll (by decide) (by decide) (Nat.le_of_ble_eq_true rfl) dX11_doors_62 (fun m_62 h_62 => ?_)
    obtain ⟨p4, c4, S4, hA4, hk4, hc4⟩ := h_62.resolve_right (fun ⟨x, e⟩ => absurd (jDF_dn e) (by decide))
    refine j_aload_n X dX11_doors_65 rfl ?_
    refine j_getF X 11 32 (by decide) (by decide) rfl u982 (o66 np) (k66 np) (m_62 66) rfl dX11_doors_66 ?_
    refine j_nrm (nI c4) ((hA4.2.2.2.2.1.2 32 (by decide)).trans jup_s) ?_
    refine s_iret X hE hr dX11_doors_69 rfl ?_
    have f2 : jso [0, 22, 23, 24, 25, 26, 27, 28, 29, 30, 31, 32] (mem 66) (m_29 66) := k2.tr ((jso.up (o := 66) (k := 32) (x := nI c) jso.rf (by decide)).tr (hA2.2.2.2.2.1.2.mo (by simp)))
    have f4 : jso [0, 22, 23, 24, 25, 26, 27, 28, 29, 30, 31, 32] (m_29 66) (m_62 66) := (jso.up (o := 66) (k := 31) (x := 1) jso.rf (by decide)).tr ((jso.up (o := 66) (k := 32) (x := nI c4) jso.rf (by decide)).tr (hA4.2.2.2.2.1.2.mo (by simp)))
    have g2 : ∀ j, j = 22 ∨ j = 23 → m_62 66 j = (jup (jup (jup (jup (jup mem 66 0 0) 66 24 (nI z)) 66 22 0) 66 29 0) 66 31 0) 66 j := fun j hj => by
      rw [hA4.2.2.2.2.1.2 j (by rcases hj with e | e <;> rw [e] <;> decide), jup_n (by omega), jup_n (by omega), hA2.2.2.2.2.1.2 j (by rcases hj with e | e <;> rw [e] <;> decide), jup_n (by omega)]
    refine ⟨f2.tr f4, (g2 22 (Or.inl rfl)).trans k3, Or.inr ⟨c4, S4, ⟨hc4, ⟨p4, hA4.2.2.1, hk4⟩, ⟨p, c, S2, hA2.2.2.1, hk1⟩⟩, rfl, (g2 23 (Or.inr rfl)).trans k4, hA4.2.2.2.1, ?_⟩⟩
    exact (k1.mo (by simp)).tr (((jeq.up (o := 66) jeq.rf (by decide)).tr (hA2.2.2.2.2.2 rfl) |>.mo (by simp)).tr ((jeq.up (o := 66) jeq.rf (by decide)).tr ((jeq.up (o := 66) jeq.rf (by decide)).tr hA4.2.2.2.2.1.1)))
  · obtain ⟨x, code, plc, h1, h3, hc, hp, hpl, hR, -, hJ1, hS1⟩ := h_29.resolve_left (fun ⟨_, _, _, e, _⟩ => absurd (show m_29 66 29 ≤ 0 by rw [e.2.1]; exact Int32.le_refl _) c_36)
    refine j_aload_n X dX11_doors_39 rfl ?_
    refine j_aload_n X dX11_doors_40 rfl ?_
    refine j_getF X 11 29 (by decide) (by decide) rfl u979 (o66 np) (k66 np) (m_29 66) rfl dX11_doors_41 ?_
    refine j_nrm (nI code) hc ?_
    refine j_putI X 11 23 (by decide) (by decide) rfl rfl rfl rfl u973 (o66 np) (k66 np) dX11_doors_44 ?_
    refine j_ldcw X dX11_doors_47 u1346 ?_
    refine j_aload_n X dX11_doors_50 rfl ?_
    refine j_getF X 11 30 (by decide) (by decide) rfl u980 (o66 np) (k66 np) _ rfl dX11_doors_51 ?_
    refine j_nrm (nI plc) ((jup_n (by decide)).trans hp) ?_
    refine j_isub X dX11_doors_54 ?_
    refine s_iret X hE hr dX11_doors_55 rfl ?_
    refine ⟨?_, ?_, Or.inl ⟨code, plc, ⟨h1, h3, hpl, hR⟩, rfl, by rw [jup_s], ?_⟩⟩
    · exact jso.up (k2.tr ((jso.up (o := 66) (k := 32) (x := x) jso.rf (by decide)).tr (hS1.mo (by simp)))) (by decide)
    · rw [jup_n (by decide), hS1 22 (by decide), jup_n (by decide)]; exact k3
    · exact jeq.up (k1.tr ((jeq.up (o := 66) jeq.rf (by decide)).tr hJ1)) (by decide)
