set_option maxHeartbeats 4000000 in
theorem sim_check (np : Nat) (mem : jMem) (h : Inv np mem) (p t s i x : Int32) : Sim yX10_check cX10_check 10 5 yX11_check cX11_check 13 4 [.int p, .int t, .int s, .int i, .int x] np mem := by
  obtain ⟨hn, hp0, hp66, hpp, -, -⟩ := h.2.2.1
  by_cases hp : jin p 0 ((np : Int) - 1)
  · obtain ⟨p, hpn, rfl⟩ := jin_np hp
    have hP := hpp p hpn
    obtain ⟨eN, e1, e2, e3, e4, e5, f0, f1, f2, f3, hok, htb⟩ := hpp p hpn
    by_cases hw : jin t 0 15 ∧ jin s 0 7
    · obtain ⟨ht, hs⟩ := hw
      obtain ⟨t, ht2, -, rfl⟩ := jin_n ht
      obtain ⟨o, q, ho4, eo, eo2, hq, e24, e70, hd2, hK⟩ := key_e h hP
      have hI1 : ∀ (S : List Nat) (c : jMem), jeq S (jup mem 66 0 0) c → S.all (fun y => KS.contains y && !([0, 66, 51, 55, 63].contains y)) = true → Inv np c := fun S c hc hS => h.s0 ((jch.rf.up rfl).eq hc hS)
      have hI2 : ∀ (S : List Nat) (k : Int32) (c : jMem), jeq S (jup (jup (jup mem 0 14 k) 66 0 0) 66 1 k) c → S.all (fun y => KS.contains y && !([0, 66, 51, 55, 63].contains y)) = true → Inv np c := fun S k c hc hS => (h.f2 k).s0 (jch.rf.eq hc hS)
      have hR := root_e hP
      clear ht
      rcases (show t = 0 ∨ t = 1 ∨ t = 2 ∨ t = 3 ∨ t = 4 ∨ t = 5 ∨ t = 6 ∨ t = 7 ∨ t = 8 ∨ t = 9 ∨ t = 10 ∨ t = 11 ∨ t = 12 ∨ t = 13 ∨ t = 14 ∨ t = 15 by omega) with rfl | rfl | rfl | rfl | rfl | rfl | rfl | rfl | rfl | rfl | rfl | rfl | rfl | rfl | rfl | rfl
      · by_cases hx : x = 2
        · subst hx
          obtain ⟨s, hs8, -, rfl⟩ := jin_n hs
          have hs8 : s < 8 := by omega
          rcases h.1.1 s hs8 with ⟨g1, g2⟩ | ⟨z, hz, g12, g68, g67, hl⟩
          · exact Sim.ej (c_check0_null np mem p s i hn hp0 hpn eN hs8 g1) (m_check0_null np _ p s i hn hp66 hpn hs8 g2) rfl (fun c hc => hI2 _ 1 c hc (by decide))
          · have hl0 : 0 ≤ (mem 67 s).toInt := by rw [g67]; exact hl.1
            by_cases hi : 0 ≤ i.toInt ∧ i.toInt + 2 ≤ z
            · obtain ⟨i, -, hi31, rfl⟩ := jin_n (x := i) (c := 60) ⟨hi.1, by omega⟩
              rw [nI_toInt hi31] at hi
              have hi9 : i + 2 ≤ z := by omega
              have y0 : mem 69 (60 * s + i) = mem (3 + s) (i) := h.1.2 s hs8 (i + 0) (by omega)
              have y1 : mem 69 (60 * s + i + 1) = mem (3 + s) (i + 1) := h.1.2 s hs8 (i + 1) (by omega)
              by_cases hk : jin (mem (3 + s) (i)) 0 65520 ∧ jin (mem (3 + s) (i + 1)) 0 65520
              · obtain ⟨q0, q1⟩ := hk
                exact Sim.ej (c_check0 np mem p s i z hn hp0 hpn eN hs8 hz g12 hi9 q0 q1 o q ho4 eo hq e24 hd2) (m_check0 np (jup mem 0 14 0) p s i z hn hp66 hpn hs8 hl0 hz g68 hi9 (by show jin (mem 69 (60 * s + i)) _ _; rw [y0]; exact q0) (by show jin (mem 69 (60 * s + i + 1)) _ _; rw [y1]; exact q1) o q ho4 eo2 hq e70) (by
                  rw [hR, hK, ← y0, ← y1]
                  rfl) (fun c hc => hI2 _ 0 c hc (by decide))
              · exact Sim.ej (c_check0_item np mem p s i z hn hp0 hpn eN hs8 hz g12 hi9 hk) (m_check0_item np _ p s i z hn hp66 hpn hs8 hl0 hz g68 hi9 (by rw [y0, y1]; exact hk)) rfl (fun c hc => hI1 _ c hc (by decide))
            · exact Sim.ej (c_check0_place np mem p s z i hn hp0 hpn eN hs8 hz g12 hi) (m_check0_place np _ p s i hn hp66 hpn hs8 hl0 (by show _ ∨ _ > (mem 68 s).toInt; rw [g68, nI_toInt (by omega)]; omega)) rfl (fun c hc => hI2 _ 2 c hc (by decide))
        · exact Sim.ej (c_check0_n np mem p s i x hn hp0 hpn eN hs hx) (m_check0_n np _ p s i x hn hp66 hpn hs hx) rfl (fun c hc => hI1 _ c hc (by decide))
      · by_cases hx : x = 3
        · subst hx
          obtain ⟨s, hs8, -, rfl⟩ := jin_n hs
          have hs8 : s < 8 := by omega
          rcases h.1.1 s hs8 with ⟨g1, g2⟩ | ⟨z, hz, g12, g68, g67, hl⟩
          · exact Sim.ej (c_check1_null np mem p s i hn hp0 hpn eN hs8 g1) (m_check1_null np _ p s i hn hp66 hpn hs8 g2) rfl (fun c hc => hI2 _ 1 c hc (by decide))
          · have hl0 : 0 ≤ (mem 67 s).toInt := by rw [g67]; exact hl.1
            by_cases hi : 0 ≤ i.toInt ∧ i.toInt + 3 ≤ z
            · obtain ⟨i, -, hi31, rfl⟩ := jin_n (x := i) (c := 60) ⟨hi.1, by omega⟩
              rw [nI_toInt hi31] at hi
              have hi9 : i + 3 ≤ z := by omega
              have y0 : mem 69 (60 * s + i) = mem (3 + s) (i) := h.1.2 s hs8 (i + 0) (by omega)
              have y1 : mem 69 (60 * s + i + 1) = mem (3 + s) (i + 1) := h.1.2 s hs8 (i + 1) (by omega)
              have y2 : mem 69 (60 * s + i + 2) = mem (3 + s) (i + 2) := h.1.2 s hs8 (i + 2) (by omega)
              by_cases hk : jin (mem (3 + s) (i)) 0 999 ∧ jin (mem (3 + s) (i + 1)) 0 65520 ∧ jin (mem (3 + s) (i + 2)) 0 65520
              · obtain ⟨q0, q1, q2⟩ := hk
                exact Sim.ej (c_check1 np mem p s i z hn hp0 hpn eN hs8 hz g12 hi9 q0 q1 q2 o q ho4 eo hq e24 hd2) (m_check1 np (jup mem 0 14 0) p s i z hn hp66 hpn hs8 hl0 hz g68 hi9 (by show jin (mem 69 (60 * s + i)) _ _; rw [y0]; exact q0) (by show jin (mem 69 (60 * s + i + 1)) _ _; rw [y1]; exact q1) (by show jin (mem 69 (60 * s + i + 2)) _ _; rw [y2]; exact q2) o q ho4 eo2 hq e70) (by
                  rw [hR, hK, ← y0, ← y1, ← y2]
                  rfl) (fun c hc => hI2 _ 0 c hc (by decide))
              · exact Sim.ej (c_check1_item np mem p s i z hn hp0 hpn eN hs8 hz g12 hi9 hk) (m_check1_item np _ p s i z hn hp66 hpn hs8 hl0 hz g68 hi9 (by rw [y0, y1, y2]; exact hk)) rfl (fun c hc => hI1 _ c hc (by decide))
            · exact Sim.ej (c_check1_place np mem p s z i hn hp0 hpn eN hs8 hz g12 hi) (m_check1_place np _ p s i hn hp66 hpn hs8 hl0 (by show _ ∨ _ > (mem 68 s).toInt; rw [g68, nI_toInt (by omega)]; omega)) rfl (fun c hc => hI2 _ 2 c hc (by decide))
        · exact Sim.ej (c_check1_n np mem p s i x hn hp0 hpn eN hs hx) (m_check1_n np _ p s i x hn hp66 hpn hs hx) rfl (fun c hc => hI1 _ c hc (by decide))
      · by_cases hx : x = 3
        · subst hx
          obtain ⟨s, hs8, -, rfl⟩ := jin_n hs
          have hs8 : s < 8 := by omega
          rcases h.1.1 s hs8 with ⟨g1, g2⟩ | ⟨z, hz, g12, g68, g67, hl⟩
          · exact Sim.ej (c_check2_null np mem p s i hn hp0 hpn eN hs8 g1) (m_check2_null np _ p s i hn hp66 hpn hs8 g2) rfl (fun c hc => hI2 _ 1 c hc (by decide))
          · have hl0 : 0 ≤ (mem 67 s).toInt := by rw [g67]; exact hl.1
            by_cases hi : 0 ≤ i.toInt ∧ i.toInt + 3 ≤ z
            · obtain ⟨i, -, hi31, rfl⟩ := jin_n (x := i) (c := 60) ⟨hi.1, by omega⟩
              rw [nI_toInt hi31] at hi
              have hi9 : i + 3 ≤ z := by omega
              have y0 : mem 69 (60 * s + i) = mem (3 + s) (i) := h.1.2 s hs8 (i + 0) (by omega)
              have y1 : mem 69 (60 * s + i + 1) = mem (3 + s) (i + 1) := h.1.2 s hs8 (i + 1) (by omega)
              have y2 : mem 69 (60 * s + i + 2) = mem (3 + s) (i + 2) := h.1.2 s hs8 (i + 2) (by omega)
              by_cases hk : jin (mem (3 + s) (i)) 0 65520 ∧ jin (mem (3 + s) (i + 1)) 0 999 ∧ jin (mem (3 + s) (i + 2)) 0 65520
              · obtain ⟨q0, q1, q2⟩ := hk
                exact Sim.ej (c_check2 np mem p s i z hn hp0 hpn eN hs8 hz g12 hi9 q0 q1 q2 o q ho4 eo hq e24 hd2) (m_check2 np (jup mem 0 14 0) p s i z hn hp66 hpn hs8 hl0 hz g68 hi9 (by show jin (mem 69 (60 * s + i)) _ _; rw [y0]; exact q0) (by show jin (mem 69 (60 * s + i + 1)) _ _; rw [y1]; exact q1) (by show jin (mem 69 (60 * s + i + 2)) _ _; rw [y2]; exact q2) o q ho4 eo2 hq e70) (by
                  rw [hR, hK, ← y0, ← y1, ← y2]
                  rfl) (fun c hc => hI2 _ 0 c hc (by decide))
              · exact Sim.ej (c_check2_item np mem p s i z hn hp0 hpn eN hs8 hz g12 hi9 hk) (m_check2_item np _ p s i z hn hp66 hpn hs8 hl0 hz g68 hi9 (by rw [y0, y1, y2]; exact hk)) rfl (fun c hc => hI1 _ c hc (by decide))
            · exact Sim.ej (c_check2_place np mem p s z i hn hp0 hpn eN hs8 hz g12 hi) (m_check2_place np _ p s i hn hp66 hpn hs8 hl0 (by show _ ∨ _ > (mem 68 s).toInt; rw [g68, nI_toInt (by omega)]; omega)) rfl (fun c hc => hI2 _ 2 c hc (by decide))
        · exact Sim.ej (c_check2_n np mem p s i x hn hp0 hpn eN hs hx) (m_check2_n np _ p s i x hn hp66 hpn hs hx) rfl (fun c hc => hI1 _ c hc (by decide))
      · by_cases hx : x = 3
        · subst hx
          obtain ⟨s, hs8, -, rfl⟩ := jin_n hs
          have hs8 : s < 8 := by omega
          rcases h.1.1 s hs8 with ⟨g1, g2⟩ | ⟨z, hz, g12, g68, g67, hl⟩
          · exact Sim.ej (c_check3_null np mem p s i hn hp0 hpn eN hs8 g1) (m_check3_null np _ p s i hn hp66 hpn hs8 g2) rfl (fun c hc => hI2 _ 1 c hc (by decide))
          · have hl0 : 0 ≤ (mem 67 s).toInt := by rw [g67]; exact hl.1
            by_cases hi : 0 ≤ i.toInt ∧ i.toInt + 3 ≤ z
            · obtain ⟨i, -, hi31, rfl⟩ := jin_n (x := i) (c := 60) ⟨hi.1, by omega⟩
              rw [nI_toInt hi31] at hi
              have hi9 : i + 3 ≤ z := by omega
              have y0 : mem 69 (60 * s + i) = mem (3 + s) (i) := h.1.2 s hs8 (i + 0) (by omega)
              have y1 : mem 69 (60 * s + i + 1) = mem (3 + s) (i + 1) := h.1.2 s hs8 (i + 1) (by omega)
              have y2 : mem 69 (60 * s + i + 2) = mem (3 + s) (i + 2) := h.1.2 s hs8 (i + 2) (by omega)
              by_cases hk : jin (mem (3 + s) (i)) 0 999 ∧ jin (mem (3 + s) (i + 1)) 0 999 ∧ jin (mem (3 + s) (i + 2)) 0 65520
              · obtain ⟨q0, q1, q2⟩ := hk
                exact Sim.ej (c_check3 np mem p s i z hn hp0 hpn eN hs8 hz g12 hi9 q0 q1 q2 o q ho4 eo hq e24 hd2) (m_check3 np (jup mem 0 14 0) p s i z hn hp66 hpn hs8 hl0 hz g68 hi9 (by show jin (mem 69 (60 * s + i)) _ _; rw [y0]; exact q0) (by show jin (mem 69 (60 * s + i + 1)) _ _; rw [y1]; exact q1) (by show jin (mem 69 (60 * s + i + 2)) _ _; rw [y2]; exact q2) o q ho4 eo2 hq e70) (by
                  rw [hR, hK, ← y0, ← y1, ← y2]
                  rfl) (fun c hc => hI2 _ 0 c hc (by decide))
              · exact Sim.ej (c_check3_item np mem p s i z hn hp0 hpn eN hs8 hz g12 hi9 hk) (m_check3_item np _ p s i z hn hp66 hpn hs8 hl0 hz g68 hi9 (by rw [y0, y1, y2]; exact hk)) rfl (fun c hc => hI1 _ c hc (by decide))
            · exact Sim.ej (c_check3_place np mem p s z i hn hp0 hpn eN hs8 hz g12 hi) (m_check3_place np _ p s i hn hp66 hpn hs8 hl0 (by show _ ∨ _ > (mem 68 s).toInt; rw [g68, nI_toInt (by omega)]; omega)) rfl (fun c hc => hI2 _ 2 c hc (by decide))
        · exact Sim.ej (c_check3_n np mem p s i x hn hp0 hpn eN hs hx) (m_check3_n np _ p s i x hn hp66 hpn hs hx) rfl (fun c hc => hI1 _ c hc (by decide))
      · by_cases hx : x = 3
        · subst hx
          obtain ⟨s, hs8, -, rfl⟩ := jin_n hs
          have hs8 : s < 8 := by omega
          rcases h.1.1 s hs8 with ⟨g1, g2⟩ | ⟨z, hz, g12, g68, g67, hl⟩
          · exact Sim.ej (c_check4_null np mem p s i hn hp0 hpn eN hs8 g1) (m_check4_null np _ p s i hn hp66 hpn hs8 g2) rfl (fun c hc => hI2 _ 1 c hc (by decide))
          · have hl0 : 0 ≤ (mem 67 s).toInt := by rw [g67]; exact hl.1
            by_cases hi : 0 ≤ i.toInt ∧ i.toInt + 3 ≤ z
            · obtain ⟨i, -, hi31, rfl⟩ := jin_n (x := i) (c := 60) ⟨hi.1, by omega⟩
              rw [nI_toInt hi31] at hi
              have hi9 : i + 3 ≤ z := by omega
              have y0 : mem 69 (60 * s + i) = mem (3 + s) (i) := h.1.2 s hs8 (i + 0) (by omega)
              have y1 : mem 69 (60 * s + i + 1) = mem (3 + s) (i + 1) := h.1.2 s hs8 (i + 1) (by omega)
              have y2 : mem 69 (60 * s + i + 2) = mem (3 + s) (i + 2) := h.1.2 s hs8 (i + 2) (by omega)
              by_cases hk : jin (mem (3 + s) (i)) 0 65520 ∧ jin (mem (3 + s) (i + 1)) 0 999 ∧ jin (mem (3 + s) (i + 2)) 0 65520
              · obtain ⟨q0, q1, q2⟩ := hk
                exact Sim.ej (c_check4 np mem p s i z hn hp0 hpn eN hs8 hz g12 hi9 q0 q1 q2 o q ho4 eo hq e24 hd2) (m_check4 np (jup mem 0 14 0) p s i z hn hp66 hpn hs8 hl0 hz g68 hi9 (by show jin (mem 69 (60 * s + i)) _ _; rw [y0]; exact q0) (by show jin (mem 69 (60 * s + i + 1)) _ _; rw [y1]; exact q1) (by show jin (mem 69 (60 * s + i + 2)) _ _; rw [y2]; exact q2) o q ho4 eo2 hq e70) (by
                  rw [hR, hK, ← y0, ← y1, ← y2]
                  rfl) (fun c hc => hI2 _ 0 c hc (by decide))
              · exact Sim.ej (c_check4_item np mem p s i z hn hp0 hpn eN hs8 hz g12 hi9 hk) (m_check4_item np _ p s i z hn hp66 hpn hs8 hl0 hz g68 hi9 (by rw [y0, y1, y2]; exact hk)) rfl (fun c hc => hI1 _ c hc (by decide))
            · exact Sim.ej (c_check4_place np mem p s z i hn hp0 hpn eN hs8 hz g12 hi) (m_check4_place np _ p s i hn hp66 hpn hs8 hl0 (by show _ ∨ _ > (mem 68 s).toInt; rw [g68, nI_toInt (by omega)]; omega)) rfl (fun c hc => hI2 _ 2 c hc (by decide))
        · exact Sim.ej (c_check4_n np mem p s i x hn hp0 hpn eN hs hx) (m_check4_n np _ p s i x hn hp66 hpn hs hx) rfl (fun c hc => hI1 _ c hc (by decide))
      · by_cases hx : x = 4
        · subst hx
          obtain ⟨s, hs8, -, rfl⟩ := jin_n hs
          have hs8 : s < 8 := by omega
          rcases h.1.1 s hs8 with ⟨g1, g2⟩ | ⟨z, hz, g12, g68, g67, hl⟩
          · exact Sim.ej (c_check5_null np mem p s i hn hp0 hpn eN hs8 g1) (m_check5_null np _ p s i hn hp66 hpn hs8 g2) rfl (fun c hc => hI2 _ 1 c hc (by decide))
          · have hl0 : 0 ≤ (mem 67 s).toInt := by rw [g67]; exact hl.1
            by_cases hi : 0 ≤ i.toInt ∧ i.toInt + 4 ≤ z
            · obtain ⟨i, -, hi31, rfl⟩ := jin_n (x := i) (c := 60) ⟨hi.1, by omega⟩
              rw [nI_toInt hi31] at hi
              have hi9 : i + 4 ≤ z := by omega
              have y0 : mem 69 (60 * s + i) = mem (3 + s) (i) := h.1.2 s hs8 (i + 0) (by omega)
              have y1 : mem 69 (60 * s + i + 1) = mem (3 + s) (i + 1) := h.1.2 s hs8 (i + 1) (by omega)
              have y2 : mem 69 (60 * s + i + 2) = mem (3 + s) (i + 2) := h.1.2 s hs8 (i + 2) (by omega)
              have y3 : mem 69 (60 * s + i + 3) = mem (3 + s) (i + 3) := h.1.2 s hs8 (i + 3) (by omega)
              by_cases hk : jin (mem (3 + s) (i)) 0 999 ∧ jin (mem (3 + s) (i + 1)) 0 65520 ∧ jin (mem (3 + s) (i + 2)) 0 999 ∧ jin (mem (3 + s) (i + 3)) 0 65520
              · obtain ⟨q0, q1, q2, q3⟩ := hk
                exact Sim.ej (c_check5 np mem p s i z hn hp0 hpn eN hs8 hz g12 hi9 q0 q1 q2 q3 o q ho4 eo hq e24 hd2) (m_check5 np (jup mem 0 14 0) p s i z hn hp66 hpn hs8 hl0 hz g68 hi9 (by show jin (mem 69 (60 * s + i)) _ _; rw [y0]; exact q0) (by show jin (mem 69 (60 * s + i + 1)) _ _; rw [y1]; exact q1) (by show jin (mem 69 (60 * s + i + 2)) _ _; rw [y2]; exact q2) (by show jin (mem 69 (60 * s + i + 3)) _ _; rw [y3]; exact q3) o q ho4 eo2 hq e70) (by
                  rw [hR, hK, ← y0, ← y1, ← y2, ← y3]
                  rfl) (fun c hc => hI2 _ 0 c hc (by decide))
              · exact Sim.ej (c_check5_item np mem p s i z hn hp0 hpn eN hs8 hz g12 hi9 hk) (m_check5_item np _ p s i z hn hp66 hpn hs8 hl0 hz g68 hi9 (by rw [y0, y1, y2, y3]; exact hk)) rfl (fun c hc => hI1 _ c hc (by decide))
            · exact Sim.ej (c_check5_place np mem p s z i hn hp0 hpn eN hs8 hz g12 hi) (m_check5_place np _ p s i hn hp66 hpn hs8 hl0 (by show _ ∨ _ > (mem 68 s).toInt; rw [g68, nI_toInt (by omega)]; omega)) rfl (fun c hc => hI2 _ 2 c hc (by decide))
        · exact Sim.ej (c_check5_n np mem p s i x hn hp0 hpn eN hs hx) (m_check5_n np _ p s i x hn hp66 hpn hs hx) rfl (fun c hc => hI1 _ c hc (by decide))
      · by_cases hx : x = 4
        · subst hx
          obtain ⟨s, hs8, -, rfl⟩ := jin_n hs
          have hs8 : s < 8 := by omega
          rcases h.1.1 s hs8 with ⟨g1, g2⟩ | ⟨z, hz, g12, g68, g67, hl⟩
          · exact Sim.ej (c_check6_null np mem p s i hn hp0 hpn eN hs8 g1) (m_check6_null np _ p s i hn hp66 hpn hs8 g2) rfl (fun c hc => hI2 _ 1 c hc (by decide))
          · have hl0 : 0 ≤ (mem 67 s).toInt := by rw [g67]; exact hl.1
            by_cases hi : 0 ≤ i.toInt ∧ i.toInt + 4 ≤ z
            · obtain ⟨i, -, hi31, rfl⟩ := jin_n (x := i) (c := 60) ⟨hi.1, by omega⟩
              rw [nI_toInt hi31] at hi
              have hi9 : i + 4 ≤ z := by omega
              have y0 : mem 69 (60 * s + i) = mem (3 + s) (i) := h.1.2 s hs8 (i + 0) (by omega)
              have y1 : mem 69 (60 * s + i + 1) = mem (3 + s) (i + 1) := h.1.2 s hs8 (i + 1) (by omega)
              have y2 : mem 69 (60 * s + i + 2) = mem (3 + s) (i + 2) := h.1.2 s hs8 (i + 2) (by omega)
              have y3 : mem 69 (60 * s + i + 3) = mem (3 + s) (i + 3) := h.1.2 s hs8 (i + 3) (by omega)
              by_cases hk : jin (mem (3 + s) (i)) 0 65520 ∧ jin (mem (3 + s) (i + 1)) 0 999 ∧ jin (mem (3 + s) (i + 2)) 0 999 ∧ jin (mem (3 + s) (i + 3)) 0 65520
              · obtain ⟨q0, q1, q2, q3⟩ := hk
                exact Sim.ej (c_check6 np mem p s i z hn hp0 hpn eN hs8 hz g12 hi9 q0 q1 q2 q3 o q ho4 eo hq e24 hd2) (m_check6 np (jup mem 0 14 0) p s i z hn hp66 hpn hs8 hl0 hz g68 hi9 (by show jin (mem 69 (60 * s + i)) _ _; rw [y0]; exact q0) (by show jin (mem 69 (60 * s + i + 1)) _ _; rw [y1]; exact q1) (by show jin (mem 69 (60 * s + i + 2)) _ _; rw [y2]; exact q2) (by show jin (mem 69 (60 * s + i + 3)) _ _; rw [y3]; exact q3) o q ho4 eo2 hq e70) (by
                  rw [hR, hK, ← y0, ← y1, ← y2, ← y3]
                  rfl) (fun c hc => hI2 _ 0 c hc (by decide))
              · exact Sim.ej (c_check6_item np mem p s i z hn hp0 hpn eN hs8 hz g12 hi9 hk) (m_check6_item np _ p s i z hn hp66 hpn hs8 hl0 hz g68 hi9 (by rw [y0, y1, y2, y3]; exact hk)) rfl (fun c hc => hI1 _ c hc (by decide))
            · exact Sim.ej (c_check6_place np mem p s z i hn hp0 hpn eN hs8 hz g12 hi) (m_check6_place np _ p s i hn hp66 hpn hs8 hl0 (by show _ ∨ _ > (mem 68 s).toInt; rw [g68, nI_toInt (by omega)]; omega)) rfl (fun c hc => hI2 _ 2 c hc (by decide))
        · exact Sim.ej (c_check6_n np mem p s i x hn hp0 hpn eN hs hx) (m_check6_n np _ p s i x hn hp66 hpn hs hx) rfl (fun c hc => hI1 _ c hc (by decide))
      · by_cases hx : x = 4
        · subst hx
          obtain ⟨s, hs8, -, rfl⟩ := jin_n hs
          have hs8 : s < 8 := by omega
          rcases h.1.1 s hs8 with ⟨g1, g2⟩ | ⟨z, hz, g12, g68, g67, hl⟩
          · exact Sim.ej (c_check7_null np mem p s i hn hp0 hpn eN hs8 g1) (m_check7_null np _ p s i hn hp66 hpn hs8 g2) rfl (fun c hc => hI2 _ 1 c hc (by decide))
          · have hl0 : 0 ≤ (mem 67 s).toInt := by rw [g67]; exact hl.1
            by_cases hi : 0 ≤ i.toInt ∧ i.toInt + 4 ≤ z
            · obtain ⟨i, -, hi31, rfl⟩ := jin_n (x := i) (c := 60) ⟨hi.1, by omega⟩
              rw [nI_toInt hi31] at hi
              have hi9 : i + 4 ≤ z := by omega
              have y0 : mem 69 (60 * s + i) = mem (3 + s) (i) := h.1.2 s hs8 (i + 0) (by omega)
              have y1 : mem 69 (60 * s + i + 1) = mem (3 + s) (i + 1) := h.1.2 s hs8 (i + 1) (by omega)
              have y2 : mem 69 (60 * s + i + 2) = mem (3 + s) (i + 2) := h.1.2 s hs8 (i + 2) (by omega)
              have y3 : mem 69 (60 * s + i + 3) = mem (3 + s) (i + 3) := h.1.2 s hs8 (i + 3) (by omega)
              by_cases hk : jin (mem (3 + s) (i)) 0 999 ∧ jin (mem (3 + s) (i + 1)) 0 999 ∧ jin (mem (3 + s) (i + 2)) 0 999 ∧ jin (mem (3 + s) (i + 3)) 0 65520
              · obtain ⟨q0, q1, q2, q3⟩ := hk
                exact Sim.ej (c_check7 np mem p s i z hn hp0 hpn eN hs8 hz g12 hi9 q0 q1 q2 q3 o q ho4 eo hq e24 hd2) (m_check7 np (jup mem 0 14 0) p s i z hn hp66 hpn hs8 hl0 hz g68 hi9 (by show jin (mem 69 (60 * s + i)) _ _; rw [y0]; exact q0) (by show jin (mem 69 (60 * s + i + 1)) _ _; rw [y1]; exact q1) (by show jin (mem 69 (60 * s + i + 2)) _ _; rw [y2]; exact q2) (by show jin (mem 69 (60 * s + i + 3)) _ _; rw [y3]; exact q3) o q ho4 eo2 hq e70) (by
                  rw [hR, hK, ← y0, ← y1, ← y2, ← y3]
                  rfl) (fun c hc => hI2 _ 0 c hc (by decide))
              · exact Sim.ej (c_check7_item np mem p s i z hn hp0 hpn eN hs8 hz g12 hi9 hk) (m_check7_item np _ p s i z hn hp66 hpn hs8 hl0 hz g68 hi9 (by rw [y0, y1, y2, y3]; exact hk)) rfl (fun c hc => hI1 _ c hc (by decide))
            · exact Sim.ej (c_check7_place np mem p s z i hn hp0 hpn eN hs8 hz g12 hi) (m_check7_place np _ p s i hn hp66 hpn hs8 hl0 (by show _ ∨ _ > (mem 68 s).toInt; rw [g68, nI_toInt (by omega)]; omega)) rfl (fun c hc => hI2 _ 2 c hc (by decide))
        · exact Sim.ej (c_check7_n np mem p s i x hn hp0 hpn eN hs hx) (m_check7_n np _ p s i x hn hp66 hpn hs hx) rfl (fun c hc => hI1 _ c hc (by decide))
      · by_cases hx : x = 3
        · subst hx
          obtain ⟨s, hs8, -, rfl⟩ := jin_n hs
          have hs8 : s < 8 := by omega
          rcases h.1.1 s hs8 with ⟨g1, g2⟩ | ⟨z, hz, g12, g68, g67, hl⟩
          · exact Sim.ej (c_check8_null np mem p s i hn hp0 hpn eN hs8 g1) (m_check8_null np _ p s i hn hp66 hpn hs8 g2) rfl (fun c hc => hI2 _ 1 c hc (by decide))
          · have hl0 : 0 ≤ (mem 67 s).toInt := by rw [g67]; exact hl.1
            by_cases hi : 0 ≤ i.toInt ∧ i.toInt + 3 ≤ z
            · obtain ⟨i, -, hi31, rfl⟩ := jin_n (x := i) (c := 60) ⟨hi.1, by omega⟩
              rw [nI_toInt hi31] at hi
              have hi9 : i + 3 ≤ z := by omega
              have y0 : mem 69 (60 * s + i) = mem (3 + s) (i) := h.1.2 s hs8 (i + 0) (by omega)
              have y1 : mem 69 (60 * s + i + 1) = mem (3 + s) (i + 1) := h.1.2 s hs8 (i + 1) (by omega)
              have y2 : mem 69 (60 * s + i + 2) = mem (3 + s) (i + 2) := h.1.2 s hs8 (i + 2) (by omega)
              by_cases hk : jin (mem (3 + s) (i)) 0 65520 ∧ jin (mem (3 + s) (i + 1)) 0 65520 ∧ jin (mem (3 + s) (i + 2)) 0 999
              · obtain ⟨q0, q1, q2⟩ := hk
                exact Sim.ej (c_check8 np mem p s i z hn hp0 hpn eN hs8 hz g12 hi9 q0 q1 q2 o q ho4 eo hq e24 hd2) (m_check8 np (jup mem 0 14 0) p s i z hn hp66 hpn hs8 hl0 hz g68 hi9 (by show jin (mem 69 (60 * s + i)) _ _; rw [y0]; exact q0) (by show jin (mem 69 (60 * s + i + 1)) _ _; rw [y1]; exact q1) (by show jin (mem 69 (60 * s + i + 2)) _ _; rw [y2]; exact q2) o q ho4 eo2 hq e70) (by
                  rw [hR, hK, ← y0, ← y1, ← y2]
                  rfl) (fun c hc => hI2 _ 0 c hc (by decide))
              · exact Sim.ej (c_check8_item np mem p s i z hn hp0 hpn eN hs8 hz g12 hi9 hk) (m_check8_item np _ p s i z hn hp66 hpn hs8 hl0 hz g68 hi9 (by rw [y0, y1, y2]; exact hk)) rfl (fun c hc => hI1 _ c hc (by decide))
            · exact Sim.ej (c_check8_place np mem p s z i hn hp0 hpn eN hs8 hz g12 hi) (m_check8_place np _ p s i hn hp66 hpn hs8 hl0 (by show _ ∨ _ > (mem 68 s).toInt; rw [g68, nI_toInt (by omega)]; omega)) rfl (fun c hc => hI2 _ 2 c hc (by decide))
        · exact Sim.ej (c_check8_n np mem p s i x hn hp0 hpn eN hs hx) (m_check8_n np _ p s i x hn hp66 hpn hs hx) rfl (fun c hc => hI1 _ c hc (by decide))
      · by_cases hx : x = 4
        · subst hx
          obtain ⟨s, hs8, -, rfl⟩ := jin_n hs
          have hs8 : s < 8 := by omega
          rcases h.1.1 s hs8 with ⟨g1, g2⟩ | ⟨z, hz, g12, g68, g67, hl⟩
          · exact Sim.ej (c_check9_null np mem p s i hn hp0 hpn eN hs8 g1) (m_check9_null np _ p s i hn hp66 hpn hs8 g2) rfl (fun c hc => hI2 _ 1 c hc (by decide))
          · have hl0 : 0 ≤ (mem 67 s).toInt := by rw [g67]; exact hl.1
            by_cases hi : 0 ≤ i.toInt ∧ i.toInt + 4 ≤ z
            · obtain ⟨i, -, hi31, rfl⟩ := jin_n (x := i) (c := 60) ⟨hi.1, by omega⟩
              rw [nI_toInt hi31] at hi
              have hi9 : i + 4 ≤ z := by omega
              have y0 : mem 69 (60 * s + i) = mem (3 + s) (i) := h.1.2 s hs8 (i + 0) (by omega)
              have y1 : mem 69 (60 * s + i + 1) = mem (3 + s) (i + 1) := h.1.2 s hs8 (i + 1) (by omega)
              have y2 : mem 69 (60 * s + i + 2) = mem (3 + s) (i + 2) := h.1.2 s hs8 (i + 2) (by omega)
              have y3 : mem 69 (60 * s + i + 3) = mem (3 + s) (i + 3) := h.1.2 s hs8 (i + 3) (by omega)
              by_cases hk : jin (mem (3 + s) (i)) 0 999 ∧ jin (mem (3 + s) (i + 1)) 0 65520 ∧ jin (mem (3 + s) (i + 2)) 0 65520 ∧ jin (mem (3 + s) (i + 3)) 0 999
              · obtain ⟨q0, q1, q2, q3⟩ := hk
                exact Sim.ej (c_check9 np mem p s i z hn hp0 hpn eN hs8 hz g12 hi9 q0 q1 q2 q3 o q ho4 eo hq e24 hd2) (m_check9 np (jup mem 0 14 0) p s i z hn hp66 hpn hs8 hl0 hz g68 hi9 (by show jin (mem 69 (60 * s + i)) _ _; rw [y0]; exact q0) (by show jin (mem 69 (60 * s + i + 1)) _ _; rw [y1]; exact q1) (by show jin (mem 69 (60 * s + i + 2)) _ _; rw [y2]; exact q2) (by show jin (mem 69 (60 * s + i + 3)) _ _; rw [y3]; exact q3) o q ho4 eo2 hq e70) (by
                  rw [hR, hK, ← y0, ← y1, ← y2, ← y3]
                  rfl) (fun c hc => hI2 _ 0 c hc (by decide))
              · exact Sim.ej (c_check9_item np mem p s i z hn hp0 hpn eN hs8 hz g12 hi9 hk) (m_check9_item np _ p s i z hn hp66 hpn hs8 hl0 hz g68 hi9 (by rw [y0, y1, y2, y3]; exact hk)) rfl (fun c hc => hI1 _ c hc (by decide))
            · exact Sim.ej (c_check9_place np mem p s z i hn hp0 hpn eN hs8 hz g12 hi) (m_check9_place np _ p s i hn hp66 hpn hs8 hl0 (by show _ ∨ _ > (mem 68 s).toInt; rw [g68, nI_toInt (by omega)]; omega)) rfl (fun c hc => hI2 _ 2 c hc (by decide))
        · exact Sim.ej (c_check9_n np mem p s i x hn hp0 hpn eN hs hx) (m_check9_n np _ p s i x hn hp66 hpn hs hx) rfl (fun c hc => hI1 _ c hc (by decide))
      · by_cases hx : x = 4
        · subst hx
          obtain ⟨s, hs8, -, rfl⟩ := jin_n hs
          have hs8 : s < 8 := by omega
          rcases h.1.1 s hs8 with ⟨g1, g2⟩ | ⟨z, hz, g12, g68, g67, hl⟩
          · exact Sim.ej (c_check10_null np mem p s i hn hp0 hpn eN hs8 g1) (m_check10_null np _ p s i hn hp66 hpn hs8 g2) rfl (fun c hc => hI2 _ 1 c hc (by decide))
          · have hl0 : 0 ≤ (mem 67 s).toInt := by rw [g67]; exact hl.1
            by_cases hi : 0 ≤ i.toInt ∧ i.toInt + 4 ≤ z
            · obtain ⟨i, -, hi31, rfl⟩ := jin_n (x := i) (c := 60) ⟨hi.1, by omega⟩
              rw [nI_toInt hi31] at hi
              have hi9 : i + 4 ≤ z := by omega
              have y0 : mem 69 (60 * s + i) = mem (3 + s) (i) := h.1.2 s hs8 (i + 0) (by omega)
              have y1 : mem 69 (60 * s + i + 1) = mem (3 + s) (i + 1) := h.1.2 s hs8 (i + 1) (by omega)
              have y2 : mem 69 (60 * s + i + 2) = mem (3 + s) (i + 2) := h.1.2 s hs8 (i + 2) (by omega)
              have y3 : mem 69 (60 * s + i + 3) = mem (3 + s) (i + 3) := h.1.2 s hs8 (i + 3) (by omega)
              by_cases hk : jin (mem (3 + s) (i)) 0 65520 ∧ jin (mem (3 + s) (i + 1)) 0 999 ∧ jin (mem (3 + s) (i + 2)) 0 65520 ∧ jin (mem (3 + s) (i + 3)) 0 999
              · obtain ⟨q0, q1, q2, q3⟩ := hk
                exact Sim.ej (c_check10 np mem p s i z hn hp0 hpn eN hs8 hz g12 hi9 q0 q1 q2 q3 o q ho4 eo hq e24 hd2) (m_check10 np (jup mem 0 14 0) p s i z hn hp66 hpn hs8 hl0 hz g68 hi9 (by show jin (mem 69 (60 * s + i)) _ _; rw [y0]; exact q0) (by show jin (mem 69 (60 * s + i + 1)) _ _; rw [y1]; exact q1) (by show jin (mem 69 (60 * s + i + 2)) _ _; rw [y2]; exact q2) (by show jin (mem 69 (60 * s + i + 3)) _ _; rw [y3]; exact q3) o q ho4 eo2 hq e70) (by
                  rw [hR, hK, ← y0, ← y1, ← y2, ← y3]
                  rfl) (fun c hc => hI2 _ 0 c hc (by decide))
              · exact Sim.ej (c_check10_item np mem p s i z hn hp0 hpn eN hs8 hz g12 hi9 hk) (m_check10_item np _ p s i z hn hp66 hpn hs8 hl0 hz g68 hi9 (by rw [y0, y1, y2, y3]; exact hk)) rfl (fun c hc => hI1 _ c hc (by decide))
            · exact Sim.ej (c_check10_place np mem p s z i hn hp0 hpn eN hs8 hz g12 hi) (m_check10_place np _ p s i hn hp66 hpn hs8 hl0 (by show _ ∨ _ > (mem 68 s).toInt; rw [g68, nI_toInt (by omega)]; omega)) rfl (fun c hc => hI2 _ 2 c hc (by decide))
        · exact Sim.ej (c_check10_n np mem p s i x hn hp0 hpn eN hs hx) (m_check10_n np _ p s i x hn hp66 hpn hs hx) rfl (fun c hc => hI1 _ c hc (by decide))
      · by_cases hx : x = 4
        · subst hx
          obtain ⟨s, hs8, -, rfl⟩ := jin_n hs
          have hs8 : s < 8 := by omega
          rcases h.1.1 s hs8 with ⟨g1, g2⟩ | ⟨z, hz, g12, g68, g67, hl⟩
          · exact Sim.ej (c_check11_null np mem p s i hn hp0 hpn eN hs8 g1) (m_check11_null np _ p s i hn hp66 hpn hs8 g2) rfl (fun c hc => hI2 _ 1 c hc (by decide))
          · have hl0 : 0 ≤ (mem 67 s).toInt := by rw [g67]; exact hl.1
            by_cases hi : 0 ≤ i.toInt ∧ i.toInt + 4 ≤ z
            · obtain ⟨i, -, hi31, rfl⟩ := jin_n (x := i) (c := 60) ⟨hi.1, by omega⟩
              rw [nI_toInt hi31] at hi
              have hi9 : i + 4 ≤ z := by omega
              have y0 : mem 69 (60 * s + i) = mem (3 + s) (i) := h.1.2 s hs8 (i + 0) (by omega)
              have y1 : mem 69 (60 * s + i + 1) = mem (3 + s) (i + 1) := h.1.2 s hs8 (i + 1) (by omega)
              have y2 : mem 69 (60 * s + i + 2) = mem (3 + s) (i + 2) := h.1.2 s hs8 (i + 2) (by omega)
              have y3 : mem 69 (60 * s + i + 3) = mem (3 + s) (i + 3) := h.1.2 s hs8 (i + 3) (by omega)
              by_cases hk : jin (mem (3 + s) (i)) 0 999 ∧ jin (mem (3 + s) (i + 1)) 0 999 ∧ jin (mem (3 + s) (i + 2)) 0 65520 ∧ jin (mem (3 + s) (i + 3)) 0 999
              · obtain ⟨q0, q1, q2, q3⟩ := hk
                exact Sim.ej (c_check11 np mem p s i z hn hp0 hpn eN hs8 hz g12 hi9 q0 q1 q2 q3 o q ho4 eo hq e24 hd2) (m_check11 np (jup mem 0 14 0) p s i z hn hp66 hpn hs8 hl0 hz g68 hi9 (by show jin (mem 69 (60 * s + i)) _ _; rw [y0]; exact q0) (by show jin (mem 69 (60 * s + i + 1)) _ _; rw [y1]; exact q1) (by show jin (mem 69 (60 * s + i + 2)) _ _; rw [y2]; exact q2) (by show jin (mem 69 (60 * s + i + 3)) _ _; rw [y3]; exact q3) o q ho4 eo2 hq e70) (by
                  rw [hR, hK, ← y0, ← y1, ← y2, ← y3]
                  rfl) (fun c hc => hI2 _ 0 c hc (by decide))
              · exact Sim.ej (c_check11_item np mem p s i z hn hp0 hpn eN hs8 hz g12 hi9 hk) (m_check11_item np _ p s i z hn hp66 hpn hs8 hl0 hz g68 hi9 (by rw [y0, y1, y2, y3]; exact hk)) rfl (fun c hc => hI1 _ c hc (by decide))
            · exact Sim.ej (c_check11_place np mem p s z i hn hp0 hpn eN hs8 hz g12 hi) (m_check11_place np _ p s i hn hp66 hpn hs8 hl0 (by show _ ∨ _ > (mem 68 s).toInt; rw [g68, nI_toInt (by omega)]; omega)) rfl (fun c hc => hI2 _ 2 c hc (by decide))
        · exact Sim.ej (c_check11_n np mem p s i x hn hp0 hpn eN hs hx) (m_check11_n np _ p s i x hn hp66 hpn hs hx) rfl (fun c hc => hI1 _ c hc (by decide))
      · by_cases hx : x = 3
        · subst hx
          obtain ⟨s, hs8, -, rfl⟩ := jin_n hs
          have hs8 : s < 8 := by omega
          rcases h.1.1 s hs8 with ⟨g1, g2⟩ | ⟨z, hz, g12, g68, g67, hl⟩
          · exact Sim.ej (c_check12_null np mem p s i hn hp0 hpn eN hs8 g1) (m_check12_null np _ p s i hn hp66 hpn hs8 g2) rfl (fun c hc => hI2 _ 1 c hc (by decide))
          · have hl0 : 0 ≤ (mem 67 s).toInt := by rw [g67]; exact hl.1
            by_cases hi : 0 ≤ i.toInt ∧ i.toInt + 3 ≤ z
            · obtain ⟨i, -, hi31, rfl⟩ := jin_n (x := i) (c := 60) ⟨hi.1, by omega⟩
              rw [nI_toInt hi31] at hi
              have hi9 : i + 3 ≤ z := by omega
              have y0 : mem 69 (60 * s + i) = mem (3 + s) (i) := h.1.2 s hs8 (i + 0) (by omega)
              have y1 : mem 69 (60 * s + i + 1) = mem (3 + s) (i + 1) := h.1.2 s hs8 (i + 1) (by omega)
              have y2 : mem 69 (60 * s + i + 2) = mem (3 + s) (i + 2) := h.1.2 s hs8 (i + 2) (by omega)
              by_cases hk : jin (mem (3 + s) (i)) 0 65520 ∧ jin (mem (3 + s) (i + 1)) 0 999 ∧ jin (mem (3 + s) (i + 2)) 0 999
              · obtain ⟨q0, q1, q2⟩ := hk
                exact Sim.ej (c_check12 np mem p s i z hn hp0 hpn eN hs8 hz g12 hi9 q0 q1 q2 o q ho4 eo hq e24 hd2) (m_check12 np (jup mem 0 14 0) p s i z hn hp66 hpn hs8 hl0 hz g68 hi9 (by show jin (mem 69 (60 * s + i)) _ _; rw [y0]; exact q0) (by show jin (mem 69 (60 * s + i + 1)) _ _; rw [y1]; exact q1) (by show jin (mem 69 (60 * s + i + 2)) _ _; rw [y2]; exact q2) o q ho4 eo2 hq e70) (by
                  rw [hR, hK, ← y0, ← y1, ← y2]
                  rfl) (fun c hc => hI2 _ 0 c hc (by decide))
              · exact Sim.ej (c_check12_item np mem p s i z hn hp0 hpn eN hs8 hz g12 hi9 hk) (m_check12_item np _ p s i z hn hp66 hpn hs8 hl0 hz g68 hi9 (by rw [y0, y1, y2]; exact hk)) rfl (fun c hc => hI1 _ c hc (by decide))
            · exact Sim.ej (c_check12_place np mem p s z i hn hp0 hpn eN hs8 hz g12 hi) (m_check12_place np _ p s i hn hp66 hpn hs8 hl0 (by show _ ∨ _ > (mem 68 s).toInt; rw [g68, nI_toInt (by omega)]; omega)) rfl (fun c hc => hI2 _ 2 c hc (by decide))
        · exact Sim.ej (c_check12_n np mem p s i x hn hp0 hpn eN hs hx) (m_check12_n np _ p s i x hn hp66 hpn hs hx) rfl (fun c hc => hI1 _ c hc (by decide))
      · by_cases hx : x = 4
        · subst hx
          obtain ⟨s, hs8, -, rfl⟩ := jin_n hs
          have hs8 : s < 8 := by omega
          rcases h.1.1 s hs8 with ⟨g1, g2⟩ | ⟨z, hz, g12, g68, g67, hl⟩
          · exact Sim.ej (c_check13_null np mem p s i hn hp0 hpn eN hs8 g1) (m_check13_null np _ p s i hn hp66 hpn hs8 g2) rfl (fun c hc => hI2 _ 1 c hc (by decide))
          · have hl0 : 0 ≤ (mem 67 s).toInt := by rw [g67]; exact hl.1
            by_cases hi : 0 ≤ i.toInt ∧ i.toInt + 4 ≤ z
            · obtain ⟨i, -, hi31, rfl⟩ := jin_n (x := i) (c := 60) ⟨hi.1, by omega⟩
              rw [nI_toInt hi31] at hi
              have hi9 : i + 4 ≤ z := by omega
              have y0 : mem 69 (60 * s + i) = mem (3 + s) (i) := h.1.2 s hs8 (i + 0) (by omega)
              have y1 : mem 69 (60 * s + i + 1) = mem (3 + s) (i + 1) := h.1.2 s hs8 (i + 1) (by omega)
              have y2 : mem 69 (60 * s + i + 2) = mem (3 + s) (i + 2) := h.1.2 s hs8 (i + 2) (by omega)
              have y3 : mem 69 (60 * s + i + 3) = mem (3 + s) (i + 3) := h.1.2 s hs8 (i + 3) (by omega)
              by_cases hk : jin (mem (3 + s) (i)) 0 999 ∧ jin (mem (3 + s) (i + 1)) 0 65520 ∧ jin (mem (3 + s) (i + 2)) 0 999 ∧ jin (mem (3 + s) (i + 3)) 0 999
              · obtain ⟨q0, q1, q2, q3⟩ := hk
                exact Sim.ej (c_check13 np mem p s i z hn hp0 hpn eN hs8 hz g12 hi9 q0 q1 q2 q3 o q ho4 eo hq e24 hd2) (m_check13 np (jup mem 0 14 0) p s i z hn hp66 hpn hs8 hl0 hz g68 hi9 (by show jin (mem 69 (60 * s + i)) _ _; rw [y0]; exact q0) (by show jin (mem 69 (60 * s + i + 1)) _ _; rw [y1]; exact q1) (by show jin (mem 69 (60 * s + i + 2)) _ _; rw [y2]; exact q2) (by show jin (mem 69 (60 * s + i + 3)) _ _; rw [y3]; exact q3) o q ho4 eo2 hq e70) (by
                  rw [hR, hK, ← y0, ← y1, ← y2, ← y3]
                  rfl) (fun c hc => hI2 _ 0 c hc (by decide))
              · exact Sim.ej (c_check13_item np mem p s i z hn hp0 hpn eN hs8 hz g12 hi9 hk) (m_check13_item np _ p s i z hn hp66 hpn hs8 hl0 hz g68 hi9 (by rw [y0, y1, y2, y3]; exact hk)) rfl (fun c hc => hI1 _ c hc (by decide))
            · exact Sim.ej (c_check13_place np mem p s z i hn hp0 hpn eN hs8 hz g12 hi) (m_check13_place np _ p s i hn hp66 hpn hs8 hl0 (by show _ ∨ _ > (mem 68 s).toInt; rw [g68, nI_toInt (by omega)]; omega)) rfl (fun c hc => hI2 _ 2 c hc (by decide))
        · exact Sim.ej (c_check13_n np mem p s i x hn hp0 hpn eN hs hx) (m_check13_n np _ p s i x hn hp66 hpn hs hx) rfl (fun c hc => hI1 _ c hc (by decide))
      · by_cases hx : x = 4
        · subst hx
          obtain ⟨s, hs8, -, rfl⟩ := jin_n hs
          have hs8 : s < 8 := by omega
          rcases h.1.1 s hs8 with ⟨g1, g2⟩ | ⟨z, hz, g12, g68, g67, hl⟩
          · exact Sim.ej (c_check14_null np mem p s i hn hp0 hpn eN hs8 g1) (m_check14_null np _ p s i hn hp66 hpn hs8 g2) rfl (fun c hc => hI2 _ 1 c hc (by decide))
          · have hl0 : 0 ≤ (mem 67 s).toInt := by rw [g67]; exact hl.1
            by_cases hi : 0 ≤ i.toInt ∧ i.toInt + 4 ≤ z
            · obtain ⟨i, -, hi31, rfl⟩ := jin_n (x := i) (c := 60) ⟨hi.1, by omega⟩
              rw [nI_toInt hi31] at hi
              have hi9 : i + 4 ≤ z := by omega
              have y0 : mem 69 (60 * s + i) = mem (3 + s) (i) := h.1.2 s hs8 (i + 0) (by omega)
              have y1 : mem 69 (60 * s + i + 1) = mem (3 + s) (i + 1) := h.1.2 s hs8 (i + 1) (by omega)
              have y2 : mem 69 (60 * s + i + 2) = mem (3 + s) (i + 2) := h.1.2 s hs8 (i + 2) (by omega)
              have y3 : mem 69 (60 * s + i + 3) = mem (3 + s) (i + 3) := h.1.2 s hs8 (i + 3) (by omega)
              by_cases hk : jin (mem (3 + s) (i)) 0 65520 ∧ jin (mem (3 + s) (i + 1)) 0 999 ∧ jin (mem (3 + s) (i + 2)) 0 999 ∧ jin (mem (3 + s) (i + 3)) 0 999
              · obtain ⟨q0, q1, q2, q3⟩ := hk
                exact Sim.ej (c_check14 np mem p s i z hn hp0 hpn eN hs8 hz g12 hi9 q0 q1 q2 q3 o q ho4 eo hq e24 hd2) (m_check14 np (jup mem 0 14 0) p s i z hn hp66 hpn hs8 hl0 hz g68 hi9 (by show jin (mem 69 (60 * s + i)) _ _; rw [y0]; exact q0) (by show jin (mem 69 (60 * s + i + 1)) _ _; rw [y1]; exact q1) (by show jin (mem 69 (60 * s + i + 2)) _ _; rw [y2]; exact q2) (by show jin (mem 69 (60 * s + i + 3)) _ _; rw [y3]; exact q3) o q ho4 eo2 hq e70) (by
                  rw [hR, hK, ← y0, ← y1, ← y2, ← y3]
                  rfl) (fun c hc => hI2 _ 0 c hc (by decide))
              · exact Sim.ej (c_check14_item np mem p s i z hn hp0 hpn eN hs8 hz g12 hi9 hk) (m_check14_item np _ p s i z hn hp66 hpn hs8 hl0 hz g68 hi9 (by rw [y0, y1, y2, y3]; exact hk)) rfl (fun c hc => hI1 _ c hc (by decide))
            · exact Sim.ej (c_check14_place np mem p s z i hn hp0 hpn eN hs8 hz g12 hi) (m_check14_place np _ p s i hn hp66 hpn hs8 hl0 (by show _ ∨ _ > (mem 68 s).toInt; rw [g68, nI_toInt (by omega)]; omega)) rfl (fun c hc => hI2 _ 2 c hc (by decide))
        · exact Sim.ej (c_check14_n np mem p s i x hn hp0 hpn eN hs hx) (m_check14_n np _ p s i x hn hp66 hpn hs hx) rfl (fun c hc => hI1 _ c hc (by decide))
      · by_cases hx : x = 4
        · subst hx
          obtain ⟨s, hs8, -, rfl⟩ := jin_n hs
          have hs8 : s < 8 := by omega
          rcases h.1.1 s hs8 with ⟨g1, g2⟩ | ⟨z, hz, g12, g68, g67, hl⟩
          · exact Sim.ej (c_check15_null np mem p s i hn hp0 hpn eN hs8 g1) (m_check15_null np _ p s i hn hp66 hpn hs8 g2) rfl (fun c hc => hI2 _ 1 c hc (by decide))
          · have hl0 : 0 ≤ (mem 67 s).toInt := by rw [g67]; exact hl.1
            by_cases hi : 0 ≤ i.toInt ∧ i.toInt + 4 ≤ z
            · obtain ⟨i, -, hi31, rfl⟩ := jin_n (x := i) (c := 60) ⟨hi.1, by omega⟩
              rw [nI_toInt hi31] at hi
              have hi9 : i + 4 ≤ z := by omega
              have y0 : mem 69 (60 * s + i) = mem (3 + s) (i) := h.1.2 s hs8 (i + 0) (by omega)
              have y1 : mem 69 (60 * s + i + 1) = mem (3 + s) (i + 1) := h.1.2 s hs8 (i + 1) (by omega)
              have y2 : mem 69 (60 * s + i + 2) = mem (3 + s) (i + 2) := h.1.2 s hs8 (i + 2) (by omega)
              have y3 : mem 69 (60 * s + i + 3) = mem (3 + s) (i + 3) := h.1.2 s hs8 (i + 3) (by omega)
              by_cases hk : jin (mem (3 + s) (i)) 0 999 ∧ jin (mem (3 + s) (i + 1)) 0 999 ∧ jin (mem (3 + s) (i + 2)) 0 999 ∧ jin (mem (3 + s) (i + 3)) 0 999
              · obtain ⟨q0, q1, q2, q3⟩ := hk
                exact Sim.ej (c_check15 np mem p s i z hn hp0 hpn eN hs8 hz g12 hi9 q0 q1 q2 q3 o q ho4 eo hq e24 hd2) (m_check15 np (jup mem 0 14 0) p s i z hn hp66 hpn hs8 hl0 hz g68 hi9 (by show jin (mem 69 (60 * s + i)) _ _; rw [y0]; exact q0) (by show jin (mem 69 (60 * s + i + 1)) _ _; rw [y1]; exact q1) (by show jin (mem 69 (60 * s + i + 2)) _ _; rw [y2]; exact q2) (by show jin (mem 69 (60 * s + i + 3)) _ _; rw [y3]; exact q3) o q ho4 eo2 hq e70) (by
                  rw [hR, hK, ← y0, ← y1, ← y2, ← y3]
                  rfl) (fun c hc => hI2 _ 0 c hc (by decide))
              · exact Sim.ej (c_check15_item np mem p s i z hn hp0 hpn eN hs8 hz g12 hi9 hk) (m_check15_item np _ p s i z hn hp66 hpn hs8 hl0 hz g68 hi9 (by rw [y0, y1, y2, y3]; exact hk)) rfl (fun c hc => hI1 _ c hc (by decide))
            · exact Sim.ej (c_check15_place np mem p s z i hn hp0 hpn eN hs8 hz g12 hi) (m_check15_place np _ p s i hn hp66 hpn hs8 hl0 (by show _ ∨ _ > (mem 68 s).toInt; rw [g68, nI_toInt (by omega)]; omega)) rfl (fun c hc => hI2 _ 2 c hc (by decide))
        · exact Sim.ej (c_check15_n np mem p s i x hn hp0 hpn eN hs hx) (m_check15_n np _ p s i x hn hp66 hpn hs hx) rfl (fun c hc => hI1 _ c hc (by decide))
    · exact Sim.ee (c_check_bad np mem p t s i x hn hp0 hpn hw) (m_check_bad np _ (nI p) t s i x hn hp66 (fun q => hw q.2)) rfl h.th
  · exact Sim.ee (c_check_p np mem p t s i x hn hp0 hp) (m_check_bad np _ p t s i x hn hp66 (fun q => hp q.1)) rfl h.th
theorem sim_lies (np : Nat) (mem : jMem) (h : Inv np mem) (p f : Int32) : Sim yX10_lies cX10_lies 8 5 yX11_lies cX11_lies 10 4 [.int p, .int f] np mem := by
  obtain ⟨hn, hp0, hp66, hpp, -, -⟩ := h.2.2.1
  by_cases hp : jin p 0 ((np : Int) - 1)
  · obtain ⟨p, hpn, rfl⟩ := jin_np hp
    have hP := hpp p hpn
    obtain ⟨eN, e1, e2, e3, e4, e5, f0, f1, f2, f3, hok, htb⟩ := hpp p hpn
    by_cases hw : jin f 0 3
    · obtain ⟨f, hw2, -, rfl⟩ := jin_n hw
      obtain ⟨o, q, ho4, eo, eo2, hq, e24, e70, hd2, hK⟩ := key_e h hP
      clear hw
      rcases (show f = 0 ∨ f = 1 ∨ f = 2 ∨ f = 3 by omega) with rfl | rfl | rfl | rfl
      · exact Sim.ee (c_lies0 np mem p hn hp0 hpn eN o q ho4 eo hq e24 hd2) (m_lies0 np _ p hn hp66 hpn o q ho4 eo2 hq e70) (by rw [root_e hP, hK, f1, f2, f3]) h.th
      · exact Sim.ee (c_lies1 np mem p hn hp0 hpn eN o q ho4 eo hq e24 hd2) (m_lies1 np _ p hn hp66 hpn o q ho4 eo2 hq e70) (by rw [root_e hP, hK, f0, f2, f3]) h.th
      · exact Sim.ee (c_lies2 np mem p hn hp0 hpn eN o q ho4 eo hq e24 hd2) (m_lies2 np _ p hn hp66 hpn o q ho4 eo2 hq e70) (by rw [root_e hP, hK, f0, f1, f3]) h.th
      · exact Sim.ee (c_lies3 np mem p hn hp0 hpn eN o q ho4 eo hq e24 hd2) (m_lies3 np _ p hn hp66 hpn o q ho4 eo2 hq e70) (by rw [root_e hP, hK, f0, f1, f2]) h.th
    · exact Sim.ee (c_lies_bad np mem p f hn hp0 hpn hw) (m_lies_bad np _ (nI p) f hn hp66 (fun q => hw q.2)) rfl h.th
  · exact Sim.ee (c_lies_p np mem p f hn hp0 hp) (m_lies_bad np _ p f hn hp66 (fun q => hp q.1)) rfl h.th
theorem sim_over (np : Nat) (mem : jMem) (h : Inv np mem) (p f b : Int32) : Sim yX10_over cX10_over 6 3 yX11_over cX11_over 4 3 [.int p, .int f, .int b] np mem := by
  obtain ⟨hn, hp0, hp66, hpp, -, -⟩ := h.2.2.1
  by_cases hp : jin p 0 ((np : Int) - 1)
  · obtain ⟨p, hpn, rfl⟩ := jin_np hp
    have hP := hpp p hpn
    obtain ⟨eN, e1, e2, e3, e4, e5, f0, f1, f2, f3, hok, htb⟩ := hpp p hpn
    by_cases hw : jin f 0 3 ∧ jin b 0 999
    · obtain ⟨hf, hb⟩ := hw
      obtain ⟨f, hf2, -, rfl⟩ := jin_n hf
      obtain ⟨b, hb2, -, rfl⟩ := jin_n hb
      obtain ⟨w0, hw0, -, ew0⟩ := jin_n hok.2.2.2.2.2.1
      obtain ⟨w1, hw1, -, ew1⟩ := jin_n hok.2.2.2.2.2.2.1
      obtain ⟨w2, hw2_, -, ew2⟩ := jin_n hok.2.2.2.2.2.2.2.1
      obtain ⟨w3, hw3, -, ew3⟩ := jin_n hok.2.2.2.2.2.2.2.2
      clear hf
      rcases (show f = 0 ∨ f = 1 ∨ f = 2 ∨ f = 3 by omega) with rfl | rfl | rfl | rfl
      · rcases Nat.lt_or_ge w0 b with q9 | q9
        · exact Sim.ee (c_over0_state np mem p b w0 hn hp0 hpn eN (by rw [f0]; exact ew0) (by omega) (by omega) q9) (m_over0_state np _ p b w0 hn hp66 hpn ew0 (by omega) (by omega) q9) rfl h.th
        · exact Sim.ee (c_over0 np mem p b w0 hn hp0 hpn eN (by rw [f0]; exact ew0) (by omega) (by omega) q9) (m_over0 np _ p b w0 hn hp66 hpn ew0 (by omega) (by omega) q9) rfl h.th
      · rcases Nat.lt_or_ge w1 b with q9 | q9
        · exact Sim.ee (c_over1_state np mem p b w1 hn hp0 hpn eN (by rw [f1]; exact ew1) (by omega) (by omega) q9) (m_over1_state np _ p b w1 hn hp66 hpn ew1 (by omega) (by omega) q9) rfl h.th
        · exact Sim.ee (c_over1 np mem p b w1 hn hp0 hpn eN (by rw [f1]; exact ew1) (by omega) (by omega) q9) (m_over1 np _ p b w1 hn hp66 hpn ew1 (by omega) (by omega) q9) rfl h.th
      · rcases Nat.lt_or_ge w2 b with q9 | q9
        · exact Sim.ee (c_over2_state np mem p b w2 hn hp0 hpn eN (by rw [f2]; exact ew2) (by omega) (by omega) q9) (m_over2_state np _ p b w2 hn hp66 hpn ew2 (by omega) (by omega) q9) rfl h.th
        · exact Sim.ee (c_over2 np mem p b w2 hn hp0 hpn eN (by rw [f2]; exact ew2) (by omega) (by omega) q9) (m_over2 np _ p b w2 hn hp66 hpn ew2 (by omega) (by omega) q9) rfl h.th
      · rcases Nat.lt_or_ge w3 b with q9 | q9
        · exact Sim.ee (c_over3_state np mem p b w3 hn hp0 hpn eN (by rw [f3]; exact ew3) (by omega) (by omega) q9) (m_over3_state np _ p b w3 hn hp66 hpn ew3 (by omega) (by omega) q9) rfl h.th
        · exact Sim.ee (c_over3 np mem p b w3 hn hp0 hpn eN (by rw [f3]; exact ew3) (by omega) (by omega) q9) (m_over3 np _ p b w3 hn hp66 hpn ew3 (by omega) (by omega) q9) rfl h.th
    · exact Sim.ee (c_over_bad np mem p f b hn hp0 hpn hw) (m_over_bad np _ (nI p) f b hn hp66 (fun q => hw q.2)) rfl h.th
  · exact Sim.ee (c_over_p np mem p f b hn hp0 hp) (m_over_bad np _ p f b hn hp66 (fun q => hp q.1)) rfl h.th
theorem sim_isOver (np : Nat) (mem : jMem) (h : Inv np mem) (p f b x : Int32) : Sim yX10_isOver cX10_isOver 6 3 yX11_isOver cX11_isOver 5 3 [.int p, .int f, .int b, .int x] np mem := by
  obtain ⟨hn, hp0, hp66, hpp, -, -⟩ := h.2.2.1
  by_cases hp : jin p 0 ((np : Int) - 1)
  · obtain ⟨p, hpn, rfl⟩ := jin_np hp
    have hP := hpp p hpn
    obtain ⟨eN, e1, e2, e3, e4, e5, f0, f1, f2, f3, hok, htb⟩ := hpp p hpn
    by_cases hw : jin f 0 3 ∧ jin b 0 999 ∧ jin x 0 65520
    · obtain ⟨hf, hb, hx⟩ := hw
      obtain ⟨f, hf2, -, rfl⟩ := jin_n hf
      obtain ⟨b, hb2, -, rfl⟩ := jin_n hb
      obtain ⟨x, hx2, -, rfl⟩ := jin_n hx
      obtain ⟨w0, hw0, -, ew0⟩ := jin_n hok.2.2.2.2.2.1
      obtain ⟨w1, hw1, -, ew1⟩ := jin_n hok.2.2.2.2.2.2.1
      obtain ⟨w2, hw2_, -, ew2⟩ := jin_n hok.2.2.2.2.2.2.2.1
      obtain ⟨w3, hw3, -, ew3⟩ := jin_n hok.2.2.2.2.2.2.2.2
      clear hf
      rcases (show f = 0 ∨ f = 1 ∨ f = 2 ∨ f = 3 by omega) with rfl | rfl | rfl | rfl
      · exact Sim.ee (c_isOver0 np mem p b w0 x hn hp0 hpn eN (by rw [f0]; exact ew0) (by omega) (by omega) (by omega)) (m_isOver0 np _ p b w0 (nI x) hn hp66 hpn ew0 (by omega) (by omega) hx) rfl h.th
      · exact Sim.ee (c_isOver1 np mem p b w1 x hn hp0 hpn eN (by rw [f1]; exact ew1) (by omega) (by omega) (by omega)) (m_isOver1 np _ p b w1 (nI x) hn hp66 hpn ew1 (by omega) (by omega) hx) rfl h.th
      · exact Sim.ee (c_isOver2 np mem p b w2 x hn hp0 hpn eN (by rw [f2]; exact ew2) (by omega) (by omega) (by omega)) (m_isOver2 np _ p b w2 (nI x) hn hp66 hpn ew2 (by omega) (by omega) hx) rfl h.th
      · exact Sim.ee (c_isOver3 np mem p b w3 x hn hp0 hpn eN (by rw [f3]; exact ew3) (by omega) (by omega) (by omega)) (m_isOver3 np _ p b w3 (nI x) hn hp66 hpn ew3 (by omega) (by omega) hx) rfl h.th
    · exact Sim.ee (c_isOver_bad np mem p f b x hn hp0 hpn hw) (m_isOver_bad np _ (nI p) f b x hn hp66 (fun q => hw q.2)) rfl h.th
  · exact Sim.ee (c_isOver_p np mem p f b x hn hp0 hp) (m_isOver_bad np _ p f b x hn hp66 (fun q => hp q.1)) rfl h.th
