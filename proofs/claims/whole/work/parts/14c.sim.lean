theorem jin_np {np : Nat} {p : Int32} (h : jin p 0 ((np : Int) - 1)) : ∃ q, q < np ∧ p = nI q := by
  obtain ⟨q, h1, -, e⟩ := jin_n h
  exact ⟨q, by omega, e⟩
theorem root_e {mem : jMem} {p : Nat} (h : I3p mem p) : jRootC (mem (93 + 2 * p)) p = jRootM (mem 74) p := by
  obtain ⟨eN, e1, e2, e3, e4, e5, f0, f1, f2, f3, hok, htb⟩ := h
  unfold jRootC jRootM
  rw [f0, f1, f2, f3]
theorem key_e {np : Nat} {mem : jMem} {p : Nat} (h : Inv np mem) (hP : I3p mem p) : ∃ o q, o < 4 ∧ mem (92 + 2 * p) 1 = nI o ∧ mem 74 (9 * p) = nI o ∧ q ≤ 6 ∧ mem 24 o = nI q ∧ mem 70 o = nI q ∧ (∀ j, j < q → 0 ≤ (mem (15 + o) j).toInt) ∧ jKey (mem (15 + o)) (mem (20 + o)) q (nI o) (mem (92 + 2 * p) 4) = jKey (fun j => mem 71 (6 * o + j)) (fun j => mem 72 (6 * o + j)) q (nI o) (mem 74 (9 * p + 3)) := by
  obtain ⟨eN, e1, e2, e3, e4, e5, f0, f1, f2, f3, hok, htb⟩ := hP
  obtain ⟨o, ho, -, eo⟩ := jin_n hok.1
  have ho4 : o < 4 := by omega
  obtain ⟨⟨q, hq, e24, e70, hj⟩, -, -⟩ := h.2.1 o ho4
  exact ⟨o, q, ho4, by rw [e1, eo], eo, hq, e24, e70, fun j hj9 => (hj j hj9).2.2, by rw [e4]; exact jKey_c (fun j hj9 => ⟨(hj j hj9).1.symm, (hj j hj9).2.1.symm⟩)⟩
theorem Sim.ej {yc : MethodName} {cc : ByteArray} {nc dc : Nat} {ym : MethodName} {cm : ByteArray} {nm dm : Nat} {av : List Value} {np : Nat} {mem M1 M2 : jMem} {x1 x2 : Int32} {S : List Nat} (h1 : jPi yc cc nc .int dc (.ref 0 :: av) np mem (fun v c => v = x1 ∧ c = M1)) (h2 : jPi ym cm nm .int dm (.ref 66 :: av) np M1 (fun v c => v = x2 ∧ jeq S M2 c)) (he : x1 = x2) (hI : ∀ c, jeq S M2 c → Inv np c) : Sim yc cc nc dc ym cm nm dm av np mem := ⟨_, h1, fun v1 m1 q1 => by
  obtain ⟨rfl, rfl⟩ := q1
  exact ⟨_, h2, fun v2 m2 q2 => by obtain ⟨rfl, q⟩ := q2; exact ⟨he, hI _ q⟩⟩⟩
theorem sim_told (np : Nat) (mem : jMem) (h : Inv np mem) (p w : Int32) : Sim yX10_told cX10_told 4 5 yX11_told cX11_told 3 4 [.int p, .int w] np mem := by
  obtain ⟨hn, hp0, hp66, hpp, -, -⟩ := h.2.2.1
  by_cases hp : jin p 0 ((np : Int) - 1)
  · obtain ⟨p, hpn, rfl⟩ := jin_np hp
    have hP := hpp p hpn
    obtain ⟨eN, e1, e2, e3, e4, e5, f0, f1, f2, f3, hok, htb⟩ := hpp p hpn
    by_cases hw : jin w 0 15
    · obtain ⟨w, hw2, -, rfl⟩ := jin_n hw
      obtain ⟨o, q, ho4, eo, eo2, hq, e24, e70, hd2, hK⟩ := key_e h hP
      obtain ⟨w0, hw0, -, ew0⟩ := jin_n hok.2.2.2.2.2.1
      obtain ⟨w1, hw1, -, ew1⟩ := jin_n hok.2.2.2.2.2.2.1
      obtain ⟨w2, hw2_, -, ew2⟩ := jin_n hok.2.2.2.2.2.2.2.1
      obtain ⟨w3, hw3, -, ew3⟩ := jin_n hok.2.2.2.2.2.2.2.2
      clear hw
      rcases (show w = 0 ∨ w = 1 ∨ w = 2 ∨ w = 3 ∨ w = 4 ∨ w = 5 ∨ w = 6 ∨ w = 7 ∨ w = 8 ∨ w = 9 ∨ w = 10 ∨ w = 11 ∨ w = 12 ∨ w = 13 ∨ w = 14 ∨ w = 15 by omega) with rfl | rfl | rfl | rfl | rfl | rfl | rfl | rfl | rfl | rfl | rfl | rfl | rfl | rfl | rfl | rfl
      · exact Sim.ee (c_told0 np mem p hn hp0 hpn eN) (m_told0 np _ p hn hp66 hpn) (by rw [f0]) h.th
      · exact Sim.ee (c_told1 np mem p hn hp0 hpn eN) (m_told1 np _ p hn hp66 hpn) (by rw [f1]) h.th
      · exact Sim.ee (c_told2 np mem p hn hp0 hpn eN) (m_told2 np _ p hn hp66 hpn) (by rw [f2]) h.th
      · exact Sim.ee (c_told3 np mem p hn hp0 hpn eN) (m_told3 np _ p hn hp66 hpn) (by rw [f3]) h.th
      · exact Sim.ee (c_told4 np mem p hn hp0 hpn eN) (m_told4 np _ p hn hp66 hpn) (by rw [f0, f1]) h.th
      · exact Sim.ee (c_told5 np mem p hn hp0 hpn eN) (m_told5 np _ p hn hp66 hpn) (by rw [f2, f3]) h.th
      · exact Sim.ee (c_told6 np mem p hn hp0 hpn eN) (m_told6 np _ p hn hp66 hpn) (root_e hP) h.th
      · exact Sim.ee (c_told7 np mem p hn hp0 hpn eN o q ho4 eo hq e24 hd2) (m_told7 np _ p hn hp66 hpn o q ho4 eo2 hq e70) (by rw [root_e hP, hK]) h.th
      · exact Sim.ee (c_told8 np mem p hn hp0 hpn eN) (m_told8 np _ p hn hp66 hpn) e1 h.th
      · exact Sim.ee (c_told9 np mem p hn hp0 hpn eN) (m_told9 np _ p hn hp66 hpn) e2 h.th
      · exact Sim.ee (c_told10 np mem p hn hp0 hpn eN) (m_told10 np _ p hn hp66 hpn) e4 h.th
      · exact Sim.ee (c_told11 np mem p hn hp0 hpn eN) (m_told11 np _ p hn hp66 hpn) e5 h.th
      · exact Sim.ee (c_told12 np mem p hn hp0 hpn eN w0 (by rw [f0]; exact ew0) (by omega)) (m_told12 np _ p hn hp66 hpn w0 ew0 (by omega)) rfl h.th
      · exact Sim.ee (c_told13 np mem p hn hp0 hpn eN w1 (by rw [f1]; exact ew1) (by omega)) (m_told13 np _ p hn hp66 hpn w1 ew1 (by omega)) rfl h.th
      · exact Sim.ee (c_told14 np mem p hn hp0 hpn eN w2 (by rw [f2]; exact ew2) (by omega)) (m_told14 np _ p hn hp66 hpn w2 ew2 (by omega)) rfl h.th
      · exact Sim.ee (c_told15 np mem p hn hp0 hpn eN w3 (by rw [f3]; exact ew3) (by omega)) (m_told15 np _ p hn hp66 hpn w3 ew3 (by omega)) rfl h.th
    · exact Sim.ee (c_told_bad2 np mem p w hn hp0 hpn hw) (m_told_bad np _ (nI p) w hn hp66 (fun q => hw q.2)) rfl h.th
  · exact Sim.ee (c_told_bad np mem p w hn hp0 hp) (m_told_bad np _ p w hn hp66 (fun q => hp q.1)) rfl h.th
theorem sim_show (np : Nat) (mem : jMem) (h : Inv np mem) (p t i : Int32) : Sim yX10_show cX10_show 6 5 yX11_show cX11_show 5 4 [.int p, .int t, .int i] np mem := by
  obtain ⟨hn, hp0, hp66, hpp, -, -⟩ := h.2.2.1
  by_cases hp : jin p 0 ((np : Int) - 1)
  · obtain ⟨p, hpn, rfl⟩ := jin_np hp
    have hP := hpp p hpn
    obtain ⟨eN, e1, e2, e3, e4, e5, f0, f1, f2, f3, hok, htb⟩ := hpp p hpn
    by_cases hw : jin t 0 15 ∧ -1 ≤ i.toInt
    · obtain ⟨ht, hi⟩ := hw
      obtain ⟨t, ht2, -, rfl⟩ := jin_n ht
      by_cases hm1 : i.toInt = -1
      · obtain rfl : i = -1 := Int32.toInt_inj.mp hm1
        clear ht hi hm1
        rcases (show t = 0 ∨ t = 1 ∨ t = 2 ∨ t = 3 ∨ t = 4 ∨ t = 5 ∨ t = 6 ∨ t = 7 ∨ t = 8 ∨ t = 9 ∨ t = 10 ∨ t = 11 ∨ t = 12 ∨ t = 13 ∨ t = 14 ∨ t = 15 by omega) with rfl | rfl | rfl | rfl | rfl | rfl | rfl | rfl | rfl | rfl | rfl | rfl | rfl | rfl | rfl | rfl
        · refine Sim.of (c_show0_n np mem p hn hp0 hpn eN) (fun v1 m1 q1 => ?_)
          obtain ⟨rfl, hJ⟩ := q1
          have j66 := hJ 66 (by decide)
          have j74 := hJ 74 (by decide)
          refine ⟨_, m_show0_n np m1 p hn (by rw [j66]; exact hp66) hpn, fun v2 m2 q2 => ?_⟩
          obtain ⟨rfl, hK⟩ := q2
          refine ⟨?_, h.s0 (((jch.rf.eq hJ (by decide)).up rfl).eq hK (by decide))⟩
          rfl
        · refine Sim.of (c_show1_n np mem p hn hp0 hpn eN) (fun v1 m1 q1 => ?_)
          obtain ⟨rfl, hJ⟩ := q1
          have j66 := hJ 66 (by decide)
          have j74 := hJ 74 (by decide)
          refine ⟨_, m_show1_n np m1 p hn (by rw [j66]; exact hp66) hpn, fun v2 m2 q2 => ?_⟩
          obtain ⟨rfl, hK⟩ := q2
          refine ⟨?_, h.s0 (((jch.rf.eq hJ (by decide)).up rfl).eq hK (by decide))⟩
          rfl
        · refine Sim.of (c_show2_n np mem p hn hp0 hpn eN) (fun v1 m1 q1 => ?_)
          obtain ⟨rfl, hJ⟩ := q1
          have j66 := hJ 66 (by decide)
          have j74 := hJ 74 (by decide)
          refine ⟨_, m_show2_n np m1 p hn (by rw [j66]; exact hp66) hpn, fun v2 m2 q2 => ?_⟩
          obtain ⟨rfl, hK⟩ := q2
          refine ⟨?_, h.s0 (((jch.rf.eq hJ (by decide)).up rfl).eq hK (by decide))⟩
          rfl
        · refine Sim.of (c_show3_n np mem p hn hp0 hpn eN) (fun v1 m1 q1 => ?_)
          obtain ⟨rfl, hJ⟩ := q1
          have j66 := hJ 66 (by decide)
          have j74 := hJ 74 (by decide)
          refine ⟨_, m_show3_n np m1 p hn (by rw [j66]; exact hp66) hpn, fun v2 m2 q2 => ?_⟩
          obtain ⟨rfl, hK⟩ := q2
          refine ⟨?_, h.s0 (((jch.rf.eq hJ (by decide)).up rfl).eq hK (by decide))⟩
          rfl
        · refine Sim.of (c_show4_n np mem p hn hp0 hpn eN) (fun v1 m1 q1 => ?_)
          obtain ⟨rfl, hJ⟩ := q1
          have j66 := hJ 66 (by decide)
          have j74 := hJ 74 (by decide)
          refine ⟨_, m_show4_n np m1 p hn (by rw [j66]; exact hp66) hpn, fun v2 m2 q2 => ?_⟩
          obtain ⟨rfl, hK⟩ := q2
          refine ⟨?_, h.s0 (((jch.rf.eq hJ (by decide)).up rfl).eq hK (by decide))⟩
          rfl
        · refine Sim.of (c_show5_n np mem p hn hp0 hpn eN) (fun v1 m1 q1 => ?_)
          obtain ⟨rfl, hJ⟩ := q1
          have j66 := hJ 66 (by decide)
          have j74 := hJ 74 (by decide)
          refine ⟨_, m_show5_n np m1 p hn (by rw [j66]; exact hp66) hpn, fun v2 m2 q2 => ?_⟩
          obtain ⟨rfl, hK⟩ := q2
          refine ⟨?_, h.s0 (((jch.rf.eq hJ (by decide)).up rfl).eq hK (by decide))⟩
          rfl
        · refine Sim.of (c_show6_n np mem p hn hp0 hpn eN) (fun v1 m1 q1 => ?_)
          obtain ⟨rfl, hJ⟩ := q1
          have j66 := hJ 66 (by decide)
          have j74 := hJ 74 (by decide)
          refine ⟨_, m_show6_n np m1 p hn (by rw [j66]; exact hp66) hpn, fun v2 m2 q2 => ?_⟩
          obtain ⟨rfl, hK⟩ := q2
          refine ⟨?_, h.s0 (((jch.rf.eq hJ (by decide)).up rfl).eq hK (by decide))⟩
          rfl
        · refine Sim.of (c_show7_n np mem p hn hp0 hpn eN) (fun v1 m1 q1 => ?_)
          obtain ⟨rfl, hJ⟩ := q1
          have j66 := hJ 66 (by decide)
          have j74 := hJ 74 (by decide)
          refine ⟨_, m_show7_n np m1 p hn (by rw [j66]; exact hp66) hpn, fun v2 m2 q2 => ?_⟩
          obtain ⟨rfl, hK⟩ := q2
          refine ⟨?_, h.s0 (((jch.rf.eq hJ (by decide)).up rfl).eq hK (by decide))⟩
          rfl
        · refine Sim.of (c_show8_n np mem p hn hp0 hpn eN) (fun v1 m1 q1 => ?_)
          obtain ⟨rfl, hJ⟩ := q1
          have j66 := hJ 66 (by decide)
          have j74 := hJ 74 (by decide)
          refine ⟨_, m_show8_n np m1 p hn (by rw [j66]; exact hp66) hpn, fun v2 m2 q2 => ?_⟩
          obtain ⟨rfl, hK⟩ := q2
          refine ⟨?_, h.s0 (((jch.rf.eq hJ (by decide)).up rfl).eq hK (by decide))⟩
          rfl
        · refine Sim.of (c_show9_n np mem p hn hp0 hpn eN) (fun v1 m1 q1 => ?_)
          obtain ⟨rfl, hJ⟩ := q1
          have j66 := hJ 66 (by decide)
          have j74 := hJ 74 (by decide)
          refine ⟨_, m_show9_n np m1 p hn (by rw [j66]; exact hp66) hpn, fun v2 m2 q2 => ?_⟩
          obtain ⟨rfl, hK⟩ := q2
          refine ⟨?_, h.s0 (((jch.rf.eq hJ (by decide)).up rfl).eq hK (by decide))⟩
          rfl
        · refine Sim.of (c_show10_n np mem p hn hp0 hpn eN) (fun v1 m1 q1 => ?_)
          obtain ⟨rfl, hJ⟩ := q1
          have j66 := hJ 66 (by decide)
          have j74 := hJ 74 (by decide)
          refine ⟨_, m_show10_n np m1 p hn (by rw [j66]; exact hp66) hpn, fun v2 m2 q2 => ?_⟩
          obtain ⟨rfl, hK⟩ := q2
          refine ⟨?_, h.s0 (((jch.rf.eq hJ (by decide)).up rfl).eq hK (by decide))⟩
          rfl
        · refine Sim.of (c_show11_n np mem p hn hp0 hpn eN) (fun v1 m1 q1 => ?_)
          obtain ⟨rfl, hJ⟩ := q1
          have j66 := hJ 66 (by decide)
          have j74 := hJ 74 (by decide)
          refine ⟨_, m_show11_n np m1 p hn (by rw [j66]; exact hp66) hpn, fun v2 m2 q2 => ?_⟩
          obtain ⟨rfl, hK⟩ := q2
          refine ⟨?_, h.s0 (((jch.rf.eq hJ (by decide)).up rfl).eq hK (by decide))⟩
          rfl
        · refine Sim.of (c_show12_n np mem p hn hp0 hpn eN) (fun v1 m1 q1 => ?_)
          obtain ⟨rfl, hJ⟩ := q1
          have j66 := hJ 66 (by decide)
          have j74 := hJ 74 (by decide)
          refine ⟨_, m_show12_n np m1 p hn (by rw [j66]; exact hp66) hpn, fun v2 m2 q2 => ?_⟩
          obtain ⟨rfl, hK⟩ := q2
          refine ⟨?_, h.s0 (((jch.rf.eq hJ (by decide)).up rfl).eq hK (by decide))⟩
          rfl
        · refine Sim.of (c_show13_n np mem p hn hp0 hpn eN) (fun v1 m1 q1 => ?_)
          obtain ⟨rfl, hJ⟩ := q1
          have j66 := hJ 66 (by decide)
          have j74 := hJ 74 (by decide)
          refine ⟨_, m_show13_n np m1 p hn (by rw [j66]; exact hp66) hpn, fun v2 m2 q2 => ?_⟩
          obtain ⟨rfl, hK⟩ := q2
          refine ⟨?_, h.s0 (((jch.rf.eq hJ (by decide)).up rfl).eq hK (by decide))⟩
          rfl
        · refine Sim.of (c_show14_n np mem p hn hp0 hpn eN) (fun v1 m1 q1 => ?_)
          obtain ⟨rfl, hJ⟩ := q1
          have j66 := hJ 66 (by decide)
          have j74 := hJ 74 (by decide)
          refine ⟨_, m_show14_n np m1 p hn (by rw [j66]; exact hp66) hpn, fun v2 m2 q2 => ?_⟩
          obtain ⟨rfl, hK⟩ := q2
          refine ⟨?_, h.s0 (((jch.rf.eq hJ (by decide)).up rfl).eq hK (by decide))⟩
          rfl
        · refine Sim.of (c_show15_n np mem p hn hp0 hpn eN) (fun v1 m1 q1 => ?_)
          obtain ⟨rfl, hJ⟩ := q1
          have j66 := hJ 66 (by decide)
          have j74 := hJ 74 (by decide)
          refine ⟨_, m_show15_n np m1 p hn (by rw [j66]; exact hp66) hpn, fun v2 m2 q2 => ?_⟩
          obtain ⟨rfl, hK⟩ := q2
          refine ⟨?_, h.s0 (((jch.rf.eq hJ (by decide)).up rfl).eq hK (by decide))⟩
          rfl
      · clear ht
        obtain ⟨i, hi4, hi31, rfl⟩ | hbig : (∃ n : Nat, n < 4 ∧ n < 2 ^ 31 ∧ i = nI n) ∨ 4 ≤ i.toInt := by
          rcases Int.lt_or_le i.toInt 4 with q9 | q9
          · obtain ⟨n, h1, h2, e⟩ := jin_n (x := i) (c := 3) ⟨by omega, by omega⟩
            exact Or.inl ⟨n, by omega, h2, e⟩
          · exact Or.inr q9
        · clear hi hm1
          rcases (show t = 0 ∨ t = 1 ∨ t = 2 ∨ t = 3 ∨ t = 4 ∨ t = 5 ∨ t = 6 ∨ t = 7 ∨ t = 8 ∨ t = 9 ∨ t = 10 ∨ t = 11 ∨ t = 12 ∨ t = 13 ∨ t = 14 ∨ t = 15 by omega) with rfl | rfl | rfl | rfl | rfl | rfl | rfl | rfl | rfl | rfl | rfl | rfl | rfl | rfl | rfl | rfl
          · rcases (show i = 0 ∨ i = 1 ∨ i = 2 ∨ i = 3 by omega) with rfl | rfl | rfl | rfl
            · refine Sim.of (c_show0_0 np mem p hn hp0 hpn eN) (fun v1 m1 q1 => ?_)
              obtain ⟨rfl, hJ⟩ := q1
              have j66 := hJ 66 (by decide)
              have j74 := hJ 74 (by decide)
              refine ⟨_, m_show0_0 np m1 p hn (by rw [j66]; exact hp66) hpn, fun v2 m2 q2 => ?_⟩
              obtain ⟨rfl, hK⟩ := q2
              refine ⟨?_, h.s0 (((jch.rf.eq hJ (by decide)).up rfl).eq hK (by decide))⟩
              simp only [j74, f0, f1, f2, f3]
            · refine Sim.of (c_show0_1 np mem p hn hp0 hpn eN) (fun v1 m1 q1 => ?_)
              obtain ⟨rfl, hJ⟩ := q1
              have j66 := hJ 66 (by decide)
              have j74 := hJ 74 (by decide)
              refine ⟨_, m_show0_1 np m1 p hn (by rw [j66]; exact hp66) hpn, fun v2 m2 q2 => ?_⟩
              obtain ⟨rfl, hK⟩ := q2
              refine ⟨?_, h.s0 (((jch.rf.eq hJ (by decide)).up rfl).eq hK (by decide))⟩
              simp only [j74, f0, f1, f2, f3]
            · refine Sim.of (c_show0_none np mem p _ hn hp0 hpn eN (by decide)) (fun v1 m1 q1 => ?_)
              obtain ⟨rfl, hJ⟩ := q1
              have j66 := hJ 66 (by decide)
              have j74 := hJ 74 (by decide)
              refine ⟨_, m_show0_none np m1 p _ hn (by rw [j66]; exact hp66) hpn (by decide), fun v2 m2 q2 => ?_⟩
              obtain ⟨rfl, hK⟩ := q2
              refine ⟨?_, h.s0 (((jch.rf.eq hJ (by decide)).up rfl).eq hK (by decide))⟩
              rfl
            · refine Sim.of (c_show0_none np mem p _ hn hp0 hpn eN (by decide)) (fun v1 m1 q1 => ?_)
              obtain ⟨rfl, hJ⟩ := q1
              have j66 := hJ 66 (by decide)
              have j74 := hJ 74 (by decide)
              refine ⟨_, m_show0_none np m1 p _ hn (by rw [j66]; exact hp66) hpn (by decide), fun v2 m2 q2 => ?_⟩
              obtain ⟨rfl, hK⟩ := q2
              refine ⟨?_, h.s0 (((jch.rf.eq hJ (by decide)).up rfl).eq hK (by decide))⟩
              rfl
          · rcases (show i = 0 ∨ i = 1 ∨ i = 2 ∨ i = 3 by omega) with rfl | rfl | rfl | rfl
            · refine Sim.of (c_show1_0 np mem p hn hp0 hpn eN) (fun v1 m1 q1 => ?_)
              obtain ⟨rfl, hJ⟩ := q1
              have j66 := hJ 66 (by decide)
              have j74 := hJ 74 (by decide)
              refine ⟨_, m_show1_0 np m1 p hn (by rw [j66]; exact hp66) hpn, fun v2 m2 q2 => ?_⟩
              obtain ⟨rfl, hK⟩ := q2
              refine ⟨?_, h.s0 (((jch.rf.eq hJ (by decide)).up rfl).eq hK (by decide))⟩
              simp only [j74, f0, f1, f2, f3]
            · refine Sim.of (c_show1_1 np mem p hn hp0 hpn eN) (fun v1 m1 q1 => ?_)
              obtain ⟨rfl, hJ⟩ := q1
              have j66 := hJ 66 (by decide)
              have j74 := hJ 74 (by decide)
              refine ⟨_, m_show1_1 np m1 p hn (by rw [j66]; exact hp66) hpn, fun v2 m2 q2 => ?_⟩
              obtain ⟨rfl, hK⟩ := q2
              refine ⟨?_, h.s0 (((jch.rf.eq hJ (by decide)).up rfl).eq hK (by decide))⟩
              simp only [j74, f0, f1, f2, f3]
            · refine Sim.of (c_show1_2 np mem p hn hp0 hpn eN) (fun v1 m1 q1 => ?_)
              obtain ⟨rfl, hJ⟩ := q1
              have j66 := hJ 66 (by decide)
              have j74 := hJ 74 (by decide)
              refine ⟨_, m_show1_2 np m1 p hn (by rw [j66]; exact hp66) hpn, fun v2 m2 q2 => ?_⟩
              obtain ⟨rfl, hK⟩ := q2
              refine ⟨?_, h.s0 (((jch.rf.eq hJ (by decide)).up rfl).eq hK (by decide))⟩
              simp only [j74, f0, f1, f2, f3]
            · refine Sim.of (c_show1_none np mem p _ hn hp0 hpn eN (by decide)) (fun v1 m1 q1 => ?_)
              obtain ⟨rfl, hJ⟩ := q1
              have j66 := hJ 66 (by decide)
              have j74 := hJ 74 (by decide)
              refine ⟨_, m_show1_none np m1 p _ hn (by rw [j66]; exact hp66) hpn (by decide), fun v2 m2 q2 => ?_⟩
              obtain ⟨rfl, hK⟩ := q2
              refine ⟨?_, h.s0 (((jch.rf.eq hJ (by decide)).up rfl).eq hK (by decide))⟩
              rfl
          · rcases (show i = 0 ∨ i = 1 ∨ i = 2 ∨ i = 3 by omega) with rfl | rfl | rfl | rfl
            · refine Sim.of (c_show2_0 np mem p hn hp0 hpn eN) (fun v1 m1 q1 => ?_)
              obtain ⟨rfl, hJ⟩ := q1
              have j66 := hJ 66 (by decide)
              have j74 := hJ 74 (by decide)
              refine ⟨_, m_show2_0 np m1 p hn (by rw [j66]; exact hp66) hpn, fun v2 m2 q2 => ?_⟩
              obtain ⟨rfl, hK⟩ := q2
              refine ⟨?_, h.s0 (((jch.rf.eq hJ (by decide)).up rfl).eq hK (by decide))⟩
              simp only [j74, f0, f1, f2, f3]
            · refine Sim.of (c_show2_1 np mem p hn hp0 hpn eN) (fun v1 m1 q1 => ?_)
              obtain ⟨rfl, hJ⟩ := q1
              have j66 := hJ 66 (by decide)
              have j74 := hJ 74 (by decide)
              refine ⟨_, m_show2_1 np m1 p hn (by rw [j66]; exact hp66) hpn, fun v2 m2 q2 => ?_⟩
              obtain ⟨rfl, hK⟩ := q2
              refine ⟨?_, h.s0 (((jch.rf.eq hJ (by decide)).up rfl).eq hK (by decide))⟩
              simp only [j74, f0, f1, f2, f3]
            · refine Sim.of (c_show2_2 np mem p hn hp0 hpn eN) (fun v1 m1 q1 => ?_)
              obtain ⟨rfl, hJ⟩ := q1
              have j66 := hJ 66 (by decide)
              have j74 := hJ 74 (by decide)
              refine ⟨_, m_show2_2 np m1 p hn (by rw [j66]; exact hp66) hpn, fun v2 m2 q2 => ?_⟩
              obtain ⟨rfl, hK⟩ := q2
              refine ⟨?_, h.s0 (((jch.rf.eq hJ (by decide)).up rfl).eq hK (by decide))⟩
              simp only [j74, f0, f1, f2, f3]
            · refine Sim.of (c_show2_none np mem p _ hn hp0 hpn eN (by decide)) (fun v1 m1 q1 => ?_)
              obtain ⟨rfl, hJ⟩ := q1
              have j66 := hJ 66 (by decide)
              have j74 := hJ 74 (by decide)
              refine ⟨_, m_show2_none np m1 p _ hn (by rw [j66]; exact hp66) hpn (by decide), fun v2 m2 q2 => ?_⟩
              obtain ⟨rfl, hK⟩ := q2
              refine ⟨?_, h.s0 (((jch.rf.eq hJ (by decide)).up rfl).eq hK (by decide))⟩
              rfl
          · rcases (show i = 0 ∨ i = 1 ∨ i = 2 ∨ i = 3 by omega) with rfl | rfl | rfl | rfl
            · refine Sim.of (c_show3_0 np mem p hn hp0 hpn eN) (fun v1 m1 q1 => ?_)
              obtain ⟨rfl, hJ⟩ := q1
              have j66 := hJ 66 (by decide)
              have j74 := hJ 74 (by decide)
              refine ⟨_, m_show3_0 np m1 p hn (by rw [j66]; exact hp66) hpn, fun v2 m2 q2 => ?_⟩
              obtain ⟨rfl, hK⟩ := q2
              refine ⟨?_, h.s0 (((jch.rf.eq hJ (by decide)).up rfl).eq hK (by decide))⟩
              simp only [j74, f0, f1, f2, f3]
            · refine Sim.of (c_show3_1 np mem p hn hp0 hpn eN) (fun v1 m1 q1 => ?_)
              obtain ⟨rfl, hJ⟩ := q1
              have j66 := hJ 66 (by decide)
              have j74 := hJ 74 (by decide)
              refine ⟨_, m_show3_1 np m1 p hn (by rw [j66]; exact hp66) hpn, fun v2 m2 q2 => ?_⟩
              obtain ⟨rfl, hK⟩ := q2
              refine ⟨?_, h.s0 (((jch.rf.eq hJ (by decide)).up rfl).eq hK (by decide))⟩
              simp only [j74, f0, f1, f2, f3]
            · refine Sim.of (c_show3_2 np mem p hn hp0 hpn eN) (fun v1 m1 q1 => ?_)
              obtain ⟨rfl, hJ⟩ := q1
              have j66 := hJ 66 (by decide)
              have j74 := hJ 74 (by decide)
              refine ⟨_, m_show3_2 np m1 p hn (by rw [j66]; exact hp66) hpn, fun v2 m2 q2 => ?_⟩
              obtain ⟨rfl, hK⟩ := q2
              refine ⟨?_, h.s0 (((jch.rf.eq hJ (by decide)).up rfl).eq hK (by decide))⟩
              simp only [j74, f0, f1, f2, f3]
            · refine Sim.of (c_show3_none np mem p _ hn hp0 hpn eN (by decide)) (fun v1 m1 q1 => ?_)
              obtain ⟨rfl, hJ⟩ := q1
              have j66 := hJ 66 (by decide)
              have j74 := hJ 74 (by decide)
              refine ⟨_, m_show3_none np m1 p _ hn (by rw [j66]; exact hp66) hpn (by decide), fun v2 m2 q2 => ?_⟩
              obtain ⟨rfl, hK⟩ := q2
              refine ⟨?_, h.s0 (((jch.rf.eq hJ (by decide)).up rfl).eq hK (by decide))⟩
              rfl
          · rcases (show i = 0 ∨ i = 1 ∨ i = 2 ∨ i = 3 by omega) with rfl | rfl | rfl | rfl
            · refine Sim.of (c_show4_0 np mem p hn hp0 hpn eN) (fun v1 m1 q1 => ?_)
              obtain ⟨rfl, hJ⟩ := q1
              have j66 := hJ 66 (by decide)
              have j74 := hJ 74 (by decide)
              refine ⟨_, m_show4_0 np m1 p hn (by rw [j66]; exact hp66) hpn, fun v2 m2 q2 => ?_⟩
              obtain ⟨rfl, hK⟩ := q2
              refine ⟨?_, h.s0 (((jch.rf.eq hJ (by decide)).up rfl).eq hK (by decide))⟩
              simp only [j74, f0, f1, f2, f3]
            · refine Sim.of (c_show4_1 np mem p hn hp0 hpn eN) (fun v1 m1 q1 => ?_)
              obtain ⟨rfl, hJ⟩ := q1
              have j66 := hJ 66 (by decide)
              have j74 := hJ 74 (by decide)
              refine ⟨_, m_show4_1 np m1 p hn (by rw [j66]; exact hp66) hpn, fun v2 m2 q2 => ?_⟩
              obtain ⟨rfl, hK⟩ := q2
              refine ⟨?_, h.s0 (((jch.rf.eq hJ (by decide)).up rfl).eq hK (by decide))⟩
              simp only [j74, f0, f1, f2, f3]
            · refine Sim.of (c_show4_2 np mem p hn hp0 hpn eN) (fun v1 m1 q1 => ?_)
              obtain ⟨rfl, hJ⟩ := q1
              have j66 := hJ 66 (by decide)
              have j74 := hJ 74 (by decide)
              refine ⟨_, m_show4_2 np m1 p hn (by rw [j66]; exact hp66) hpn, fun v2 m2 q2 => ?_⟩
              obtain ⟨rfl, hK⟩ := q2
              refine ⟨?_, h.s0 (((jch.rf.eq hJ (by decide)).up rfl).eq hK (by decide))⟩
              simp only [j74, f0, f1, f2, f3]
            · refine Sim.of (c_show4_none np mem p _ hn hp0 hpn eN (by decide)) (fun v1 m1 q1 => ?_)
              obtain ⟨rfl, hJ⟩ := q1
              have j66 := hJ 66 (by decide)
              have j74 := hJ 74 (by decide)
              refine ⟨_, m_show4_none np m1 p _ hn (by rw [j66]; exact hp66) hpn (by decide), fun v2 m2 q2 => ?_⟩
              obtain ⟨rfl, hK⟩ := q2
              refine ⟨?_, h.s0 (((jch.rf.eq hJ (by decide)).up rfl).eq hK (by decide))⟩
              rfl
          · rcases (show i = 0 ∨ i = 1 ∨ i = 2 ∨ i = 3 by omega) with rfl | rfl | rfl | rfl
            · refine Sim.of (c_show5_0 np mem p hn hp0 hpn eN) (fun v1 m1 q1 => ?_)
              obtain ⟨rfl, hJ⟩ := q1
              have j66 := hJ 66 (by decide)
              have j74 := hJ 74 (by decide)
              refine ⟨_, m_show5_0 np m1 p hn (by rw [j66]; exact hp66) hpn, fun v2 m2 q2 => ?_⟩
              obtain ⟨rfl, hK⟩ := q2
              refine ⟨?_, h.s0 (((jch.rf.eq hJ (by decide)).up rfl).eq hK (by decide))⟩
              simp only [j74, f0, f1, f2, f3]
            · refine Sim.of (c_show5_1 np mem p hn hp0 hpn eN) (fun v1 m1 q1 => ?_)
              obtain ⟨rfl, hJ⟩ := q1
              have j66 := hJ 66 (by decide)
              have j74 := hJ 74 (by decide)
              refine ⟨_, m_show5_1 np m1 p hn (by rw [j66]; exact hp66) hpn, fun v2 m2 q2 => ?_⟩
              obtain ⟨rfl, hK⟩ := q2
              refine ⟨?_, h.s0 (((jch.rf.eq hJ (by decide)).up rfl).eq hK (by decide))⟩
              simp only [j74, f0, f1, f2, f3]
            · refine Sim.of (c_show5_2 np mem p hn hp0 hpn eN) (fun v1 m1 q1 => ?_)
              obtain ⟨rfl, hJ⟩ := q1
              have j66 := hJ 66 (by decide)
              have j74 := hJ 74 (by decide)
              refine ⟨_, m_show5_2 np m1 p hn (by rw [j66]; exact hp66) hpn, fun v2 m2 q2 => ?_⟩
              obtain ⟨rfl, hK⟩ := q2
              refine ⟨?_, h.s0 (((jch.rf.eq hJ (by decide)).up rfl).eq hK (by decide))⟩
              simp only [j74, f0, f1, f2, f3]
            · refine Sim.of (c_show5_3 np mem p hn hp0 hpn eN) (fun v1 m1 q1 => ?_)
              obtain ⟨rfl, hJ⟩ := q1
              have j66 := hJ 66 (by decide)
              have j74 := hJ 74 (by decide)
              refine ⟨_, m_show5_3 np m1 p hn (by rw [j66]; exact hp66) hpn, fun v2 m2 q2 => ?_⟩
              obtain ⟨rfl, hK⟩ := q2
              refine ⟨?_, h.s0 (((jch.rf.eq hJ (by decide)).up rfl).eq hK (by decide))⟩
              simp only [j74, f0, f1, f2, f3]
          · rcases (show i = 0 ∨ i = 1 ∨ i = 2 ∨ i = 3 by omega) with rfl | rfl | rfl | rfl
            · refine Sim.of (c_show6_0 np mem p hn hp0 hpn eN) (fun v1 m1 q1 => ?_)
              obtain ⟨rfl, hJ⟩ := q1
              have j66 := hJ 66 (by decide)
              have j74 := hJ 74 (by decide)
              refine ⟨_, m_show6_0 np m1 p hn (by rw [j66]; exact hp66) hpn, fun v2 m2 q2 => ?_⟩
              obtain ⟨rfl, hK⟩ := q2
              refine ⟨?_, h.s0 (((jch.rf.eq hJ (by decide)).up rfl).eq hK (by decide))⟩
              simp only [j74, f0, f1, f2, f3]
            · refine Sim.of (c_show6_1 np mem p hn hp0 hpn eN) (fun v1 m1 q1 => ?_)
              obtain ⟨rfl, hJ⟩ := q1
              have j66 := hJ 66 (by decide)
              have j74 := hJ 74 (by decide)
              refine ⟨_, m_show6_1 np m1 p hn (by rw [j66]; exact hp66) hpn, fun v2 m2 q2 => ?_⟩
              obtain ⟨rfl, hK⟩ := q2
              refine ⟨?_, h.s0 (((jch.rf.eq hJ (by decide)).up rfl).eq hK (by decide))⟩
              simp only [j74, f0, f1, f2, f3]
            · refine Sim.of (c_show6_2 np mem p hn hp0 hpn eN) (fun v1 m1 q1 => ?_)
              obtain ⟨rfl, hJ⟩ := q1
              have j66 := hJ 66 (by decide)
              have j74 := hJ 74 (by decide)
              refine ⟨_, m_show6_2 np m1 p hn (by rw [j66]; exact hp66) hpn, fun v2 m2 q2 => ?_⟩
              obtain ⟨rfl, hK⟩ := q2
              refine ⟨?_, h.s0 (((jch.rf.eq hJ (by decide)).up rfl).eq hK (by decide))⟩
              simp only [j74, f0, f1, f2, f3]
            · refine Sim.of (c_show6_3 np mem p hn hp0 hpn eN) (fun v1 m1 q1 => ?_)
              obtain ⟨rfl, hJ⟩ := q1
              have j66 := hJ 66 (by decide)
              have j74 := hJ 74 (by decide)
              refine ⟨_, m_show6_3 np m1 p hn (by rw [j66]; exact hp66) hpn, fun v2 m2 q2 => ?_⟩
              obtain ⟨rfl, hK⟩ := q2
              refine ⟨?_, h.s0 (((jch.rf.eq hJ (by decide)).up rfl).eq hK (by decide))⟩
              simp only [j74, f0, f1, f2, f3]
          · rcases (show i = 0 ∨ i = 1 ∨ i = 2 ∨ i = 3 by omega) with rfl | rfl | rfl | rfl
            · refine Sim.of (c_show7_0 np mem p hn hp0 hpn eN) (fun v1 m1 q1 => ?_)
              obtain ⟨rfl, hJ⟩ := q1
              have j66 := hJ 66 (by decide)
              have j74 := hJ 74 (by decide)
              refine ⟨_, m_show7_0 np m1 p hn (by rw [j66]; exact hp66) hpn, fun v2 m2 q2 => ?_⟩
              obtain ⟨rfl, hK⟩ := q2
              refine ⟨?_, h.s0 (((jch.rf.eq hJ (by decide)).up rfl).eq hK (by decide))⟩
              simp only [j74, f0, f1, f2, f3]
            · refine Sim.of (c_show7_1 np mem p hn hp0 hpn eN) (fun v1 m1 q1 => ?_)
              obtain ⟨rfl, hJ⟩ := q1
              have j66 := hJ 66 (by decide)
              have j74 := hJ 74 (by decide)
              refine ⟨_, m_show7_1 np m1 p hn (by rw [j66]; exact hp66) hpn, fun v2 m2 q2 => ?_⟩
              obtain ⟨rfl, hK⟩ := q2
              refine ⟨?_, h.s0 (((jch.rf.eq hJ (by decide)).up rfl).eq hK (by decide))⟩
              simp only [j74, f0, f1, f2, f3]
            · refine Sim.of (c_show7_2 np mem p hn hp0 hpn eN) (fun v1 m1 q1 => ?_)
              obtain ⟨rfl, hJ⟩ := q1
              have j66 := hJ 66 (by decide)
              have j74 := hJ 74 (by decide)
              refine ⟨_, m_show7_2 np m1 p hn (by rw [j66]; exact hp66) hpn, fun v2 m2 q2 => ?_⟩
              obtain ⟨rfl, hK⟩ := q2
              refine ⟨?_, h.s0 (((jch.rf.eq hJ (by decide)).up rfl).eq hK (by decide))⟩
              simp only [j74, f0, f1, f2, f3]
            · refine Sim.of (c_show7_3 np mem p hn hp0 hpn eN) (fun v1 m1 q1 => ?_)
              obtain ⟨rfl, hJ⟩ := q1
              have j66 := hJ 66 (by decide)
              have j74 := hJ 74 (by decide)
              refine ⟨_, m_show7_3 np m1 p hn (by rw [j66]; exact hp66) hpn, fun v2 m2 q2 => ?_⟩
              obtain ⟨rfl, hK⟩ := q2
              refine ⟨?_, h.s0 (((jch.rf.eq hJ (by decide)).up rfl).eq hK (by decide))⟩
              simp only [j74, f0, f1, f2, f3]
          · rcases (show i = 0 ∨ i = 1 ∨ i = 2 ∨ i = 3 by omega) with rfl | rfl | rfl | rfl
            · refine Sim.of (c_show8_0 np mem p hn hp0 hpn eN) (fun v1 m1 q1 => ?_)
              obtain ⟨rfl, hJ⟩ := q1
              have j66 := hJ 66 (by decide)
              have j74 := hJ 74 (by decide)
              refine ⟨_, m_show8_0 np m1 p hn (by rw [j66]; exact hp66) hpn, fun v2 m2 q2 => ?_⟩
              obtain ⟨rfl, hK⟩ := q2
              refine ⟨?_, h.s0 (((jch.rf.eq hJ (by decide)).up rfl).eq hK (by decide))⟩
              simp only [j74, f0, f1, f2, f3]
            · refine Sim.of (c_show8_1 np mem p hn hp0 hpn eN) (fun v1 m1 q1 => ?_)
              obtain ⟨rfl, hJ⟩ := q1
              have j66 := hJ 66 (by decide)
              have j74 := hJ 74 (by decide)
              refine ⟨_, m_show8_1 np m1 p hn (by rw [j66]; exact hp66) hpn, fun v2 m2 q2 => ?_⟩
              obtain ⟨rfl, hK⟩ := q2
              refine ⟨?_, h.s0 (((jch.rf.eq hJ (by decide)).up rfl).eq hK (by decide))⟩
              simp only [j74, f0, f1, f2, f3]
            · refine Sim.of (c_show8_2 np mem p hn hp0 hpn eN) (fun v1 m1 q1 => ?_)
              obtain ⟨rfl, hJ⟩ := q1
              have j66 := hJ 66 (by decide)
              have j74 := hJ 74 (by decide)
              refine ⟨_, m_show8_2 np m1 p hn (by rw [j66]; exact hp66) hpn, fun v2 m2 q2 => ?_⟩
              obtain ⟨rfl, hK⟩ := q2
              refine ⟨?_, h.s0 (((jch.rf.eq hJ (by decide)).up rfl).eq hK (by decide))⟩
              simp only [j74, f0, f1, f2, f3]
            · refine Sim.of (c_show8_none np mem p _ hn hp0 hpn eN (by decide)) (fun v1 m1 q1 => ?_)
              obtain ⟨rfl, hJ⟩ := q1
              have j66 := hJ 66 (by decide)
              have j74 := hJ 74 (by decide)
              refine ⟨_, m_show8_none np m1 p _ hn (by rw [j66]; exact hp66) hpn (by decide), fun v2 m2 q2 => ?_⟩
              obtain ⟨rfl, hK⟩ := q2
              refine ⟨?_, h.s0 (((jch.rf.eq hJ (by decide)).up rfl).eq hK (by decide))⟩
              rfl
          · rcases (show i = 0 ∨ i = 1 ∨ i = 2 ∨ i = 3 by omega) with rfl | rfl | rfl | rfl
            · refine Sim.of (c_show9_0 np mem p hn hp0 hpn eN) (fun v1 m1 q1 => ?_)
              obtain ⟨rfl, hJ⟩ := q1
              have j66 := hJ 66 (by decide)
              have j74 := hJ 74 (by decide)
              refine ⟨_, m_show9_0 np m1 p hn (by rw [j66]; exact hp66) hpn, fun v2 m2 q2 => ?_⟩
              obtain ⟨rfl, hK⟩ := q2
              refine ⟨?_, h.s0 (((jch.rf.eq hJ (by decide)).up rfl).eq hK (by decide))⟩
              simp only [j74, f0, f1, f2, f3]
            · refine Sim.of (c_show9_1 np mem p hn hp0 hpn eN) (fun v1 m1 q1 => ?_)
              obtain ⟨rfl, hJ⟩ := q1
              have j66 := hJ 66 (by decide)
              have j74 := hJ 74 (by decide)
              refine ⟨_, m_show9_1 np m1 p hn (by rw [j66]; exact hp66) hpn, fun v2 m2 q2 => ?_⟩
              obtain ⟨rfl, hK⟩ := q2
              refine ⟨?_, h.s0 (((jch.rf.eq hJ (by decide)).up rfl).eq hK (by decide))⟩
              simp only [j74, f0, f1, f2, f3]
            · refine Sim.of (c_show9_2 np mem p hn hp0 hpn eN) (fun v1 m1 q1 => ?_)
              obtain ⟨rfl, hJ⟩ := q1
              have j66 := hJ 66 (by decide)
              have j74 := hJ 74 (by decide)
              refine ⟨_, m_show9_2 np m1 p hn (by rw [j66]; exact hp66) hpn, fun v2 m2 q2 => ?_⟩
              obtain ⟨rfl, hK⟩ := q2
              refine ⟨?_, h.s0 (((jch.rf.eq hJ (by decide)).up rfl).eq hK (by decide))⟩
              simp only [j74, f0, f1, f2, f3]
            · refine Sim.of (c_show9_3 np mem p hn hp0 hpn eN) (fun v1 m1 q1 => ?_)
              obtain ⟨rfl, hJ⟩ := q1
              have j66 := hJ 66 (by decide)
              have j74 := hJ 74 (by decide)
              refine ⟨_, m_show9_3 np m1 p hn (by rw [j66]; exact hp66) hpn, fun v2 m2 q2 => ?_⟩
              obtain ⟨rfl, hK⟩ := q2
              refine ⟨?_, h.s0 (((jch.rf.eq hJ (by decide)).up rfl).eq hK (by decide))⟩
              simp only [j74, f0, f1, f2, f3]
          · rcases (show i = 0 ∨ i = 1 ∨ i = 2 ∨ i = 3 by omega) with rfl | rfl | rfl | rfl
            · refine Sim.of (c_show10_0 np mem p hn hp0 hpn eN) (fun v1 m1 q1 => ?_)
              obtain ⟨rfl, hJ⟩ := q1
              have j66 := hJ 66 (by decide)
              have j74 := hJ 74 (by decide)
              refine ⟨_, m_show10_0 np m1 p hn (by rw [j66]; exact hp66) hpn, fun v2 m2 q2 => ?_⟩
              obtain ⟨rfl, hK⟩ := q2
              refine ⟨?_, h.s0 (((jch.rf.eq hJ (by decide)).up rfl).eq hK (by decide))⟩
              simp only [j74, f0, f1, f2, f3]
            · refine Sim.of (c_show10_1 np mem p hn hp0 hpn eN) (fun v1 m1 q1 => ?_)
              obtain ⟨rfl, hJ⟩ := q1
              have j66 := hJ 66 (by decide)
              have j74 := hJ 74 (by decide)
              refine ⟨_, m_show10_1 np m1 p hn (by rw [j66]; exact hp66) hpn, fun v2 m2 q2 => ?_⟩
              obtain ⟨rfl, hK⟩ := q2
              refine ⟨?_, h.s0 (((jch.rf.eq hJ (by decide)).up rfl).eq hK (by decide))⟩
              simp only [j74, f0, f1, f2, f3]
            · refine Sim.of (c_show10_2 np mem p hn hp0 hpn eN) (fun v1 m1 q1 => ?_)
              obtain ⟨rfl, hJ⟩ := q1
              have j66 := hJ 66 (by decide)
              have j74 := hJ 74 (by decide)
              refine ⟨_, m_show10_2 np m1 p hn (by rw [j66]; exact hp66) hpn, fun v2 m2 q2 => ?_⟩
              obtain ⟨rfl, hK⟩ := q2
              refine ⟨?_, h.s0 (((jch.rf.eq hJ (by decide)).up rfl).eq hK (by decide))⟩
              simp only [j74, f0, f1, f2, f3]
            · refine Sim.of (c_show10_3 np mem p hn hp0 hpn eN) (fun v1 m1 q1 => ?_)
              obtain ⟨rfl, hJ⟩ := q1
              have j66 := hJ 66 (by decide)
              have j74 := hJ 74 (by decide)
              refine ⟨_, m_show10_3 np m1 p hn (by rw [j66]; exact hp66) hpn, fun v2 m2 q2 => ?_⟩
              obtain ⟨rfl, hK⟩ := q2
              refine ⟨?_, h.s0 (((jch.rf.eq hJ (by decide)).up rfl).eq hK (by decide))⟩
              simp only [j74, f0, f1, f2, f3]
          · rcases (show i = 0 ∨ i = 1 ∨ i = 2 ∨ i = 3 by omega) with rfl | rfl | rfl | rfl
            · refine Sim.of (c_show11_0 np mem p hn hp0 hpn eN) (fun v1 m1 q1 => ?_)
              obtain ⟨rfl, hJ⟩ := q1
              have j66 := hJ 66 (by decide)
              have j74 := hJ 74 (by decide)
              refine ⟨_, m_show11_0 np m1 p hn (by rw [j66]; exact hp66) hpn, fun v2 m2 q2 => ?_⟩
              obtain ⟨rfl, hK⟩ := q2
              refine ⟨?_, h.s0 (((jch.rf.eq hJ (by decide)).up rfl).eq hK (by decide))⟩
              simp only [j74, f0, f1, f2, f3]
            · refine Sim.of (c_show11_1 np mem p hn hp0 hpn eN) (fun v1 m1 q1 => ?_)
              obtain ⟨rfl, hJ⟩ := q1
              have j66 := hJ 66 (by decide)
              have j74 := hJ 74 (by decide)
              refine ⟨_, m_show11_1 np m1 p hn (by rw [j66]; exact hp66) hpn, fun v2 m2 q2 => ?_⟩
              obtain ⟨rfl, hK⟩ := q2
              refine ⟨?_, h.s0 (((jch.rf.eq hJ (by decide)).up rfl).eq hK (by decide))⟩
              simp only [j74, f0, f1, f2, f3]
            · refine Sim.of (c_show11_2 np mem p hn hp0 hpn eN) (fun v1 m1 q1 => ?_)
              obtain ⟨rfl, hJ⟩ := q1
              have j66 := hJ 66 (by decide)
              have j74 := hJ 74 (by decide)
              refine ⟨_, m_show11_2 np m1 p hn (by rw [j66]; exact hp66) hpn, fun v2 m2 q2 => ?_⟩
              obtain ⟨rfl, hK⟩ := q2
              refine ⟨?_, h.s0 (((jch.rf.eq hJ (by decide)).up rfl).eq hK (by decide))⟩
              simp only [j74, f0, f1, f2, f3]
            · refine Sim.of (c_show11_3 np mem p hn hp0 hpn eN) (fun v1 m1 q1 => ?_)
              obtain ⟨rfl, hJ⟩ := q1
              have j66 := hJ 66 (by decide)
              have j74 := hJ 74 (by decide)
              refine ⟨_, m_show11_3 np m1 p hn (by rw [j66]; exact hp66) hpn, fun v2 m2 q2 => ?_⟩
              obtain ⟨rfl, hK⟩ := q2
              refine ⟨?_, h.s0 (((jch.rf.eq hJ (by decide)).up rfl).eq hK (by decide))⟩
              simp only [j74, f0, f1, f2, f3]
          · rcases (show i = 0 ∨ i = 1 ∨ i = 2 ∨ i = 3 by omega) with rfl | rfl | rfl | rfl
            · refine Sim.of (c_show12_0 np mem p hn hp0 hpn eN) (fun v1 m1 q1 => ?_)
              obtain ⟨rfl, hJ⟩ := q1
              have j66 := hJ 66 (by decide)
              have j74 := hJ 74 (by decide)
              refine ⟨_, m_show12_0 np m1 p hn (by rw [j66]; exact hp66) hpn, fun v2 m2 q2 => ?_⟩
              obtain ⟨rfl, hK⟩ := q2
              refine ⟨?_, h.s0 (((jch.rf.eq hJ (by decide)).up rfl).eq hK (by decide))⟩
              simp only [j74, f0, f1, f2, f3]
            · refine Sim.of (c_show12_1 np mem p hn hp0 hpn eN) (fun v1 m1 q1 => ?_)
              obtain ⟨rfl, hJ⟩ := q1
              have j66 := hJ 66 (by decide)
              have j74 := hJ 74 (by decide)
              refine ⟨_, m_show12_1 np m1 p hn (by rw [j66]; exact hp66) hpn, fun v2 m2 q2 => ?_⟩
              obtain ⟨rfl, hK⟩ := q2
              refine ⟨?_, h.s0 (((jch.rf.eq hJ (by decide)).up rfl).eq hK (by decide))⟩
              simp only [j74, f0, f1, f2, f3]
            · refine Sim.of (c_show12_2 np mem p hn hp0 hpn eN) (fun v1 m1 q1 => ?_)
              obtain ⟨rfl, hJ⟩ := q1
              have j66 := hJ 66 (by decide)
              have j74 := hJ 74 (by decide)
              refine ⟨_, m_show12_2 np m1 p hn (by rw [j66]; exact hp66) hpn, fun v2 m2 q2 => ?_⟩
              obtain ⟨rfl, hK⟩ := q2
              refine ⟨?_, h.s0 (((jch.rf.eq hJ (by decide)).up rfl).eq hK (by decide))⟩
              simp only [j74, f0, f1, f2, f3]
            · refine Sim.of (c_show12_none np mem p _ hn hp0 hpn eN (by decide)) (fun v1 m1 q1 => ?_)
              obtain ⟨rfl, hJ⟩ := q1
              have j66 := hJ 66 (by decide)
              have j74 := hJ 74 (by decide)
              refine ⟨_, m_show12_none np m1 p _ hn (by rw [j66]; exact hp66) hpn (by decide), fun v2 m2 q2 => ?_⟩
              obtain ⟨rfl, hK⟩ := q2
              refine ⟨?_, h.s0 (((jch.rf.eq hJ (by decide)).up rfl).eq hK (by decide))⟩
              rfl
          · rcases (show i = 0 ∨ i = 1 ∨ i = 2 ∨ i = 3 by omega) with rfl | rfl | rfl | rfl
            · refine Sim.of (c_show13_0 np mem p hn hp0 hpn eN) (fun v1 m1 q1 => ?_)
              obtain ⟨rfl, hJ⟩ := q1
              have j66 := hJ 66 (by decide)
              have j74 := hJ 74 (by decide)
              refine ⟨_, m_show13_0 np m1 p hn (by rw [j66]; exact hp66) hpn, fun v2 m2 q2 => ?_⟩
              obtain ⟨rfl, hK⟩ := q2
              refine ⟨?_, h.s0 (((jch.rf.eq hJ (by decide)).up rfl).eq hK (by decide))⟩
              simp only [j74, f0, f1, f2, f3]
            · refine Sim.of (c_show13_1 np mem p hn hp0 hpn eN) (fun v1 m1 q1 => ?_)
              obtain ⟨rfl, hJ⟩ := q1
              have j66 := hJ 66 (by decide)
              have j74 := hJ 74 (by decide)
              refine ⟨_, m_show13_1 np m1 p hn (by rw [j66]; exact hp66) hpn, fun v2 m2 q2 => ?_⟩
              obtain ⟨rfl, hK⟩ := q2
              refine ⟨?_, h.s0 (((jch.rf.eq hJ (by decide)).up rfl).eq hK (by decide))⟩
              simp only [j74, f0, f1, f2, f3]
            · refine Sim.of (c_show13_2 np mem p hn hp0 hpn eN) (fun v1 m1 q1 => ?_)
              obtain ⟨rfl, hJ⟩ := q1
              have j66 := hJ 66 (by decide)
              have j74 := hJ 74 (by decide)
              refine ⟨_, m_show13_2 np m1 p hn (by rw [j66]; exact hp66) hpn, fun v2 m2 q2 => ?_⟩
              obtain ⟨rfl, hK⟩ := q2
              refine ⟨?_, h.s0 (((jch.rf.eq hJ (by decide)).up rfl).eq hK (by decide))⟩
              simp only [j74, f0, f1, f2, f3]
            · refine Sim.of (c_show13_3 np mem p hn hp0 hpn eN) (fun v1 m1 q1 => ?_)
              obtain ⟨rfl, hJ⟩ := q1
              have j66 := hJ 66 (by decide)
              have j74 := hJ 74 (by decide)
              refine ⟨_, m_show13_3 np m1 p hn (by rw [j66]; exact hp66) hpn, fun v2 m2 q2 => ?_⟩
              obtain ⟨rfl, hK⟩ := q2
              refine ⟨?_, h.s0 (((jch.rf.eq hJ (by decide)).up rfl).eq hK (by decide))⟩
              simp only [j74, f0, f1, f2, f3]
          · rcases (show i = 0 ∨ i = 1 ∨ i = 2 ∨ i = 3 by omega) with rfl | rfl | rfl | rfl
            · refine Sim.of (c_show14_0 np mem p hn hp0 hpn eN) (fun v1 m1 q1 => ?_)
              obtain ⟨rfl, hJ⟩ := q1
              have j66 := hJ 66 (by decide)
              have j74 := hJ 74 (by decide)
              refine ⟨_, m_show14_0 np m1 p hn (by rw [j66]; exact hp66) hpn, fun v2 m2 q2 => ?_⟩
              obtain ⟨rfl, hK⟩ := q2
              refine ⟨?_, h.s0 (((jch.rf.eq hJ (by decide)).up rfl).eq hK (by decide))⟩
              simp only [j74, f0, f1, f2, f3]
            · refine Sim.of (c_show14_1 np mem p hn hp0 hpn eN) (fun v1 m1 q1 => ?_)
              obtain ⟨rfl, hJ⟩ := q1
              have j66 := hJ 66 (by decide)
              have j74 := hJ 74 (by decide)
              refine ⟨_, m_show14_1 np m1 p hn (by rw [j66]; exact hp66) hpn, fun v2 m2 q2 => ?_⟩
              obtain ⟨rfl, hK⟩ := q2
              refine ⟨?_, h.s0 (((jch.rf.eq hJ (by decide)).up rfl).eq hK (by decide))⟩
              simp only [j74, f0, f1, f2, f3]
            · refine Sim.of (c_show14_2 np mem p hn hp0 hpn eN) (fun v1 m1 q1 => ?_)
              obtain ⟨rfl, hJ⟩ := q1
              have j66 := hJ 66 (by decide)
              have j74 := hJ 74 (by decide)
              refine ⟨_, m_show14_2 np m1 p hn (by rw [j66]; exact hp66) hpn, fun v2 m2 q2 => ?_⟩
              obtain ⟨rfl, hK⟩ := q2
              refine ⟨?_, h.s0 (((jch.rf.eq hJ (by decide)).up rfl).eq hK (by decide))⟩
              simp only [j74, f0, f1, f2, f3]
            · refine Sim.of (c_show14_3 np mem p hn hp0 hpn eN) (fun v1 m1 q1 => ?_)
              obtain ⟨rfl, hJ⟩ := q1
              have j66 := hJ 66 (by decide)
              have j74 := hJ 74 (by decide)
              refine ⟨_, m_show14_3 np m1 p hn (by rw [j66]; exact hp66) hpn, fun v2 m2 q2 => ?_⟩
              obtain ⟨rfl, hK⟩ := q2
              refine ⟨?_, h.s0 (((jch.rf.eq hJ (by decide)).up rfl).eq hK (by decide))⟩
              simp only [j74, f0, f1, f2, f3]
          · rcases (show i = 0 ∨ i = 1 ∨ i = 2 ∨ i = 3 by omega) with rfl | rfl | rfl | rfl
            · refine Sim.of (c_show15_0 np mem p hn hp0 hpn eN) (fun v1 m1 q1 => ?_)
              obtain ⟨rfl, hJ⟩ := q1
              have j66 := hJ 66 (by decide)
              have j74 := hJ 74 (by decide)
              refine ⟨_, m_show15_0 np m1 p hn (by rw [j66]; exact hp66) hpn, fun v2 m2 q2 => ?_⟩
              obtain ⟨rfl, hK⟩ := q2
              refine ⟨?_, h.s0 (((jch.rf.eq hJ (by decide)).up rfl).eq hK (by decide))⟩
              simp only [j74, f0, f1, f2, f3]
            · refine Sim.of (c_show15_1 np mem p hn hp0 hpn eN) (fun v1 m1 q1 => ?_)
              obtain ⟨rfl, hJ⟩ := q1
              have j66 := hJ 66 (by decide)
              have j74 := hJ 74 (by decide)
              refine ⟨_, m_show15_1 np m1 p hn (by rw [j66]; exact hp66) hpn, fun v2 m2 q2 => ?_⟩
              obtain ⟨rfl, hK⟩ := q2
              refine ⟨?_, h.s0 (((jch.rf.eq hJ (by decide)).up rfl).eq hK (by decide))⟩
              simp only [j74, f0, f1, f2, f3]
            · refine Sim.of (c_show15_2 np mem p hn hp0 hpn eN) (fun v1 m1 q1 => ?_)
              obtain ⟨rfl, hJ⟩ := q1
              have j66 := hJ 66 (by decide)
              have j74 := hJ 74 (by decide)
              refine ⟨_, m_show15_2 np m1 p hn (by rw [j66]; exact hp66) hpn, fun v2 m2 q2 => ?_⟩
              obtain ⟨rfl, hK⟩ := q2
              refine ⟨?_, h.s0 (((jch.rf.eq hJ (by decide)).up rfl).eq hK (by decide))⟩
              simp only [j74, f0, f1, f2, f3]
            · refine Sim.of (c_show15_3 np mem p hn hp0 hpn eN) (fun v1 m1 q1 => ?_)
              obtain ⟨rfl, hJ⟩ := q1
              have j66 := hJ 66 (by decide)
              have j74 := hJ 74 (by decide)
              refine ⟨_, m_show15_3 np m1 p hn (by rw [j66]; exact hp66) hpn, fun v2 m2 q2 => ?_⟩
              obtain ⟨rfl, hK⟩ := q2
              refine ⟨?_, h.s0 (((jch.rf.eq hJ (by decide)).up rfl).eq hK (by decide))⟩
              simp only [j74, f0, f1, f2, f3]
        · clear hi hm1
          rcases (show t = 0 ∨ t = 1 ∨ t = 2 ∨ t = 3 ∨ t = 4 ∨ t = 5 ∨ t = 6 ∨ t = 7 ∨ t = 8 ∨ t = 9 ∨ t = 10 ∨ t = 11 ∨ t = 12 ∨ t = 13 ∨ t = 14 ∨ t = 15 by omega) with rfl | rfl | rfl | rfl | rfl | rfl | rfl | rfl | rfl | rfl | rfl | rfl | rfl | rfl | rfl | rfl
          · refine Sim.of (c_show0_none np mem p i hn hp0 hpn eN (by omega)) (fun v1 m1 q1 => ?_)
            obtain ⟨rfl, hJ⟩ := q1
            have j66 := hJ 66 (by decide)
            have j74 := hJ 74 (by decide)
            refine ⟨_, m_show0_none np m1 p i hn (by rw [j66]; exact hp66) hpn (by omega), fun v2 m2 q2 => ?_⟩
            obtain ⟨rfl, hK⟩ := q2
            refine ⟨?_, h.s0 (((jch.rf.eq hJ (by decide)).up rfl).eq hK (by decide))⟩
            rfl
          · refine Sim.of (c_show1_none np mem p i hn hp0 hpn eN (by omega)) (fun v1 m1 q1 => ?_)
            obtain ⟨rfl, hJ⟩ := q1
            have j66 := hJ 66 (by decide)
            have j74 := hJ 74 (by decide)
            refine ⟨_, m_show1_none np m1 p i hn (by rw [j66]; exact hp66) hpn (by omega), fun v2 m2 q2 => ?_⟩
            obtain ⟨rfl, hK⟩ := q2
            refine ⟨?_, h.s0 (((jch.rf.eq hJ (by decide)).up rfl).eq hK (by decide))⟩
            rfl
          · refine Sim.of (c_show2_none np mem p i hn hp0 hpn eN (by omega)) (fun v1 m1 q1 => ?_)
            obtain ⟨rfl, hJ⟩ := q1
            have j66 := hJ 66 (by decide)
            have j74 := hJ 74 (by decide)
            refine ⟨_, m_show2_none np m1 p i hn (by rw [j66]; exact hp66) hpn (by omega), fun v2 m2 q2 => ?_⟩
            obtain ⟨rfl, hK⟩ := q2
            refine ⟨?_, h.s0 (((jch.rf.eq hJ (by decide)).up rfl).eq hK (by decide))⟩
            rfl
          · refine Sim.of (c_show3_none np mem p i hn hp0 hpn eN (by omega)) (fun v1 m1 q1 => ?_)
            obtain ⟨rfl, hJ⟩ := q1
            have j66 := hJ 66 (by decide)
            have j74 := hJ 74 (by decide)
            refine ⟨_, m_show3_none np m1 p i hn (by rw [j66]; exact hp66) hpn (by omega), fun v2 m2 q2 => ?_⟩
            obtain ⟨rfl, hK⟩ := q2
            refine ⟨?_, h.s0 (((jch.rf.eq hJ (by decide)).up rfl).eq hK (by decide))⟩
            rfl
          · refine Sim.of (c_show4_none np mem p i hn hp0 hpn eN (by omega)) (fun v1 m1 q1 => ?_)
            obtain ⟨rfl, hJ⟩ := q1
            have j66 := hJ 66 (by decide)
            have j74 := hJ 74 (by decide)
            refine ⟨_, m_show4_none np m1 p i hn (by rw [j66]; exact hp66) hpn (by omega), fun v2 m2 q2 => ?_⟩
            obtain ⟨rfl, hK⟩ := q2
            refine ⟨?_, h.s0 (((jch.rf.eq hJ (by decide)).up rfl).eq hK (by decide))⟩
            rfl
          · refine Sim.of (c_show5_none np mem p i hn hp0 hpn eN (by omega)) (fun v1 m1 q1 => ?_)
            obtain ⟨rfl, hJ⟩ := q1
            have j66 := hJ 66 (by decide)
            have j74 := hJ 74 (by decide)
            refine ⟨_, m_show5_none np m1 p i hn (by rw [j66]; exact hp66) hpn (by omega), fun v2 m2 q2 => ?_⟩
            obtain ⟨rfl, hK⟩ := q2
            refine ⟨?_, h.s0 (((jch.rf.eq hJ (by decide)).up rfl).eq hK (by decide))⟩
            rfl
          · refine Sim.of (c_show6_none np mem p i hn hp0 hpn eN (by omega)) (fun v1 m1 q1 => ?_)
            obtain ⟨rfl, hJ⟩ := q1
            have j66 := hJ 66 (by decide)
            have j74 := hJ 74 (by decide)
            refine ⟨_, m_show6_none np m1 p i hn (by rw [j66]; exact hp66) hpn (by omega), fun v2 m2 q2 => ?_⟩
            obtain ⟨rfl, hK⟩ := q2
            refine ⟨?_, h.s0 (((jch.rf.eq hJ (by decide)).up rfl).eq hK (by decide))⟩
            rfl
          · refine Sim.of (c_show7_none np mem p i hn hp0 hpn eN (by omega)) (fun v1 m1 q1 => ?_)
            obtain ⟨rfl, hJ⟩ := q1
            have j66 := hJ 66 (by decide)
            have j74 := hJ 74 (by decide)
            refine ⟨_, m_show7_none np m1 p i hn (by rw [j66]; exact hp66) hpn (by omega), fun v2 m2 q2 => ?_⟩
            obtain ⟨rfl, hK⟩ := q2
            refine ⟨?_, h.s0 (((jch.rf.eq hJ (by decide)).up rfl).eq hK (by decide))⟩
            rfl
          · refine Sim.of (c_show8_none np mem p i hn hp0 hpn eN (by omega)) (fun v1 m1 q1 => ?_)
            obtain ⟨rfl, hJ⟩ := q1
            have j66 := hJ 66 (by decide)
            have j74 := hJ 74 (by decide)
            refine ⟨_, m_show8_none np m1 p i hn (by rw [j66]; exact hp66) hpn (by omega), fun v2 m2 q2 => ?_⟩
            obtain ⟨rfl, hK⟩ := q2
            refine ⟨?_, h.s0 (((jch.rf.eq hJ (by decide)).up rfl).eq hK (by decide))⟩
            rfl
          · refine Sim.of (c_show9_none np mem p i hn hp0 hpn eN (by omega)) (fun v1 m1 q1 => ?_)
            obtain ⟨rfl, hJ⟩ := q1
            have j66 := hJ 66 (by decide)
            have j74 := hJ 74 (by decide)
            refine ⟨_, m_show9_none np m1 p i hn (by rw [j66]; exact hp66) hpn (by omega), fun v2 m2 q2 => ?_⟩
            obtain ⟨rfl, hK⟩ := q2
            refine ⟨?_, h.s0 (((jch.rf.eq hJ (by decide)).up rfl).eq hK (by decide))⟩
            rfl
          · refine Sim.of (c_show10_none np mem p i hn hp0 hpn eN (by omega)) (fun v1 m1 q1 => ?_)
            obtain ⟨rfl, hJ⟩ := q1
            have j66 := hJ 66 (by decide)
            have j74 := hJ 74 (by decide)
            refine ⟨_, m_show10_none np m1 p i hn (by rw [j66]; exact hp66) hpn (by omega), fun v2 m2 q2 => ?_⟩
            obtain ⟨rfl, hK⟩ := q2
            refine ⟨?_, h.s0 (((jch.rf.eq hJ (by decide)).up rfl).eq hK (by decide))⟩
            rfl
          · refine Sim.of (c_show11_none np mem p i hn hp0 hpn eN (by omega)) (fun v1 m1 q1 => ?_)
            obtain ⟨rfl, hJ⟩ := q1
            have j66 := hJ 66 (by decide)
            have j74 := hJ 74 (by decide)
            refine ⟨_, m_show11_none np m1 p i hn (by rw [j66]; exact hp66) hpn (by omega), fun v2 m2 q2 => ?_⟩
            obtain ⟨rfl, hK⟩ := q2
            refine ⟨?_, h.s0 (((jch.rf.eq hJ (by decide)).up rfl).eq hK (by decide))⟩
            rfl
          · refine Sim.of (c_show12_none np mem p i hn hp0 hpn eN (by omega)) (fun v1 m1 q1 => ?_)
            obtain ⟨rfl, hJ⟩ := q1
            have j66 := hJ 66 (by decide)
            have j74 := hJ 74 (by decide)
            refine ⟨_, m_show12_none np m1 p i hn (by rw [j66]; exact hp66) hpn (by omega), fun v2 m2 q2 => ?_⟩
            obtain ⟨rfl, hK⟩ := q2
            refine ⟨?_, h.s0 (((jch.rf.eq hJ (by decide)).up rfl).eq hK (by decide))⟩
            rfl
          · refine Sim.of (c_show13_none np mem p i hn hp0 hpn eN (by omega)) (fun v1 m1 q1 => ?_)
            obtain ⟨rfl, hJ⟩ := q1
            have j66 := hJ 66 (by decide)
            have j74 := hJ 74 (by decide)
            refine ⟨_, m_show13_none np m1 p i hn (by rw [j66]; exact hp66) hpn (by omega), fun v2 m2 q2 => ?_⟩
            obtain ⟨rfl, hK⟩ := q2
            refine ⟨?_, h.s0 (((jch.rf.eq hJ (by decide)).up rfl).eq hK (by decide))⟩
            rfl
          · refine Sim.of (c_show14_none np mem p i hn hp0 hpn eN (by omega)) (fun v1 m1 q1 => ?_)
            obtain ⟨rfl, hJ⟩ := q1
            have j66 := hJ 66 (by decide)
            have j74 := hJ 74 (by decide)
            refine ⟨_, m_show14_none np m1 p i hn (by rw [j66]; exact hp66) hpn (by omega), fun v2 m2 q2 => ?_⟩
            obtain ⟨rfl, hK⟩ := q2
            refine ⟨?_, h.s0 (((jch.rf.eq hJ (by decide)).up rfl).eq hK (by decide))⟩
            rfl
          · refine Sim.of (c_show15_none np mem p i hn hp0 hpn eN (by omega)) (fun v1 m1 q1 => ?_)
            obtain ⟨rfl, hJ⟩ := q1
            have j66 := hJ 66 (by decide)
            have j74 := hJ 74 (by decide)
            refine ⟨_, m_show15_none np m1 p i hn (by rw [j66]; exact hp66) hpn (by omega), fun v2 m2 q2 => ?_⟩
            obtain ⟨rfl, hK⟩ := q2
            refine ⟨?_, h.s0 (((jch.rf.eq hJ (by decide)).up rfl).eq hK (by decide))⟩
            rfl
    · exact Sim.ee (c_show_bad np mem p t i hn hp0 hpn hw) (m_show_bad np _ (nI p) t i hn hp66 (fun q => hw q.2)) rfl h.th
  · exact Sim.ee (c_show_p np mem p t i hn hp0 hp) (m_show_bad np _ p t i hn hp66 (fun q => hp q.1)) rfl h.th
