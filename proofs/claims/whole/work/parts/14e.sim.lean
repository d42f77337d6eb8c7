theorem Inv.c3 {np : Nat} {m m2 : jMem} (h : Inv np m) (hc : jch [75, 92, 94, 96, 98, 100, 102, 104, 106, 108, 110, 112, 114] [] [0] [] [] [] m m2) (qI3 : I3 np m2) : Inv np m2 := by
  obtain ⟨h1, h2, h3, h4, h5, h6, h7, h8, h9, h10, h11, h12⟩ := h
  exact ⟨h1.fr hc (by decide), h2.fr hc (by decide), qI3, h4.fr hc (by decide) (by decide), h5.fr hc (by decide) (by decide), h6.fr hc (by decide), h7.fr hc (by decide), h8.fr hc (by decide), h9.fr hc (by decide) (by decide) (by decide), h10.fr hc (by decide) (by decide), h11.fr hc (by decide) (by decide) (by decide), h12.fr hc (by decide) (by decide) (by decide)⟩
theorem m92 {p : Nat} (h : p < 12) : 92 + 2 * p ∈ [75, 92, 94, 96, 98, 100, 102, 104, 106, 108, 110, 112, 114] ∧ 92 + 2 * p ≠ 0 ∧ 92 + 2 * p ≠ 66 ∧ 92 + 2 * p ≠ 51 ∧ 92 + 2 * p ≠ 55 ∧ 92 + 2 * p ≠ 63 := by
  rcases (show p = 0 ∨ p = 1 ∨ p = 2 ∨ p = 3 ∨ p = 4 ∨ p = 5 ∨ p = 6 ∨ p = 7 ∨ p = 8 ∨ p = 9 ∨ p = 10 ∨ p = 11 by omega) with rfl | rfl | rfl | rfl | rfl | rfl | rfl | rfl | rfl | rfl | rfl | rfl <;> decide
theorem jev_min {x y bk d : Int32} (h : jev x y) (hb : jin bk 0 999) (hd : jin d 0 999) : x ≤ jmn bk d ↔ ((y ≠ -1000000 ∧ y ≤ bk) ∧ y ≤ d) := by
  have hm : (jmn bk d).toInt = if d.toInt < bk.toInt then d.toInt else bk.toInt := by
    unfold jmn
    by_cases q : d < bk
    · rw [if_pos q, if_pos (Int32.lt_iff_toInt_lt.mp q)]
    · rw [if_neg q, if_neg (fun z => q (Int32.lt_iff_toInt_lt.mpr z))]
  rcases h with ⟨rfl, rfl⟩ | ⟨rfl, hx⟩
  · refine ⟨fun q => ?_, fun q => absurd rfl q.1.1⟩
    have q2 := Int32.le_iff_toInt_le.mp q
    rw [hm] at q2
    have : (1000 : Int32).toInt = 1000 := by decide
    split at q2 <;> omega
  · have hne : x ≠ -1000000 := fun e => by rw [e] at hx; exact absurd hx.1 (by decide)
    rw [Int32.le_iff_toInt_le, Int32.le_iff_toInt_le, Int32.le_iff_toInt_le, hm]
    constructor
    · intro q
      split at q <;> exact ⟨⟨hne, by omega⟩, by omega⟩
    · intro q
      split <;> omega
theorem jev_bu {x y bk fi : Int32} (h : jev x y) (hb : jin bk 0 999) : (x ≤ bk ∧ x ≤ fi) ↔ ((y ≠ -1000000 ∧ y ≤ bk) ∧ y ≤ fi) := by
  rcases h with ⟨rfl, rfl⟩ | ⟨rfl, hx⟩
  · refine ⟨fun q => ?_, fun q => absurd rfl q.1.1⟩
    have q2 := Int32.le_iff_toInt_le.mp q.1
    have : (1000 : Int32).toInt = 1000 := by decide
    omega
  · have hne : x ≠ -1000000 := fun e => by rw [e] at hx; exact absurd hx.1 (by decide)
    exact ⟨fun q => ⟨⟨hne, q.1⟩, q.2⟩, fun q => ⟨q.1.2, q.2⟩⟩
theorem jev_d {x y d : Int32} (h : jev x y) (hd : jin d 0 999) : x ≤ d ↔ (y ≠ -1000000 ∧ y ≤ d) := by
  rcases h with ⟨rfl, rfl⟩ | ⟨rfl, hx⟩
  · refine ⟨fun q => ?_, fun q => absurd rfl q.1⟩
    have q2 := Int32.le_iff_toInt_le.mp q
    have : (1000 : Int32).toInt = 1000 := by decide
    omega
  · have hne : x ≠ -1000000 := fun e => by rw [e] at hx; exact absurd hx.1 (by decide)
    exact ⟨fun q => ⟨hne, q⟩, fun q => q.2⟩
theorem hold_e {fi la tb rv eC eM bC bM bk d : Int32} (h1 : jev tb rv) (h2 : jev eC eM) (h3 : jev bC bM) (hb : jin bk 0 999) (hd : jin d 0 999) : jHoldC fi la tb eC bC bk d = jHold fi la rv eM bM bk d := by
  unfold jHoldC jHold
  simp only [jev_min h1 hb hd, jev_min h2 hb hd, jev_bu h3 hb]
theorem kind_e {tb rv day so : Int32} (h : jev tb rv) (hd : jin day 0 999) : jKindC tb day so = jKind rv day so := by
  unfold jKindC jKind
  simp only [jev_d h hd]
theorem jmxT {a b : Int32} : (jmx a b).toInt = if a.toInt < b.toInt then b.toInt else a.toInt := by
  unfold jmx
  by_cases q : a < b
  · rw [if_pos q, if_pos (Int32.lt_iff_toInt_lt.mp q)]
  · rw [if_neg q, if_neg (fun z => q (Int32.lt_iff_toInt_lt.mpr z))]
theorem max4_e {a b c d : Int32} (ha : jin a 0 999) (hb : jin b 0 999) (hc : jin c 0 999) (hd : jin d 0 999) : jmx (jmx a b) (jmx c d) = jMax4 a b c d := by
  rw [fa_eq]
  unfold jMax4
  have h0 : (0 : Int32).toInt = 0 := by decide
  simp only [jmxT, h0]
  omega
theorem jCnt_c {g g2 : Nat → Prop} [DecidablePred g] [DecidablePred g2] : ∀ n, (∀ k, k < n → (g k ↔ g2 k)) → jCnt g n = jCnt g2 n
  | 0, _ => rfl
  | n + 1, h => by
    have ih := jCnt_c n (fun k hk => h k (by omega))
    unfold jCnt
    rw [ih]
    by_cases q : g n
    · rw [if_pos q, if_pos ((h n (by omega)).mp q)]
    · rw [if_neg q, if_neg (fun z => q ((h n (by omega)).mpr z))]
theorem jch.begC {C a b c d e : List Nat} {m m2 : jMem} {t : Nat} {x : Int32} (h : jch C a b c d e m m2) (h1 : jchk C a b c d e 64 t = true) (h2 : jchk C a b c d e 63 1 = true) : jch C a b c d e m (jBegC m2 t x) := (h.up h1).up h2
theorem jch.beg {C a b c d e : List Nat} {m m2 : jMem} {t : Nat} {x : Int32} (h : jch C a b c d e m m2) (h1 : jchk C a b c d e 91 t = true) (h2 : jchk C a b c d e 66 41 = true) : jch C a b c d e m (jBeg m2 t x) := (h.up h1).up h2
theorem sim_secret (np : Nat) (mem : jMem) (h : Inv np mem) (b x : Int32) : Sim yX10_secret cX10_secret 3 3 yX11_secret cX11_secret 3 3 [.int b, .int x] np mem := by
  by_cases hb : jin b 0 5 ∧ jin x 0 22
  · obtain ⟨h1, h2⟩ := hb
    obtain ⟨b, hb2, -, rfl⟩ := jin_n h1
    obtain ⟨x, hx2, -, rfl⟩ := jin_n h2
    have hb6 : b < 6 := by omega
    obtain ⟨w, hw, e28, e78⟩ := h.2.2.2.2.2.1 b hb6
    rcases Nat.eq_zero_or_pos x with hx | hx
    · subst hx
      refine Sim.ee (c_secret0 np mem b w hb6 e28 hw) (m_secret0 np _ b w hb6 e78 hw) rfl ?_
      refine h.c5 ((jch.rf.up rfl).up rfl) (fun b2 hb2 => ?_)
      simp (disch := omega) only [jup_o, jfill_o, jup_c, jfill_c, jcpy_o, va_o]
      by_cases e : b2 = b
      · subst e; rw [va_up_self]; exact ⟨w, hw, e28, rfl⟩
      · rw [va_up_ne _ _ e]; exact h.2.2.2.2.2.1 b2 hb2
    · refine Sim.ee (c_secret1 np mem b x hb6 hx (by omega)) (m_secret1 np _ b x hb6 hx (by omega)) rfl ?_
      refine h.c5 (((jch.rf.up rfl).up rfl).up rfl) (fun b2 hb2 => ?_)
      simp (disch := omega) only [jup_o, jfill_o, jup_c, jfill_c, jcpy_o, va_o]
      by_cases e : b2 = b
      · subst e; rw [va_up_self, va_up_self]; exact ⟨x, by omega, rfl, rfl⟩
      · rw [va_up_ne _ _ e, va_up_ne _ _ e]; exact h.2.2.2.2.2.1 b2 hb2
  · exact Sim.ee (c_secret_bad np mem b x hb) (m_secret_bad np _ b x hb) rfl h.th
theorem sim_answer (np : Nat) (mem : jMem) (h : Inv np mem) (b r y w : Int32) : Sim yX10_answer cX10_answer 5 3 yX11_answer cX11_answer 5 3 [.int b, .int r, .int y, .int w] np mem := by
  by_cases hb : jin b 0 5 ∧ jin r 0 22 ∧ jin y 0 22 ∧ jin w 0 1
  · obtain ⟨h1, h2, h3, h4⟩ := hb
    obtain ⟨b, hb2, -, rfl⟩ := jin_n h1
    obtain ⟨w, hw2, -, rfl⟩ := jin_n h4
    have hb6 : b < 6 := by omega
    obtain ⟨x, hx, e28, e78⟩ := h.2.2.2.2.2.1 b hb6
    clear h4
    rcases (show w = 0 ∨ w = 1 by omega) with rfl | rfl
    · obtain ⟨r, hr2, -, rfl⟩ := jin_n h2
      exact Sim.ee (c_answer0 np mem b r y hb6 (by omega) h3) (m_answer0 np _ b r y hb6 (by omega) h3) rfl h.th
    · exact Sim.ee (c_answer1 np mem b r y hb6 h2 h3) (m_answer1 np _ b r y hb6 h2 h3) (by rw [e28, e78]) h.th
  · exact Sim.ee (c_answer_bad np mem b r y w hb) (m_answer_bad np _ b r y w hb) rfl h.th
theorem sim_taken (np : Nat) (mem : jMem) (h : Inv np mem) (b t y s : Int32) : Sim yX10_taken cX10_taken 5 4 yX11_taken cX11_taken 5 3 [.int b, .int t, .int y, .int s] np mem := by
  by_cases hb : jin b 0 5 ∧ jin t 0 46 ∧ jin y 0 22 ∧ jin s 0 22
  · obtain ⟨h1, h2, h3, h4⟩ := hb
    obtain ⟨b, hb2, -, rfl⟩ := jin_n h1
    obtain ⟨y, hy2, -, rfl⟩ := jin_n h3
    obtain ⟨s, hs2, -, rfl⟩ := jin_n h4
    have hb6 : b < 6 := by omega
    obtain ⟨w, hw, e28, e78⟩ := h.2.2.2.2.2.1 b hb6
    exact Sim.ee (c_taken np mem b w y s t hb6 e28 hw h2 (by omega) (by omega)) (m_taken np _ b w y s t hb6 e78 hw h2 (by omega) (by omega)) rfl h.th
  · exact Sim.ee (c_taken_bad np mem b t y s hb) (m_taken_bad np _ b t y s hb) rfl h.th
theorem sim_odds (np : Nat) (mem : jMem) (h : Inv np mem) (b t s : Int32) : Sim yX10_odds cX10_odds 6 4 yX11_odds cX11_odds 6 3 [.int b, .int t, .int s] np mem := by
  by_cases hb : jin b 0 5 ∧ jin t 0 46 ∧ jin s 0 22
  · obtain ⟨h1, h2, h4⟩ := hb
    obtain ⟨b, hb2, -, rfl⟩ := jin_n h1
    obtain ⟨s, hs2, -, rfl⟩ := jin_n h4
    have hb6 : b < 6 := by omega
    obtain ⟨w, hw, e28, e78⟩ := h.2.2.2.2.2.1 b hb6
    exact Sim.ee (c_odds np mem b w s t hb6 e28 hw h2 (by omega)) (m_odds np _ b w s t hb6 e78 hw h2 (by omega)) rfl h.th
  · exact Sim.ee (c_odds_bad np mem b t s hb) (m_odds_bad np _ b t s hb) rfl h.th
theorem sim_part (np : Nat) (mem : jMem) (h : Inv np mem) (s k f : Int32) : Sim yX10_part cX10_part 4 2 yX11_part cX11_part 4 2 [.int s, .int k, .int f] np mem := by
  by_cases hb : jin s 0 256 ∧ jin k 1 4 ∧ jin f 1 6
  · obtain ⟨h1, h2, h3⟩ := hb
    obtain ⟨k, hk2, hk3, rfl⟩ := jin_n (x := k) (c := 4) ⟨by have := h2.1; omega, h2.2⟩
    have hk1 := h2.1
    rw [nI_toInt hk3] at hk1
    exact Sim.ee (c_part np mem s f k h1 (by omega) (by omega) h3) (m_part np _ s f k h1 (by omega) (by omega) h3) rfl h.th
  · exact Sim.ee (c_part_bad np mem s k f hb) (m_part_bad np _ s k f hb) rfl h.th
theorem sim_book (np : Nat) (mem : jMem) (h : Inv np mem) (d t : Int32) : Sim yX10_book cX10_book 4 3 yX11_book cX11_book 4 3 [.int d, .int t] np mem := by
  by_cases hb : jin d 0 3 ∧ jin t 0 999
  · obtain ⟨h1, h2⟩ := hb
    obtain ⟨d, hd2, -, rfl⟩ := jin_n h1
    have hd4 : d < 4 := by omega
    refine Sim.ee (c_book np mem d t hd4 h2) (m_book np _ d t hd4 h2) (h.2.2.2.2.2.2.1 d hd4).1 ?_
    refine h.c6 (((jch.rf.up rfl).up rfl).up rfl) (fun d2 hd2 => ?_)
    simp (disch := omega) only [jup_o, jfill_o, jup_c, jfill_c, jcpy_o, va_o]
    by_cases e : d2 = d
    · subst e; rw [va_up_self, va_up_self]; exact ⟨rfl, h2⟩
    · rw [va_up_ne _ _ e, va_up_ne _ _ e]; exact h.2.2.2.2.2.2.1 d2 hd2
  · exact Sim.ee (c_book_bad np mem d t hb) (m_book_bad np _ d t hb) rfl h.th
theorem sim_revoke (np : Nat) (mem : jMem) (h : Inv np mem) (p d : Int32) : Sim yX10_revoke cX10_revoke 4 3 yX11_revoke cX11_revoke 3 3 [.int p, .int d] np mem := by
  obtain ⟨hn, hp0, hp66, hpp, hp75, hpz⟩ := h.2.2.1
  by_cases hp : jin p 0 ((np : Int) - 1)
  · obtain ⟨p, hpn, rfl⟩ := jin_np hp
    have hP := hpp p hpn
    obtain ⟨eN, e1, e2, e3, e4, e5, f0, f1, f2, f3, hok, htb⟩ := hpp p hpn
    by_cases hd : jin d 0 999
    · rcases htb with ⟨t1, t2⟩ | ⟨t1, t2⟩
      · have hp12 : p < 12 := by omega
        have mm := m92 hp12
        have q66 : jup mem (92 + 2 * p) 7 d 66 = mem 66 := by simp (disch := omega) only [jup_o, jfill_o, jup_c, jfill_c, jcpy_o, va_o]
        have q75 : jup mem (92 + 2 * p) 7 d 75 = mem 75 := by simp (disch := omega) only [jup_o, jfill_o, jup_c, jfill_c, jcpy_o, va_o]
        refine Sim.ee (c_revoke np mem p d hn hp0 hpn hd t1) (m_revoke np _ p d hn (by rw [q66]; exact hp66) hpn hd (by rw [q75]; exact t2)) rfl ?_
        refine h.c3 (((jch.upC jch.rf mm.1 mm.2).up rfl).up rfl) ⟨hn, by simp (disch := omega) only [jup_o, jfill_o, jup_c, jfill_c, jcpy_o, va_o]; exact hp0, by simp (disch := omega) only [jup_o, jfill_o, jup_c, jfill_c, jcpy_o, va_o]; rw [va_up_ne _ _ (by decide)]; exact hp66, fun p2 hp2 => ?_, fun p2 h1 h2 => ?_, fun i hi => ?_⟩
        · have hQ := hpp p2 hp2
          unfold I3p at hQ ⊢
          by_cases e : p2 = p
          · subst e
            simp (disch := omega) only [jup_o, jfill_o, jup_c, jfill_c, jcpy_o, va_o]
            simp (disch := omega) only [va_un]
            obtain ⟨a1, a2, a3, a4, a5, a6, a7, a8, a9, a10, a11, a12⟩ := hQ
            refine ⟨a1, a2, a3, a4, a5, a6, a7, a8, a9, a10, a11, ?_⟩
            rw [va_up_self, va_up_self]
            exact Or.inr ⟨rfl, hd⟩
          · simp (disch := omega) only [jup_o, jfill_o, jup_c, jfill_c, jcpy_o, va_o]
            rw [va_up_ne _ _ e]
            exact hQ
        · simp (disch := omega) only [jup_o, jfill_o, jup_c, jfill_c, jcpy_o, va_o]
          rw [va_up_ne _ _ (by omega)]; exact hp75 p2 h1 h2
        · simp (disch := omega) only [jup_o, jfill_o, jup_c, jfill_c, jcpy_o, va_o]
          exact hpz i hi
      · exact Sim.ee (c_revoke_state np mem p d hn hp0 hpn hd (fun e => by rw [e] at t2; exact absurd t2.2 (by decide))) (m_revoke_state np _ p d hn hp66 hpn hd (fun e => by rw [t1, e] at t2; exact absurd t2.1 (by decide))) rfl h.th
    · exact Sim.ee (c_revoke_bad np mem p d hn hp0 hpn hd) (m_revoke_bad np _ (nI p) d hn hp66 (fun q => hd q.2)) rfl h.th
  · exact Sim.ee (c_revoke_p np mem p d hn hp0 hp) (m_revoke_bad np _ p d hn hp66 (fun q => hp q.1)) rfl h.th
theorem sim_holds (np : Nat) (mem : jMem) (h : Inv np mem) (p dr d : Int32) : Sim yX10_holds cX10_holds 5 3 yX11_holds cX11_holds 4 3 [.int p, .int dr, .int d] np mem := by
  obtain ⟨hn, hp0, hp66, hpp, hp75, hpz⟩ := h.2.2.1
  by_cases hp : jin p 0 ((np : Int) - 1)
  · obtain ⟨p, hpn, rfl⟩ := jin_np hp
    have hP := hpp p hpn
    obtain ⟨eN, e1, e2, e3, e4, e5, f0, f1, f2, f3, hok, htb⟩ := hpp p hpn
    by_cases hd : jin dr 0 3 ∧ jin d 0 999
    · obtain ⟨hdr, hd⟩ := hd
      obtain ⟨dr, hdr2, -, rfl⟩ := jin_n hdr
      have hdr4 : dr < 4 := by omega
      obtain ⟨o, q, ho4, eo, eo2, hq, e24, e70, hd2, hK⟩ := key_e h hP
      obtain ⟨-, hb1, hb2⟩ := h.2.1 o ho4
      have hbk := h.2.2.2.2.2.2.1 dr hdr4
      exact Sim.ee (c_holds np mem p dr o d hn hp0 hpn hdr4 hd ho4 eo) (m_holds np _ p dr o d hn hp66 hpn hdr4 hd ho4 eo2) (by rw [hold_e htb hb2 hb1 hbk.2 hd, e4, e5, hbk.1]) h.th
    · exact Sim.ee (c_holds_bad np mem p dr d hn hp0 hpn hd) (m_holds_bad np _ (nI p) dr d hn hp66 (fun q => hd q.2)) rfl h.th
  · exact Sim.ee (c_holds_p np mem p dr d hn hp0 hp) (m_holds_bad np _ p dr d hn hp66 (fun q => hp q.1)) rfl h.th
theorem sim_day (np : Nat) (mem : jMem) (h : Inv np mem) (d : Int32) : Sim yX10_day cX10_day 3 3 yX11_day cX11_day 3 3 [.int d] np mem := by
  by_cases hd : jin d 0 999
  · refine Sim.ee (c_day np mem d hd) (m_day np _ d hd) h.2.2.2.1.1 ?_
    refine h.c4 (((jch.rf.up rfl).up rfl).up rfl) ⟨?_, ?_⟩
    · simp (disch := omega) only [jup_o, jfill_o, jup_c, jfill_c, jcpy_o, va_o]
      rw [va_up_self, va_up_self]
    · simp (disch := omega) only [jup_o, jfill_o, jup_c, jfill_c, jcpy_o, va_o]
      rw [va_up_self]; exact hd
  · exact Sim.ee (c_day_bad np mem d hd) (m_day_bad np _ d hd) rfl h.th
theorem sim_kind (np : Nat) (mem : jMem) (h : Inv np mem) (p : Int32) : Sim yX10_kind cX10_kind 3 2 yX11_kind cX11_kind 2 3 [.int p] np mem := by
  obtain ⟨hn, hp0, hp66, hpp, hp75, hpz⟩ := h.2.2.1
  by_cases hp : jin p 0 ((np : Int) - 1)
  · obtain ⟨p, hpn, rfl⟩ := jin_np hp
    have hP := hpp p hpn
    obtain ⟨eN, e1, e2, e3, e4, e5, f0, f1, f2, f3, hok, htb⟩ := hpp p hpn
    exact Sim.ee (c_kind np mem p hn hp0 hpn) (m_kind np _ p hn hp66 hpn) (by rw [kind_e htb h.2.2.2.1.2, e3, h.2.2.2.1.1]) h.th
  · exact Sim.ee (c_kind_p np mem p hn hp0 hp) (m_kind_bad np _ p hn hp66 hp) rfl h.th
theorem sim_as (np : Nat) (mem : jMem) (h : Inv np mem) (p w : Int32) : Sim yX10_as cX10_as 6 2 yX11_as cX11_as 3 3 [.int p, .int w] np mem := by
  obtain ⟨hn, hp0, hp66, hpp, hp75, hpz⟩ := h.2.2.1
  by_cases hp : jin p 0 ((np : Int) - 1)
  · obtain ⟨p, hpn, rfl⟩ := jin_np hp
    have hP := hpp p hpn
    obtain ⟨eN, e1, e2, e3, e4, e5, f0, f1, f2, f3, hok, htb⟩ := hpp p hpn
    by_cases hw : jin w 0 5
    · have hke : jKindC (mem (92 + 2 * p) 7) (mem 0 13) (mem (92 + 2 * p) 3) = jKind (mem 75 p) (mem 66 39) (mem 74 (9 * p + 2)) := (by rw [kind_e htb h.2.2.2.1.2, e3, h.2.2.2.1.1])
      by_cases hk : w = 0 ∨ jKindC (mem (92 + 2 * p) 7) (mem 0 13) (mem (92 + 2 * p) 3) = w ∨ w = 1 ∧ jKindC (mem (92 + 2 * p) 7) (mem 0 13) (mem (92 + 2 * p) 3) = 2
      · exact Sim.ee (c_as np mem p w hn hp0 hpn hw hk) (m_as np (jup mem 0 14 0) p w hn hp66 hpn hw (by rw [hke] at hk; exact hk)) e1 (h.f2 0)
      · exact Sim.ee (c_as_kind np mem p w hn hp0 hpn hw hk) (m_as_kind np (jup mem 0 14 3) p w hn hp66 hpn hw (by rw [hke] at hk; exact hk)) rfl (h.f1 3)
    · exact Sim.ee (c_as_bad np mem p w hn hp0 hpn hw) (m_as_bad np _ (nI p) w hn hp66 (fun q => hw q.2)) rfl h.th
  · exact Sim.ee (c_as_p np mem p w hn hp0 hp) (m_as_bad np _ p w hn hp66 (fun q => hp q.1)) rfl h.th
theorem sim_ask (np : Nat) (mem : jMem) (h : Inv np mem) (p w : Int32) : Sim yX10_ask cX10_ask 5 7 yX11_ask cX11_ask 3 6 [.int p, .int w] np mem := by
  obtain ⟨hn, hp0, hp66, hpp, hp75, hpz⟩ := h.2.2.1
  by_cases hp : jin p 0 ((np : Int) - 1)
  · obtain ⟨p, hpn, rfl⟩ := jin_np hp
    have hP := hpp p hpn
    obtain ⟨eN, e1, e2, e3, e4, e5, f0, f1, f2, f3, hok, htb⟩ := hpp p hpn
    by_cases hw : jin w 0 1
    · obtain ⟨w, hw2, -, rfl⟩ := jin_n hw
      have hke : jKindC (mem (92 + 2 * p) 7) (mem 0 13) (mem (92 + 2 * p) 3) = jKind (mem 75 p) (mem 66 39) (mem 74 (9 * p + 2)) := (by rw [kind_e htb h.2.2.2.1.2, e3, h.2.2.2.1.1])
      have hkx : ∃ k : Nat, k < 6 ∧ jKindC (mem (92 + 2 * p) 7) (mem 0 13) (mem (92 + 2 * p) 3) = nI k := by
        unfold jKindC
        by_cases q : mem (92 + 2 * p) 7 ≤ mem 0 13
        · rw [if_pos q]; exact ⟨5, by omega, rfl⟩
        · rw [if_neg q, e3]
          obtain ⟨n, h1, -, e⟩ := jin_n hok.2.2.1
          exact ⟨n, by omega, e⟩
      obtain ⟨k, hk6, hk⟩ := hkx
      have hk2 := hke.symm.trans hk
      have hx4 := max4_e hok.2.2.2.2.2.1 hok.2.2.2.2.2.2.1 hok.2.2.2.2.2.2.2.1 hok.2.2.2.2.2.2.2.2
      clear hw hke
      rcases (show w = 0 ∨ w = 1 by omega) with rfl | rfl
      · rcases (show k = 0 ∨ k = 1 ∨ k = 2 ∨ k = 3 ∨ k = 4 ∨ k = 5 by omega) with rfl | rfl | rfl | rfl | rfl | rfl
        · refine Sim.ee (c_ask0_0 np mem p hn hp0 hpn eN hk) (m_ask0_0 np _ p hn hp66 hpn hk2) (by first | rfl | (simp only [e4, e5, f0, f1, f2, f3, hx4]; done) | (simp only [e4, e5, f0, f1, f2, f3, hx4]; rfl)) ?_
          exact h.c9 (((((jch.rf.up rfl).begC rfl rfl).up rfl).up rfl).beg rfl rfl) ⟨1, by omega, rfl, rfl, fun j hj => by obtain rfl : j = 0 := (by omega); rfl⟩
        · refine Sim.ee (c_ask1_0 np mem p hn hp0 hpn eN hk) (m_ask1_0 np _ p hn hp66 hpn hk2) (by first | rfl | (simp only [e4, e5, f0, f1, f2, f3, hx4]; done) | (simp only [e4, e5, f0, f1, f2, f3, hx4]; rfl)) ?_
          exact h.c9 (((((((jch.rf.up rfl).begC rfl rfl).begC rfl rfl).up rfl).up rfl).beg rfl rfl).beg rfl rfl) ⟨2, by omega, rfl, rfl, fun j hj => by rcases (show j = 0 ∨ j = 1 by omega) with rfl | rfl <;> rfl⟩
        · refine Sim.ee (c_ask2_0 np mem p hn hp0 hpn eN hk) (m_ask2_0 np _ p hn hp66 hpn hk2) (by first | rfl | (simp only [e4, e5, f0, f1, f2, f3, hx4]; done) | (simp only [e4, e5, f0, f1, f2, f3, hx4]; rfl)) ?_
          exact h.c9 (((((((((jch.rf.up rfl).begC rfl rfl).begC rfl rfl).begC rfl rfl).up rfl).up rfl).beg rfl rfl).beg rfl rfl).beg rfl rfl) ⟨3, by omega, rfl, rfl, fun j hj => by rcases (show j = 0 ∨ j = 1 ∨ j = 2 by omega) with rfl | rfl | rfl <;> rfl⟩
        · refine Sim.ee (c_ask3_0 np mem p hn hp0 hpn eN hk) (m_ask3_0 np _ p hn hp66 hpn hk2) (by first | rfl | (simp only [e4, e5, f0, f1, f2, f3, hx4]; done) | (simp only [e4, e5, f0, f1, f2, f3, hx4]; rfl)) ?_
          exact h.c9 (((((((((((jch.rf.up rfl).begC rfl rfl).begC rfl rfl).begC rfl rfl).begC rfl rfl).up rfl).up rfl).beg rfl rfl).beg rfl rfl).beg rfl rfl).beg rfl rfl) ⟨4, by omega, rfl, rfl, fun j hj => by rcases (show j = 0 ∨ j = 1 ∨ j = 2 ∨ j = 3 by omega) with rfl | rfl | rfl | rfl <;> rfl⟩
        · refine Sim.ee (c_ask4_0 np mem p hn hp0 hpn eN hk) (m_ask4_0 np _ p hn hp66 hpn hk2) (by first | rfl | (simp only [e4, e5, f0, f1, f2, f3, hx4]; done) | (simp only [e4, e5, f0, f1, f2, f3, hx4]; rfl)) ?_
          exact h.c9 (((((jch.rf.up rfl).begC rfl rfl).up rfl).up rfl).beg rfl rfl) ⟨1, by omega, rfl, rfl, fun j hj => by obtain rfl : j = 0 := (by omega); rfl⟩
        · refine Sim.ee (c_ask5_0 np mem p hn hp0 hpn eN hk) (m_ask5_0 np _ p hn hp66 hpn hk2) (by first | rfl | (simp only [e4, e5, f0, f1, f2, f3, hx4]; done) | (simp only [e4, e5, f0, f1, f2, f3, hx4]; rfl)) ?_
          exact h.c9 (((((((jch.rf.up rfl).begC rfl rfl).begC rfl rfl).up rfl).up rfl).beg rfl rfl).beg rfl rfl) ⟨2, by omega, rfl, rfl, fun j hj => by rcases (show j = 0 ∨ j = 1 by omega) with rfl | rfl <;> rfl⟩
      · rcases (show k = 0 ∨ k = 1 ∨ k = 2 ∨ k = 3 ∨ k = 4 ∨ k = 5 by omega) with rfl | rfl | rfl | rfl | rfl | rfl
        · refine Sim.ee (c_ask0_1 np mem p hn hp0 hpn eN hk) (m_ask0_1 np _ p hn hp66 hpn hk2) (by first | rfl | (simp only [e4, e5, f0, f1, f2, f3, hx4]; done) | (simp only [e4, e5, f0, f1, f2, f3, hx4]; rfl)) ?_
          exact h.c9 (((((jch.rf.up rfl).begC rfl rfl).up rfl).up rfl).beg rfl rfl) ⟨1, by omega, rfl, rfl, fun j hj => by obtain rfl : j = 0 := (by omega); rfl⟩
        · refine Sim.ee (c_ask1_1 np mem p hn hp0 hpn eN hk) (m_ask1_1 np _ p hn hp66 hpn hk2) (by first | rfl | (simp only [e4, e5, f0, f1, f2, f3, hx4]; done) | (simp only [e4, e5, f0, f1, f2, f3, hx4]; rfl)) ?_
          exact h.c9 (((((jch.rf.up rfl).begC rfl rfl).up rfl).up rfl).beg rfl rfl) ⟨1, by omega, rfl, rfl, fun j hj => by obtain rfl : j = 0 := (by omega); rfl⟩
        · refine Sim.ee (c_ask2_1 np mem p hn hp0 hpn eN hk) (m_ask2_1 np _ p hn hp66 hpn hk2) (by first | rfl | (simp only [e4, e5, f0, f1, f2, f3, hx4]; done) | (simp only [e4, e5, f0, f1, f2, f3, hx4]; rfl)) ?_
          exact h.c9 (((((((((((((jch.rf.up rfl).begC rfl rfl).begC rfl rfl).begC rfl rfl).begC rfl rfl).begC rfl rfl).up rfl).up rfl).beg rfl rfl).beg rfl rfl).beg rfl rfl).beg rfl rfl).beg rfl rfl) ⟨5, by omega, rfl, rfl, fun j hj => by rcases (show j = 0 ∨ j = 1 ∨ j = 2 ∨ j = 3 ∨ j = 4 by omega) with rfl | rfl | rfl | rfl | rfl <;> rfl⟩
        · refine Sim.ee (c_ask3_1 np mem p hn hp0 hpn eN hk) (m_ask3_1 np _ p hn hp66 hpn hk2) (by first | rfl | (simp only [e4, e5, f0, f1, f2, f3, hx4]; done) | (simp only [e4, e5, f0, f1, f2, f3, hx4]; rfl)) ?_
          exact h.c9 (((((((jch.rf.up rfl).begC rfl rfl).begC rfl rfl).up rfl).up rfl).beg rfl rfl).beg rfl rfl) ⟨2, by omega, rfl, rfl, fun j hj => by rcases (show j = 0 ∨ j = 1 by omega) with rfl | rfl <;> rfl⟩
        · refine Sim.ee (c_ask4_1 np mem p hn hp0 hpn eN hk) (m_ask4_1 np _ p hn hp66 hpn hk2) (by first | rfl | (simp only [e4, e5, f0, f1, f2, f3, hx4]; done) | (simp only [e4, e5, f0, f1, f2, f3, hx4]; rfl)) ?_
          exact h.c9 (((((((jch.rf.up rfl).begC rfl rfl).begC rfl rfl).up rfl).up rfl).beg rfl rfl).beg rfl rfl) ⟨2, by omega, rfl, rfl, fun j hj => by rcases (show j = 0 ∨ j = 1 by omega) with rfl | rfl <;> rfl⟩
        · refine Sim.ee (c_ask5_1 np mem p hn hp0 hpn eN hk) (m_ask5_1 np _ p hn hp66 hpn hk2) (by first | rfl | (simp only [e4, e5, f0, f1, f2, f3, hx4]; done) | (simp only [e4, e5, f0, f1, f2, f3, hx4]; rfl)) ?_
          exact h.c9 (((((jch.rf.up rfl).begC rfl rfl).up rfl).up rfl).beg rfl rfl) ⟨1, by omega, rfl, rfl, fun j hj => by obtain rfl : j = 0 := (by omega); rfl⟩
    · exact Sim.ee (c_ask_bad np mem p w hn hp0 hpn hw) (m_ask_bad np _ (nI p) w hn hp66 (fun q => hw q.2)) rfl h.th
  · exact Sim.ee (c_ask_p np mem p w hn hp0 hp) (m_ask_bad np _ p w hn hp66 (fun q => hp q.1)) rfl h.th
theorem sim_trace (np : Nat) (mem : jMem) (h : Inv np mem) (i : Int32) : Sim yX10_trace cX10_trace 2 1 yX11_trace cX11_trace 2 2 [.int i] np mem := by
  obtain ⟨t, ht, e63, e66, hj⟩ := h.2.2.2.2.2.2.2.2.2.2.2
  by_cases hi : jin i 0 ((t : Int) - 1)
  · obtain ⟨i, hi2, rfl⟩ := jin_np hi
    exact Sim.ee (c_trace np mem i t e63 ht hi2) (m_trace np _ i t e66 ht hi2) (hj i hi2) h.th
  · exact Sim.ee (c_trace_none np mem i t e63 ht hi) (m_trace_none np _ i t e66 ht hi) rfl h.th
theorem sim_status (np : Nat) (mem : jMem) (h : Inv np mem)  : Sim yX10_status cX10_status 1 1 yX11_status cX11_status 1 1 [] np mem := by
  exact Sim.ee (c_status np mem) (m_status np _) h.2.2.2.2.1 h.th
theorem sim_fault (np : Nat) (mem : jMem) (h : Inv np mem)  : Sim yX10_fault cX10_fault 1 1 yX11_fault cX11_fault 1 1 [] np mem := by
  exact Sim.ee (c_fault np mem) (m_fault np _) h.2.2.2.2.2.2.2.2.2.1 h.th
theorem sim_count (np : Nat) (mem : jMem) (h : Inv np mem) (w : Int32) : Sim yX10_count cX10_count 2 3 yX11_count cX11_count 4 3 [.int w] np mem := by
  by_cases hw : jin w 0 5
  · obtain ⟨w, hw2, -, rfl⟩ := jin_n hw
    obtain ⟨hn, hp0, hp66, hpp, hp75, hpz⟩ := h.2.2.1
    clear hw
    rcases (show w = 0 ∨ w = 1 ∨ w = 2 ∨ w = 3 ∨ w = 4 ∨ w = 5 by omega) with rfl | rfl | rfl | rfl | rfl | rfl
    · exact Sim.ee (c_count0 np mem) (m_count0 np _) (congrArg nI (jCnt_c 8 (fun s hs => by
        rcases h.1.1 s hs with ⟨a1, a2⟩ | ⟨z, hz, a12, a68, a67, hl⟩
        · exact ⟨fun q => absurd a1 q, fun q => absurd q (by omega)⟩
        · exact ⟨fun _ => by rw [a67]; exact hl.1, fun _ => by rw [a12]; exact jnm1 (by omega)⟩))) h.th
    · exact Sim.ee (c_count1 np mem) (m_count1 np _) (hp0.trans hp66.symm) h.th
    · exact Sim.ee (c_count2 np mem hn hp0) (m_count2 np _ hn hp66 (fun p hp e => by have q := (hpp p hp).2.2.2.2.2.2.2.2.2.2.1.2.2.1; rw [e] at q; exact absurd q.2 (by decide))) (congrArg nI (jCnt_c np (fun p hp => by
        obtain ⟨eN, e1, e2, e3, e4, e5, f0, f1, f2, f3, hok, htb⟩ := hpp p hp
        have hd := jev_d htb h.2.2.2.1.2
        rw [← h.2.2.2.1.1, ← hd]
        unfold jKindC
        by_cases q : mem (92 + 2 * p) 7 ≤ mem 0 13
        · rw [if_pos q]; exact ⟨fun _ => q, fun _ => rfl⟩
        · rw [if_neg q, e3]
          refine ⟨fun e => ?_, fun e => absurd e q⟩
          have q9 := hok.2.2.1
          rw [e] at q9
          exact absurd q9.2 (by decide)))) h.th
    · have hk : ∀ o, o < 4 → mem 24 o = mem 70 o := fun o ho => by
        obtain ⟨⟨q, hq, e24, e70, hj⟩, -, -⟩ := h.2.1 o ho
        rw [e24, e70]
      exact Sim.ee (c_count3 np mem) (m_count3 np _) (by rw [hk 0 (by omega), hk 1 (by omega), hk 2 (by omega), hk 3 (by omega), Int32.zero_add]) h.th
    · obtain ⟨q, hq, e55, e66, -⟩ := h.2.2.2.2.2.2.2.2.2.2.1
      exact Sim.ee (c_count4 np mem) (m_count4 np _) (e55.trans e66.symm) h.th
    · obtain ⟨z, B, e51, e66, -⟩ := h.2.2.2.2.2.2.2.2.1
      exact Sim.ee (c_count5 np mem) (m_count5 np _) (e51.trans e66.symm) h.th
  · exact Sim.ee (c_count_bad np mem w hw) (m_count_bad np _ w hw) rfl h.th
