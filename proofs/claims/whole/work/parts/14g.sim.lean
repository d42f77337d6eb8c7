/-- the doors' rows stay as they should be -/
def gI (s : aSt) : Prop := s.1 = 7 ∨ (gS s.2.2.2.2.2.2.2 ∧ ((s.1 = 2 ∨ s.1 = 3 ∨ s.1 = 4) → s.2.2.1 < 4 ∧ s.2.2.2.1 ≤ 8) ∧ ((s.1 = 3 ∨ s.1 = 4) → s.2.2.2.1 < 8 ∧ s.2.2.2.2.1 < 3) ∧ (s.1 = 4 → s.2.2.2.2.2.1 < 4) ∧ (s.1 = 6 → s.2.2.1 < 4))
theorem gS_d {S : Nat → Nat} {d k : Nat} (h : gS S) (hd : d < 4) (hk : k ≤ 8) : gS (aUp true S d k) := by
  refine ⟨fun d2 h2 => ?_, fun e he => ⟨?_, ?_⟩⟩
  · rw [aUp_t]
    by_cases q : d2 = d
    · rw [if_pos q]; exact hk
    · rw [if_neg q]; exact h.1 d2 h2
  · rw [aUp_t, if_neg (by omega)]; exact (h.2 e he).1
  · rw [aUp_t, if_neg (by omega)]; exact (h.2 e he).2
theorem gS_r {S : Nat → Nat} {d k : Nat} (h : gS S) (hd : d < 4) : gS (aUp true S (4 + d) k) := by
  refine ⟨fun d2 h2 => ?_, fun e he => ⟨?_, ?_⟩⟩
  · rw [aUp_t, if_neg (by omega)]; exact h.1 d2 h2
  · rw [aUp_t, if_neg (by omega)]; exact (h.2 e he).1
  · rw [aUp_t, if_neg (by omega)]; exact (h.2 e he).2
theorem gS_w {S : Nat → Nat} {d k w o b : Nat} (h : gS S) (hd : d < 4) (hk : k < 8) (hw : w < 3) (ho : o < 4) : gS (aWr true S d k w o b) := by
  refine ⟨fun d2 h2 => ?_, fun e he => ⟨?_, ?_⟩⟩
  · rw [aWr_t, if_neg (by omega), if_neg (by omega), if_neg (by omega)]; exact h.1 d2 h2
  · rw [aWr_t, if_neg (by omega), if_neg (by omega)]
    by_cases q : 8 + e = 8 + 8 * d + k
    · rw [if_pos q]; exact hw
    · rw [if_neg q]; exact (h.2 e he).1
  · rw [aWr_t, if_neg (by omega)]
    by_cases q : 40 + e = 40 + 8 * d + k
    · rw [if_pos q]; exact ho
    · rw [if_neg q, if_neg (by omega)]; exact (h.2 e he).2
theorem gI_st {B : Nat → Nat} {z : Nat} {s t : aSt} (h : gI s) (hs : aF B z true s = some t) : gI t := by
  obtain ⟨m, p, d, k, w, o, c, S⟩ := s
  rcases h with h | ⟨h1, h2, h3, h4, h6⟩
  · have e : m = 7 := h
    subst e
    cases hs
  · dsimp only at h1 h2 h3 h4 h6
    match m, hs with
    | 0, hs =>
      unfold aF at hs
      simp only at hs
      split at hs
      · cases hs
      · split at hs
        · cases hs; exact Or.inr ⟨h1, fun q => absurd q (by dsimp only; omega), fun q => absurd q (by dsimp only; omega), fun q => absurd q (by dsimp only; omega), fun q => absurd q (by dsimp only; omega)⟩
        · split at hs
          · cases hs; exact Or.inr ⟨h1, fun q => absurd q (by dsimp only; omega), fun q => absurd q (by dsimp only; omega), fun q => absurd q (by dsimp only; omega), fun q => absurd q (by dsimp only; omega)⟩
          · cases hs; exact Or.inl rfl
    | 1, hs =>
      unfold aF at hs
      simp only at hs
      split at hs
      · split at hs
        · rename_i e9; cases hs; exact Or.inr ⟨h1, fun _ => ⟨by show tV B z p < 4; omega, by show 0 ≤ 8; omega⟩, fun q => absurd q (by dsimp only; omega), fun q => absurd q (by dsimp only; omega), fun q => absurd q (by dsimp only; omega)⟩
        · cases hs; exact Or.inl rfl
      · cases hs; exact Or.inl rfl
    | 2, hs =>
      have hk := h2 (Or.inl rfl)
      unfold aF at hs
      simp only at hs
      split at hs
      · split at hs
        · cases hs; exact Or.inr ⟨gS_d h1 hk.1 hk.2, fun q => absurd q (by dsimp only; omega), fun q => absurd q (by dsimp only; omega), fun q => absurd q (by dsimp only; omega), fun q => absurd q (by dsimp only; omega)⟩
        · cases hs; exact Or.inl rfl
      · rename_i ea
        split at hs
        · cases hs; exact Or.inl rfl
        · rename_i eb
          have hl := tAw_lt B z p
          cases hs; exact Or.inr ⟨h1, fun _ => hk, fun _ => ⟨by show k < 8; omega, by show tAw B z p < 3; omega⟩, fun q => absurd q (by dsimp only; omega), fun q => absurd q (by dsimp only; omega)⟩
    | 3, hs =>
      have hk := h2 (Or.inr (Or.inl rfl))
      have hk3 := h3 (Or.inl rfl)
      unfold aF at hs
      simp only at hs
      split at hs
      · split at hs
        · rename_i e9
          split at hs
          · cases hs; exact Or.inr ⟨h1, fun _ => hk, fun _ => hk3, fun _ => by show tV B z p < 4; omega, fun q => absurd q (by dsimp only; omega)⟩
          · cases hs; exact Or.inr ⟨gS_w h1 hk.1 hk3.1 hk3.2 (by omega), fun _ => ⟨hk.1, by show k + 1 ≤ 8; omega⟩, fun q => absurd q (by dsimp only; omega), fun q => absurd q (by dsimp only; omega), fun q => absurd q (by dsimp only; omega)⟩
        · cases hs; exact Or.inl rfl
      · cases hs; exact Or.inl rfl
    | 4, hs =>
      have hk := h2 (Or.inr (Or.inr rfl))
      have hk3 := h3 (Or.inr rfl)
      have ho := h4 rfl
      unfold aF at hs
      simp only at hs
      split at hs
      · split at hs
        · cases hs; exact Or.inr ⟨gS_w h1 hk.1 hk3.1 hk3.2 ho, fun _ => ⟨hk.1, by show k + 1 ≤ 8; omega⟩, fun q => absurd q (by dsimp only; omega), fun q => absurd q (by dsimp only; omega), fun q => absurd q (by dsimp only; omega)⟩
        · cases hs; exact Or.inl rfl
      · cases hs; exact Or.inl rfl
    | 5, hs =>
      unfold aF at hs
      simp only at hs
      split at hs
      · split at hs
        · rename_i e9; cases hs; exact Or.inr ⟨h1, fun q => absurd q (by dsimp only; omega), fun q => absurd q (by dsimp only; omega), fun q => absurd q (by dsimp only; omega), fun _ => by show tV B z p < 4; omega⟩
        · cases hs; exact Or.inl rfl
      · cases hs; exact Or.inl rfl
    | 6, hs =>
      have hd := h6 rfl
      unfold aF at hs
      simp only at hs
      split at hs
      · split at hs
        · cases hs; exact Or.inr ⟨h1, fun q => absurd q (by dsimp only; omega), fun q => absurd q (by dsimp only; omega), fun q => absurd q (by dsimp only; omega), fun _ => hd⟩
        · cases hs; exact Or.inl rfl
      · split at hs
        · cases hs; exact Or.inr ⟨gS_r h1 hd, fun q => absurd q (by dsimp only; omega), fun q => absurd q (by dsimp only; omega), fun q => absurd q (by dsimp only; omega), fun q => absurd q (by dsimp only; omega)⟩
        · cases hs; exact Or.inl rfl
    | n + 7, hs => cases hs
theorem gI_it {B : Nat → Nat} {z : Nat} {s : aSt} (h : gI s) : ∀ (k : Nat) (t : aSt), aIt (aF B z true) k s = some t → gI t
  | 0, t, ht => by cases ht; exact h
  | k + 1, t, ht => by
    have h2 : (aIt (aF B z true) k s).bind (aF B z true) = some t := ht
    cases hk : aIt (aF B z true) k s with
    | none => rw [hk] at h2; cases h2
    | some u =>
      rw [hk] at h2
      exact gI_st (gI_it h k u hk) h2
theorem gS_ok {B : Nat → Nat} {z : Nat} {S S2 : Nat → Nat} {cnt : Nat} (h : aOkR B z S cnt S2) (hG : gS S) : gS S2 := by
  obtain ⟨-, ⟨p, ⟨k, hk⟩, -⟩, -⟩ := h
  have h0 : gI ((0, 0, 0, 0, 0, 0, 0, S) : aSt) := Or.inr ⟨hG, fun q => absurd q (by dsimp only; omega), fun q => absurd q (by dsimp only; omega), fun q => absurd q (by dsimp only; omega), fun q => absurd q (by dsimp only; omega)⟩
  rcases gI_it h0 k _ hk with q | q
  · exact absurd q (by dsimp only; omega)
  · exact q.1
theorem mdoors {mem m1 : jMem} (h : jeq (51 :: cGl) mem m1) : m1 66 = mem 66 ∧ m1 80 = mem 80 ∧ m1 81 = mem 81 ∧ m1 82 = mem 82 ∧ m1 83 = mem 83 ∧ m1 84 = mem 84 ∧ m1 85 = mem 85 := ⟨h _ (by decide), h _ (by decide), h _ (by decide), h _ (by decide), h _ (by decide), h _ (by decide), h _ (by decide)⟩
theorem sim_doors (np : Nat) (mem : jMem) (h : Inv np mem)  : Sim yX10_doors cX10_doors 1 11 yX11_doors cX11_doors 1 7 [] np mem := by
  obtain ⟨hn, hp0, hp66, hpp, hp75, hpz⟩ := h.2.2.1
  obtain ⟨z, B, e51, e66, h8, c8⟩ := h.2.2.2.2.2.2.2.2.1
  obtain ⟨S, hM, hC, hG⟩ := h.2.2.2.2.2.2.2.1
  have hff := h.2.2.2.2.2.2.2.2.2.1
  refine Sim.of (c_doors np mem z B S c8 e51 hC hn) (fun v1 m1 q1 => ?_)
  obtain ⟨a1, a2, a3⟩ := q1
  have hJ : jeq (51 :: cGl) mem m1 := by
    rcases a3 with ⟨code, plc, -, -, -, q⟩ | ⟨cnt, S2, -, -, -, -, q⟩
    · exact q.mo (fun x hx => by rw [List.mem_singleton.mp hx]; decide)
    · exact q
  obtain ⟨j66, j80, j81, j82, j83, j84, j85⟩ := mdoors hJ
  refine ⟨_, m_doors np m1 z B S ⟨h8.1, fun i hi => by rw [j85]; exact h8.2 i hi⟩ (by rw [j66]; exact e66) (jSM_c hM j80 j81 j82 j83 j84), fun v2 m2 q2 => ?_⟩
  obtain ⟨b1, b2, b3⟩ := q2
  have hK : jeq [66, 80, 81, 82, 83, 84] m1 m2 := by
    rcases b3 with ⟨code, plc, -, -, -, q⟩ | ⟨cnt, S2, -, -, -, -, q⟩
    · exact q.mo (fun x hx => by rw [List.mem_singleton.mp hx]; decide)
    · exact q
  have hch : jch [34, 35, 37, 38, 39, 40, 42, 43, 44, 45, 47, 48, 49, 50, 80, 81, 82, 83, 84] [] [0, 22, 23, 24, 25, 26, 27, 28, 29, 30, 31, 32] [1, 2, 3, 4, 5, 6, 7, 8] [] [] mem m2 := by
    refine ⟨fun i hi i0 i1 i2 i3 i4 => ?_, ?_, ?_, ?_, ?_, ?_⟩
    · rw [hK i (fun q => ?_), hJ i (fun q => ?_)]
      · rcases List.mem_cons.mp q with q | q
        · exact i2 q
        · exact hi (List.mem_of_mem_take (i := 14) q)
      · rcases List.mem_cons.mp q with q | q
        · exact i1 q
        · exact hi (List.mem_of_mem_drop (i := 14) q)
    · rw [hK 0 (by decide), hJ 0 (by decide)]; exact jso.rf
    · rw [← j66]; exact b1
    · rw [hK 51 (by decide)]; exact a1
    · rw [hK 55 (by decide), hJ 55 (by decide)]; exact jso.rf
    · rw [hK 63 (by decide), hJ 63 (by decide)]; exact jso.rf
  have h51 : m2 51 = m1 51 := hK 51 (by decide)
  have hT : I7 m2 := ⟨0, B, by rw [h51]; exact a2, b2, ⟨by omega, fun i hi => absurd hi (by omega)⟩, by omega, fun i hi => absurd hi (by omega)⟩
  have cc2 : ∀ S3, cSM m1 S3 → cSM m2 S3 := fun S3 q => cSM_c q (fun i hi => hK i (fun z9 => by
    have : ∀ y ∈ cGl, y ∉ [66, 80, 81, 82, 83, 84] := by decide
    exact this i hi z9))
  rcases a3 with ⟨code, plc, r1, r2, r3, r4⟩ | ⟨cnt, S2, r1, r2, r3, r4, r5⟩
  · rcases b3 with ⟨code2, plc2, t1, t2, t3, t4⟩ | ⟨cnt2, S3, t1, t2, t3, t4, t5⟩
    · obtain ⟨rfl, rfl⟩ := aBad_u r1 t1
      refine ⟨by rw [r2, t2], h.cd hch ⟨S, ?_, cc2 S (cSM_51 hC r4), hG⟩ hT ?_⟩
      · exact jSM_66 (jSM_c hM j80 j81 j82 j83 j84) t4
      · show m2 51 2 = m2 66 23
        rw [h51, r3, t3]
    · exact absurd (aBad_ok r1 t1) (fun e => e)
  · rcases b3 with ⟨code2, plc2, t1, t2, t3, t4⟩ | ⟨cnt2, S3, t1, t2, t3, t4, t5⟩
    · exact absurd (aBad_ok t1 r1) (fun e => e)
    · obtain ⟨rfl, rfl⟩ := aOk_u r1 t1
      refine ⟨by rw [r2, t2], h.cd hch ⟨S2, t4, cc2 S2 r4, gS_ok r1 hG⟩ hT ?_⟩
      show m2 51 2 = m2 66 23
      rw [h51, r3, t3, j66]
      exact hff
theorem jIs_c {g g2 : Nat → Bool} {F F2 : Nat → Nat} {n st : Nat} (hg : ∀ p, p < n → g p = g2 p) (hF : ∀ p, p < n → F p = F2 p) (K : Nat) : jIs g F n st K ↔ jIs g2 F2 n st K := by
  unfold jIs
  constructor
  · rintro ⟨S, h1, h2, h3, h4⟩
    exact ⟨S, h1, fun p hp hb => by rw [← hg p hp]; exact h2 p hp hb, by rw [← oS_f n hF]; exact h3, by rw [← wS_f n hF]; exact h4⟩
  · rintro ⟨S, h1, h2, h3, h4⟩
    exact ⟨S, h1, fun p hp hb => by rw [hg p hp]; exact h2 p hp hb, by rw [oS_f n hF]; exact h3, by rw [wS_f n hF]; exact h4⟩
theorem key_o {mem : jMem} {p : Nat} (hP : I3p mem p) : ∃ o, o < 4 ∧ mem (92 + 2 * p) 1 = nI o ∧ mem 74 (9 * p) = nI o := by
  obtain ⟨eN, e1, e2, e3, e4, e5, f0, f1, f2, f3, hok, htb⟩ := hP
  obtain ⟨o, ho, -, eo⟩ := jin_n hok.1
  exact ⟨o, by omega, by rw [e1, eo], eo⟩
theorem sim_least (np : Nat) (mem : jMem) (h : Inv np mem) (b dr d w : Int32) : Sim yX10_least cX10_least 6 4 yX11_least cX11_least 12 3 [.int b, .int dr, .int d, .int w] np mem := by
  by_cases hb : jin b 0 5 ∧ jin dr 0 3 ∧ jin d 0 999 ∧ jin w 0 1
  · obtain ⟨hb, hdr, hd, hw⟩ := hb
    obtain ⟨dr, hdr2, -, rfl⟩ := jin_n hdr
    obtain ⟨w, hw2, -, rfl⟩ := jin_n hw
    have hdr4 : dr < 4 := by omega
    obtain ⟨hn, hp0, hp66, hpp, hp75, hpz⟩ := h.2.2.1
    obtain ⟨⟨q, hq, e35, e81⟩, e34, hga⟩ := gates_e h.2.2.2.2.2.2.2.1 hdr4
    have hme := much_e h.2.2.2.2.2.2.2.1 hdr4 hq
    have hbk := h.2.2.2.2.2.2.1 dr hdr4
    clear hw
    rcases (show w = 0 ∨ w = 1 by omega) with rfl | rfl
    · by_cases hA : jAny (fun i => decide (¬ mem (37 + dr) i = 0 ∧ ¬ (mem 34 dr >>> (mem (42 + dr) i &&& 31)) &&& 1 = 1)) q = true
      · exact Sim.ee (c_least0_none np mem b d dr q hb hd hdr4 hq e35 hA) (m_least0_none np _ b d dr q hb hdr4 hd hq e81 (by rw [hme] at hA; exact hA)) rfl h.th
      · refine Sim.of (c_least0 np mem b d dr q hn hp0 hb hd hdr4 hq e35 (fun p hp => by obtain ⟨o, a1, a2, -⟩ := key_o (hpp p hp); exact ⟨o, a1, a2⟩) (fun k hk => by obtain ⟨a1, a2, a3, a4, w9, a5, a6⟩ := hga k (by omega); exact ⟨w9, a5, by rw [a2, a6]⟩) hA) (fun v1 m1 q1 => ?_)
        obtain ⟨r1, hJ⟩ := q1
        have j : ∀ i, i ∉ [53, 54] → m1 i = mem i := hJ
        have hA2 : ¬ jAny (fun i => decide (¬ m1 82 (8 * dr + i) ≤ 0 ∧ (m1 80 dr >>> (m1 83 (8 * dr + i) &&& 31)) &&& 1 = 0)) q = true := by rw [j 80 (by decide), j 82 (by decide), j 83 (by decide), ← hme]; exact hA
        refine ⟨_, m_least0 np m1 b d dr q hb hdr4 hd hq (by rw [j 81 (by decide)]; exact e81) hn (by rw [j 66 (by decide)]; exact hp66) hA2 (fun p hp => by obtain ⟨o, a1, a2, a3⟩ := key_o (hpp p hp); exact ⟨o, a1, by rw [j 74 (by decide)]; exact a3⟩) (fun k hk => by obtain ⟨a1, a2, a3, a4, w9, a5, a6⟩ := hga k (by omega); exact ⟨w9, a5, by rw [j 83 (by decide)]; exact a6⟩), fun v2 m2 q2 => ?_⟩
        obtain ⟨r2, hK⟩ := q2
        refine ⟨jBest_u (jIs_c (fun p hp => ?_) (fun p hp => jBn_c q (fun k hk => ?_))) r1 r2, h.s0 (((jch.rf.eq hJ (by decide)).up rfl).eq hK (by decide))⟩
        · obtain ⟨eN, e1, e2, e3, e4, e5, f0, f1, f2, f3, hok, htb⟩ := hpp p hp
          obtain ⟨o, a1, a2, a3⟩ := key_o (hpp p hp)
          obtain ⟨-, hb1, hb2⟩ := h.2.1 o a1
          rw [j 73 (by decide), j 74 (by decide), j 75 (by decide), j 79 (by decide), a2, a3, nI_clamp (by omega), e2, e4, e5, hold_e htb hb2 hb1 hbk.2 hd, hbk.1]
        · obtain ⟨eN, e1, e2, e3, e4, e5, f0, f1, f2, f3, hok, htb⟩ := hpp p hp
          obtain ⟨a1, a2, a3, a4, w9, a5, a6⟩ := hga k (by omega)
          have hff : mem (93 + 2 * p) w9 = mem 74 (9 * p + 5 + w9) := by
            rcases (show w9 = 0 ∨ w9 = 1 ∨ w9 = 2 ∨ w9 = 3 by omega) with rfl | rfl | rfl | rfl
            · exact f0
            · exact f1
            · exact f2
            · exact f3
          rw [j 74 (by decide), j 82 (by decide), j 83 (by decide), j 84 (by decide), a1, a2, a3, a6, nI_clamp (by omega), hff, e1]
    · by_cases hA : jAny (fun i => decide (¬ mem (37 + dr) i = 0 ∧ ¬ (mem 34 dr >>> (mem (42 + dr) i &&& 31)) &&& 1 = 1)) q = true
      · exact Sim.ee (c_least1_none np mem b d dr q hb hd hdr4 hq e35 hA) (m_least1_none np _ b d dr q hb hdr4 hd hq e81 (by rw [hme] at hA; exact hA)) rfl h.th
      · refine Sim.of (c_least1 np mem b d dr q hn hp0 hb hd hdr4 hq e35 (fun p hp => by obtain ⟨o, a1, a2, -⟩ := key_o (hpp p hp); exact ⟨o, a1, a2⟩) (fun k hk => by obtain ⟨a1, a2, a3, a4, w9, a5, a6⟩ := hga k (by omega); exact ⟨w9, a5, by rw [a2, a6]⟩) hA) (fun v1 m1 q1 => ?_)
        obtain ⟨r1, hJ⟩ := q1
        have j : ∀ i, i ∉ [53, 54] → m1 i = mem i := hJ
        have hA2 : ¬ jAny (fun i => decide (¬ m1 82 (8 * dr + i) ≤ 0 ∧ (m1 80 dr >>> (m1 83 (8 * dr + i) &&& 31)) &&& 1 = 0)) q = true := by rw [j 80 (by decide), j 82 (by decide), j 83 (by decide), ← hme]; exact hA
        refine ⟨_, m_least1 np m1 b d dr q hb hdr4 hd hq (by rw [j 81 (by decide)]; exact e81) hn (by rw [j 66 (by decide)]; exact hp66) hA2 (fun p hp => by obtain ⟨o, a1, a2, a3⟩ := key_o (hpp p hp); exact ⟨o, a1, by rw [j 74 (by decide)]; exact a3⟩) (fun k hk => by obtain ⟨a1, a2, a3, a4, w9, a5, a6⟩ := hga k (by omega); exact ⟨w9, a5, by rw [j 83 (by decide)]; exact a6⟩), fun v2 m2 q2 => ?_⟩
        obtain ⟨r2, hK⟩ := q2
        refine ⟨jBest_u (jIs_c (fun p hp => ?_) (fun p hp => jBn_c q (fun k hk => ?_))) r1 r2, h.s0 (((jch.rf.eq hJ (by decide)).up rfl).eq hK (by decide))⟩
        · obtain ⟨eN, e1, e2, e3, e4, e5, f0, f1, f2, f3, hok, htb⟩ := hpp p hp
          obtain ⟨o, a1, a2, a3⟩ := key_o (hpp p hp)
          obtain ⟨-, hb1, hb2⟩ := h.2.1 o a1
          rw [j 73 (by decide), j 74 (by decide), j 75 (by decide), j 79 (by decide), a2, a3, nI_clamp (by omega), e2, e4, e5, hold_e htb hb2 hb1 hbk.2 hd, hbk.1]
        · obtain ⟨eN, e1, e2, e3, e4, e5, f0, f1, f2, f3, hok, htb⟩ := hpp p hp
          obtain ⟨a1, a2, a3, a4, w9, a5, a6⟩ := hga k (by omega)
          have hff : mem (93 + 2 * p) w9 = mem 74 (9 * p + 5 + w9) := by
            rcases (show w9 = 0 ∨ w9 = 1 ∨ w9 = 2 ∨ w9 = 3 by omega) with rfl | rfl | rfl | rfl
            · exact f0
            · exact f1
            · exact f2
            · exact f3
          rw [j 74 (by decide), j 82 (by decide), j 83 (by decide), j 84 (by decide), a1, a2, a3, a6, nI_clamp (by omega), hff, e1]
  · exact Sim.ee (c_least_bad np mem b dr d w hb) (m_least_bad np _ b dr d w hb) rfl h.th
