theorem and1 (x : Int32) : x &&& 1 = 0 ∨ x &&& 1 = 1 := by
  have h : (x &&& 1).toBitVec.toNat = x.toBitVec.toNat % 2 := by
    show (x.toBitVec &&& 1#32).toNat = _
    rw [BitVec.toNat_and]
    exact Nat.and_one_is_mod _
  rcases Nat.mod_two_eq_zero_or_one x.toBitVec.toNat with e | e
  · exact Or.inl (Int32.toBitVec_inj.mp (BitVec.eq_of_toNat_eq (by rw [h, e]; rfl)))
  · exact Or.inr (Int32.toBitVec_inj.mp (BitVec.eq_of_toNat_eq (by rw [h, e]; rfl)))
theorem and1n {x : Int32} : (¬ x &&& 1 = 1) ↔ x &&& 1 = 0 := by
  rcases and1 x with e | e
  · rw [e]; decide
  · rw [e]; decide
theorem jAny_c {g g2 : Nat → Bool} : ∀ n, (∀ k, k < n → g k = g2 k) → jAny g n = jAny g2 n
  | 0, _ => rfl
  | n + 1, h => by
    unfold jAny
    rw [jAny_c n (fun k hk => h k (by omega)), h n (by omega)]
theorem jAll_c {c : Bool} {g g2 : Nat → Bool} : ∀ n, (∀ k, k < n → g k = g2 k) → jAll c g n = jAll c g2 n
  | 0, _ => rfl
  | n + 1, h => by
    unfold jAll
    rw [jAll_c n (fun k hk => h k (by omega)), h n (by omega)]
theorem jBits_c {g g2 : Nat → Bool} {b b2 : Nat → Int32} : ∀ n, (∀ k, k < n → g k = g2 k ∧ b k = b2 k) → jBits g b n = jBits g2 b2 n
  | 0, _ => rfl
  | n + 1, h => by
    unfold jBits
    rw [jBits_c n (fun k hk => h k (by omega)), (h n (by omega)).1, (h n (by omega)).2]
theorem jBn_c {g g2 : Nat → Bool} : ∀ n, (∀ k, k < n → g k = g2 k) → jBn g n = jBn g2 n
  | 0, _ => rfl
  | n + 1, h => by
    unfold jBn
    rw [jBn_c n (fun k hk => h k (by omega)), h n (by omega)]
theorem jTog_c {g : Nat → Bool} {w w2 : Nat → Int32} : ∀ n, (∀ k, k < n → w k = w2 k) → jTog g w n = jTog g w2 n
  | 0, _ => rfl
  | n + 1, h => by
    unfold jTog
    rw [jTog_c n (fun k hk => h k (by omega)), h n (by omega)]
/-- what the doors ask, on both sides -/
theorem gates_e {mem : jMem} (h : I6g mem) {d : Nat} (hd : d < 4) : (∃ q, q ≤ 8 ∧ mem 35 d = nI q ∧ mem 81 d = nI q) ∧ mem 34 d = mem 80 d ∧ ∀ k, k < 8 → mem (37 + d) k = mem 82 (8 * d + k) ∧ mem (42 + d) k = mem 83 (8 * d + k) ∧ mem (47 + d) k = mem 84 (8 * d + k) ∧ (∃ a, a < 3 ∧ mem 82 (8 * d + k) = nI a) ∧ ∃ w, w < 4 ∧ mem 83 (8 * d + k) = nI w := by
  obtain ⟨S, hM, hC, hG⟩ := h
  refine ⟨⟨S d, hG.1 d hd, (hC.1 d hd).1, (hM.1 d hd).1⟩, by rw [(hC.1 d hd).2, (hM.1 d hd).2], fun k hk => ?_⟩
  have a := hC.2 d hd k hk
  have b := hM.2 (8 * d + k) (by omega)
  have g := hG.2 (8 * d + k) (by omega)
  rw [← Nat.add_assoc, ← Nat.add_assoc, ← Nat.add_assoc] at b
  rw [← Nat.add_assoc, ← Nat.add_assoc] at g
  exact ⟨by rw [a.1, b.1], by rw [a.2.1, b.2.1], by rw [a.2.2, b.2.2], ⟨_, g.1, b.1⟩, ⟨_, g.2, b.2.1⟩⟩
theorem much_e {mem : jMem} (h : I6g mem) {d q : Nat} (hd : d < 4) (hq : q ≤ 8) : jAny (fun i => decide (¬ mem (37 + d) i = 0 ∧ ¬ (mem 34 d >>> (mem (42 + d) i &&& 31)) &&& 1 = 1)) q = jAny (fun i => decide (¬ mem 82 (8 * d + i) ≤ 0 ∧ (mem 80 d >>> (mem 83 (8 * d + i) &&& 31)) &&& 1 = 0)) q := by
  obtain ⟨-, e34, hk⟩ := gates_e h hd
  refine jAny_c q (fun k hk9 => ?_)
  obtain ⟨a1, a2, -, ⟨n, hn, an⟩, -⟩ := hk k (by omega)
  refine decide_eq_decide.mpr ?_
  rw [a1, a2, e34, and1n, an]
  refine and_congr (not_congr ?_) Iff.rfl
  rw [show (0 : Int32) = nI 0 from rfl, nI_eq (by omega) (by omega), nI_leI (by omega) (by omega)]
  omega
theorem sim_door (np : Nat) (mem : jMem) (h : Inv np mem) (d w : Int32) : Sim yX10_door cX10_door 3 3 yX11_door cX11_door 3 3 [.int d, .int w] np mem := by
  by_cases hb : jin d 0 3 ∧ jin w 0 2
  · obtain ⟨h1, h2⟩ := hb
    obtain ⟨d, hd2, -, rfl⟩ := jin_n h1
    obtain ⟨w, hw2, -, rfl⟩ := jin_n h2
    have hd4 : d < 4 := by omega
    obtain ⟨⟨q, hq, e35, e81⟩, e34, -⟩ := gates_e h.2.2.2.2.2.2.2.1 hd4
    clear h2
    rcases (show w = 0 ∨ w = 1 ∨ w = 2 by omega) with rfl | rfl | rfl
    · exact Sim.ee (c_door0 np mem d hd4) (m_door0 np _ d hd4) (e35.trans e81.symm) h.th
    · exact Sim.ee (c_door1 np mem d hd4) (m_door1 np _ d hd4) e34 h.th
    · exact Sim.ee (c_door2 np mem d q hd4 hq e35) (m_door2 np _ d q hd4 hq e81) (by rw [much_e h.2.2.2.2.2.2.2.1 hd4 hq]) h.th
  · exact Sim.ee (c_door_bad np mem d w hb) (m_door_bad np _ d w hb) rfl h.th
theorem sim_seen (np : Nat) (mem : jMem) (h : Inv np mem) (d p s : Int32) : Sim yX10_seen cX10_seen 4 3 yX11_seen cX11_seen 4 3 [.int d, .int p, .int s] np mem := by
  obtain ⟨hn, hp0, hp66, hpp, hp75, hpz⟩ := h.2.2.1
  by_cases hd : jin d 0 3
  · by_cases hp : jin p 0 ((np : Int) - 1)
    · obtain ⟨p, hpn, rfl⟩ := jin_np hp
      by_cases hs : jin s 0 15
      · obtain ⟨q, hq, e55, e66, hse⟩ := h.2.2.2.2.2.2.2.2.2.2.1
        by_cases h30 : q = 30
        · subst h30
          exact Sim.ee (c_seen_full np mem p d s hn hp0 hpn hd hs e55) (m_seen_full np _ d (nI p) s hn hp66 hd hp hs e66) rfl h.th
        · refine Sim.ee (c_seen np mem p q d s hn hp0 hpn hd hs e55 (by omega)) (m_seen np _ d (nI p) s q hn hp66 hd hp hs e66 (by omega)) rfl ?_
          refine h.c8 (((((((jch.rf.up rfl).up rfl).up rfl).up rfl).up rfl).up rfl).up rfl) ⟨q + 1, by omega, ?_, ?_, fun s2 hs2 => ?_⟩
          · simp (disch := omega) only [jup_o, jfill_o, jup_c, jfill_c, jcpy_o, va_o]
            rw [va_up_self]
          · simp (disch := omega) only [jup_o, jfill_o, jup_c, jfill_c, jcpy_o, va_o]
            rw [va_up_self]
          · simp (disch := omega) only [jup_o, jfill_o, jup_c, jfill_c, jcpy_o, va_o]
            by_cases e : s2 = q
            · subst e
              rw [va_up_self, va_up_self, va_up_self, va_up_self]
              exact ⟨p, hpn, rfl, rfl, rfl⟩
            · rw [va_up_ne _ _ e, va_up_ne _ _ e, va_up_ne _ _ e, va_up_ne _ _ e]
              exact hse s2 (by omega)
      · exact Sim.ee (c_seen_s np mem p d s hn hp0 hpn hd hs) (m_seen_bad np _ d (nI p) s hn hp66 (fun q => hs q.2.2)) rfl h.th
    · exact Sim.ee (c_seen_p np mem d p s hn hp0 hd hp) (m_seen_bad np _ d p s hn hp66 (fun q => hp q.2.1)) rfl h.th
  · exact Sim.ee (c_seen_d np mem d p s hd) (m_seen_bad np _ d p s hn hp66 (fun q => hd q.1)) rfl h.th
theorem who_e {np : Nat} {mem : jMem} (hpp : ∀ p, p < np → I3p mem p) {sp : Nat} (hs : sp < np) {set : Int32} : jWhoC mem np sp set = jWhoM (mem 74) np sp set := by
  obtain ⟨sN, s1, s2, s3, s4, s5, g0, g1, g2, g3, -, -⟩ := hpp sp hs
  refine jBits_c np (fun p hp => ?_)
  obtain ⟨eN, e1, e2, e3, e4, e5, f0, f1, f2, f3, -, -⟩ := hpp p hp
  refine ⟨?_, e2⟩
  rw [Bool.eq_iff_iff]
  unfold jLikeC jLike
  simp only [jAll, Bool.and_eq_true, decide_eq_true_eq]
  rw [e1, s1, f0, f1, f2, f3, g0, g1, g2, g3, and1n, and1n, and1n, and1n]
  constructor
  · rintro ⟨a, b0, b1, b2, b3⟩
    exact ⟨⟨⟨⟨a, b0⟩, b1⟩, b2⟩, b3⟩
  · rintro ⟨⟨⟨⟨a, b0⟩, b1⟩, b2⟩, b3⟩
    exact ⟨a, b0, b1, b2, b3⟩
theorem tog_e {x : Int32} {q : Nat} (hq : q ≤ 30) : (¬ x ≤ 0 ∧ (x.toUInt32 >>> ((nI q).toUInt32 &&& Int32.toUInt32 31)).toInt32 = 0) ↔ (¬ x < 1 ∧ x < 1 <<< (nI q &&& 31)) := by
  have h0 : (0 : Int32).toInt = 0 := by decide
  have h1 : (1 : Int32).toInt = 1 := by decide
  have e01 : (¬ x ≤ 0) ↔ ¬ x < 1 := by
    rw [Int32.le_iff_toInt_le, Int32.lt_iff_toInt_lt, h0, h1]
    omega
  rw [e01]
  refine and_congr_right (fun hx => ?_)
  have hx0 : 0 < x.toInt := by
    rw [Int32.lt_iff_toInt_lt, h1] at hx
    omega
  have hxm := Int32.toInt_le x
  rw [show Int32.maxValue.toInt = 2147483647 from by decide] at hxm
  obtain ⟨n, hn, hn31, rfl⟩ := jin_n (x := x) (c := 2147483647) ⟨by omega, by omega⟩
  have hp : 2 ^ q ≤ 2 ^ 30 := Nat.pow_le_pow_right (by omega) hq
  rw [pk_ushrN (by omega) (nI q) q (jsu q (by omega)), j1l (by omega), show (0 : Int32) = nI 0 from rfl, nI_eq (Nat.lt_of_le_of_lt (Nat.div_le_self _ _) hn31) (by omega), nI_ltI hn31 (by omega), Nat.div_eq_zero_iff]
  have : 0 < 2 ^ q := Nat.pos_of_ne_zero (by simp)
  omega
theorem sim_together (np : Nat) (mem : jMem) (h : Inv np mem) (x : Int32) : Sim yX10_together cX10_together 4 4 yX11_together cX11_together 4 3 [.int x] np mem := by
  obtain ⟨hn, hp0, hp66, hpp, hp75, hpz⟩ := h.2.2.1
  obtain ⟨q, hq, e55, e66, hse⟩ := h.2.2.2.2.2.2.2.2.2.2.1
  have hte := tog_e (x := x) hq
  by_cases hx : ¬ x ≤ 0 ∧ (x.toUInt32 >>> ((nI q).toUInt32 &&& Int32.toUInt32 31)).toInt32 = 0
  · refine Sim.ee (c_together np mem x q hn hp0 hq e55 hx (fun s hs => by obtain ⟨sp, a1, a2, a3, a4⟩ := hse s hs; exact ⟨sp, a1, a2⟩)) (m_together np _ x q hn hp66 hq e66 (hte.mp hx) (fun s hs => by obtain ⟨sp, a1, a2, a3, a4⟩ := hse s hs; exact ⟨sp, a1, a3⟩)) (jTog_c q (fun s hs => ?_)) h.th
    obtain ⟨sp, a1, a2, a3, a4⟩ := hse s hs
    have hs12 : sp < 2 ^ 31 := by omega
    rw [a2, a3, a4, nI_clamp hs12]
    exact who_e hpp a1
  · refine Sim.ee (c_together_bad np mem x q hn hp0 hq e55 ?_) (m_together_bad np _ x q hn hp66 hq e66 ?_) rfl h.th
    · by_cases h1 : x ≤ 0
      · exact Or.inl h1
      · exact Or.inr (fun z => hx ⟨h1, z⟩)
    · rw [hte] at hx
      by_cases h1 : x < 1
      · exact Or.inl h1
      · exact Or.inr (Int32.not_lt.mp (fun z => hx ⟨h1, z⟩))
theorem by_e (X : Int64) : ∃ b, b < 256 ∧ (X &&& 255).toInt32 = nI b ∧ vp_nar .byte (X.toInt32.toInt8.toInt32) = sb b := by
  refine ⟨X.toBitVec.toNat % 256, Nat.mod_lt _ (by omega), ?_, ?_⟩
  · apply Int32.toBitVec_inj.mp
    apply BitVec.eq_of_toNat_eq
    rw [Int64.toBitVec_toInt32, BitVec.signExtend_eq_setWidth_of_le _ (by omega), BitVec.toNat_setWidth]
    show (X.toBitVec &&& 255#64).toNat % 2 ^ 32 = (BitVec.ofNat 32 (X.toBitVec.toNat % 256)).toNat
    rw [BitVec.toNat_and, BitVec.toNat_ofNat]
    show (X.toBitVec.toNat &&& (2 ^ 8 - 1)) % 2 ^ 32 = _
    rw [Nat.and_two_pow_sub_one_eq_mod, BitVec.toNat_ofNat]
  · rw [vp_nar_byte, Int8.toInt8_toInt32]
    unfold sb
    congr 1
    apply Int8.toBitVec_inj.mp
    apply BitVec.eq_of_toNat_eq
    rw [Int32.toBitVec_toInt8, Int32.toBitVec_toInt8, Int64.toBitVec_toInt32]
    rw [BitVec.signExtend_eq_setWidth_of_le (v := 8) (w := 32) _ (by omega), BitVec.signExtend_eq_setWidth_of_le (v := 8) (w := 32) _ (by omega), BitVec.signExtend_eq_setWidth_of_le (v := 32) (w := 64) _ (by omega)]
    rw [BitVec.toNat_setWidth, BitVec.toNat_setWidth, BitVec.toNat_setWidth]
    show X.toBitVec.toNat % 2 ^ 32 % 2 ^ 8 = (BitVec.ofNat 32 (X.toBitVec.toNat % 256)).toNat % 2 ^ 8
    rw [BitVec.toNat_ofNat]
    omega
theorem sim_feed (np : Nat) (mem : jMem) (h : Inv np mem) (w : Int64) (q : Int32) : Sim yX10_feed cX10_feed 4 2 yX11_feed cX11_feed 5 2 [.long w, .int q] np mem := by
  obtain ⟨t, B, e51, e66, h8, c8⟩ := h.2.2.2.2.2.2.2.2.1
  by_cases hb : jin q 1 8
  · obtain ⟨q, hq2, hq3, rfl⟩ := jin_n (x := q) (c := 8) ⟨by have := hb.1; omega, hb.2⟩
    have hq1 := hb.1
    rw [nI_toInt hq3] at hq1
    have hqq : 1 ≤ q ∧ q ≤ 8 := ⟨by omega, by omega⟩
    rcases Nat.lt_or_ge 300 (t + q) with hf | hf
    · exact Sim.ee (c_feed_full np mem w q t hqq e51 h8.1 hf) (m_feed_full np _ w q t hqq e66 h8.1 hf) rfl h.th
    · refine Sim.ee (c_feed np mem w q t hqq e51 hf) (m_feed np _ w q t hqq e66 hf) rfl ?_
      refine h.c7 (jch.va (((jch.va (jch.rf.up rfl) (by decide) (by decide)).up rfl).up rfl) (by decide) (by decide)) ?_
      have hB : ∀ k, ∃ b, b < 256 ∧ jBy w k = nI b ∧ jByC w k = sb b := fun k => by_e _
      refine ⟨t + q, fun i => if t ≤ i ∧ i < t + q then (Classical.choose (hB (q - 1 - (i - t)))) else B i, rfl, rfl, ⟨hf, fun i hi => ?_⟩, hf, fun i hi => ?_⟩
      · show (if t ≤ i ∧ i < t + q then jBy w (q - 1 - (i - t)) else mem 85 i) = _ ∧ _
        by_cases e : t ≤ i ∧ i < t + q
        · have hc := Classical.choose_spec (hB (q - 1 - (i - t)))
          simp only [if_pos e]
          exact ⟨hc.2.1, hc.1⟩
        · simp only [if_neg e]
          exact h8.2 i (by omega)
      · show (if t ≤ i ∧ i < t + q then jByC w (q - 1 - (i - t)) else mem 52 i) = _ ∧ _
        by_cases e : t ≤ i ∧ i < t + q
        · have hc := Classical.choose_spec (hB (q - 1 - (i - t)))
          simp only [if_pos e]
          exact ⟨hc.2.2, hc.1⟩
        · simp only [if_neg e]
          exact c8.2 i (by omega)
  · exact Sim.ee (c_feed_bad np mem w q hb) (m_feed_bad np _ w q hb) rfl h.th
