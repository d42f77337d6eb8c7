theorem j_acopy {G : jG} {own : String} {cc : ByteArray} {nL u us pc : Nat} {lv : Nat → Option Value} {st : List Value} {sh : jSh} {mem : jMem} {dd RC RS idx a b sp dp n : Nat} (X : jOk G own cc nL) (hR : jRm G dd RC RS) (hdd : 1 ≤ dd) (hlk : Cond.methodLink own idx ⟨"java/lang/System", "arraycopy", "(Ljava/lang/Object;ILjava/lang/Object;II)V"⟩ ∈ jW) (hW : (st.map fun v => v.category).sum ≤ 8) (ha : a < sh.1) (hka : sh.2.1 a = 13) (hb : b < sh.1) (hkb : sh.2.1 b = 13) (h1 : sp + n ≤ sh.2.2.1 a) (h2 : dp + n ≤ sh.2.2.1 b) (hla : sh.2.2.1 a < 2 ^ 31) (hlb : sh.2.2.1 b < 2 ^ 31) (hd : decode cc pc = .ok (.invokestatic idx, 3))
    (k : J G own cc nL u us (pc + 3) lv st sh (va_up mem b (va_cpy (mem a) (mem b) sp dp n))) : J G own cc nL u us pc lv (.int (nI n) :: .int (nI dp) :: .ref b :: .int (nI sp) :: .ref a :: st) sh mem := by
  obtain ⟨⟨p, l, e, R, s, m, args, below, meth, c, Q⟩, dC, dI, A, n0, ad0⟩ := G
  intro H locs ls ad cy hw hl
  have hKa := hw.2.2.2.1 a ha (by rw [hka]; decide)
  have hKb := hw.2.2.2.1 b hb (by rw [hkb]; decide)
  rw [hka] at hKa
  rw [hkb] at hKb
  have g1 := hR.1
  have g2 := hR.2.1
  have e9 : (jws ad cy sh mem).set b (ad b, .inl (cy b, sh.2.2.1 b, .inl (va_cpy (mem a) (mem b) sp dp n))) = jws ad cy sh (va_up mem b (va_cpy (mem a) (mem b) sp dp n)) := jws_set rfl (by rw [jce_i hkb (by decide) (by decide)]; rw [show va_up mem b (va_cpy (mem a) (mem b) sp dp n) b = va_cpy (mem a) (mem b) sp dp n from if_pos rfl]) (fun q hq => jce_ne hq)
  have c1 : (nI sp).toNatClampNeg = sp := nI_clamp (by omega)
  have c2 : (nI dp).toNatClampNeg = dp := nI_clamp (by omega)
  have c3 : (nI n).toNatClampNeg = n := nI_clamp (by omega)
  refine va_copyi (ty := .int) X.1 X.2.1 (X.2.2.1.trans hl.1.symm) X.2.2.2.1 (X.2.2.2.2.1 _ hlk) (X.2.2.2.2.1 _ u337) (X.2.2.2.2.1 _ u336) (X.2.2.2.2.1 _ u13) (hKa.app hKb) hw.1 hw.2.1 hw.2.2.1 a b 0 1 (by rw [jws_get ha, jce_i hka (by decide) (by decide)]) (by rw [jws_get hb, jce_i hkb (by decide) (by decide)]) rfl rfl rfl (nI_pos (by omega)) (nI_pos (by omega)) (nI_pos (by omega)) (by rw [c1, c3]; exact h1) (by rw [c2, c3]; exact h2) (fun _ _ => rfl) (by omega) (by rw [j_cat_sum]; show _ + (7 + 11) ≤ _; omega) hd (fun H1 locs1 hP1 hD1 hS1 => ?_)
  rw [c1, c2, c3, e9] at hP1 hD1
  exact k H1 locs1 ls ad cy ⟨hP1, hD1, hS1, hw.2.2.2⟩ hl
theorem jsubz {z : Nat} {x : Int32} (hz : z < 2 ^ 31) (hx : 0 ≤ x.toInt) : (nI z - x).toInt = (z : Int) - x.toInt := by
  rw [Int32.toInt_sub, nI_toInt hz]
  have h2 := Int32.toInt_lt x
  rw [Int.bmod_eq_of_le] <;> simp at h2 ⊢ <;> omega
/-- what the class' loop over the keys knows -/
def jKC (days keys : Nat → Int32) (d o key fr : Int32) (j : Nat) : Prop := (jKeyS days keys d j = none ∧ fr = 0 ∧ key = 100 + o) ∨ jKeyS days keys d j = some (fr, key)
theorem jKC_take {days keys : Nat → Int32} {d o key fr : Int32} {j : Nat} (hB : jKC days keys d o key fr j) (h0 : 0 ≤ (days j).toInt) (h1 : fr ≤ days j) (h2 : days j ≤ d) : jKC days keys d o (keys j) (days j) (j + 1) := Or.inr (if_pos ⟨h2, fun q hq => by
  rcases hB with ⟨g1, -, -⟩ | g1
  · rw [g1] at hq; cases hq
  · rw [g1] at hq; cases hq; exact h1⟩)
theorem jKC_skip {days keys : Nat → Int32} {d o key fr : Int32} {j : Nat} (hB : jKC days keys d o key fr j) (h0 : 0 ≤ (days j).toInt) (h : ¬ (fr ≤ days j ∧ days j ≤ d)) : jKC days keys d o key fr (j + 1) := by
  have e : jKeyS days keys d (j + 1) = jKeyS days keys d j := if_neg (fun z => h ⟨by
    rcases hB with ⟨-, g2, -⟩ | g1
    · rw [g2, Int32.le_iff_toInt_le]; exact h0
    · exact z.2 _ g1, z.1⟩)
  rcases hB with ⟨g1, g2⟩ | g1
  · exact Or.inl ⟨e.trans g1, g2⟩
  · exact Or.inr (e.trans g1)
theorem jKC_end {days keys : Nat → Int32} {d o key fr : Int32} {c : Nat} (hB : jKC days keys d o key fr c) : jKey days keys c o d = key := by
  unfold jKey
  rcases hB with ⟨g1, -, g3⟩ | g1
  · rw [g1, g3]
  · rw [g1]
theorem jCnt_f0 {g : Nat → Prop} [DecidablePred g] {k : Nat} (h : ¬ g k) : nI (jCnt g k) = nI (jCnt g (k + 1)) := by
  show _ = nI (jCnt g k + if g k then 1 else 0)
  rw [if_neg h, Nat.add_zero]
theorem jnm1 {z : Nat} (h : z < 2 ^ 31) : ¬ nI z = -1 := fun q => absurd (nI_pos h) (by rw [q]; decide)
set_option maxRecDepth 4000 in
/-- Arrays.fill, over any shape -/
theorem c_fillG (sh : jSh) (mem : jMem) (o z : Nat) (v : Int32) (ho : o < sh.1) (hk : sh.2.1 o = 13) (hz : sh.2.2.1 o = z) (hz2 : z < 2 ^ 31) : jCt yJ7_fill_53178 cJ7_fill_53178 4 none 1 0 0 [.ref o, .int v] sh mem (fun a b c => a = none ∧ b = sh ∧ c = jfill mem o 0 z v) := by
  refine jCt.of rfl (Nat.le_of_ble_eq_true rfl) (fun G X hR hr _ hE => ?_)
  refine j_iconst X dJ7_fill_53178_0 0 (by decide) ?_
  refine j_istore_n X dJ7_fill_53178_1 (by decide) ?_
  refine j_aload_n X dJ7_fill_53178_2 rfl ?_
  refine j_alen X ho hk (nI z) (by rw [hz]; rfl) dJ7_fill_53178_3 ?_
  refine j_istore_n X dJ7_fill_53178_4 (by decide) ?_
  have lp : ∀ (n k : Nat), k ≤ z → z + 1 ≤ k + n → J G yJ7_fill_53178.cls cJ7_fill_53178 4 0 0 5 (jlv [some (.ref o), some (.int v), some (.int (nI k)), some (.int (nI z))]) [] sh (jfill mem o 0 (0 + k) v) := by
    intro n
    induction n with
    | zero =>
      intro k h1 h2
      exact absurd h2 (by omega)
    | succ n ih =>
      intro k h1 h2
      refine j_iload_n X dJ7_fill_53178_5 rfl ?_
      refine j_iload_n X dJ7_fill_53178_6 rfl ?_
      refine j_icmp_ge X 20 dJ7_fill_53178_7 (by decide) (fun c7 => ?_) (fun c7 => ?_)
      · obtain rfl : k = z := by
          have := (nI_leI (by omega) (by omega)).mp c7
          omega
        refine j_return X hE hr (Nat.le_refl _) (Nat.le_refl _) dJ7_fill_53178_20 ⟨rfl, rfl, by rw [Nat.zero_add]⟩
      · have hlt : k < z := by
          rcases Nat.lt_or_ge k z with q | q
          · exact q
          · exact absurd ((nI_leI (by omega) (by omega)).mpr q) c7
        refine j_aload_n X dJ7_fill_53178_10 rfl ?_
        refine j_iload_n X dJ7_fill_53178_11 rfl ?_
        refine j_iload_n X dJ7_fill_53178_12 rfl ?_
        refine j_iastN X ho hk (by rw [hz]; exact hlt) (by rw [hz]; exact hz2) dJ7_fill_53178_13 ?_
        refine j_iinc X dJ7_fill_53178_14 rfl 1 rfl ?_
        refine j_goto X 5 dJ7_fill_53178_17 (by decide) ?_
        refine j_mem (jfill mem o 0 (0 + (k + 1)) v) (by have := jfill_s (mem := mem) (o := o) (a := 0) (b := 0 + k) (v := v) (by omega); rw [Nat.zero_add] at this ⊢; rw [this, Nat.zero_add]) ?_
        refine j_lv [some (.ref o), some (.int v), some (.int (nI (k + 1))), some (.int (nI z))] ⟨rfl, rfl, congrArg (fun z => some (Value.int z)) (nI_1 _), rfl, trivial⟩ ?_
        exact ih (k + 1) (by omega) (by omega)
  refine j_mem (jfill mem o 0 (0 + 0) v) (jfill_0 _ _ _ _).symm ?_
  refine j_lv [some (.ref o), some (.int v), some (.int (nI 0)), some (.int (nI z))] ⟨rfl, rfl, rfl, rfl, trivial⟩ ?_
  exact lp (z + 1) 0 (by omega) (by omega)
theorem c_fill (np : Nat) (mem : jMem) (o z : Nat) (v : Int32) (ho : o < (jS np).1) (hk : (jS np).2.1 o = 13) (hz : (jS np).2.2.1 o = z) (hz2 : z < 2 ^ 31) : jPv yJ7_fill_53178 cJ7_fill_53178 4 1 [.ref o, .int v] np mem (fun c => c = jfill mem o 0 z v) := by
  have h := c_fillG (jS np) mem o z v ho hk hz hz2
  unfold jPv
  rw [show (fun (a : Option Value) (b : jSh) (c : jMem) => b = jS np ∧ a = none ∧ c = jfill mem o 0 z v) = (fun a b c => a = none ∧ b = jS np ∧ c = jfill mem o 0 z v) from by funext a b c; exact propext ⟨fun h => ⟨h.2.1, h.1, h.2.2⟩, fun h => ⟨h.2.1, h.1, h.2.2⟩⟩]
  exact h
set_option maxRecDepth 4000 in
set_option maxHeartbeats 1000000 in
theorem c_within (np : Nat) (mem : jMem) (x a b : Int32)  : jPi yX10_within cX10_within 3 .boolean 1 [.int x, .int a, .int b] np mem (fun v c => v = jb (a.toInt ≤ x.toInt ∧ x.toInt ≤ b.toInt) ∧ c = mem) := by
  refine jPi.of (own := RX10) rfl rfl (Nat.le_of_ble_eq_true rfl) (fun G X hR hr hE => ?_)
  refine j_iload_n X dX10_within_0 rfl ?_
  refine j_iload_n X dX10_within_1 rfl ?_
  refine j_icmp_lt X 14 dX10_within_2 (by decide) (fun c_2 => ?_) (fun c_2 => ?_)
  · refine j_iconst X dX10_within_14 0 (by decide) ?_
    refine s_iret X hE hr dX10_within_15 (by first | exact jb_nar | rfl) ?_
    refine ⟨?_, rfl⟩
    clear hE hr hR X
    first | exact (jb_t (by (try simp only [lg_cmp_lt, lg_cmp_gt, lg_cmp_le, lg_cmp_ge] at *); (try simp (disch := omega) only [Int64.le_iff_toInt_le, Int64.lt_iff_toInt_lt, Int32.le_iff_toInt_le, Int32.lt_iff_toInt_lt, fa_eq, fa_lit, fa_litL, nI_toInt, pk_lT, Int32.toInt_toInt64, jadd64, jin, jnoneT] at *); omega)).symm | exact (jb_f (by (try simp only [lg_cmp_lt, lg_cmp_gt, lg_cmp_le, lg_cmp_ge] at *); (try simp (disch := omega) only [Int64.le_iff_toInt_le, Int64.lt_iff_toInt_lt, Int32.le_iff_toInt_le, Int32.lt_iff_toInt_lt, fa_eq, fa_lit, fa_litL, nI_toInt, pk_lT, Int32.toInt_toInt64, jadd64, jin, jnoneT] at *); omega)).symm
  · refine j_iload_n X dX10_within_5 rfl ?_
    refine j_iload_n X dX10_within_6 rfl ?_
    refine j_icmp_gt X 14 dX10_within_7 (by decide) (fun c_7 => ?_) (fun c_7 => ?_)
    · refine j_iconst X dX10_within_14 0 (by decide) ?_
      refine s_iret X hE hr dX10_within_15 (by first | exact jb_nar | rfl) ?_
      refine ⟨?_, rfl⟩
      clear hE hr hR X
      first | exact (jb_t (by (try simp only [lg_cmp_lt, lg_cmp_gt, lg_cmp_le, lg_cmp_ge] at *); (try simp (disch := omega) only [Int64.le_iff_toInt_le, Int64.lt_iff_toInt_lt, Int32.le_iff_toInt_le, Int32.lt_iff_toInt_lt, fa_eq, fa_lit, fa_litL, nI_toInt, pk_lT, Int32.toInt_toInt64, jadd64, jin, jnoneT] at *); omega)).symm | exact (jb_f (by (try simp only [lg_cmp_lt, lg_cmp_gt, lg_cmp_le, lg_cmp_ge] at *); (try simp (disch := omega) only [Int64.le_iff_toInt_le, Int64.lt_iff_toInt_lt, Int32.le_iff_toInt_le, Int32.lt_iff_toInt_lt, fa_eq, fa_lit, fa_litL, nI_toInt, pk_lT, Int32.toInt_toInt64, jadd64, jin, jnoneT] at *); omega)).symm
    · refine j_iconst X dX10_within_10 1 (by decide) ?_
      refine j_goto X 15 dX10_within_11 (by decide) ?_
      refine s_iret X hE hr dX10_within_15 (by first | exact jb_nar | rfl) ?_
      refine ⟨?_, rfl⟩
      clear hE hr hR X
      first | exact (jb_t (by (try simp only [lg_cmp_lt, lg_cmp_gt, lg_cmp_le, lg_cmp_ge] at *); (try simp (disch := omega) only [Int64.le_iff_toInt_le, Int64.lt_iff_toInt_lt, Int32.le_iff_toInt_le, Int32.lt_iff_toInt_lt, fa_eq, fa_lit, fa_litL, nI_toInt, pk_lT, Int32.toInt_toInt64, jadd64, jin, jnoneT] at *); omega)).symm | exact (jb_f (by (try simp only [lg_cmp_lt, lg_cmp_gt, lg_cmp_le, lg_cmp_ge] at *); (try simp (disch := omega) only [Int64.le_iff_toInt_le, Int64.lt_iff_toInt_lt, Int32.le_iff_toInt_le, Int32.lt_iff_toInt_lt, fa_eq, fa_lit, fa_litL, nI_toInt, pk_lT, Int32.toInt_toInt64, jadd64, jin, jnoneT] at *); omega)).symm
theorem c_withinI (np : Nat) (mem : jMem) (x a b : Int32) (lo hi : Int) (ha : a.toInt = lo) (hb : b.toInt = hi) : jPi yX10_within cX10_within 3 .boolean 1 [.int x, .int a, .int b] np mem (fun v c => v = jb (jin x lo hi) ∧ c = mem) := by
  subst ha hb
  exact c_within np mem x a b
set_option maxRecDepth 4000 in
set_option maxHeartbeats 1000000 in
theorem c_hasBit (np : Nat) (mem : jMem) (x b : Int32)  : jPi yX10_hasBit cX10_hasBit 2 .boolean 1 [.int x, .int b] np mem (fun v c => v = jb ((x >>> (b &&& 31)) &&& 1 = 1) ∧ c = mem) := by
  refine jPi.of (own := RX10) rfl rfl (Nat.le_of_ble_eq_true rfl) (fun G X hR hr hE => ?_)
  refine j_iload_n X dX10_hasBit_0 rfl ?_
  refine j_iload_n X dX10_hasBit_1 rfl ?_
  refine j_ishr X dX10_hasBit_2 ?_
  refine j_iconst X dX10_hasBit_3 1 (by decide) ?_
  refine j_iand X dX10_hasBit_4 ?_
  refine j_iconst X dX10_hasBit_5 1 (by decide) ?_
  refine j_icmp_ne X 13 dX10_hasBit_6 (by decide) (fun c_6 => ?_) (fun c_6 => ?_)
  · refine j_iconst X dX10_hasBit_13 0 (by decide) ?_
    refine s_iret X hE hr dX10_hasBit_14 (by first | exact jb_nar | rfl) ?_
    refine ⟨?_, rfl⟩
    first | exact (jb_t c_6).symm | exact (jb_f c_6).symm
  · refine j_iconst X dX10_hasBit_9 1 (by decide) ?_
    refine j_goto X 14 dX10_hasBit_10 (by decide) ?_
    refine s_iret X hE hr dX10_hasBit_14 (by first | exact jb_nar | rfl) ?_
    refine ⟨?_, rfl⟩
    first | exact (jb_t c_6).symm | exact (jb_f c_6).symm
set_option maxRecDepth 4000 in
set_option maxHeartbeats 1000000 in
theorem c_isOffice (np : Nat) (mem : jMem) (x : Int32)  : jPi yX10_isOffice cX10_isOffice 1 .boolean 2 [.int x] np mem (fun v c => v = jb (jin x 0 3) ∧ c = mem) := by
  refine jPi.of (own := RX10) rfl rfl (Nat.le_of_ble_eq_true rfl) (fun G X hR hr hE => ?_)
  refine j_iload_n X dX10_isOffice_0 rfl ?_
  refine j_iconst X dX10_isOffice_1 0 (by decide) ?_
  refine j_iconst X dX10_isOffice_2 3 (by decide) ?_
  refine s_callSi X hR (c_withinI np _ _ _ _ (0) (3) rfl rfl) rfl u293 u294 u292 u1 hyX10_within (by decide) (by decide) (Nat.le_of_ble_eq_true rfl) dX10_isOffice_3 (fun v_3 m_3 h_3 => ?_)
  obtain ⟨e1, e2⟩ := h_3; have e1 := e1.symm; have e2 := e2.symm; subst e1; subst e2
  refine s_iret X hE hr dX10_isOffice_6 (by first | exact jb_nar | rfl) ?_
  first | exact ⟨rfl, rfl⟩ | (exfalso; clear hE hr hR X; (try simp only [lg_cmp_lt, lg_cmp_gt, lg_cmp_le, lg_cmp_ge] at *); (try simp (disch := omega) only [Int64.le_iff_toInt_le, Int64.lt_iff_toInt_lt, Int32.le_iff_toInt_le, Int32.lt_iff_toInt_lt, fa_eq, fa_lit, fa_litL, nI_toInt, pk_lT, Int32.toInt_toInt64, jadd64, jin, jnoneT] at *); omega)
set_option maxRecDepth 4000 in
set_option maxHeartbeats 1000000 in
theorem c_isBearer (np : Nat) (mem : jMem) (x : Int32)  : jPi yX10_isBearer cX10_isBearer 1 .boolean 2 [.int x] np mem (fun v c => v = jb (jin x 0 5) ∧ c = mem) := by
  refine jPi.of (own := RX10) rfl rfl (Nat.le_of_ble_eq_true rfl) (fun G X hR hr hE => ?_)
  refine j_iload_n X dX10_isBearer_0 rfl ?_
  refine j_iconst X dX10_isBearer_1 0 (by decide) ?_
  refine j_iconst X dX10_isBearer_2 5 (by decide) ?_
  refine s_callSi X hR (c_withinI np _ _ _ _ (0) (5) rfl rfl) rfl u293 u294 u292 u1 hyX10_within (by decide) (by decide) (Nat.le_of_ble_eq_true rfl) dX10_isBearer_3 (fun v_3 m_3 h_3 => ?_)
  obtain ⟨e1, e2⟩ := h_3; have e1 := e1.symm; have e2 := e2.symm; subst e1; subst e2
  refine s_iret X hE hr dX10_isBearer_6 (by first | exact jb_nar | rfl) ?_
  first | exact ⟨rfl, rfl⟩ | (exfalso; clear hE hr hR X; (try simp only [lg_cmp_lt, lg_cmp_gt, lg_cmp_le, lg_cmp_ge] at *); (try simp (disch := omega) only [Int64.le_iff_toInt_le, Int64.lt_iff_toInt_lt, Int32.le_iff_toInt_le, Int32.lt_iff_toInt_lt, fa_eq, fa_lit, fa_litL, nI_toInt, pk_lT, Int32.toInt_toInt64, jadd64, jin, jnoneT] at *); omega)
set_option maxRecDepth 4000 in
set_option maxHeartbeats 1000000 in
theorem c_isDoor (np : Nat) (mem : jMem) (x : Int32)  : jPi yX10_isDoor cX10_isDoor 1 .boolean 2 [.int x] np mem (fun v c => v = jb (jin x 0 3) ∧ c = mem) := by
  refine jPi.of (own := RX10) rfl rfl (Nat.le_of_ble_eq_true rfl) (fun G X hR hr hE => ?_)
  refine j_iload_n X dX10_isDoor_0 rfl ?_
  refine j_iconst X dX10_isDoor_1 0 (by decide) ?_
  refine j_iconst X dX10_isDoor_2 3 (by decide) ?_
  refine s_callSi X hR (c_withinI np _ _ _ _ (0) (3) rfl rfl) rfl u293 u294 u292 u1 hyX10_within (by decide) (by decide) (Nat.le_of_ble_eq_true rfl) dX10_isDoor_3 (fun v_3 m_3 h_3 => ?_)
  obtain ⟨e1, e2⟩ := h_3; have e1 := e1.symm; have e2 := e2.symm; subst e1; subst e2
  refine s_iret X hE hr dX10_isDoor_6 (by first | exact jb_nar | rfl) ?_
  first | exact ⟨rfl, rfl⟩ | (exfalso; clear hE hr hR X; (try simp only [lg_cmp_lt, lg_cmp_gt, lg_cmp_le, lg_cmp_ge] at *); (try simp (disch := omega) only [Int64.le_iff_toInt_le, Int64.lt_iff_toInt_lt, Int32.le_iff_toInt_le, Int32.lt_iff_toInt_lt, fa_eq, fa_lit, fa_litL, nI_toInt, pk_lT, Int32.toInt_toInt64, jadd64, jin, jnoneT] at *); omega)
set_option maxRecDepth 4000 in
set_option maxHeartbeats 1000000 in
theorem c_isField (np : Nat) (mem : jMem) (x : Int32)  : jPi yX10_isField cX10_isField 1 .boolean 2 [.int x] np mem (fun v c => v = jb (jin x 0 3) ∧ c = mem) := by
  refine jPi.of (own := RX10) rfl rfl (Nat.le_of_ble_eq_true rfl) (fun G X hR hr hE => ?_)
  refine j_iload_n X dX10_isField_0 rfl ?_
  refine j_iconst X dX10_isField_1 0 (by decide) ?_
  refine j_iconst X dX10_isField_2 3 (by decide) ?_
  refine s_callSi X hR (c_withinI np _ _ _ _ (0) (3) rfl rfl) rfl u293 u294 u292 u1 hyX10_within (by decide) (by decide) (Nat.le_of_ble_eq_true rfl) dX10_isField_3 (fun v_3 m_3 h_3 => ?_)
  obtain ⟨e1, e2⟩ := h_3; have e1 := e1.symm; have e2 := e2.symm; subst e1; subst e2
  refine s_iret X hE hr dX10_isField_6 (by first | exact jb_nar | rfl) ?_
  first | exact ⟨rfl, rfl⟩ | (exfalso; clear hE hr hR X; (try simp only [lg_cmp_lt, lg_cmp_gt, lg_cmp_le, lg_cmp_ge] at *); (try simp (disch := omega) only [Int64.le_iff_toInt_le, Int64.lt_iff_toInt_lt, Int32.le_iff_toInt_le, Int32.lt_iff_toInt_lt, fa_eq, fa_lit, fa_litL, nI_toInt, pk_lT, Int32.toInt_toInt64, jadd64, jin, jnoneT] at *); omega)
set_option maxRecDepth 4000 in
set_option maxHeartbeats 1000000 in
theorem c_isDay (np : Nat) (mem : jMem) (x : Int32)  : jPi yX10_isDay cX10_isDay 1 .boolean 2 [.int x] np mem (fun v c => v = jb (jin x 0 999) ∧ c = mem) := by
  refine jPi.of (own := RX10) rfl rfl (Nat.le_of_ble_eq_true rfl) (fun G X hR hr hE => ?_)
  refine j_iload_n X dX10_isDay_0 rfl ?_
  refine j_iconst X dX10_isDay_1 0 (by decide) ?_
  refine j_sipush X dX10_isDay_2 999 (by decide) ?_
  refine s_callSi X hR (c_withinI np _ _ _ _ (0) (999) rfl rfl) rfl u293 u294 u292 u1 hyX10_within (by decide) (by decide) (Nat.le_of_ble_eq_true rfl) dX10_isDay_5 (fun v_5 m_5 h_5 => ?_)
  obtain ⟨e1, e2⟩ := h_5; have e1 := e1.symm; have e2 := e2.symm; subst e1; subst e2
  refine s_iret X hE hr dX10_isDay_8 (by first | exact jb_nar | rfl) ?_
  first | exact ⟨rfl, rfl⟩ | (exfalso; clear hE hr hR X; (try simp only [lg_cmp_lt, lg_cmp_gt, lg_cmp_le, lg_cmp_ge] at *); (try simp (disch := omega) only [Int64.le_iff_toInt_le, Int64.lt_iff_toInt_lt, Int32.le_iff_toInt_le, Int32.lt_iff_toInt_lt, fa_eq, fa_lit, fa_litL, nI_toInt, pk_lT, Int32.toInt_toInt64, jadd64, jin, jnoneT] at *); omega)
set_option maxRecDepth 4000 in
set_option maxHeartbeats 1000000 in
theorem c_isSet (np : Nat) (mem : jMem) (x : Int32)  : jPi yX10_isSet cX10_isSet 1 .boolean 2 [.int x] np mem (fun v c => v = jb (jin x 0 15) ∧ c = mem) := by
  refine jPi.of (own := RX10) rfl rfl (Nat.le_of_ble_eq_true rfl) (fun G X hR hr hE => ?_)
  refine j_iload_n X dX10_isSet_0 rfl ?_
  refine j_iconst X dX10_isSet_1 0 (by decide) ?_
  refine j_bipush X dX10_isSet_2 15 (by decide) ?_
  refine s_callSi X hR (c_withinI np _ _ _ _ (0) (15) rfl rfl) rfl u293 u294 u292 u1 hyX10_within (by decide) (by decide) (Nat.le_of_ble_eq_true rfl) dX10_isSet_4 (fun v_4 m_4 h_4 => ?_)
  obtain ⟨e1, e2⟩ := h_4; have e1 := e1.symm; have e2 := e2.symm; subst e1; subst e2
  refine s_iret X hE hr dX10_isSet_7 (by first | exact jb_nar | rfl) ?_
  first | exact ⟨rfl, rfl⟩ | (exfalso; clear hE hr hR X; (try simp only [lg_cmp_lt, lg_cmp_gt, lg_cmp_le, lg_cmp_ge] at *); (try simp (disch := omega) only [Int64.le_iff_toInt_le, Int64.lt_iff_toInt_lt, Int32.le_iff_toInt_le, Int32.lt_iff_toInt_lt, fa_eq, fa_lit, fa_litL, nI_toInt, pk_lT, Int32.toInt_toInt64, jadd64, jin, jnoneT] at *); omega)
set_option maxRecDepth 4000 in
set_option maxHeartbeats 1000000 in
theorem c_isNumber (np : Nat) (mem : jMem) (x : Int32)  : jPi yX7_isNumber cX7_isNumber 1 .boolean 2 [.int x] np mem (fun v c => v = jb (jin x 0 7) ∧ c = mem) := by
  refine jPi.of (own := RX7) rfl rfl (Nat.le_of_ble_eq_true rfl) (fun G X hR hr hE => ?_)
  refine j_iload_n X dX7_isNumber_0 rfl ?_
  refine j_iconst X dX7_isNumber_1 0 (by decide) ?_
  refine j_bipush X dX7_isNumber_2 7 (by decide) ?_
  refine s_callNi X hR (c_withinI np _ _ _ _ (0) (7) rfl rfl) rfl u293 (by decide) u292 u1 hyX10_within (by decide) (by decide) (Nat.le_of_ble_eq_true rfl) dX7_isNumber_4 (fun v_4 m_4 h_4 => ?_)
  obtain ⟨e1, e2⟩ := h_4; have e1 := e1.symm; have e2 := e2.symm; subst e1; subst e2
  refine s_iret X hE hr dX7_isNumber_7 (by first | exact jb_nar | rfl) ?_
  first | exact ⟨rfl, rfl⟩ | (exfalso; clear hE hr hR X; (try simp only [lg_cmp_lt, lg_cmp_gt, lg_cmp_le, lg_cmp_ge] at *); (try simp (disch := omega) only [Int64.le_iff_toInt_le, Int64.lt_iff_toInt_lt, Int32.le_iff_toInt_le, Int32.lt_iff_toInt_lt, fa_eq, fa_lit, fa_litL, nI_toInt, pk_lT, Int32.toInt_toInt64, jadd64, jin, jnoneT] at *); omega)
set_option maxRecDepth 4000 in
set_option maxHeartbeats 1000000 in
theorem c_finding (np : Nat) (mem : jMem) (x : Int32)  : jPi yX10_finding cX10_finding 2 .int 1 [.ref 0, .int x] np mem (fun v c => v = -1000010 - x ∧ c = jup mem 0 14 x) := by
  refine jPi.of (own := RX10) rfl rfl (Nat.le_of_ble_eq_true rfl) (fun G X hR hr hE => ?_)
  refine j_aload_n X dX10_finding_0 rfl ?_
  refine j_iload_n X dX10_finding_1 rfl ?_
  refine j_putI X 10 14 (by decide) (by decide) rfl rfl rfl rfl u252 (o0 np) (k0 np) dX10_finding_2 ?_
  refine j_ldcw X dX10_finding_5 u300 ?_
  refine j_iload_n X dX10_finding_8 rfl ?_
  refine j_isub X dX10_finding_9 ?_
  refine s_iret X hE hr dX10_finding_10 rfl ?_
  first | exact ⟨rfl, rfl⟩ | (exfalso; clear hE hr hR X; (try simp only [lg_cmp_lt, lg_cmp_gt, lg_cmp_le, lg_cmp_ge] at *); (try simp (disch := omega) only [Int64.le_iff_toInt_le, Int64.lt_iff_toInt_lt, Int32.le_iff_toInt_le, Int32.lt_iff_toInt_lt, fa_eq, fa_lit, fa_litL, nI_toInt, pk_lT, Int32.toInt_toInt64, jadd64, jin, jnoneT] at *); omega)
set_option maxRecDepth 4000 in
set_option maxHeartbeats 1000000 in
theorem c_found (np : Nat) (mem : jMem) (x : Int32)  : jPi yX10_found cX10_found 2 .int 1 [.ref 0, .int x] np mem (fun v c => v = x ∧ c = jup mem 0 14 0) := by
  refine jPi.of (own := RX10) rfl rfl (Nat.le_of_ble_eq_true rfl) (fun G X hR hr hE => ?_)
  refine j_aload_n X dX10_found_0 rfl ?_
  refine j_iconst X dX10_found_1 0 (by decide) ?_
  refine j_putI X 10 14 (by decide) (by decide) rfl rfl rfl rfl u252 (o0 np) (k0 np) dX10_found_2 ?_
  refine j_iload_n X dX10_found_5 rfl ?_
  refine s_iret X hE hr dX10_found_6 rfl ?_
  exact ⟨rfl, rfl⟩
set_option maxRecDepth 4000 in
set_option maxHeartbeats 1000000 in
theorem c_join (np : Nat) (mem : jMem) (a b : Int32)  : jPi yX10_join cX10_join 2 .int 1 [.int a, .int b] np mem (fun v c => v = jJoin a b ∧ c = mem) := by
  refine jPi.of (own := RX10) rfl rfl (Nat.le_of_ble_eq_true rfl) (fun G X hR hr hE => ?_)
  refine j_iload_n X dX10_join_0 rfl ?_
  refine j_i2l X dX10_join_1 ?_
  refine j_iload_n X dX10_join_2 rfl ?_
  refine j_i2l X dX10_join_3 ?_
  refine j_lmul X dX10_join_4 ?_
  refine j_ldc2 X dX10_join_5 u447 ?_
  refine j_iload_n X dX10_join_8 rfl ?_
  refine j_i2l X dX10_join_9 ?_
  refine j_lmul X dX10_join_10 ?_
  refine j_ladd X dX10_join_11 ?_
  refine j_ldc2 X dX10_join_12 u465 ?_
  refine j_ladd X dX10_join_15 ?_
  refine j_ldc2 X dX10_join_16 u448 ?_
  refine j_lrem X dX10_join_19 (by decide) ?_
  refine j_l2i X dX10_join_20 ?_
  refine s_iret X hE hr dX10_join_21 rfl ?_
  first | exact ⟨rfl, rfl⟩ | (exfalso; clear hE hr hR X; (try simp only [lg_cmp_lt, lg_cmp_gt, lg_cmp_le, lg_cmp_ge] at *); (try simp (disch := omega) only [Int64.le_iff_toInt_le, Int64.lt_iff_toInt_lt, Int32.le_iff_toInt_le, Int32.lt_iff_toInt_lt, fa_eq, fa_lit, fa_litL, nI_toInt, pk_lT, Int32.toInt_toInt64, jadd64, jin, jnoneT] at *); omega)
set_option maxRecDepth 4000 in
set_option maxHeartbeats 1000000 in
theorem c_seal (np : Nat) (mem : jMem) (a b : Int32)  : jPi yX10_seal cX10_seal 2 .int 1 [.int a, .int b] np mem (fun v c => v = jSeal a b ∧ c = mem) := by
  refine jPi.of (own := RX10) rfl rfl (Nat.le_of_ble_eq_true rfl) (fun G X hR hr hE => ?_)
  refine j_iload_n X dX10_seal_0 rfl ?_
  refine j_i2l X dX10_seal_1 ?_
  refine j_iload_n X dX10_seal_2 rfl ?_
  refine j_i2l X dX10_seal_3 ?_
  refine j_lmul X dX10_seal_4 ?_
  refine j_lconst X dX10_seal_5 1 (by decide) ?_
  refine j_ladd X dX10_seal_6 ?_
  refine j_ldc2 X dX10_seal_7 u448 ?_
  refine j_lrem X dX10_seal_10 (by decide) ?_
  refine j_l2i X dX10_seal_11 ?_
  refine s_iret X hE hr dX10_seal_12 rfl ?_
  first | exact ⟨rfl, rfl⟩ | (exfalso; clear hE hr hR X; (try simp only [lg_cmp_lt, lg_cmp_gt, lg_cmp_le, lg_cmp_ge] at *); (try simp (disch := omega) only [Int64.le_iff_toInt_le, Int64.lt_iff_toInt_lt, Int32.le_iff_toInt_le, Int32.lt_iff_toInt_lt, fa_eq, fa_lit, fa_litL, nI_toInt, pk_lT, Int32.toInt_toInt64, jadd64, jin, jnoneT] at *); omega)
set_option maxRecDepth 4000 in
set_option maxHeartbeats 1000000 in
theorem c_isMissing (np : Nat) (mem : jMem) (s : Nat) (hs : s < 8) : jPi yX7_isMissing cX7_isMissing 2 .boolean 1 [.ref 1, .int (nI s)] np mem (fun v c => v = jb (mem 12 s = -1) ∧ c = mem) := by
  refine jPi.of (own := RX7) rfl rfl (Nat.le_of_ble_eq_true rfl) (fun G X hR hr hE => ?_)
  refine j_aload_n X dX7_isMissing_0 rfl ?_
  refine j_getR X 7 2 (by decide) (by decide) rfl u44 (o1 np) (k1 np) _ (p1_2 np) dX7_isMissing_1 ?_
  refine j_iload_n X dX7_isMissing_4 rfl ?_
  refine j_nrm _ (by first | (simp only [fa_lit, pk_mul, nI_add]; done) | (simp only [fa_lit, pk_mul, nI_add]; rfl) | rfl) ?_
  refine j_ialdN X (o12 np) (k12 np) (by rw [l12]; omega) (by rw [l12]; decide) (mem 12) rfl dX7_isMissing_5 ?_
  refine j_iconst X dX7_isMissing_6 (-1) (by decide) ?_
  refine j_icmp_ne X 14 dX7_isMissing_7 (by decide) (fun c_7 => ?_) (fun c_7 => ?_)
  · refine j_iconst X dX7_isMissing_14 0 (by decide) ?_
    refine s_iret X hE hr dX7_isMissing_15 (by first | exact jb_nar | rfl) ?_
    refine ⟨?_, rfl⟩
    first | exact (jb_t c_7).symm | exact (jb_f c_7).symm
  · refine j_iconst X dX7_isMissing_10 1 (by decide) ?_
    refine j_goto X 15 dX7_isMissing_11 (by decide) ?_
    refine s_iret X hE hr dX7_isMissing_15 (by first | exact jb_nar | rfl) ?_
    refine ⟨?_, rfl⟩
    first | exact (jb_t c_7).symm | exact (jb_f c_7).symm
set_option maxRecDepth 4000 in
set_option maxHeartbeats 1000000 in
theorem c_reaches (np : Nat) (mem : jMem) (s z : Nat) (i q : Int32) (hs : s < 8) (hz : z ≤ 60) (hm : mem 12 s = nI z) : jPi yX7_reaches cX7_reaches 4 .boolean 1 [.ref 1, .int (nI s), .int i, .int q] np mem (fun v c => v = jb (0 ≤ i.toInt ∧ 0 ≤ q.toInt ∧ i.toInt + q.toInt ≤ z) ∧ c = mem) := by
  refine jPi.of (own := RX7) rfl rfl (Nat.le_of_ble_eq_true rfl) (fun G X hR hr hE => ?_)
  refine j_iload_n X dX7_reaches_0 rfl ?_
  refine j_if_lt X 24 dX7_reaches_1 (by decide) (fun c_1 => ?_) (fun c_1 => ?_)
  · refine j_iconst X dX7_reaches_24 0 (by decide) ?_
    refine s_iret X hE hr dX7_reaches_25 (by first | exact jb_nar | rfl) ?_
    refine ⟨?_, rfl⟩
    clear hE hr hR X
    have h18 : 0 ≤ q.toInt → (nI z - q).toInt = (z : Int) - q.toInt := fun h => jsubz (by omega) h
    first | exact (jb_t (by (try simp only [lg_cmp_lt, lg_cmp_gt, lg_cmp_le, lg_cmp_ge] at *); (try simp (disch := omega) only [Int64.le_iff_toInt_le, Int64.lt_iff_toInt_lt, Int32.le_iff_toInt_le, Int32.lt_iff_toInt_lt, fa_eq, fa_lit, fa_litL, nI_toInt, pk_lT, Int32.toInt_toInt64, jadd64, jin, jnoneT] at *); omega)).symm | exact (jb_f (by (try simp only [lg_cmp_lt, lg_cmp_gt, lg_cmp_le, lg_cmp_ge] at *); (try simp (disch := omega) only [Int64.le_iff_toInt_le, Int64.lt_iff_toInt_lt, Int32.le_iff_toInt_le, Int32.lt_iff_toInt_lt, fa_eq, fa_lit, fa_litL, nI_toInt, pk_lT, Int32.toInt_toInt64, jadd64, jin, jnoneT] at *); omega)).symm
  · refine j_iload_n X dX7_reaches_4 rfl ?_
    refine j_if_lt X 24 dX7_reaches_5 (by decide) (fun c_5 => ?_) (fun c_5 => ?_)
    · refine j_iconst X dX7_reaches_24 0 (by decide) ?_
      refine s_iret X hE hr dX7_reaches_25 (by first | exact jb_nar | rfl) ?_
      refine ⟨?_, rfl⟩
      clear hE hr hR X
      have h18 : 0 ≤ q.toInt → (nI z - q).toInt = (z : Int) - q.toInt := fun h => jsubz (by omega) h
      first | exact (jb_t (by (try simp only [lg_cmp_lt, lg_cmp_gt, lg_cmp_le, lg_cmp_ge] at *); (try simp (disch := omega) only [Int64.le_iff_toInt_le, Int64.lt_iff_toInt_lt, Int32.le_iff_toInt_le, Int32.lt_iff_toInt_lt, fa_eq, fa_lit, fa_litL, nI_toInt, pk_lT, Int32.toInt_toInt64, jadd64, jin, jnoneT] at *); omega)).symm | exact (jb_f (by (try simp only [lg_cmp_lt, lg_cmp_gt, lg_cmp_le, lg_cmp_ge] at *); (try simp (disch := omega) only [Int64.le_iff_toInt_le, Int64.lt_iff_toInt_lt, Int32.le_iff_toInt_le, Int32.lt_iff_toInt_lt, fa_eq, fa_lit, fa_litL, nI_toInt, pk_lT, Int32.toInt_toInt64, jadd64, jin, jnoneT] at *); omega)).symm
    · refine j_iload_n X dX7_reaches_8 rfl ?_
      refine j_aload_n X dX7_reaches_9 rfl ?_
      refine j_getR X 7 2 (by decide) (by decide) rfl u44 (o1 np) (k1 np) _ (p1_2 np) dX7_reaches_10 ?_
      refine j_iload_n X dX7_reaches_13 rfl ?_
      refine j_nrm _ (by first | (simp only [fa_lit, pk_mul, nI_add]; done) | (simp only [fa_lit, pk_mul, nI_add]; rfl) | rfl) ?_
      refine j_ialdN X (o12 np) (k12 np) (by rw [l12]; omega) (by rw [l12]; decide) (mem 12) rfl dX7_reaches_14 ?_
      refine j_nrm (nI z) hm ?_
      refine j_iload_n X dX7_reaches_15 rfl ?_
      refine j_isub X dX7_reaches_16 ?_
      refine j_icmp_gt X 24 dX7_reaches_17 (by decide) (fun c_17 => ?_) (fun c_17 => ?_)
      · refine j_iconst X dX7_reaches_24 0 (by decide) ?_
        refine s_iret X hE hr dX7_reaches_25 (by first | exact jb_nar | rfl) ?_
        refine ⟨?_, rfl⟩
        clear hE hr hR X
        have h18 : 0 ≤ q.toInt → (nI z - q).toInt = (z : Int) - q.toInt := fun h => jsubz (by omega) h
        first | exact (jb_t (by (try simp only [lg_cmp_lt, lg_cmp_gt, lg_cmp_le, lg_cmp_ge] at *); (try simp (disch := omega) only [Int64.le_iff_toInt_le, Int64.lt_iff_toInt_lt, Int32.le_iff_toInt_le, Int32.lt_iff_toInt_lt, fa_eq, fa_lit, fa_litL, nI_toInt, pk_lT, Int32.toInt_toInt64, jadd64, jin, jnoneT] at *); omega)).symm | exact (jb_f (by (try simp only [lg_cmp_lt, lg_cmp_gt, lg_cmp_le, lg_cmp_ge] at *); (try simp (disch := omega) only [Int64.le_iff_toInt_le, Int64.lt_iff_toInt_lt, Int32.le_iff_toInt_le, Int32.lt_iff_toInt_lt, fa_eq, fa_lit, fa_litL, nI_toInt, pk_lT, Int32.toInt_toInt64, jadd64, jin, jnoneT] at *); omega)).symm
      · have h17 := jsubz (z := z) (x := q) (by omega) (by clear hE hr hR X; (try simp only [lg_cmp_lt, lg_cmp_gt, lg_cmp_le, lg_cmp_ge] at *); (try simp (disch := omega) only [Int64.le_iff_toInt_le, Int64.lt_iff_toInt_lt, Int32.le_iff_toInt_le, Int32.lt_iff_toInt_lt, fa_eq, fa_lit, fa_litL, nI_toInt, pk_lT, Int32.toInt_toInt64, jadd64, jin, jnoneT] at *); omega)
        refine j_iconst X dX7_reaches_20 1 (by decide) ?_
        refine j_goto X 25 dX7_reaches_21 (by decide) ?_
        refine s_iret X hE hr dX7_reaches_25 (by first | exact jb_nar | rfl) ?_
        refine ⟨?_, rfl⟩
        clear hE hr hR X
        have h18 : 0 ≤ q.toInt → (nI z - q).toInt = (z : Int) - q.toInt := fun h => jsubz (by omega) h
        first | exact (jb_t (by (try simp only [lg_cmp_lt, lg_cmp_gt, lg_cmp_le, lg_cmp_ge] at *); (try simp (disch := omega) only [Int64.le_iff_toInt_le, Int64.lt_iff_toInt_lt, Int32.le_iff_toInt_le, Int32.lt_iff_toInt_lt, fa_eq, fa_lit, fa_litL, nI_toInt, pk_lT, Int32.toInt_toInt64, jadd64, jin, jnoneT] at *); omega)).symm | exact (jb_f (by (try simp only [lg_cmp_lt, lg_cmp_gt, lg_cmp_le, lg_cmp_ge] at *); (try simp (disch := omega) only [Int64.le_iff_toInt_le, Int64.lt_iff_toInt_lt, Int32.le_iff_toInt_le, Int32.lt_iff_toInt_lt, fa_eq, fa_lit, fa_litL, nI_toInt, pk_lT, Int32.toInt_toInt64, jadd64, jin, jnoneT] at *); omega)).symm
set_option maxRecDepth 4000 in
set_option maxHeartbeats 1000000 in
theorem c_trouble_null (np : Nat) (mem : jMem) (s : Nat) (i q : Int32) (hs : s < 8) (hm : mem 12 s = -1) : jPi yX7_troubleAt cX7_troubleAt 4 .int 2 [.ref 1, .int (nI s), .int i, .int q] np mem (fun v c => v = 1 ∧ c = mem) := by
  refine jPi.of (own := RX7) rfl rfl (Nat.le_of_ble_eq_true rfl) (fun G X hR hr hE => ?_)
  refine j_aload_n X dX7_troubleAt_0 rfl ?_
  refine j_iload_n X dX7_troubleAt_1 rfl ?_
  refine s_callVi X hR (c_isMissing np _ s hs) rfl 7 (by decide) (o1 np) (k1 np) rfl u320 u317 u318 u319 u2 hyX7_isMissing (by decide) (by decide) (Nat.le_of_ble_eq_true rfl) dX7_troubleAt_2 (fun v_2 m_2 h_2 => ?_)
  obtain ⟨e1, e2⟩ := h_2; have e1 := e1.symm; have e2 := e2.symm; subst e1; subst e2
  refine j_ifb_eq X 10 dX7_troubleAt_5 (by decide) (fun c_5 => ?_) (fun c_5 => ?_)
  · exact absurd hm c_5
  · refine j_iconst X dX7_troubleAt_8 1 (by decide) ?_
    refine s_iret X hE hr dX7_troubleAt_9 rfl ?_
    first | exact ⟨rfl, rfl⟩ | (exfalso; clear hE hr hR X; (try simp only [lg_cmp_lt, lg_cmp_gt, lg_cmp_le, lg_cmp_ge] at *); (try simp (disch := omega) only [Int64.le_iff_toInt_le, Int64.lt_iff_toInt_lt, Int32.le_iff_toInt_le, Int32.lt_iff_toInt_lt, fa_eq, fa_lit, fa_litL, nI_toInt, pk_lT, Int32.toInt_toInt64, jadd64, jin, jnoneT] at *); omega)
set_option maxRecDepth 4000 in
set_option maxHeartbeats 1000000 in
theorem c_trouble_place (np : Nat) (mem : jMem) (s z : Nat) (i q : Int32) (hs : s < 8) (hz : z ≤ 60) (hm : mem 12 s = nI z) (hp : ¬ (0 ≤ i.toInt ∧ 0 ≤ q.toInt ∧ i.toInt + q.toInt ≤ z)) : jPi yX7_troubleAt cX7_troubleAt 4 .int 2 [.ref 1, .int (nI s), .int i, .int q] np mem (fun v c => v = 2 ∧ c = mem) := by
  refine jPi.of (own := RX7) rfl rfl (Nat.le_of_ble_eq_true rfl) (fun G X hR hr hE => ?_)
  refine j_aload_n X dX7_troubleAt_0 rfl ?_
  refine j_iload_n X dX7_troubleAt_1 rfl ?_
  refine s_callVi X hR (c_isMissing np _ s hs) rfl 7 (by decide) (o1 np) (k1 np) rfl u320 u317 u318 u319 u2 hyX7_isMissing (by decide) (by decide) (Nat.le_of_ble_eq_true rfl) dX7_troubleAt_2 (fun v_2 m_2 h_2 => ?_)
  obtain ⟨e1, e2⟩ := h_2; have e1 := e1.symm; have e2 := e2.symm; subst e1; subst e2
  refine j_ifb_eq X 10 dX7_troubleAt_5 (by decide) (fun c_5 => ?_) (fun c_5 => ?_)
  · refine j_aload_n X dX7_troubleAt_10 rfl ?_
    refine j_iload_n X dX7_troubleAt_11 rfl ?_
    refine j_iload_n X dX7_troubleAt_12 rfl ?_
    refine j_iload_n X dX7_troubleAt_13 rfl ?_
    refine s_callVi X hR (c_reaches np _ s z i q hs hz hm) rfl 7 (by decide) (o1 np) (k1 np) rfl u324 u321 u322 u323 u2 hyX7_reaches (by decide) (by decide) (Nat.le_of_ble_eq_true rfl) dX7_troubleAt_14 (fun v_14 m_14 h_14 => ?_)
    obtain ⟨e1, e2⟩ := h_14; have e1 := e1.symm; have e2 := e2.symm; subst e1; subst e2
    refine j_ifb_eq X 24 dX7_troubleAt_17 (by decide) (fun c_17 => ?_) (fun c_17 => ?_)
    · refine j_iconst X dX7_troubleAt_24 2 (by decide) ?_
      refine s_iret X hE hr dX7_troubleAt_25 rfl ?_
      first | exact ⟨rfl, rfl⟩ | (exfalso; clear hE hr hR X; (try simp only [lg_cmp_lt, lg_cmp_gt, lg_cmp_le, lg_cmp_ge] at *); (try simp (disch := omega) only [Int64.le_iff_toInt_le, Int64.lt_iff_toInt_lt, Int32.le_iff_toInt_le, Int32.lt_iff_toInt_lt, fa_eq, fa_lit, fa_litL, nI_toInt, pk_lT, Int32.toInt_toInt64, jadd64, jin, jnoneT] at *); omega)
    · exact absurd c_17 hp
  · exact absurd (hm.symm.trans c_5) (jnm1 (by omega))
set_option maxRecDepth 4000 in
set_option maxHeartbeats 1000000 in
theorem c_trouble (np : Nat) (mem : jMem) (s z : Nat) (i q : Int32) (hs : s < 8) (hz : z ≤ 60) (hm : mem 12 s = nI z) (hp : 0 ≤ i.toInt ∧ 0 ≤ q.toInt ∧ i.toInt + q.toInt ≤ z) : jPi yX7_troubleAt cX7_troubleAt 4 .int 2 [.ref 1, .int (nI s), .int i, .int q] np mem (fun v c => v = 0 ∧ c = mem) := by
  refine jPi.of (own := RX7) rfl rfl (Nat.le_of_ble_eq_true rfl) (fun G X hR hr hE => ?_)
  refine j_aload_n X dX7_troubleAt_0 rfl ?_
  refine j_iload_n X dX7_troubleAt_1 rfl ?_
  refine s_callVi X hR (c_isMissing np _ s hs) rfl 7 (by decide) (o1 np) (k1 np) rfl u320 u317 u318 u319 u2 hyX7_isMissing (by decide) (by decide) (Nat.le_of_ble_eq_true rfl) dX7_troubleAt_2 (fun v_2 m_2 h_2 => ?_)
  obtain ⟨e1, e2⟩ := h_2; have e1 := e1.symm; have e2 := e2.symm; subst e1; subst e2
  refine j_ifb_eq X 10 dX7_troubleAt_5 (by decide) (fun c_5 => ?_) (fun c_5 => ?_)
  · refine j_aload_n X dX7_troubleAt_10 rfl ?_
    refine j_iload_n X dX7_troubleAt_11 rfl ?_
    refine j_iload_n X dX7_troubleAt_12 rfl ?_
    refine j_iload_n X dX7_troubleAt_13 rfl ?_
    refine s_callVi X hR (c_reaches np _ s z i q hs hz hm) rfl 7 (by decide) (o1 np) (k1 np) rfl u324 u321 u322 u323 u2 hyX7_reaches (by decide) (by decide) (Nat.le_of_ble_eq_true rfl) dX7_troubleAt_14 (fun v_14 m_14 h_14 => ?_)
    obtain ⟨e1, e2⟩ := h_14; have e1 := e1.symm; have e2 := e2.symm; subst e1; subst e2
    refine j_ifb_eq X 24 dX7_troubleAt_17 (by decide) (fun c_17 => ?_) (fun c_17 => ?_)
    · exact absurd hp c_17
    · refine j_iconst X dX7_troubleAt_20 0 (by decide) ?_
      refine j_goto X 25 dX7_troubleAt_21 (by decide) ?_
      refine s_iret X hE hr dX7_troubleAt_25 rfl ?_
      first | exact ⟨rfl, rfl⟩ | (exfalso; clear hE hr hR X; (try simp only [lg_cmp_lt, lg_cmp_gt, lg_cmp_le, lg_cmp_ge] at *); (try simp (disch := omega) only [Int64.le_iff_toInt_le, Int64.lt_iff_toInt_lt, Int32.le_iff_toInt_le, Int32.lt_iff_toInt_lt, fa_eq, fa_lit, fa_litL, nI_toInt, pk_lT, Int32.toInt_toInt64, jadd64, jin, jnoneT] at *); omega)
  · exact absurd (hm.symm.trans c_5) (jnm1 (by omega))
set_option maxRecDepth 4000 in
set_option maxHeartbeats 1000000 in
theorem c_make (np : Nat) (mem : jMem) (s : Nat) (l z : Int32) (hs : s < 8) : jPv yX7_make cX7_make 4 2 [.ref 1, .int (nI s), .int l, .int z] np mem (fun c => c = jfill (jup (jup mem 11 s l) 12 s z) (3 + s) 0 60 0) := by
  refine jPv.of (own := RX7) rfl rfl (Nat.le_of_ble_eq_true rfl) (fun G X hR hr hE => ?_)
  refine j_aload_n X dX7_make_0 rfl ?_
  refine j_getR X 7 1 (by decide) (by decide) rfl u42 (o1 np) (k1 np) _ (p1_1 np) dX7_make_1 ?_
  refine j_iload_n X dX7_make_4 rfl ?_
  refine j_iload_n X dX7_make_5 rfl ?_
  refine j_nrm2 _ (by first | (simp only [fa_lit, pk_mul, nI_add]; done) | (simp only [fa_lit, pk_mul, nI_add]; rfl) | rfl) ?_
  refine j_iastN X (o11 np) (k11 np) (by rw [l11]; omega) (by rw [l11]; decide) dX7_make_6 ?_
  refine j_aload_n X dX7_make_7 rfl ?_
  refine j_getR X 7 2 (by decide) (by decide) rfl u44 (o1 np) (k1 np) _ (p1_2 np) dX7_make_8 ?_
  refine j_iload_n X dX7_make_11 rfl ?_
  refine j_iload_n X dX7_make_12 rfl ?_
  refine j_nrm2 _ (by first | (simp only [fa_lit, pk_mul, nI_add]; done) | (simp only [fa_lit, pk_mul, nI_add]; rfl) | rfl) ?_
  refine j_iastN X (o12 np) (k12 np) (by rw [l12]; omega) (by rw [l12]; decide) dX7_make_13 ?_
  refine j_aload_n X dX7_make_14 rfl ?_
  refine j_getR X 7 0 (by decide) (by decide) rfl u40 (o1 np) (k1 np) _ (p1_0 np) dX7_make_15 ?_
  refine j_iload_n X dX7_make_18 rfl ?_
  refine j_nrm _ (by first | (simp only [fa_lit, pk_mul, nI_add]; done) | (simp only [fa_lit, pk_mul, nI_add]; rfl) | rfl) ?_
  refine j_aaldIN X (o2 np) (k2 np) (by rw [l2]; omega) (by rw [l2]; decide) (p2_r np (by omega)) dX7_make_19 ?_
  refine j_iconst X dX7_make_20 0 (by decide) ?_
  refine s_callSv X hR (c_fill np _ (3 + s) 60 0 (o2_r np hs) (k2_r np hs) (l2_r np hs) (by omega)) rfl u39 u37 u38 u3 hyJ7_fill_53178 (by decide) (by decide) (Nat.le_of_ble_eq_true rfl) dX7_make_21 (fun m_21 h_21 => ?_)
  have h_21 := h_21.symm; subst h_21
  refine s_vret X hE hr dX7_make_24 ?_
  first | exact rfl | (exfalso; clear hE hr hR X; (try simp only [lg_cmp_lt, lg_cmp_gt, lg_cmp_le, lg_cmp_ge] at *); (try simp (disch := omega) only [Int64.le_iff_toInt_le, Int64.lt_iff_toInt_lt, Int32.le_iff_toInt_le, Int32.lt_iff_toInt_lt, fa_eq, fa_lit, fa_litL, nI_toInt, pk_lT, Int32.toInt_toInt64, jadd64, jin, jnoneT] at *); omega)
set_option maxRecDepth 4000 in
set_option maxHeartbeats 1000000 in
theorem c_put (np : Nat) (mem : jMem) (s i : Nat) (w : Int32) (hs : s < 8) (hi : i < 60) : jPi yX7_put cX7_put 6 .int 1 [.ref 1, .int (nI s), .int (nI i), .int w] np mem (fun v c => v = jCv (mem 11 s) w ∧ c = jup mem (3 + s) i (jCv (mem 11 s) w)) := by
  refine jPi.of (own := RX7) rfl rfl (Nat.le_of_ble_eq_true rfl) (fun G X hR hr hE => ?_)
  refine j_aload_n X dX7_put_0 rfl ?_
  refine j_getR X 7 1 (by decide) (by decide) rfl u42 (o1 np) (k1 np) _ (p1_1 np) dX7_put_1 ?_
  refine j_iload_n X dX7_put_4 rfl ?_
  refine j_nrm _ (by first | (simp only [fa_lit, pk_mul, nI_add]; done) | (simp only [fa_lit, pk_mul, nI_add]; rfl) | rfl) ?_
  refine j_ialdN X (o11 np) (k11 np) (by rw [l11]; omega) (by rw [l11]; decide) (mem 11) rfl dX7_put_5 ?_
  refine j_istore X dX7_put_6 (by decide) ?_
  refine j_iload X dX7_put_8 rfl ?_
  refine j_if_ne X 18 dX7_put_10 (by decide) (fun c_10 => ?_) (fun c_10 => ?_)
  · refine j_iload X dX7_put_18 rfl ?_
    refine j_iconst X dX7_put_20 1 (by decide) ?_
    refine j_icmp_ne X 29 dX7_put_21 (by decide) (fun c_21 => ?_) (fun c_21 => ?_)
    · refine j_iload_n X dX7_put_29 rfl ?_
      refine j_nrm (jCv (mem 11 s) w) (by unfold jCv; first | (rw [if_pos (by assumption)]; done) | (rw [if_neg (by assumption), if_pos (by assumption)]; done) | (rw [if_neg (by assumption), if_neg (by assumption)]; done)) ?_
      refine j_istore X dX7_put_30 (by decide) ?_
      refine j_aload_n X dX7_put_32 rfl ?_
      refine j_getR X 7 0 (by decide) (by decide) rfl u40 (o1 np) (k1 np) _ (p1_0 np) dX7_put_33 ?_
      refine j_iload_n X dX7_put_36 rfl ?_
      refine j_nrm _ (by first | (simp only [fa_lit, pk_mul, nI_add]; done) | (simp only [fa_lit, pk_mul, nI_add]; rfl) | rfl) ?_
      refine j_aaldIN X (o2 np) (k2 np) (by rw [l2]; omega) (by rw [l2]; decide) (p2_r np (by omega)) dX7_put_37 ?_
      refine j_iload_n X dX7_put_38 rfl ?_
      refine j_iload X dX7_put_39 rfl ?_
      refine j_nrm2 _ (by first | (simp only [fa_lit, pk_mul, nI_add]; done) | (simp only [fa_lit, pk_mul, nI_add]; rfl) | rfl) ?_
      refine j_iastN X (o2_r np (by omega)) (k2_r np (by omega)) (by rw [l2_r np (by omega)]; omega) (by rw [l2_r np (by omega)]; decide) dX7_put_41 ?_
      refine j_iload X dX7_put_42 rfl ?_
      refine s_iret X hE hr dX7_put_44 rfl ?_
      first | exact ⟨rfl, rfl⟩ | (exfalso; clear hE hr hR X; (try simp only [lg_cmp_lt, lg_cmp_gt, lg_cmp_le, lg_cmp_ge] at *); (try simp (disch := omega) only [Int64.le_iff_toInt_le, Int64.lt_iff_toInt_lt, Int32.le_iff_toInt_le, Int32.lt_iff_toInt_lt, fa_eq, fa_lit, fa_litL, nI_toInt, pk_lT, Int32.toInt_toInt64, jadd64, jin, jnoneT] at *); omega)
    · refine j_iload_n X dX7_put_24 rfl ?_
      refine j_i2s X dX7_put_25 ?_
      refine j_goto X 30 dX7_put_26 (by decide) ?_
      refine j_nrm (jCv (mem 11 s) w) (by unfold jCv; first | (rw [if_pos (by assumption)]; done) | (rw [if_neg (by assumption), if_pos (by assumption)]; done) | (rw [if_neg (by assumption), if_neg (by assumption)]; done)) ?_
      refine j_istore X dX7_put_30 (by decide) ?_
      refine j_aload_n X dX7_put_32 rfl ?_
      refine j_getR X 7 0 (by decide) (by decide) rfl u40 (o1 np) (k1 np) _ (p1_0 np) dX7_put_33 ?_
      refine j_iload_n X dX7_put_36 rfl ?_
      refine j_nrm _ (by first | (simp only [fa_lit, pk_mul, nI_add]; done) | (simp only [fa_lit, pk_mul, nI_add]; rfl) | rfl) ?_
      refine j_aaldIN X (o2 np) (k2 np) (by rw [l2]; omega) (by rw [l2]; decide) (p2_r np (by omega)) dX7_put_37 ?_
      refine j_iload_n X dX7_put_38 rfl ?_
      refine j_iload X dX7_put_39 rfl ?_
      refine j_nrm2 _ (by first | (simp only [fa_lit, pk_mul, nI_add]; done) | (simp only [fa_lit, pk_mul, nI_add]; rfl) | rfl) ?_
      refine j_iastN X (o2_r np (by omega)) (k2_r np (by omega)) (by rw [l2_r np (by omega)]; omega) (by rw [l2_r np (by omega)]; decide) dX7_put_41 ?_
      refine j_iload X dX7_put_42 rfl ?_
      refine s_iret X hE hr dX7_put_44 rfl ?_
      first | exact ⟨rfl, rfl⟩ | (exfalso; clear hE hr hR X; (try simp only [lg_cmp_lt, lg_cmp_gt, lg_cmp_le, lg_cmp_ge] at *); (try simp (disch := omega) only [Int64.le_iff_toInt_le, Int64.lt_iff_toInt_lt, Int32.le_iff_toInt_le, Int32.lt_iff_toInt_lt, fa_eq, fa_lit, fa_litL, nI_toInt, pk_lT, Int32.toInt_toInt64, jadd64, jin, jnoneT] at *); omega)
  · refine j_iload_n X dX7_put_13 rfl ?_
    refine j_i2b X dX7_put_14 ?_
    refine j_goto X 30 dX7_put_15 (by decide) ?_
    refine j_nrm (jCv (mem 11 s) w) (by unfold jCv; first | (rw [if_pos (by assumption)]; done) | (rw [if_neg (by assumption), if_pos (by assumption)]; done) | (rw [if_neg (by assumption), if_neg (by assumption)]; done)) ?_
    refine j_istore X dX7_put_30 (by decide) ?_
    refine j_aload_n X dX7_put_32 rfl ?_
    refine j_getR X 7 0 (by decide) (by decide) rfl u40 (o1 np) (k1 np) _ (p1_0 np) dX7_put_33 ?_
    refine j_iload_n X dX7_put_36 rfl ?_
    refine j_nrm _ (by first | (simp only [fa_lit, pk_mul, nI_add]; done) | (simp only [fa_lit, pk_mul, nI_add]; rfl) | rfl) ?_
    refine j_aaldIN X (o2 np) (k2 np) (by rw [l2]; omega) (by rw [l2]; decide) (p2_r np (by omega)) dX7_put_37 ?_
    refine j_iload_n X dX7_put_38 rfl ?_
    refine j_iload X dX7_put_39 rfl ?_
    refine j_nrm2 _ (by first | (simp only [fa_lit, pk_mul, nI_add]; done) | (simp only [fa_lit, pk_mul, nI_add]; rfl) | rfl) ?_
    refine j_iastN X (o2_r np (by omega)) (k2_r np (by omega)) (by rw [l2_r np (by omega)]; omega) (by rw [l2_r np (by omega)]; decide) dX7_put_41 ?_
    refine j_iload X dX7_put_42 rfl ?_
    refine s_iret X hE hr dX7_put_44 rfl ?_
    first | exact ⟨rfl, rfl⟩ | (exfalso; clear hE hr hR X; (try simp only [lg_cmp_lt, lg_cmp_gt, lg_cmp_le, lg_cmp_ge] at *); (try simp (disch := omega) only [Int64.le_iff_toInt_le, Int64.lt_iff_toInt_lt, Int32.le_iff_toInt_le, Int32.lt_iff_toInt_lt, fa_eq, fa_lit, fa_litL, nI_toInt, pk_lT, Int32.toInt_toInt64, jadd64, jin, jnoneT] at *); omega)
set_option maxRecDepth 4000 in
set_option maxHeartbeats 1000000 in
theorem c_forget (np : Nat) (mem : jMem) (s : Nat) (hs : s < 8) : jPi yX7_forget cX7_forget 3 .int 1 [.ref 1, .int (nI s)] np mem (fun v c => v = mem 12 s ∧ c = jup mem 12 s (-1)) := by
  refine jPi.of (own := RX7) rfl rfl (Nat.le_of_ble_eq_true rfl) (fun G X hR hr hE => ?_)
  refine j_aload_n X dX7_forget_0 rfl ?_
  refine j_getR X 7 2 (by decide) (by decide) rfl u44 (o1 np) (k1 np) _ (p1_2 np) dX7_forget_1 ?_
  refine j_iload_n X dX7_forget_4 rfl ?_
  refine j_nrm _ (by first | (simp only [fa_lit, pk_mul, nI_add]; done) | (simp only [fa_lit, pk_mul, nI_add]; rfl) | rfl) ?_
  refine j_ialdN X (o12 np) (k12 np) (by rw [l12]; omega) (by rw [l12]; decide) (mem 12) rfl dX7_forget_5 ?_
  refine j_istore_n X dX7_forget_6 (by decide) ?_
  refine j_aload_n X dX7_forget_7 rfl ?_
  refine j_getR X 7 2 (by decide) (by decide) rfl u44 (o1 np) (k1 np) _ (p1_2 np) dX7_forget_8 ?_
  refine j_iload_n X dX7_forget_11 rfl ?_
  refine j_iconst X dX7_forget_12 (-1) (by decide) ?_
  refine j_nrm2 _ (by first | (simp only [fa_lit, pk_mul, nI_add]; done) | (simp only [fa_lit, pk_mul, nI_add]; rfl) | rfl) ?_
  refine j_iastN X (o12 np) (k12 np) (by rw [l12]; omega) (by rw [l12]; decide) dX7_forget_13 ?_
  refine j_iload_n X dX7_forget_14 rfl ?_
  refine s_iret X hE hr dX7_forget_15 rfl ?_
  first | exact ⟨rfl, rfl⟩ | (exfalso; clear hE hr hR X; (try simp only [lg_cmp_lt, lg_cmp_gt, lg_cmp_le, lg_cmp_ge] at *); (try simp (disch := omega) only [Int64.le_iff_toInt_le, Int64.lt_iff_toInt_lt, Int32.le_iff_toInt_le, Int32.lt_iff_toInt_lt, fa_eq, fa_lit, fa_litL, nI_toInt, pk_lT, Int32.toInt_toInt64, jadd64, jin, jnoneT] at *); omega)
set_option maxRecDepth 4000 in
set_option maxHeartbeats 1000000 in
theorem c_present (np : Nat) (mem : jMem)   : jPi yX7_present cX7_present 3 .int 2 [.ref 1] np mem (fun v c => v = nI (jCnt (fun s => ¬ mem 12 s = -1) 8) ∧ c = mem) := by
  refine jPi.of (own := RX7) rfl rfl (Nat.le_of_ble_eq_true rfl) (fun G X hR hr hE => ?_)
  refine j_iconst X dX7_present_0 0 (by decide) ?_
  refine j_istore_n X dX7_present_1 (by decide) ?_
  refine j_iconst X dX7_present_2 0 (by decide) ?_
  refine j_istore_n X dX7_present_3 (by decide) ?_
  have lp4 : ∀ (n : Nat) (k : Nat), k ≤ 8 → 9 ≤ k + n → J G RX7 cX7_present 3 0 0 4 (jlv [some (.ref 1), some (.int (nI (jCnt (fun s => ¬ mem 12 s = -1) k))), some (.int (nI k))]) [] (jS np) (mem) := by
    intro n
    induction n with
    | zero =>
      intro k hk hn
      exact absurd hn (by omega)
    | succ n ih4 =>
      intro k hk hn
      refine j_iload_n X dX7_present_4 rfl ?_
      refine j_bipush X dX7_present_5 8 (by decide) ?_
      refine j_icmp_ge X 27 dX7_present_7 (by decide) (fun c_7 => ?_) (fun c_7 => ?_)
      · obtain rfl : k = 8 := by clear hE hr hR X; (try simp only [lg_cmp_lt, lg_cmp_gt, lg_cmp_le, lg_cmp_ge] at *); (try simp (disch := omega) only [Int64.le_iff_toInt_le, Int64.lt_iff_toInt_lt, Int32.le_iff_toInt_le, Int32.lt_iff_toInt_lt, fa_eq, fa_lit, fa_litL, nI_toInt, pk_lT, Int32.toInt_toInt64, jadd64, jin, jnoneT] at *); omega
        refine j_iload_n X dX7_present_27 rfl ?_
        refine s_iret X hE hr dX7_present_28 rfl ?_
        first | exact ⟨rfl, rfl⟩ | (exfalso; clear hE hr hR X; (try simp only [lg_cmp_lt, lg_cmp_gt, lg_cmp_le, lg_cmp_ge] at *); (try simp (disch := omega) only [Int64.le_iff_toInt_le, Int64.lt_iff_toInt_lt, Int32.le_iff_toInt_le, Int32.lt_iff_toInt_lt, fa_eq, fa_lit, fa_litL, nI_toInt, pk_lT, Int32.toInt_toInt64, jadd64, jin, jnoneT] at *); omega)
      · have hk2 : k < 8 := by clear hE hr hR X; (try simp only [lg_cmp_lt, lg_cmp_gt, lg_cmp_le, lg_cmp_ge] at *); (try simp (disch := omega) only [Int64.le_iff_toInt_le, Int64.lt_iff_toInt_lt, Int32.le_iff_toInt_le, Int32.lt_iff_toInt_lt, fa_eq, fa_lit, fa_litL, nI_toInt, pk_lT, Int32.toInt_toInt64, jadd64, jin, jnoneT] at *); omega
        refine j_aload_n X dX7_present_10 rfl ?_
        refine j_iload_n X dX7_present_11 rfl ?_
        refine s_callVi X hR (c_isMissing np _ k hk2) rfl 7 (by decide) (o1 np) (k1 np) rfl u320 u317 u318 u319 u2 hyX7_isMissing (by decide) (by decide) (Nat.le_of_ble_eq_true rfl) dX7_present_12 (fun v_12 m_12 h_12 => ?_)
        obtain ⟨e1, e2⟩ := h_12; have e1 := e1.symm; have e2 := e2.symm; subst e1; subst e2
        refine j_ifb_ne X 21 dX7_present_15 (by decide) (fun c_15 => ?_) (fun c_15 => ?_)
        · refine j_iinc X dX7_present_21 rfl 1 rfl ?_
          refine j_goto X 4 dX7_present_24 (by decide) ?_
          refine j_lv [some (.ref 1), some (.int (nI (jCnt (fun s => ¬ mem 12 s = -1) (k + 1)))), some (.int (nI (k + 1)))] ⟨rfl, (congrArg (fun z => some (Value.int z)) (by first | exact jCnt_t (g := (fun s => ¬ mem 12 s = -1)) c_15 | exact jCnt_f0 (g := (fun s => ¬ mem 12 s = -1)) (fun z => z c_15))), (congrArg (fun z => some (Value.int z)) (nI_1 _)), trivial⟩ ?_
          exact ih4 (k + 1) (by omega) (by omega)
        · refine j_iinc X dX7_present_18 rfl 1 rfl ?_
          refine j_iinc X dX7_present_21 rfl 1 rfl ?_
          refine j_goto X 4 dX7_present_24 (by decide) ?_
          refine j_lv [some (.ref 1), some (.int (nI (jCnt (fun s => ¬ mem 12 s = -1) (k + 1)))), some (.int (nI (k + 1)))] ⟨rfl, (congrArg (fun z => some (Value.int z)) (by first | exact jCnt_t (g := (fun s => ¬ mem 12 s = -1)) c_15 | exact jCnt_f0 (g := (fun s => ¬ mem 12 s = -1)) (fun z => z c_15))), (congrArg (fun z => some (Value.int z)) (nI_1 _)), trivial⟩ ?_
          exact ih4 (k + 1) (by omega) (by omega)
  refine j_lv [some (.ref 1), some (.int (nI (jCnt (fun s => ¬ mem 12 s = -1) 0))), some (.int (nI 0))] ⟨rfl, rfl, rfl, trivial⟩ ?_
  exact lp4 9 0 (by omega) (by omega)
set_option maxRecDepth 4000 in
set_option maxHeartbeats 1000000 in
theorem c_addKey_full (np : Nat) (mem : jMem) (o : Nat) (d w : Int32) (ho : o < 4) (hc : mem 24 o = nI 6) : jPi yX5_addKey cX5_addKey 5 .boolean 1 [.ref 13, .int (nI o), .int d, .int w] np mem (fun v c => v = 0 ∧ c = mem) := by
  refine jPi.of (own := RX5) rfl rfl (Nat.le_of_ble_eq_true rfl) (fun G X hR hr hE => ?_)
  refine j_aload_n X dX5_addKey_0 rfl ?_
  refine j_getR X 5 2 (by decide) (by decide) rfl u63 (o13 np) (k13 np) _ (p13_2 np) dX5_addKey_1 ?_
  refine j_iload_n X dX5_addKey_4 rfl ?_
  refine j_nrm _ (by first | (simp only [fa_lit, pk_mul, nI_add]; done) | (simp only [fa_lit, pk_mul, nI_add]; rfl) | rfl) ?_
  refine j_ialdN X (o24 np) (k24 np) (by rw [l24]; omega) (by rw [l24]; decide) (mem 24) rfl dX5_addKey_5 ?_
  refine j_nrm (nI 6) hc ?_
  refine j_istore X dX5_addKey_6 (by decide) ?_
  refine j_iload X dX5_addKey_8 rfl ?_
  refine j_bipush X dX5_addKey_10 6 (by decide) ?_
  refine j_icmp_lt X 17 dX5_addKey_12 (by decide) (fun c_12 => ?_) (fun c_12 => ?_)
  · exact absurd c_12 (by decide)
  · refine j_iconst X dX5_addKey_15 0 (by decide) ?_
    refine s_iret X hE hr dX5_addKey_16 (by first | exact jb_nar | rfl) ?_
    first | exact ⟨rfl, rfl⟩ | (exfalso; clear hE hr hR X; (try simp only [lg_cmp_lt, lg_cmp_gt, lg_cmp_le, lg_cmp_ge] at *); (try simp (disch := omega) only [Int64.le_iff_toInt_le, Int64.lt_iff_toInt_lt, Int32.le_iff_toInt_le, Int32.lt_iff_toInt_lt, fa_eq, fa_lit, fa_litL, nI_toInt, pk_lT, Int32.toInt_toInt64, jadd64, jin, jnoneT] at *); omega)
set_option maxRecDepth 4000 in
set_option maxHeartbeats 1000000 in
theorem c_addKey (np : Nat) (mem : jMem) (o q : Nat) (d w : Int32) (ho : o < 4) (hq : q < 6) (hc : mem 24 o = nI q) : jPi yX5_addKey cX5_addKey 5 .boolean 1 [.ref 13, .int (nI o), .int d, .int w] np mem (fun v c => v = 1 ∧ c = jup (jup (jup mem (15 + o) q d) (20 + o) q w) 24 o (nI (q + 1))) := by
  refine jPi.of (own := RX5) rfl rfl (Nat.le_of_ble_eq_true rfl) (fun G X hR hr hE => ?_)
  refine j_aload_n X dX5_addKey_0 rfl ?_
  refine j_getR X 5 2 (by decide) (by decide) rfl u63 (o13 np) (k13 np) _ (p13_2 np) dX5_addKey_1 ?_
  refine j_iload_n X dX5_addKey_4 rfl ?_
  refine j_nrm _ (by first | (simp only [fa_lit, pk_mul, nI_add]; done) | (simp only [fa_lit, pk_mul, nI_add]; rfl) | rfl) ?_
  refine j_ialdN X (o24 np) (k24 np) (by rw [l24]; omega) (by rw [l24]; decide) (mem 24) rfl dX5_addKey_5 ?_
  refine j_nrm (nI q) hc ?_
  refine j_istore X dX5_addKey_6 (by decide) ?_
  refine j_iload X dX5_addKey_8 rfl ?_
  refine j_bipush X dX5_addKey_10 6 (by decide) ?_
  refine j_icmp_lt X 17 dX5_addKey_12 (by decide) (fun c_12 => ?_) (fun c_12 => ?_)
  · refine j_aload_n X dX5_addKey_17 rfl ?_
    refine j_getR X 5 0 (by decide) (by decide) rfl u61 (o13 np) (k13 np) _ (p13_0 np) dX5_addKey_18 ?_
    refine j_iload_n X dX5_addKey_21 rfl ?_
    refine j_nrm _ (by first | (simp only [fa_lit, pk_mul, nI_add]; done) | (simp only [fa_lit, pk_mul, nI_add]; rfl) | rfl) ?_
    refine j_aaldIN X (o14 np) (k14 np) (by rw [l14]; omega) (by rw [l14]; decide) (p14_r np (by omega)) dX5_addKey_22 ?_
    refine j_iload X dX5_addKey_23 rfl ?_
    refine j_iload_n X dX5_addKey_25 rfl ?_
    refine j_nrm2 _ (by first | (simp only [fa_lit, pk_mul, nI_add]; done) | (simp only [fa_lit, pk_mul, nI_add]; rfl) | rfl) ?_
    refine j_iastN X (o14_r np (by omega)) (k14_r np (by omega)) (by rw [l14_r np (by omega)]; omega) (by rw [l14_r np (by omega)]; decide) dX5_addKey_26 ?_
    refine j_aload_n X dX5_addKey_27 rfl ?_
    refine j_getR X 5 1 (by decide) (by decide) rfl u62 (o13 np) (k13 np) _ (p13_1 np) dX5_addKey_28 ?_
    refine j_iload_n X dX5_addKey_31 rfl ?_
    refine j_nrm _ (by first | (simp only [fa_lit, pk_mul, nI_add]; done) | (simp only [fa_lit, pk_mul, nI_add]; rfl) | rfl) ?_
    refine j_aaldIN X (o19 np) (k19 np) (by rw [l19]; omega) (by rw [l19]; decide) (p19_r np (by omega)) dX5_addKey_32 ?_
    refine j_iload X dX5_addKey_33 rfl ?_
    refine j_iload_n X dX5_addKey_35 rfl ?_
    refine j_nrm2 _ (by first | (simp only [fa_lit, pk_mul, nI_add]; done) | (simp only [fa_lit, pk_mul, nI_add]; rfl) | rfl) ?_
    refine j_iastN X (o19_r np (by omega)) (k19_r np (by omega)) (by rw [l19_r np (by omega)]; omega) (by rw [l19_r np (by omega)]; decide) dX5_addKey_36 ?_
    refine j_aload_n X dX5_addKey_37 rfl ?_
    refine j_getR X 5 2 (by decide) (by decide) rfl u63 (o13 np) (k13 np) _ (p13_2 np) dX5_addKey_38 ?_
    refine j_iload_n X dX5_addKey_41 rfl ?_
    refine j_iload X dX5_addKey_42 rfl ?_
    refine j_iconst X dX5_addKey_44 1 (by decide) ?_
    refine j_iadd X dX5_addKey_45 ?_
    refine j_nrm _ (nI_1 q) ?_
    refine j_nrm2 _ (by first | (simp only [fa_lit, pk_mul, nI_add]; done) | (simp only [fa_lit, pk_mul, nI_add]; rfl) | rfl) ?_
    refine j_iastN X (o24 np) (k24 np) (by rw [l24]; omega) (by rw [l24]; decide) dX5_addKey_46 ?_
    refine j_iconst X dX5_addKey_47 1 (by decide) ?_
    refine s_iret X hE hr dX5_addKey_48 (by first | exact jb_nar | rfl) ?_
    first | exact ⟨rfl, rfl⟩ | (exfalso; clear hE hr hR X; (try simp only [lg_cmp_lt, lg_cmp_gt, lg_cmp_le, lg_cmp_ge] at *); (try simp (disch := omega) only [Int64.le_iff_toInt_le, Int64.lt_iff_toInt_lt, Int32.le_iff_toInt_le, Int32.lt_iff_toInt_lt, fa_eq, fa_lit, fa_litL, nI_toInt, pk_lT, Int32.toInt_toInt64, jadd64, jin, jnoneT] at *); omega)
  · exfalso
    clear hE hr hR X
    (try simp only [lg_cmp_lt, lg_cmp_gt, lg_cmp_le, lg_cmp_ge] at *); (try simp (disch := omega) only [Int64.le_iff_toInt_le, Int64.lt_iff_toInt_lt, Int32.le_iff_toInt_le, Int32.lt_iff_toInt_lt, fa_eq, fa_lit, fa_litL, nI_toInt, pk_lT, Int32.toInt_toInt64, jadd64, jin, jnoneT] at *); omega
set_option maxRecDepth 4000 in
set_option maxHeartbeats 1000000 in
theorem c_keyAt (np : Nat) (mem : jMem) (o q : Nat) (d : Int32) (ho : o < 4) (hq : q ≤ 6) (hc : mem 24 o = nI q) (hd : ∀ j, j < q → 0 ≤ (mem (15 + o) j).toInt) : jPi yX5_keyAt cX5_keyAt 7 .int 1 [.ref 13, .int (nI o), .int d] np mem (fun v c => v = jKey (mem (15 + o)) (mem (20 + o)) q (nI o) d ∧ c = mem) := by
  refine jPi.of (own := RX5) rfl rfl (Nat.le_of_ble_eq_true rfl) (fun G X hR hr hE => ?_)
  refine j_bipush X dX5_keyAt_0 100 (by decide) ?_
  refine j_iload_n X dX5_keyAt_2 rfl ?_
  refine j_iadd X dX5_keyAt_3 ?_
  refine j_istore_n X dX5_keyAt_4 (by decide) ?_
  refine j_iconst X dX5_keyAt_5 0 (by decide) ?_
  refine j_istore X dX5_keyAt_6 (by decide) ?_
  refine j_iconst X dX5_keyAt_8 0 (by decide) ?_
  refine j_istore X dX5_keyAt_9 (by decide) ?_
  have lp11 : ∀ (n : Nat) (j : Nat) (key fr : Int32), j ≤ q → q + 1 ≤ j + n → jKC (mem (15 + o)) (mem (20 + o)) d (nI o) key fr j → J G RX5 cX5_keyAt 7 0 0 11 (jlv [some (.ref 13), some (.int (nI o)), some (.int d), some (.int key), some (.int fr), some (.int (nI j))]) [] (jS np) (mem) := by
    intro n
    induction n with
    | zero =>
      intro j key fr hj hn hB
      exact absurd hn (by omega)
    | succ n ih11 =>
      intro j key fr hj hn hB
      refine j_iload X dX5_keyAt_11 rfl ?_
      refine j_aload_n X dX5_keyAt_13 rfl ?_
      refine j_getR X 5 2 (by decide) (by decide) rfl u63 (o13 np) (k13 np) _ (p13_2 np) dX5_keyAt_14 ?_
      refine j_iload_n X dX5_keyAt_17 rfl ?_
      refine j_nrm _ (by first | (simp only [fa_lit, pk_mul, nI_add]; done) | (simp only [fa_lit, pk_mul, nI_add]; rfl) | rfl) ?_
      refine j_ialdN X (o24 np) (k24 np) (by rw [l24]; omega) (by rw [l24]; decide) (mem 24) rfl dX5_keyAt_18 ?_
      refine j_nrm (nI q) hc ?_
      refine j_icmp_ge X 66 dX5_keyAt_19 (by decide) (fun c_19 => ?_) (fun c_19 => ?_)
      · obtain rfl : j = q := by clear hE hr hR X; (try simp only [lg_cmp_lt, lg_cmp_gt, lg_cmp_le, lg_cmp_ge] at *); (try simp (disch := omega) only [Int64.le_iff_toInt_le, Int64.lt_iff_toInt_lt, Int32.le_iff_toInt_le, Int32.lt_iff_toInt_lt, fa_eq, fa_lit, fa_litL, nI_toInt, pk_lT, Int32.toInt_toInt64, jadd64, jin, jnoneT] at *); omega
        refine j_iload_n X dX5_keyAt_66 rfl ?_
        refine s_iret X hE hr dX5_keyAt_67 rfl ?_
        exact ⟨(jKC_end hB).symm, rfl⟩
      · have hj2 : j < q := by clear hE hr hR X; (try simp only [lg_cmp_lt, lg_cmp_gt, lg_cmp_le, lg_cmp_ge] at *); (try simp (disch := omega) only [Int64.le_iff_toInt_le, Int64.lt_iff_toInt_lt, Int32.le_iff_toInt_le, Int32.lt_iff_toInt_lt, fa_eq, fa_lit, fa_litL, nI_toInt, pk_lT, Int32.toInt_toInt64, jadd64, jin, jnoneT] at *); omega
        refine j_aload_n X dX5_keyAt_22 rfl ?_
        refine j_getR X 5 0 (by decide) (by decide) rfl u61 (o13 np) (k13 np) _ (p13_0 np) dX5_keyAt_23 ?_
        refine j_iload_n X dX5_keyAt_26 rfl ?_
        refine j_nrm _ (by first | (simp only [fa_lit, pk_mul, nI_add]; done) | (simp only [fa_lit, pk_mul, nI_add]; rfl) | rfl) ?_
        refine j_aaldIN X (o14 np) (k14 np) (by rw [l14]; omega) (by rw [l14]; decide) (p14_r np (by omega)) dX5_keyAt_27 ?_
        refine j_iload X dX5_keyAt_28 rfl ?_
        refine j_nrm _ (by first | (simp only [fa_lit, pk_mul, nI_add]; done) | (simp only [fa_lit, pk_mul, nI_add]; rfl) | rfl) ?_
        refine j_ialdN X (o14_r np (by omega)) (k14_r np (by omega)) (by rw [l14_r np (by omega)]; omega) (by rw [l14_r np (by omega)]; decide) (mem (15 + o)) rfl dX5_keyAt_30 ?_
        refine j_istore X dX5_keyAt_31 (by decide) ?_
        refine j_iload X dX5_keyAt_33 rfl ?_
        refine j_iload X dX5_keyAt_35 rfl ?_
        refine j_icmp_lt X 60 dX5_keyAt_37 (by decide) (fun c_37 => ?_) (fun c_37 => ?_)
        · refine j_iinc X dX5_keyAt_60 rfl 1 rfl ?_
          refine j_goto X 11 dX5_keyAt_63 (by decide) ?_
          refine j_lv [some (.ref 13), some (.int (nI o)), some (.int d), some (.int _), some (.int _), some (.int (nI (j + 1)))] ⟨rfl, rfl, rfl, rfl, rfl, (congrArg (fun z => some (Value.int z)) (nI_1 _)), trivial⟩ ?_
          exact ih11 (j + 1) _ _ (by omega) (by omega) (by first | exact jKC_take hB (hd j hj2) (Int32.not_lt.mp c_37) (Int32.not_lt.mp c_43) | exact jKC_skip hB (hd j hj2) (fun z => absurd c_43 (Int32.not_lt.mpr z.2)) | exact jKC_skip hB (hd j hj2) (fun z => absurd c_37 (Int32.not_lt.mpr z.1)))
        · refine j_iload X dX5_keyAt_40 rfl ?_
          refine j_iload_n X dX5_keyAt_42 rfl ?_
          refine j_icmp_gt X 60 dX5_keyAt_43 (by decide) (fun c_43 => ?_) (fun c_43 => ?_)
          · refine j_iinc X dX5_keyAt_60 rfl 1 rfl ?_
            refine j_goto X 11 dX5_keyAt_63 (by decide) ?_
            refine j_lv [some (.ref 13), some (.int (nI o)), some (.int d), some (.int _), some (.int _), some (.int (nI (j + 1)))] ⟨rfl, rfl, rfl, rfl, rfl, (congrArg (fun z => some (Value.int z)) (nI_1 _)), trivial⟩ ?_
            exact ih11 (j + 1) _ _ (by omega) (by omega) (by first | exact jKC_take hB (hd j hj2) (Int32.not_lt.mp c_37) (Int32.not_lt.mp c_43) | exact jKC_skip hB (hd j hj2) (fun z => absurd c_43 (Int32.not_lt.mpr z.2)) | exact jKC_skip hB (hd j hj2) (fun z => absurd c_37 (Int32.not_lt.mpr z.1)))
          · refine j_iload X dX5_keyAt_46 rfl ?_
            refine j_istore X dX5_keyAt_48 (by decide) ?_
            refine j_aload_n X dX5_keyAt_50 rfl ?_
            refine j_getR X 5 1 (by decide) (by decide) rfl u62 (o13 np) (k13 np) _ (p13_1 np) dX5_keyAt_51 ?_
            refine j_iload_n X dX5_keyAt_54 rfl ?_
            refine j_nrm _ (by first | (simp only [fa_lit, pk_mul, nI_add]; done) | (simp only [fa_lit, pk_mul, nI_add]; rfl) | rfl) ?_
            refine j_aaldIN X (o19 np) (k19 np) (by rw [l19]; omega) (by rw [l19]; decide) (p19_r np (by omega)) dX5_keyAt_55 ?_
            refine j_iload X dX5_keyAt_56 rfl ?_
            refine j_nrm _ (by first | (simp only [fa_lit, pk_mul, nI_add]; done) | (simp only [fa_lit, pk_mul, nI_add]; rfl) | rfl) ?_
            refine j_ialdN X (o19_r np (by omega)) (k19_r np (by omega)) (by rw [l19_r np (by omega)]; omega) (by rw [l19_r np (by omega)]; decide) (mem (20 + o)) rfl dX5_keyAt_58 ?_
            refine j_istore_n X dX5_keyAt_59 (by decide) ?_
            refine j_iinc X dX5_keyAt_60 rfl 1 rfl ?_
            refine j_goto X 11 dX5_keyAt_63 (by decide) ?_
            refine j_lv [some (.ref 13), some (.int (nI o)), some (.int d), some (.int _), some (.int _), some (.int (nI (j + 1)))] ⟨rfl, rfl, rfl, rfl, rfl, (congrArg (fun z => some (Value.int z)) (nI_1 _)), trivial⟩ ?_
            exact ih11 (j + 1) _ _ (by omega) (by omega) (by first | exact jKC_take hB (hd j hj2) (Int32.not_lt.mp c_37) (Int32.not_lt.mp c_43) | exact jKC_skip hB (hd j hj2) (fun z => absurd c_43 (Int32.not_lt.mpr z.2)) | exact jKC_skip hB (hd j hj2) (fun z => absurd c_37 (Int32.not_lt.mpr z.1)))
  refine j_lv [some (.ref 13), some (.int (nI o)), some (.int d), some (.int (100 + nI o)), some (.int 0), some (.int (nI 0))] ⟨rfl, rfl, rfl, rfl, rfl, rfl, trivial⟩ ?_
  exact lp11 (q + 1) 0 _ _ (by omega) (by omega) (Or.inl ⟨rfl, rfl, rfl⟩)
set_option maxRecDepth 4000 in
set_option maxHeartbeats 1000000 in
theorem c_allKeys (np : Nat) (mem : jMem)   : jPi yX5_allKeys cX5_allKeys 3 .int 1 [.ref 13] np mem (fun v c => v = 0 + mem 24 0 + mem 24 1 + mem 24 2 + mem 24 3 ∧ c = mem) := by
  refine jPi.of (own := RX5) rfl rfl (Nat.le_of_ble_eq_true rfl) (fun G X hR hr hE => ?_)
  refine j_iconst X dX5_allKeys_0 0 (by decide) ?_
  refine j_istore_n X dX5_allKeys_1 (by decide) ?_
  refine j_iconst X dX5_allKeys_2 0 (by decide) ?_
  refine j_istore_n X dX5_allKeys_3 (by decide) ?_
  refine j_iload_n X dX5_allKeys_4 rfl ?_
  refine j_iconst X dX5_allKeys_5 4 (by decide) ?_
  refine j_icmp_ge X 24 dX5_allKeys_6 (by decide) (fun c_6 => absurd c_6 (by decide)) (fun c_6 => ?_)
  refine j_iload_n X dX5_allKeys_9 rfl ?_
  refine j_aload_n X dX5_allKeys_10 rfl ?_
  refine j_getR X 5 2 (by decide) (by decide) rfl u63 (o13 np) (k13 np) _ (p13_2 np) dX5_allKeys_11 ?_
  refine j_iload_n X dX5_allKeys_14 rfl ?_
  refine j_nrm _ (by first | (simp only [fa_lit, pk_mul, nI_add]; done) | (simp only [fa_lit, pk_mul, nI_add]; rfl) | rfl) ?_
  refine j_ialdN X (o24 np) (k24 np) (by rw [l24]; omega) (by rw [l24]; decide) (mem 24) rfl dX5_allKeys_15 ?_
  refine j_iadd X dX5_allKeys_16 ?_
  refine j_istore_n X dX5_allKeys_17 (by decide) ?_
  refine j_iinc X dX5_allKeys_18 rfl 1 rfl ?_
  refine j_goto X 4 dX5_allKeys_21 (by decide) ?_
  refine j_iload_n X dX5_allKeys_4 rfl ?_
  refine j_iconst X dX5_allKeys_5 4 (by decide) ?_
  refine j_icmp_ge X 24 dX5_allKeys_6 (by decide) (fun c_6 => absurd c_6 (by decide)) (fun c_6 => ?_)
  refine j_iload_n X dX5_allKeys_9 rfl ?_
  refine j_aload_n X dX5_allKeys_10 rfl ?_
  refine j_getR X 5 2 (by decide) (by decide) rfl u63 (o13 np) (k13 np) _ (p13_2 np) dX5_allKeys_11 ?_
  refine j_iload_n X dX5_allKeys_14 rfl ?_
  refine j_nrm _ (by first | (simp only [fa_lit, pk_mul, nI_add]; done) | (simp only [fa_lit, pk_mul, nI_add]; rfl) | rfl) ?_
  refine j_ialdN X (o24 np) (k24 np) (by rw [l24]; omega) (by rw [l24]; decide) (mem 24) rfl dX5_allKeys_15 ?_
  refine j_iadd X dX5_allKeys_16 ?_
  refine j_istore_n X dX5_allKeys_17 (by decide) ?_
  refine j_iinc X dX5_allKeys_18 rfl 1 rfl ?_
  refine j_goto X 4 dX5_allKeys_21 (by decide) ?_
  refine j_iload_n X dX5_allKeys_4 rfl ?_
  refine j_iconst X dX5_allKeys_5 4 (by decide) ?_
  refine j_icmp_ge X 24 dX5_allKeys_6 (by decide) (fun c_6 => absurd c_6 (by decide)) (fun c_6 => ?_)
  refine j_iload_n X dX5_allKeys_9 rfl ?_
  refine j_aload_n X dX5_allKeys_10 rfl ?_
  refine j_getR X 5 2 (by decide) (by decide) rfl u63 (o13 np) (k13 np) _ (p13_2 np) dX5_allKeys_11 ?_
  refine j_iload_n X dX5_allKeys_14 rfl ?_
  refine j_nrm _ (by first | (simp only [fa_lit, pk_mul, nI_add]; done) | (simp only [fa_lit, pk_mul, nI_add]; rfl) | rfl) ?_
  refine j_ialdN X (o24 np) (k24 np) (by rw [l24]; omega) (by rw [l24]; decide) (mem 24) rfl dX5_allKeys_15 ?_
  refine j_iadd X dX5_allKeys_16 ?_
  refine j_istore_n X dX5_allKeys_17 (by decide) ?_
  refine j_iinc X dX5_allKeys_18 rfl 1 rfl ?_
  refine j_goto X 4 dX5_allKeys_21 (by decide) ?_
  refine j_iload_n X dX5_allKeys_4 rfl ?_
  refine j_iconst X dX5_allKeys_5 4 (by decide) ?_
  refine j_icmp_ge X 24 dX5_allKeys_6 (by decide) (fun c_6 => absurd c_6 (by decide)) (fun c_6 => ?_)
  refine j_iload_n X dX5_allKeys_9 rfl ?_
  refine j_aload_n X dX5_allKeys_10 rfl ?_
  refine j_getR X 5 2 (by decide) (by decide) rfl u63 (o13 np) (k13 np) _ (p13_2 np) dX5_allKeys_11 ?_
  refine j_iload_n X dX5_allKeys_14 rfl ?_
  refine j_nrm _ (by first | (simp only [fa_lit, pk_mul, nI_add]; done) | (simp only [fa_lit, pk_mul, nI_add]; rfl) | rfl) ?_
  refine j_ialdN X (o24 np) (k24 np) (by rw [l24]; omega) (by rw [l24]; decide) (mem 24) rfl dX5_allKeys_15 ?_
  refine j_iadd X dX5_allKeys_16 ?_
  refine j_istore_n X dX5_allKeys_17 (by decide) ?_
  refine j_iinc X dX5_allKeys_18 rfl 1 rfl ?_
  refine j_goto X 4 dX5_allKeys_21 (by decide) ?_
  refine j_iload_n X dX5_allKeys_4 rfl ?_
  refine j_iconst X dX5_allKeys_5 4 (by decide) ?_
  refine j_icmp_ge X 24 dX5_allKeys_6 (by decide) (fun c_6 => ?_) (fun c_6 => absurd c_6 (by decide))
  refine j_iload_n X dX5_allKeys_24 rfl ?_
  refine s_iret X hE hr dX5_allKeys_25 rfl ?_
  exact ⟨rfl, rfl⟩
