def jAny (g : Nat → Bool) : Nat → Bool
  | 0 => false
  | n + 1 => jAny g n || g n
theorem jAny_t1 {g : Nat → Bool} {k : Nat} (h : jAny g k = true) : jAny g (k + 1) = true := by
  show (jAny g k || g k) = true
  rw [h]; rfl
theorem jAny_t2 {g : Nat → Bool} {k : Nat} (h : g k = true) : jAny g (k + 1) = true := by
  show (jAny g k || g k) = true
  rw [h, Bool.or_true]
theorem jAny_f {g : Nat → Bool} {k : Nat} (h1 : ¬ jAny g k = true) (h2 : ¬ g k = true) : ¬ jAny g (k + 1) = true := by
  show ¬ (jAny g k || g k) = true
  simp only [Bool.not_eq_true] at h1 h2
  rw [h1, h2]; decide
/-- bits of those that fit -/
def jBits (g : Nat → Bool) (b : Nat → Int32) : Nat → Int32
  | 0 => 0
  | n + 1 => if g n = true then jBits g b n ||| (1 <<< (b n &&& 31)) else jBits g b n
theorem jBits_t {g : Nat → Bool} {b : Nat → Int32} {k : Nat} (h : g k = true) : jBits g b k ||| (1 <<< (b k &&& 31)) = jBits g b (k + 1) := (if_pos h).symm
theorem jBits_f {g : Nat → Bool} {b : Nat → Int32} {k : Nat} (h : ¬ g k = true) : jBits g b k ||| 0 = jBits g b (k + 1) := by
  rw [Int32.or_zero]
  exact (if_neg h).symm
def jAll (c : Bool) (g : Nat → Bool) : Nat → Bool
  | 0 => c
  | n + 1 => jAll c g n && g n
def jTog (g : Nat → Bool) (w : Nat → Int32) : Nat → Int32
  | 0 => 63
  | n + 1 => jTog g w n &&& (if g n = true then w n else 63)
/-- the byte of w that a feed lays at its place i -/
def jBy (w : Int64) (i : Nat) : Int32 := ((w >>> ((8 * nI i).toInt64 &&& 63)) &&& 255).toInt32
def jFd (mem : jMem) (w : Int64) (t q j : Nat) : jMem := va_up (jup (jup mem 66 0 0) 66 22 (nI (t + j))) 85 (fun i => if t ≤ i ∧ i < t + j then jBy w (q - 1 - (i - t)) else mem 85 i)
theorem jFd_0 {mem : jMem} {w : Int64} {t q : Nat} (ht : mem 66 22 = nI t) : jup mem 66 0 0 = jFd mem w t q 0 := by
  funext i j
  unfold jFd va_up
  by_cases h1 : i = 85
  · rw [if_pos h1, if_neg (by omega), h1]; rfl
  · rw [if_neg h1]
    unfold jup va_up
    by_cases h2 : i = 66
    · subst h2
      simp only [if_true]
      by_cases h3 : j = 22
      · subst h3; simp [ht]
      · simp [h3]
    · simp [h2]
theorem jFd_s {mem : jMem} {w : Int64} {t q j : Nat} (hj : j < q) : jup (jup (jFd mem w t q j) 85 (t + j) (jBy w (q - 1 - j))) 66 22 (nI (t + j) + 1) = jFd mem w t q (j + 1) := by
  funext a b
  unfold jFd jup va_up
  by_cases h1 : a = 85
  · subst h1
    simp only [show ¬ (85 : Nat) = 66 by decide, if_false, if_true]
    by_cases h2 : b = t + j
    · subst h2
      rw [if_pos rfl, if_pos (by omega), Nat.add_sub_cancel_left]
    · rw [if_neg h2]
      by_cases h3 : t ≤ b ∧ b < t + j
      · rw [if_pos h3, if_pos (by omega)]
      · rw [if_neg h3, if_neg (by omega)]
  · by_cases h2 : a = 66
    · subst h2
      simp only [if_true, show ¬ (66 : Nat) = 85 by decide, if_false]
      by_cases h3 : b = 22
      · rw [if_pos h3, if_pos h3, nI_1, Nat.add_assoc]
      · rw [if_neg h3, if_neg h3, if_neg h3]
    · simp [h1, h2]
def jmx (m a : Int32) : Int32 := if m < a then a else m
theorem jmx_t {a m : Int32} (h : ¬ a ≤ m) : a = jmx m a := (if_pos (Int32.not_le.mp h)).symm
theorem jmx_f {a m : Int32} (h : a ≤ m) : m = jmx m a := (if_neg (Int32.not_lt.mpr h)).symm
def jMax4 (a b c d : Int32) : Int32 := jmx (jmx (jmx (jmx 0 a) b) c) d
set_option maxRecDepth 4000 in
set_option maxHeartbeats 1000000 in
theorem m_feed_bad (np : Nat) (mem : jMem) (w : Int64) (q : Int32) (h : ¬ jin q 1 8) : jPi yX11_feed cX11_feed 5 .int 2 [.ref 66, .long w, .int q] np mem (fun v c => v = -1000001 ∧ c = jup mem 66 0 0) := by
  refine jPi.of (own := RX11) rfl rfl (Nat.le_of_ble_eq_true rfl) (fun G X hR hr hE => ?_)
  refine j_aload_n X dX11_feed_0 rfl ?_
  refine j_iconst X dX11_feed_1 0 (by decide) ?_
  refine j_putI X 11 0 (by decide) (by decide) rfl rfl rfl rfl u950 (o66 np) (k66 np) dX11_feed_2 ?_
  refine j_iload_n X dX11_feed_5 rfl ?_
  refine j_i2l X dX11_feed_6 ?_
  refine j_lconst X dX11_feed_7 1 (by decide) ?_
  refine j_ldc2 X dX11_feed_8 u1289 ?_
  refine s_callSi X hR (m_inI np _ _ _ _ 1 8 rfl rfl) rfl u1087 u1085 u1086 u12 hyX11_in (by decide) (by decide) (Nat.le_of_ble_eq_true rfl) dX11_feed_11 (fun v_11 m_11 h_11 => ?_)
  obtain ⟨e1, e2⟩ := h_11; have e1 := e1.symm; have e2 := e2.symm; subst e1; subst e2
  refine j_ifb_ne X 20 dX11_feed_14 (by decide) (fun c_14 => ?_) (fun c_14 => ?_)
  · exfalso
    clear hE hr hR X
    (try simp only [lg_cmp_lt, lg_cmp_gt, lg_cmp_le, lg_cmp_ge] at *); (try simp (disch := omega) only [Int64.le_iff_toInt_le, Int64.lt_iff_toInt_lt, Int32.le_iff_toInt_le, Int32.lt_iff_toInt_lt, fa_eq, fa_lit, fa_litL, nI_toInt, pk_lT, Int32.toInt_toInt64, jadd64, jin, jnoneT] at *); omega
  · refine j_ldc X dX11_feed_17 u1089 ?_
    refine s_iret X hE hr dX11_feed_19 rfl ?_
    first | exact ⟨rfl, rfl⟩ | (exfalso; clear hE hr hR X; (try simp only [lg_cmp_lt, lg_cmp_gt, lg_cmp_le, lg_cmp_ge] at *); (try simp (disch := omega) only [Int64.le_iff_toInt_le, Int64.lt_iff_toInt_lt, Int32.le_iff_toInt_le, Int32.lt_iff_toInt_lt, fa_eq, fa_lit, fa_litL, nI_toInt, pk_lT, Int32.toInt_toInt64, jadd64, jin, jnoneT] at *); omega)
set_option maxRecDepth 4000 in
set_option maxHeartbeats 1000000 in
theorem m_feed_full (np : Nat) (mem : jMem) (w : Int64) (q t : Nat) (hq : 1 ≤ q ∧ q ≤ 8) (ht : mem 66 22 = nI t) (ht2 : t ≤ 300) (hf : 300 < t + q) : jPi yX11_feed cX11_feed 5 .int 2 [.ref 66, .long w, .int (nI q)] np mem (fun v c => v = -1000003 ∧ c = jup mem 66 0 0) := by
  refine jPi.of (own := RX11) rfl rfl (Nat.le_of_ble_eq_true rfl) (fun G X hR hr hE => ?_)
  refine j_aload_n X dX11_feed_0 rfl ?_
  refine j_iconst X dX11_feed_1 0 (by decide) ?_
  refine j_putI X 11 0 (by decide) (by decide) rfl rfl rfl rfl u950 (o66 np) (k66 np) dX11_feed_2 ?_
  refine j_iload_n X dX11_feed_5 rfl ?_
  refine j_i2l X dX11_feed_6 ?_
  refine j_lconst X dX11_feed_7 1 (by decide) ?_
  refine j_ldc2 X dX11_feed_8 u1289 ?_
  refine s_callSi X hR (m_inI np _ _ _ _ 1 8 rfl rfl) rfl u1087 u1085 u1086 u12 hyX11_in (by decide) (by decide) (Nat.le_of_ble_eq_true rfl) dX11_feed_11 (fun v_11 m_11 h_11 => ?_)
  obtain ⟨e1, e2⟩ := h_11; have e1 := e1.symm; have e2 := e2.symm; subst e1; subst e2
  refine j_ifb_ne X 20 dX11_feed_14 (by decide) (fun c_14 => ?_) (fun c_14 => ?_)
  · refine j_aload_n X dX11_feed_20 rfl ?_
    refine j_getF X 11 22 (by decide) (by decide) rfl u972 (o66 np) (k66 np) _ rfl dX11_feed_21 ?_
    refine j_nrm (nI t) ht ?_
    refine j_iload_n X dX11_feed_24 rfl ?_
    refine j_iadd X dX11_feed_25 ?_
    refine j_nrm _ (nI_add _ _) ?_
    refine j_sipush X dX11_feed_26 300 (by decide) ?_
    refine j_icmp_le X 35 dX11_feed_29 (by decide) (fun c_29 => ?_) (fun c_29 => ?_)
    · exfalso
      clear hE hr hR X
      (try simp only [lg_cmp_lt, lg_cmp_gt, lg_cmp_le, lg_cmp_ge] at *); (try simp (disch := omega) only [Int64.le_iff_toInt_le, Int64.lt_iff_toInt_lt, Int32.le_iff_toInt_le, Int32.lt_iff_toInt_lt, fa_eq, fa_lit, fa_litL, nI_toInt, pk_lT, Int32.toInt_toInt64, jadd64, jin, jnoneT] at *); omega
    · refine j_ldc X dX11_feed_32 u1120 ?_
      refine s_iret X hE hr dX11_feed_34 rfl ?_
      first | exact ⟨rfl, rfl⟩ | (exfalso; clear hE hr hR X; (try simp only [lg_cmp_lt, lg_cmp_gt, lg_cmp_le, lg_cmp_ge] at *); (try simp (disch := omega) only [Int64.le_iff_toInt_le, Int64.lt_iff_toInt_lt, Int32.le_iff_toInt_le, Int32.lt_iff_toInt_lt, fa_eq, fa_lit, fa_litL, nI_toInt, pk_lT, Int32.toInt_toInt64, jadd64, jin, jnoneT] at *); omega)
  · exfalso
    clear hE hr hR X
    (try simp only [lg_cmp_lt, lg_cmp_gt, lg_cmp_le, lg_cmp_ge] at *); (try simp (disch := omega) only [Int64.le_iff_toInt_le, Int64.lt_iff_toInt_lt, Int32.le_iff_toInt_le, Int32.lt_iff_toInt_lt, fa_eq, fa_lit, fa_litL, nI_toInt, pk_lT, Int32.toInt_toInt64, jadd64, jin, jnoneT] at *); omega
set_option maxRecDepth 4000 in
set_option maxHeartbeats 1000000 in
theorem m_feed (np : Nat) (mem : jMem) (w : Int64) (q t : Nat) (hq : 1 ≤ q ∧ q ≤ 8) (ht : mem 66 22 = nI t) (hf : t + q ≤ 300) : jPi yX11_feed cX11_feed 5 .int 2 [.ref 66, .long w, .int (nI q)] np mem (fun v c => v = nI (t + q) ∧ c = jFd mem w t q q) := by
  refine jPi.of (own := RX11) rfl rfl (Nat.le_of_ble_eq_true rfl) (fun G X hR hr hE => ?_)
  refine j_aload_n X dX11_feed_0 rfl ?_
  refine j_iconst X dX11_feed_1 0 (by decide) ?_
  refine j_putI X 11 0 (by decide) (by decide) rfl rfl rfl rfl u950 (o66 np) (k66 np) dX11_feed_2 ?_
  refine j_iload_n X dX11_feed_5 rfl ?_
  refine j_i2l X dX11_feed_6 ?_
  refine j_lconst X dX11_feed_7 1 (by decide) ?_
  refine j_ldc2 X dX11_feed_8 u1289 ?_
  refine s_callSi X hR (m_inI np _ _ _ _ 1 8 rfl rfl) rfl u1087 u1085 u1086 u12 hyX11_in (by decide) (by decide) (Nat.le_of_ble_eq_true rfl) dX11_feed_11 (fun v_11 m_11 h_11 => ?_)
  obtain ⟨e1, e2⟩ := h_11; have e1 := e1.symm; have e2 := e2.symm; subst e1; subst e2
  refine j_ifb_ne X 20 dX11_feed_14 (by decide) (fun c_14 => ?_) (fun c_14 => ?_)
  · refine j_aload_n X dX11_feed_20 rfl ?_
    refine j_getF X 11 22 (by decide) (by decide) rfl u972 (o66 np) (k66 np) _ rfl dX11_feed_21 ?_
    refine j_nrm (nI t) ht ?_
    refine j_iload_n X dX11_feed_24 rfl ?_
    refine j_iadd X dX11_feed_25 ?_
    refine j_nrm _ (nI_add _ _) ?_
    refine j_sipush X dX11_feed_26 300 (by decide) ?_
    refine j_icmp_le X 35 dX11_feed_29 (by decide) (fun c_29 => ?_) (fun c_29 => ?_)
    · refine j_iload_n X dX11_feed_35 rfl ?_
      refine j_iconst X dX11_feed_36 1 (by decide) ?_
      refine j_isub X dX11_feed_37 ?_
      refine j_istore X dX11_feed_38 (by decide) ?_
      have lp40 : ∀ (n : Nat) (j : Nat), j ≤ q → q + 1 ≤ j + n → J G RX11 cX11_feed 5 0 0 40 (jlv [some (.ref 66), some (.long w), none, some (.int (nI q)), some (.int (nI (q - j) - 1))]) [] (jS np) (jFd mem w t q j) := by
        intro n
        induction n with
        | zero =>
          intro j hj hn
          exact absurd hn (by omega)
        | succ n ih40 =>
          intro j hj hn
          refine j_iload X dX11_feed_40 rfl ?_
          refine j_if_lt X 82 dX11_feed_42 (by decide) (fun c_42 => ?_) (fun c_42 => ?_)
          · have h9 := (jm1_lt (by omega)).mp c_42
            obtain rfl : j = q := by omega
            refine j_aload_n X dX11_feed_82 rfl ?_
            refine j_getF X 11 22 (by decide) (by decide) rfl u972 (o66 np) (k66 np) _ rfl dX11_feed_83 ?_
            refine s_iret X hE hr dX11_feed_86 rfl ?_
            first | exact ⟨rfl, rfl⟩ | (exfalso; clear hE hr hR X; (try simp only [lg_cmp_lt, lg_cmp_gt, lg_cmp_le, lg_cmp_ge] at *); (try simp (disch := omega) only [Int64.le_iff_toInt_le, Int64.lt_iff_toInt_lt, Int32.le_iff_toInt_le, Int32.lt_iff_toInt_lt, fa_eq, fa_lit, fa_litL, nI_toInt, pk_lT, Int32.toInt_toInt64, jadd64, jin, jnoneT] at *); omega)
          · have h9 : ¬ q - j = 0 := fun e => c_42 ((jm1_lt (by omega)).mpr e)
            obtain ⟨r, rfl⟩ : ∃ r, q = j + (r + 1) := ⟨q - j - 1, by omega⟩
            have er : j + (r + 1) - j = r + 1 := by omega
            refine j_aload_n X dX11_feed_45 rfl ?_
            refine j_getR X 11 21 (by decide) (by decide) rfl u971 (o66 np) (k66 np) _ (p66_21 np) dX11_feed_46 ?_
            refine j_aload_n X dX11_feed_49 rfl ?_
            refine j_getF X 11 22 (by decide) (by decide) rfl u972 (o66 np) (k66 np) _ rfl dX11_feed_50 ?_
            refine j_lload_n X dX11_feed_53 rfl ?_
            refine j_bipush X dX11_feed_54 8 (by decide) ?_
            refine j_iload X dX11_feed_56 rfl ?_
            refine j_nrm (nI r) (by rw [er, nI_pred]) ?_
            refine j_imul X dX11_feed_58 ?_
            refine j_lshr X dX11_feed_59 ?_
            refine j_ldc2 X dX11_feed_60 u1290 ?_
            refine j_land X dX11_feed_63 ?_
            refine j_l2i X dX11_feed_64 ?_
            refine j_nrm (jBy w (j + (r + 1) - 1 - j)) (by rw [show j + (r + 1) - 1 - j = r by omega]; rfl) ?_
            refine j_nrm2 _ (by first | (simp only [fa_lit, pk_mul, nI_add]; done) | (simp only [fa_lit, pk_mul, nI_add]; rfl) | rfl) ?_
            refine j_iastN X (o85 np) (k85 np) (by rw [l85]; omega) (by rw [l85]; decide) dX11_feed_65 ?_
            refine j_aload_n X dX11_feed_66 rfl ?_
            refine j_dup X dX11_feed_67 rfl ?_
            refine j_getF X 11 22 (by decide) (by decide) rfl u972 (o66 np) (k66 np) _ rfl dX11_feed_68 ?_
            refine j_iconst X dX11_feed_71 1 (by decide) ?_
            refine j_iadd X dX11_feed_72 ?_
            refine j_putI X 11 22 (by decide) (by decide) rfl rfl rfl rfl u972 (o66 np) (k66 np) dX11_feed_73 ?_
            refine j_iinc X dX11_feed_76 rfl (-1) rfl ?_
            refine j_goto X 40 dX11_feed_79 (by decide) ?_
            refine j_mem (jFd mem w t (j + (r + 1)) (j + 1)) (jFd_s (by omega)) ?_
            refine j_lv [some (.ref 66), some (.long w), none, some (.int (nI (j + (r + 1)))), some (.int (nI (j + (r + 1) - (j + 1)) - 1))] ⟨rfl, rfl, rfl, (congrArg (fun z => some (Value.int z)) ((jm1_step er).trans (by rw [show j + (r + 1) - (j + 1) = r by omega]))), trivial⟩ ?_
            exact ih40 (j + 1) (by omega) (by omega)
      refine j_mem (jFd mem w t q 0) (jFd_0 ht) ?_
      refine j_lv [some (.ref 66), some (.long w), none, some (.int (nI q)), some (.int (nI (q - 0) - 1))] ⟨rfl, rfl, rfl, rfl, trivial⟩ ?_
      exact lp40 (q + 1) 0 (by omega) (by omega)
    · exfalso
      clear hE hr hR X
      (try simp only [lg_cmp_lt, lg_cmp_gt, lg_cmp_le, lg_cmp_ge] at *); (try simp (disch := omega) only [Int64.le_iff_toInt_le, Int64.lt_iff_toInt_lt, Int32.le_iff_toInt_le, Int32.lt_iff_toInt_lt, fa_eq, fa_lit, fa_litL, nI_toInt, pk_lT, Int32.toInt_toInt64, jadd64, jin, jnoneT] at *); omega
  · exfalso
    clear hE hr hR X
    (try simp only [lg_cmp_lt, lg_cmp_gt, lg_cmp_le, lg_cmp_ge] at *); (try simp (disch := omega) only [Int64.le_iff_toInt_le, Int64.lt_iff_toInt_lt, Int32.le_iff_toInt_le, Int32.lt_iff_toInt_lt, fa_eq, fa_lit, fa_litL, nI_toInt, pk_lT, Int32.toInt_toInt64, jadd64, jin, jnoneT] at *); omega
set_option maxRecDepth 4000 in
set_option maxHeartbeats 1000000 in
theorem m_day_bad (np : Nat) (mem : jMem) (d : Int32) (h : ¬ jin d 0 999) : jPi yX11_day cX11_day 3 .int 3 [.ref 66, .int d] np mem (fun v c => v = -1000001 ∧ c = jup mem 66 0 0) := by
  refine jPi.of (own := RX11) rfl rfl (Nat.le_of_ble_eq_true rfl) (fun G X hR hr hE => ?_)
  refine j_aload_n X dX11_day_0 rfl ?_
  refine j_iconst X dX11_day_1 0 (by decide) ?_
  refine j_putI X 11 0 (by decide) (by decide) rfl rfl rfl rfl u950 (o66 np) (k66 np) dX11_day_2 ?_
  refine j_iload_n X dX11_day_5 rfl ?_
  refine s_callSi X hR (m_isDay np _ _) rfl u1117 u1115 u1116 u12 hyX11_isDay (by decide) (by decide) (Nat.le_of_ble_eq_true rfl) dX11_day_6 (fun v_6 m_6 h_6 => ?_)
  obtain ⟨e1, e2⟩ := h_6; have e1 := e1.symm; have e2 := e2.symm; subst e1; subst e2
  refine j_ifb_ne X 15 dX11_day_9 (by decide) (fun c_9 => ?_) (fun c_9 => ?_)
  · exfalso
    clear hE hr hR X
    (try simp only [lg_cmp_lt, lg_cmp_gt, lg_cmp_le, lg_cmp_ge] at *); (try simp (disch := omega) only [Int64.le_iff_toInt_le, Int64.lt_iff_toInt_lt, Int32.le_iff_toInt_le, Int32.lt_iff_toInt_lt, fa_eq, fa_lit, fa_litL, nI_toInt, pk_lT, Int32.toInt_toInt64, jadd64, jin, jnoneT] at *); omega
  · refine j_ldc X dX11_day_12 u1089 ?_
    refine s_iret X hE hr dX11_day_14 rfl ?_
    first | exact ⟨rfl, rfl⟩ | (exfalso; clear hE hr hR X; (try simp only [lg_cmp_lt, lg_cmp_gt, lg_cmp_le, lg_cmp_ge] at *); (try simp (disch := omega) only [Int64.le_iff_toInt_le, Int64.lt_iff_toInt_lt, Int32.le_iff_toInt_le, Int32.lt_iff_toInt_lt, fa_eq, fa_lit, fa_litL, nI_toInt, pk_lT, Int32.toInt_toInt64, jadd64, jin, jnoneT] at *); omega)
set_option maxRecDepth 4000 in
set_option maxHeartbeats 1000000 in
theorem m_day (np : Nat) (mem : jMem) (d : Int32) (h : jin d 0 999) : jPi yX11_day cX11_day 3 .int 3 [.ref 66, .int d] np mem (fun v c => v = mem 66 39 ∧ c = jup (jup mem 66 0 0) 66 39 d) := by
  refine jPi.of (own := RX11) rfl rfl (Nat.le_of_ble_eq_true rfl) (fun G X hR hr hE => ?_)
  refine j_aload_n X dX11_day_0 rfl ?_
  refine j_iconst X dX11_day_1 0 (by decide) ?_
  refine j_putI X 11 0 (by decide) (by decide) rfl rfl rfl rfl u950 (o66 np) (k66 np) dX11_day_2 ?_
  refine j_iload_n X dX11_day_5 rfl ?_
  refine s_callSi X hR (m_isDay np _ _) rfl u1117 u1115 u1116 u12 hyX11_isDay (by decide) (by decide) (Nat.le_of_ble_eq_true rfl) dX11_day_6 (fun v_6 m_6 h_6 => ?_)
  obtain ⟨e1, e2⟩ := h_6; have e1 := e1.symm; have e2 := e2.symm; subst e1; subst e2
  refine j_ifb_ne X 15 dX11_day_9 (by decide) (fun c_9 => ?_) (fun c_9 => ?_)
  · refine j_aload_n X dX11_day_15 rfl ?_
    refine j_getF X 11 39 (by decide) (by decide) rfl u989 (o66 np) (k66 np) _ rfl dX11_day_16 ?_
    refine j_istore_n X dX11_day_19 (by decide) ?_
    refine j_aload_n X dX11_day_20 rfl ?_
    refine j_iload_n X dX11_day_21 rfl ?_
    refine j_putI X 11 39 (by decide) (by decide) rfl rfl rfl rfl u989 (o66 np) (k66 np) dX11_day_22 ?_
    refine j_iload_n X dX11_day_25 rfl ?_
    refine s_iret X hE hr dX11_day_26 rfl ?_
    first | exact ⟨rfl, rfl⟩ | (exfalso; clear hE hr hR X; (try simp only [lg_cmp_lt, lg_cmp_gt, lg_cmp_le, lg_cmp_ge] at *); (try simp (disch := omega) only [Int64.le_iff_toInt_le, Int64.lt_iff_toInt_lt, Int32.le_iff_toInt_le, Int32.lt_iff_toInt_lt, fa_eq, fa_lit, fa_litL, nI_toInt, pk_lT, Int32.toInt_toInt64, jadd64, jin, jnoneT] at *); omega)
  · exfalso
    clear hE hr hR X
    (try simp only [lg_cmp_lt, lg_cmp_gt, lg_cmp_le, lg_cmp_ge] at *); (try simp (disch := omega) only [Int64.le_iff_toInt_le, Int64.lt_iff_toInt_lt, Int32.le_iff_toInt_le, Int32.lt_iff_toInt_lt, fa_eq, fa_lit, fa_litL, nI_toInt, pk_lT, Int32.toInt_toInt64, jadd64, jin, jnoneT] at *); omega
set_option maxRecDepth 4000 in
set_option maxHeartbeats 1000000 in
theorem m_kindOf (np : Nat) (mem : jMem) (p : Nat) (hp : p < 12) : jPi yX11_kindOf cX11_kindOf 3 .int 2 [.ref 66, .int (nI p)] np mem (fun v c => v = jKind (mem 75 p) (mem 66 39) (mem 74 (9 * p + 2)) ∧ c = mem) := by
  refine jPi.of (own := RX11) rfl rfl (Nat.le_of_ble_eq_true rfl) (fun G X hR hr hE => ?_)
  refine j_aload_n X dX11_kindOf_0 rfl ?_
  refine j_iload_n X dX11_kindOf_1 rfl ?_
  refine j_iconst X dX11_kindOf_2 2 (by decide) ?_
  refine s_callVi X hR (m_of np _ p 2 hp (by omega)) rfl 11 (by decide) (o66 np) (k66 np) rfl u1180 u1177 u1179 qp44 u12 hyX11_of (by decide) (by decide) (Nat.le_of_ble_eq_true rfl) dX11_kindOf_3 (fun v_3 m_3 h_3 => ?_)
  obtain ⟨e1, e2⟩ := h_3; have e1 := e1.symm; have e2 := e2.symm; subst e1; subst e2
  refine j_istore_n X dX11_kindOf_6 (by decide) ?_
  refine j_aload_n X dX11_kindOf_7 rfl ?_
  refine j_getR X 11 11 (by decide) (by decide) rfl u961 (o66 np) (k66 np) _ (p66_11 np) dX11_kindOf_8 ?_
  refine j_iload_n X dX11_kindOf_11 rfl ?_
  refine j_nrm _ (by first | (simp only [fa_lit, pk_mul, nI_add]; done) | (simp only [fa_lit, pk_mul, nI_add]; rfl) | rfl) ?_
  refine j_ialdN X (o75 np) (k75 np) (by rw [l75]; omega) (by rw [l75]; decide) (mem 75) rfl dX11_kindOf_12 ?_
  refine j_aload_n X dX11_kindOf_13 rfl ?_
  refine j_getF X 11 39 (by decide) (by decide) rfl u989 (o66 np) (k66 np) (mem 66) rfl dX11_kindOf_14 ?_
  refine s_callSi X hR (m_isKnown np _ _ _) rfl u1284 u1282 u1283 u12 hyX11_isKnown (by decide) (by decide) (Nat.le_of_ble_eq_true rfl) dX11_kindOf_17 (fun v_17 m_17 h_17 => ?_)
  obtain ⟨e1, e2⟩ := h_17; have e1 := e1.symm; have e2 := e2.symm; subst e1; subst e2
  refine j_ifb_eq X 27 dX11_kindOf_20 (by decide) (fun c_20 => ?_) (fun c_20 => ?_)
  · refine j_iload_n X dX11_kindOf_27 rfl ?_
    refine j_iconst X dX11_kindOf_28 2 (by decide) ?_
    refine j_icmp_ne X 36 dX11_kindOf_29 (by decide) (fun c_29 => ?_) (fun c_29 => ?_)
    · refine j_iload_n X dX11_kindOf_36 rfl ?_
      refine j_iconst X dX11_kindOf_37 1 (by decide) ?_
      refine j_icmp_ne X 45 dX11_kindOf_38 (by decide) (fun c_38 => ?_) (fun c_38 => ?_)
      · refine j_iload_n X dX11_kindOf_45 rfl ?_
        refine s_iret X hE hr dX11_kindOf_46 rfl ?_
        refine ⟨?_, rfl⟩
        unfold jKind
        first | exact (if_pos c_20).symm | exact (c_29.symm.trans (if_neg c_20).symm) | exact (c_38.symm.trans (if_neg c_20).symm) | exact (if_neg c_20).symm
      · refine j_iconst X dX11_kindOf_41 1 (by decide) ?_
        refine j_goto X 46 dX11_kindOf_42 (by decide) ?_
        refine s_iret X hE hr dX11_kindOf_46 rfl ?_
        refine ⟨?_, rfl⟩
        unfold jKind
        first | exact (if_pos c_20).symm | exact (c_29.symm.trans (if_neg c_20).symm) | exact (c_38.symm.trans (if_neg c_20).symm) | exact (if_neg c_20).symm
    · refine j_iconst X dX11_kindOf_32 2 (by decide) ?_
      refine j_goto X 46 dX11_kindOf_33 (by decide) ?_
      refine s_iret X hE hr dX11_kindOf_46 rfl ?_
      refine ⟨?_, rfl⟩
      unfold jKind
      first | exact (if_pos c_20).symm | exact (c_29.symm.trans (if_neg c_20).symm) | exact (c_38.symm.trans (if_neg c_20).symm) | exact (if_neg c_20).symm
  · refine j_iconst X dX11_kindOf_23 5 (by decide) ?_
    refine j_goto X 46 dX11_kindOf_24 (by decide) ?_
    refine s_iret X hE hr dX11_kindOf_46 rfl ?_
    refine ⟨?_, rfl⟩
    unfold jKind
    first | exact (if_pos c_20).symm | exact (c_29.symm.trans (if_neg c_20).symm) | exact (c_38.symm.trans (if_neg c_20).symm) | exact (if_neg c_20).symm
set_option maxRecDepth 4000 in
set_option maxHeartbeats 1000000 in
theorem m_isOf (np : Nat) (mem : jMem) (x y : Int32)  : jPi yX11_isOf cX11_isOf 2 .boolean 1 [.int x, .int y] np mem (fun v c => v = jb (y = 0 ∨ x = y ∨ y = 1 ∧ x = 2) ∧ c = mem) := by
  refine jPi.of (own := RX11) rfl rfl (Nat.le_of_ble_eq_true rfl) (fun G X hR hr hE => ?_)
  refine j_iload_n X dX11_isOf_0 rfl ?_
  refine j_if_eq X 19 dX11_isOf_1 (by decide) (fun c_1 => ?_) (fun c_1 => ?_)
  · refine j_iconst X dX11_isOf_19 1 (by decide) ?_
    refine j_goto X 24 dX11_isOf_20 (by decide) ?_
    refine s_iret X hE hr dX11_isOf_24 (by first | exact jb_nar | rfl) ?_
    refine ⟨?_, rfl⟩
    first | exact (jb_t (by first | exact Or.inl c_1 | exact Or.inr (Or.inl c_6) | exact Or.inr (Or.inr ⟨c_11, c_16⟩))).symm | exact (jb_f (fun z => by rcases z with z | z | z <;> first | exact absurd z c_1 | exact absurd z c_6 | exact absurd z.1 c_11 | exact absurd z.2 c_16)).symm
  · refine j_iload_n X dX11_isOf_4 rfl ?_
    refine j_iload_n X dX11_isOf_5 rfl ?_
    refine j_icmp_eq X 19 dX11_isOf_6 (by decide) (fun c_6 => ?_) (fun c_6 => ?_)
    · refine j_iconst X dX11_isOf_19 1 (by decide) ?_
      refine j_goto X 24 dX11_isOf_20 (by decide) ?_
      refine s_iret X hE hr dX11_isOf_24 (by first | exact jb_nar | rfl) ?_
      refine ⟨?_, rfl⟩
      first | exact (jb_t (by first | exact Or.inl c_1 | exact Or.inr (Or.inl c_6) | exact Or.inr (Or.inr ⟨c_11, c_16⟩))).symm | exact (jb_f (fun z => by rcases z with z | z | z <;> first | exact absurd z c_1 | exact absurd z c_6 | exact absurd z.1 c_11 | exact absurd z.2 c_16)).symm
    · refine j_iload_n X dX11_isOf_9 rfl ?_
      refine j_iconst X dX11_isOf_10 1 (by decide) ?_
      refine j_icmp_ne X 23 dX11_isOf_11 (by decide) (fun c_11 => ?_) (fun c_11 => ?_)
      · refine j_iconst X dX11_isOf_23 0 (by decide) ?_
        refine s_iret X hE hr dX11_isOf_24 (by first | exact jb_nar | rfl) ?_
        refine ⟨?_, rfl⟩
        first | exact (jb_t (by first | exact Or.inl c_1 | exact Or.inr (Or.inl c_6) | exact Or.inr (Or.inr ⟨c_11, c_16⟩))).symm | exact (jb_f (fun z => by rcases z with z | z | z <;> first | exact absurd z c_1 | exact absurd z c_6 | exact absurd z.1 c_11 | exact absurd z.2 c_16)).symm
      · refine j_iload_n X dX11_isOf_14 rfl ?_
        refine j_iconst X dX11_isOf_15 2 (by decide) ?_
        refine j_icmp_ne X 23 dX11_isOf_16 (by decide) (fun c_16 => ?_) (fun c_16 => ?_)
        · refine j_iconst X dX11_isOf_23 0 (by decide) ?_
          refine s_iret X hE hr dX11_isOf_24 (by first | exact jb_nar | rfl) ?_
          refine ⟨?_, rfl⟩
          first | exact (jb_t (by first | exact Or.inl c_1 | exact Or.inr (Or.inl c_6) | exact Or.inr (Or.inr ⟨c_11, c_16⟩))).symm | exact (jb_f (fun z => by rcases z with z | z | z <;> first | exact absurd z c_1 | exact absurd z c_6 | exact absurd z.1 c_11 | exact absurd z.2 c_16)).symm
        · refine j_iconst X dX11_isOf_19 1 (by decide) ?_
          refine j_goto X 24 dX11_isOf_20 (by decide) ?_
          refine s_iret X hE hr dX11_isOf_24 (by first | exact jb_nar | rfl) ?_
          refine ⟨?_, rfl⟩
          first | exact (jb_t (by first | exact Or.inl c_1 | exact Or.inr (Or.inl c_6) | exact Or.inr (Or.inr ⟨c_11, c_16⟩))).symm | exact (jb_f (fun z => by rcases z with z | z | z <;> first | exact absurd z c_1 | exact absurd z c_6 | exact absurd z.1 c_11 | exact absurd z.2 c_16)).symm
set_option maxRecDepth 4000 in
set_option maxHeartbeats 1000000 in
theorem m_kind_bad (np : Nat) (mem : jMem) (p : Int32) (hn : np ≤ 12) (hp : mem 66 9 = nI np) (h : ¬ jin p 0 ((np : Int) - 1)) : jPi yX11_kind cX11_kind 2 .int 3 [.ref 66, .int p] np mem (fun v c => v = -1000001 ∧ c = jup mem 66 0 0) := by
  refine jPi.of (own := RX11) rfl rfl (Nat.le_of_ble_eq_true rfl) (fun G X hR hr hE => ?_)
  refine j_aload_n X dX11_kind_0 rfl ?_
  refine j_iconst X dX11_kind_1 0 (by decide) ?_
  refine j_putI X 11 0 (by decide) (by decide) rfl rfl rfl rfl u950 (o66 np) (k66 np) dX11_kind_2 ?_
  refine j_aload_n X dX11_kind_5 rfl ?_
  refine j_iload_n X dX11_kind_6 rfl ?_
  refine s_callVi X hR (m_isPaper np _ _ hn hp) rfl 11 (by decide) (o66 np) (k66 np) rfl u1151 u1148 u1150 qp39 u12 hyX11_isPaper (by decide) (by decide) (Nat.le_of_ble_eq_true rfl) dX11_kind_7 (fun v_7 m_7 h_7 => ?_)
  obtain ⟨e1, e2⟩ := h_7; have e1 := e1.symm; have e2 := e2.symm; subst e1; subst e2
  refine j_ifb_eq X 21 dX11_kind_10 (by decide) (fun c_10 => ?_) (fun c_10 => ?_)
  · refine j_ldc X dX11_kind_21 u1089 ?_
    refine s_iret X hE hr dX11_kind_23 rfl ?_
    first | exact ⟨rfl, rfl⟩ | (exfalso; clear hE hr hR X; (try simp only [lg_cmp_lt, lg_cmp_gt, lg_cmp_le, lg_cmp_ge] at *); (try simp (disch := omega) only [Int64.le_iff_toInt_le, Int64.lt_iff_toInt_lt, Int32.le_iff_toInt_le, Int32.lt_iff_toInt_lt, fa_eq, fa_lit, fa_litL, nI_toInt, pk_lT, Int32.toInt_toInt64, jadd64, jin, jnoneT] at *); omega)
  · exfalso
    clear hE hr hR X
    (try simp only [lg_cmp_lt, lg_cmp_gt, lg_cmp_le, lg_cmp_ge] at *); (try simp (disch := omega) only [Int64.le_iff_toInt_le, Int64.lt_iff_toInt_lt, Int32.le_iff_toInt_le, Int32.lt_iff_toInt_lt, fa_eq, fa_lit, fa_litL, nI_toInt, pk_lT, Int32.toInt_toInt64, jadd64, jin, jnoneT] at *); omega
set_option maxRecDepth 4000 in
set_option maxHeartbeats 1000000 in
theorem m_kind (np : Nat) (mem : jMem) (p : Nat) (hn : np ≤ 12) (hp : mem 66 9 = nI np) (hp2 : p < np) : jPi yX11_kind cX11_kind 2 .int 3 [.ref 66, .int (nI p)] np mem (fun v c => v = jKind (mem 75 p) (mem 66 39) (mem 74 (9 * p + 2)) ∧ c = jup mem 66 0 0) := by
  refine jPi.of (own := RX11) rfl rfl (Nat.le_of_ble_eq_true rfl) (fun G X hR hr hE => ?_)
  refine j_aload_n X dX11_kind_0 rfl ?_
  refine j_iconst X dX11_kind_1 0 (by decide) ?_
  refine j_putI X 11 0 (by decide) (by decide) rfl rfl rfl rfl u950 (o66 np) (k66 np) dX11_kind_2 ?_
  refine j_aload_n X dX11_kind_5 rfl ?_
  refine j_iload_n X dX11_kind_6 rfl ?_
  refine s_callVi X hR (m_isPaper np _ _ hn hp) rfl 11 (by decide) (o66 np) (k66 np) rfl u1151 u1148 u1150 qp39 u12 hyX11_isPaper (by decide) (by decide) (Nat.le_of_ble_eq_true rfl) dX11_kind_7 (fun v_7 m_7 h_7 => ?_)
  obtain ⟨e1, e2⟩ := h_7; have e1 := e1.symm; have e2 := e2.symm; subst e1; subst e2
  refine j_ifb_eq X 21 dX11_kind_10 (by decide) (fun c_10 => ?_) (fun c_10 => ?_)
  · exfalso
    clear hE hr hR X
    (try simp only [lg_cmp_lt, lg_cmp_gt, lg_cmp_le, lg_cmp_ge] at *); (try simp (disch := omega) only [Int64.le_iff_toInt_le, Int64.lt_iff_toInt_lt, Int32.le_iff_toInt_le, Int32.lt_iff_toInt_lt, fa_eq, fa_lit, fa_litL, nI_toInt, pk_lT, Int32.toInt_toInt64, jadd64, jin, jnoneT] at *); omega
  · refine j_aload_n X dX11_kind_13 rfl ?_
    refine j_iload_n X dX11_kind_14 rfl ?_
    refine s_callVi X hR (m_kindOf np _ p (by omega)) rfl 11 (by decide) (o66 np) (k66 np) rfl u1407 u1404 u1406 qp65 u12 hyX11_kindOf (by decide) (by decide) (Nat.le_of_ble_eq_true rfl) dX11_kind_15 (fun v_15 m_15 h_15 => ?_)
    obtain ⟨e1, e2⟩ := h_15; have e1 := e1.symm; have e2 := e2.symm; subst e1; subst e2
    refine j_goto X 23 dX11_kind_18 (by decide) ?_
    refine s_iret X hE hr dX11_kind_23 rfl ?_
    first | exact ⟨rfl, rfl⟩ | (exfalso; clear hE hr hR X; (try simp only [lg_cmp_lt, lg_cmp_gt, lg_cmp_le, lg_cmp_ge] at *); (try simp (disch := omega) only [Int64.le_iff_toInt_le, Int64.lt_iff_toInt_lt, Int32.le_iff_toInt_le, Int32.lt_iff_toInt_lt, fa_eq, fa_lit, fa_litL, nI_toInt, pk_lT, Int32.toInt_toInt64, jadd64, jin, jnoneT] at *); omega)
set_option maxRecDepth 4000 in
set_option maxHeartbeats 1000000 in
theorem m_as_bad (np : Nat) (mem : jMem) (p w : Int32) (hn : np ≤ 12) (hp : mem 66 9 = nI np) (h : ¬ (jin p 0 ((np : Int) - 1) ∧ jin w 0 5)) : jPi yX11_as cX11_as 3 .int 3 [.ref 66, .int p, .int w] np mem (fun v c => v = -1000001 ∧ c = jup mem 66 0 0) := by
  refine jPi.of (own := RX11) rfl rfl (Nat.le_of_ble_eq_true rfl) (fun G X hR hr hE => ?_)
  refine j_aload_n X dX11_as_0 rfl ?_
  refine j_iconst X dX11_as_1 0 (by decide) ?_
  refine j_putI X 11 0 (by decide) (by decide) rfl rfl rfl rfl u950 (o66 np) (k66 np) dX11_as_2 ?_
  refine j_aload_n X dX11_as_5 rfl ?_
  refine j_iload_n X dX11_as_6 rfl ?_
  refine s_callVi X hR (m_isPaper np _ _ hn hp) rfl 11 (by decide) (o66 np) (k66 np) rfl u1151 u1148 u1150 qp39 u12 hyX11_isPaper (by decide) (by decide) (Nat.le_of_ble_eq_true rfl) dX11_as_7 (fun v_7 m_7 h_7 => ?_)
  obtain ⟨e1, e2⟩ := h_7; have e1 := e1.symm; have e2 := e2.symm; subst e1; subst e2
  refine j_ifb_eq X 25 dX11_as_10 (by decide) (fun c_10 => ?_) (fun c_10 => ?_)
  · refine j_ldc X dX11_as_25 u1089 ?_
    refine s_iret X hE hr dX11_as_27 rfl ?_
    first | exact ⟨rfl, rfl⟩ | (exfalso; clear hE hr hR X; (try simp only [lg_cmp_lt, lg_cmp_gt, lg_cmp_le, lg_cmp_ge] at *); (try simp (disch := omega) only [Int64.le_iff_toInt_le, Int64.lt_iff_toInt_lt, Int32.le_iff_toInt_le, Int32.lt_iff_toInt_lt, fa_eq, fa_lit, fa_litL, nI_toInt, pk_lT, Int32.toInt_toInt64, jadd64, jin, jnoneT] at *); omega)
  · refine j_iload_n X dX11_as_13 rfl ?_
    refine j_i2l X dX11_as_14 ?_
    refine j_lconst X dX11_as_15 0 (by decide) ?_
    refine j_ldc2 X dX11_as_16 u1142 ?_
    refine s_callSi X hR (m_inI np _ _ _ _ 0 5 rfl rfl) rfl u1087 u1085 u1086 u12 hyX11_in (by decide) (by decide) (Nat.le_of_ble_eq_true rfl) dX11_as_19 (fun v_19 m_19 h_19 => ?_)
    obtain ⟨e1, e2⟩ := h_19; have e1 := e1.symm; have e2 := e2.symm; subst e1; subst e2
    refine j_ifb_ne X 28 dX11_as_22 (by decide) (fun c_22 => ?_) (fun c_22 => ?_)
    · exfalso
      clear hE hr hR X
      (try simp only [lg_cmp_lt, lg_cmp_gt, lg_cmp_le, lg_cmp_ge] at *); (try simp (disch := omega) only [Int64.le_iff_toInt_le, Int64.lt_iff_toInt_lt, Int32.le_iff_toInt_le, Int32.lt_iff_toInt_lt, fa_eq, fa_lit, fa_litL, nI_toInt, pk_lT, Int32.toInt_toInt64, jadd64, jin, jnoneT] at *); omega
    · refine j_ldc X dX11_as_25 u1089 ?_
      refine s_iret X hE hr dX11_as_27 rfl ?_
      first | exact ⟨rfl, rfl⟩ | (exfalso; clear hE hr hR X; (try simp only [lg_cmp_lt, lg_cmp_gt, lg_cmp_le, lg_cmp_ge] at *); (try simp (disch := omega) only [Int64.le_iff_toInt_le, Int64.lt_iff_toInt_lt, Int32.le_iff_toInt_le, Int32.lt_iff_toInt_lt, fa_eq, fa_lit, fa_litL, nI_toInt, pk_lT, Int32.toInt_toInt64, jadd64, jin, jnoneT] at *); omega)
set_option maxRecDepth 4000 in
set_option maxHeartbeats 1000000 in
theorem m_as (np : Nat) (mem : jMem) (p : Nat) (w : Int32) (hn : np ≤ 12) (hp : mem 66 9 = nI np) (hp2 : p < np) (hw : jin w 0 5) (hk : (w = 0 ∨ jKind (mem 75 p) (mem 66 39) (mem 74 (9 * p + 2)) = w ∨ w = 1 ∧ jKind (mem 75 p) (mem 66 39) (mem 74 (9 * p + 2)) = 2)) : jPi yX11_as cX11_as 3 .int 3 [.ref 66, .int (nI p), .int w] np mem (fun v c => v = mem 74 (9 * p) ∧ c = jup (jup mem 66 0 0) 66 1 0) := by
  refine jPi.of (own := RX11) rfl rfl (Nat.le_of_ble_eq_true rfl) (fun G X hR hr hE => ?_)
  refine j_aload_n X dX11_as_0 rfl ?_
  refine j_iconst X dX11_as_1 0 (by decide) ?_
  refine j_putI X 11 0 (by decide) (by decide) rfl rfl rfl rfl u950 (o66 np) (k66 np) dX11_as_2 ?_
  refine j_aload_n X dX11_as_5 rfl ?_
  refine j_iload_n X dX11_as_6 rfl ?_
  refine s_callVi X hR (m_isPaper np _ _ hn hp) rfl 11 (by decide) (o66 np) (k66 np) rfl u1151 u1148 u1150 qp39 u12 hyX11_isPaper (by decide) (by decide) (Nat.le_of_ble_eq_true rfl) dX11_as_7 (fun v_7 m_7 h_7 => ?_)
  obtain ⟨e1, e2⟩ := h_7; have e1 := e1.symm; have e2 := e2.symm; subst e1; subst e2
  refine j_ifb_eq X 25 dX11_as_10 (by decide) (fun c_10 => ?_) (fun c_10 => ?_)
  · exfalso
    clear hE hr hR X
    (try simp only [lg_cmp_lt, lg_cmp_gt, lg_cmp_le, lg_cmp_ge] at *); (try simp (disch := omega) only [Int64.le_iff_toInt_le, Int64.lt_iff_toInt_lt, Int32.le_iff_toInt_le, Int32.lt_iff_toInt_lt, fa_eq, fa_lit, fa_litL, nI_toInt, pk_lT, Int32.toInt_toInt64, jadd64, jin, jnoneT] at *); omega
  · refine j_iload_n X dX11_as_13 rfl ?_
    refine j_i2l X dX11_as_14 ?_
    refine j_lconst X dX11_as_15 0 (by decide) ?_
    refine j_ldc2 X dX11_as_16 u1142 ?_
    refine s_callSi X hR (m_inI np _ _ _ _ 0 5 rfl rfl) rfl u1087 u1085 u1086 u12 hyX11_in (by decide) (by decide) (Nat.le_of_ble_eq_true rfl) dX11_as_19 (fun v_19 m_19 h_19 => ?_)
    obtain ⟨e1, e2⟩ := h_19; have e1 := e1.symm; have e2 := e2.symm; subst e1; subst e2
    refine j_ifb_ne X 28 dX11_as_22 (by decide) (fun c_22 => ?_) (fun c_22 => ?_)
    · refine j_aload_n X dX11_as_28 rfl ?_
      refine j_iconst X dX11_as_29 0 (by decide) ?_
      refine j_putI X 11 1 (by decide) (by decide) rfl rfl rfl rfl u951 (o66 np) (k66 np) dX11_as_30 ?_
      refine j_aload_n X dX11_as_33 rfl ?_
      refine j_iload_n X dX11_as_34 rfl ?_
      refine s_callVi X hR (m_kindOf np _ p (by omega)) rfl 11 (by decide) (o66 np) (k66 np) rfl u1407 u1404 u1406 qp65 u12 hyX11_kindOf (by decide) (by decide) (Nat.le_of_ble_eq_true rfl) dX11_as_35 (fun v_35 m_35 h_35 => ?_)
      obtain ⟨e1, e2⟩ := h_35; have e1 := e1.symm; have e2 := e2.symm; subst e1; subst e2
      refine j_iload_n X dX11_as_38 rfl ?_
      refine s_callSi X hR (m_isOf np _ _ _) rfl u1414 u1412 u1413 u12 hyX11_isOf (by decide) (by decide) (Nat.le_of_ble_eq_true rfl) dX11_as_39 (fun v_39 m_39 h_39 => ?_)
      obtain ⟨e1, e2⟩ := h_39; have e1 := e1.symm; have e2 := e2.symm; subst e1; subst e2
      refine j_ifb_eq X 54 dX11_as_42 (by decide) (fun c_42 => ?_) (fun c_42 => ?_)
      · exact absurd hk c_42
      · refine j_aload_n X dX11_as_45 rfl ?_
        refine j_iload_n X dX11_as_46 rfl ?_
        refine j_iconst X dX11_as_47 0 (by decide) ?_
        refine s_callVi X hR (m_of np _ p 0 (by omega) (by omega)) rfl 11 (by decide) (o66 np) (k66 np) rfl u1180 u1177 u1179 qp44 u12 hyX11_of (by decide) (by decide) (Nat.le_of_ble_eq_true rfl) dX11_as_48 (fun v_48 m_48 h_48 => ?_)
        obtain ⟨e1, e2⟩ := h_48; have e1 := e1.symm; have e2 := e2.symm; subst e1; subst e2
        refine j_goto X 59 dX11_as_51 (by decide) ?_
        refine s_iret X hE hr dX11_as_59 rfl ?_
        first | exact ⟨rfl, rfl⟩ | (exfalso; clear hE hr hR X; (try simp only [lg_cmp_lt, lg_cmp_gt, lg_cmp_le, lg_cmp_ge] at *); (try simp (disch := omega) only [Int64.le_iff_toInt_le, Int64.lt_iff_toInt_lt, Int32.le_iff_toInt_le, Int32.lt_iff_toInt_lt, fa_eq, fa_lit, fa_litL, nI_toInt, pk_lT, Int32.toInt_toInt64, jadd64, jin, jnoneT] at *); omega)
    · exfalso
      clear hE hr hR X
      (try simp only [lg_cmp_lt, lg_cmp_gt, lg_cmp_le, lg_cmp_ge] at *); (try simp (disch := omega) only [Int64.le_iff_toInt_le, Int64.lt_iff_toInt_lt, Int32.le_iff_toInt_le, Int32.lt_iff_toInt_lt, fa_eq, fa_lit, fa_litL, nI_toInt, pk_lT, Int32.toInt_toInt64, jadd64, jin, jnoneT] at *); omega
set_option maxRecDepth 4000 in
set_option maxHeartbeats 1000000 in
theorem m_as_kind (np : Nat) (mem : jMem) (p : Nat) (w : Int32) (hn : np ≤ 12) (hp : mem 66 9 = nI np) (hp2 : p < np) (hw : jin w 0 5) (hk : ¬ (w = 0 ∨ jKind (mem 75 p) (mem 66 39) (mem 74 (9 * p + 2)) = w ∨ w = 1 ∧ jKind (mem 75 p) (mem 66 39) (mem 74 (9 * p + 2)) = 2)) : jPi yX11_as cX11_as 3 .int 3 [.ref 66, .int (nI p), .int w] np mem (fun v c => v = -1000010 - 3 ∧ c = jup (jup (jup mem 66 0 0) 66 1 0) 66 1 3) := by
  refine jPi.of (own := RX11) rfl rfl (Nat.le_of_ble_eq_true rfl) (fun G X hR hr hE => ?_)
  refine j_aload_n X dX11_as_0 rfl ?_
  refine j_iconst X dX11_as_1 0 (by decide) ?_
  refine j_putI X 11 0 (by decide) (by decide) rfl rfl rfl rfl u950 (o66 np) (k66 np) dX11_as_2 ?_
  refine j_aload_n X dX11_as_5 rfl ?_
  refine j_iload_n X dX11_as_6 rfl ?_
  refine s_callVi X hR (m_isPaper np _ _ hn hp) rfl 11 (by decide) (o66 np) (k66 np) rfl u1151 u1148 u1150 qp39 u12 hyX11_isPaper (by decide) (by decide) (Nat.le_of_ble_eq_true rfl) dX11_as_7 (fun v_7 m_7 h_7 => ?_)
  obtain ⟨e1, e2⟩ := h_7; have e1 := e1.symm; have e2 := e2.symm; subst e1; subst e2
  refine j_ifb_eq X 25 dX11_as_10 (by decide) (fun c_10 => ?_) (fun c_10 => ?_)
  · exfalso
    clear hE hr hR X
    (try simp only [lg_cmp_lt, lg_cmp_gt, lg_cmp_le, lg_cmp_ge] at *); (try simp (disch := omega) only [Int64.le_iff_toInt_le, Int64.lt_iff_toInt_lt, Int32.le_iff_toInt_le, Int32.lt_iff_toInt_lt, fa_eq, fa_lit, fa_litL, nI_toInt, pk_lT, Int32.toInt_toInt64, jadd64, jin, jnoneT] at *); omega
  · refine j_iload_n X dX11_as_13 rfl ?_
    refine j_i2l X dX11_as_14 ?_
    refine j_lconst X dX11_as_15 0 (by decide) ?_
    refine j_ldc2 X dX11_as_16 u1142 ?_
    refine s_callSi X hR (m_inI np _ _ _ _ 0 5 rfl rfl) rfl u1087 u1085 u1086 u12 hyX11_in (by decide) (by decide) (Nat.le_of_ble_eq_true rfl) dX11_as_19 (fun v_19 m_19 h_19 => ?_)
    obtain ⟨e1, e2⟩ := h_19; have e1 := e1.symm; have e2 := e2.symm; subst e1; subst e2
    refine j_ifb_ne X 28 dX11_as_22 (by decide) (fun c_22 => ?_) (fun c_22 => ?_)
    · refine j_aload_n X dX11_as_28 rfl ?_
      refine j_iconst X dX11_as_29 0 (by decide) ?_
      refine j_putI X 11 1 (by decide) (by decide) rfl rfl rfl rfl u951 (o66 np) (k66 np) dX11_as_30 ?_
      refine j_aload_n X dX11_as_33 rfl ?_
      refine j_iload_n X dX11_as_34 rfl ?_
      refine s_callVi X hR (m_kindOf np _ p (by omega)) rfl 11 (by decide) (o66 np) (k66 np) rfl u1407 u1404 u1406 qp65 u12 hyX11_kindOf (by decide) (by decide) (Nat.le_of_ble_eq_true rfl) dX11_as_35 (fun v_35 m_35 h_35 => ?_)
      obtain ⟨e1, e2⟩ := h_35; have e1 := e1.symm; have e2 := e2.symm; subst e1; subst e2
      refine j_iload_n X dX11_as_38 rfl ?_
      refine s_callSi X hR (m_isOf np _ _ _) rfl u1414 u1412 u1413 u12 hyX11_isOf (by decide) (by decide) (Nat.le_of_ble_eq_true rfl) dX11_as_39 (fun v_39 m_39 h_39 => ?_)
      obtain ⟨e1, e2⟩ := h_39; have e1 := e1.symm; have e2 := e2.symm; subst e1; subst e2
      refine j_ifb_eq X 54 dX11_as_42 (by decide) (fun c_42 => ?_) (fun c_42 => ?_)
      · refine j_aload_n X dX11_as_54 rfl ?_
        refine j_iconst X dX11_as_55 3 (by decide) ?_
        refine s_callVi X hR (m_finding np _ _) rfl 11 (by decide) (o66 np) (k66 np) rfl u1093 u1090 u1092 qp36 u12 hyX11_finding (by decide) (by decide) (Nat.le_of_ble_eq_true rfl) dX11_as_56 (fun v_56 m_56 h_56 => ?_)
        obtain ⟨e1, e2⟩ := h_56; have e1 := e1.symm; have e2 := e2.symm; subst e1; subst e2
        refine s_iret X hE hr dX11_as_59 rfl ?_
        first | exact ⟨rfl, rfl⟩ | (exfalso; clear hE hr hR X; (try simp only [lg_cmp_lt, lg_cmp_gt, lg_cmp_le, lg_cmp_ge] at *); (try simp (disch := omega) only [Int64.le_iff_toInt_le, Int64.lt_iff_toInt_lt, Int32.le_iff_toInt_le, Int32.lt_iff_toInt_lt, fa_eq, fa_lit, fa_litL, nI_toInt, pk_lT, Int32.toInt_toInt64, jadd64, jin, jnoneT] at *); omega)
      · exact absurd c_42 hk
    · exfalso
      clear hE hr hR X
      (try simp only [lg_cmp_lt, lg_cmp_gt, lg_cmp_le, lg_cmp_ge] at *); (try simp (disch := omega) only [Int64.le_iff_toInt_le, Int64.lt_iff_toInt_lt, Int32.le_iff_toInt_le, Int32.lt_iff_toInt_lt, fa_eq, fa_lit, fa_litL, nI_toInt, pk_lT, Int32.toInt_toInt64, jadd64, jin, jnoneT] at *); omega
set_option maxRecDepth 4000 in
set_option maxHeartbeats 1000000 in
theorem m_began (np : Nat) (mem : jMem) (x : Int32) (t : Nat) (ht : mem 66 41 = nI t) (ht2 : t < 16) : jPv yX11_began cX11_began 2 1 [.ref 66, .int x] np mem (fun c => c = jBeg mem t x) := by
  refine jPv.of (own := RX11) rfl rfl (Nat.le_of_ble_eq_true rfl) (fun G X hR hr hE => ?_)
  refine j_aload_n X dX11_began_0 rfl ?_
  refine j_getF X 11 41 (by decide) (by decide) rfl u991 (o66 np) (k66 np) (mem 66) rfl dX11_began_1 ?_
  refine j_nrm (nI t) ht ?_
  refine j_bipush X dX11_began_4 16 (by decide) ?_
  refine j_icmp_ge X 29 dX11_began_6 (by decide) (fun c_6 => absurd c_6 (by rw [fa_lit, nI_leI (by omega) (by omega)]; omega)) (fun c_6 => ?_)
  refine j_aload_n X dX11_began_9 rfl ?_
  refine j_getR X 11 40 (by decide) (by decide) rfl u990 (o66 np) (k66 np) _ (p66_40 np) dX11_began_10 ?_
  refine j_aload_n X dX11_began_13 rfl ?_
  refine j_getF X 11 41 (by decide) (by decide) rfl u991 (o66 np) (k66 np) (mem 66) rfl dX11_began_14 ?_
  refine j_nrm (nI t) ht ?_
  refine j_iload_n X dX11_began_17 rfl ?_
  refine j_nrm2 _ (by first | (simp only [fa_lit, pk_mul, nI_add]; done) | (simp only [fa_lit, pk_mul, nI_add]; rfl) | rfl) ?_
  refine j_iastN X (o91 np) (k91 np) (by rw [l91]; omega) (by rw [l91]; decide) dX11_began_18 ?_
  refine j_aload_n X dX11_began_19 rfl ?_
  refine j_dup X dX11_began_20 rfl ?_
  refine j_getF X 11 41 (by decide) (by decide) rfl u991 (o66 np) (k66 np) (mem 66) rfl dX11_began_21 ?_
  refine j_nrm (nI t) ht ?_
  refine j_iconst X dX11_began_24 1 (by decide) ?_
  refine j_iadd X dX11_began_25 ?_
  refine j_nrm _ (nI_1 t) ?_
  refine j_putI X 11 41 (by decide) (by decide) rfl rfl rfl rfl u991 (o66 np) (k66 np) dX11_began_26 ?_
  refine s_vret X hE hr dX11_began_29 ?_
  first | exact rfl | (exfalso; clear hE hr hR X; (try simp only [lg_cmp_lt, lg_cmp_gt, lg_cmp_le, lg_cmp_ge] at *); (try simp (disch := omega) only [Int64.le_iff_toInt_le, Int64.lt_iff_toInt_lt, Int32.le_iff_toInt_le, Int32.lt_iff_toInt_lt, fa_eq, fa_lit, fa_litL, nI_toInt, pk_lT, Int32.toInt_toInt64, jadd64, jin, jnoneT] at *); omega)
set_option maxRecDepth 4000 in
set_option maxHeartbeats 1000000 in
theorem m_daysOf (np : Nat) (mem : jMem) (p t : Nat) (hp : p < 12) (ht : mem 66 41 = nI t) (ht2 : t < 16) : jPi yX11_daysOf cX11_daysOf 2 .int 2 [.ref 66, .int (nI p)] np mem (fun v c => v = (mem 74 (9 * p + 4) - mem 74 (9 * p + 3) + 1) ∧ c = jBeg mem t 10) := by
  refine jPi.of (own := RX11) rfl rfl (Nat.le_of_ble_eq_true rfl) (fun G X hR hr hE => ?_)
  refine j_aload_n X dX11_daysOf_0 rfl ?_
  refine j_bipush X dX11_daysOf_1 10 (by decide) ?_
  refine s_callVv X hR (m_began np _ _ t ht ht2) rfl 11 (by decide) (o66 np) (k66 np) rfl u1430 u1427 u1429 qp68 u12 hyX11_began (by decide) (by decide) (Nat.le_of_ble_eq_true rfl) dX11_daysOf_3 (fun m_3 h_3 => ?_)
  have h_3 := h_3.symm; subst h_3
  refine j_aload_n X dX11_daysOf_6 rfl ?_
  refine j_iload_n X dX11_daysOf_7 rfl ?_
  refine j_iconst X dX11_daysOf_8 4 (by decide) ?_
  refine s_callVi X hR (m_of np _ p 4 hp (by omega)) rfl 11 (by decide) (o66 np) (k66 np) rfl u1180 u1177 u1179 qp44 u12 hyX11_of (by decide) (by decide) (Nat.le_of_ble_eq_true rfl) dX11_daysOf_9 (fun v_9 m_9 h_9 => ?_)
  obtain ⟨e1, e2⟩ := h_9; have e1 := e1.symm; have e2 := e2.symm; subst e1; subst e2
  refine j_aload_n X dX11_daysOf_12 rfl ?_
  refine j_iload_n X dX11_daysOf_13 rfl ?_
  refine j_iconst X dX11_daysOf_14 3 (by decide) ?_
  refine s_callVi X hR (m_of np _ p 3 hp (by omega)) rfl 11 (by decide) (o66 np) (k66 np) rfl u1180 u1177 u1179 qp44 u12 hyX11_of (by decide) (by decide) (Nat.le_of_ble_eq_true rfl) dX11_daysOf_15 (fun v_15 m_15 h_15 => ?_)
  obtain ⟨e1, e2⟩ := h_15; have e1 := e1.symm; have e2 := e2.symm; subst e1; subst e2
  refine j_isub X dX11_daysOf_18 ?_
  refine j_iconst X dX11_daysOf_19 1 (by decide) ?_
  refine j_iadd X dX11_daysOf_20 ?_
  refine s_iret X hE hr dX11_daysOf_21 rfl ?_
  first | exact ⟨rfl, rfl⟩ | (exfalso; clear hE hr hR X; (try simp only [lg_cmp_lt, lg_cmp_gt, lg_cmp_le, lg_cmp_ge] at *); (try simp (disch := omega) only [Int64.le_iff_toInt_le, Int64.lt_iff_toInt_lt, Int32.le_iff_toInt_le, Int32.lt_iff_toInt_lt, fa_eq, fa_lit, fa_litL, nI_toInt, pk_lT, Int32.toInt_toInt64, jadd64, jin, jnoneT] at *); omega)
set_option maxRecDepth 4000 in
set_option maxHeartbeats 1000000 in
theorem m_stampSize1 (np : Nat) (mem : jMem) (p t : Nat) (hp : p < 12) (ht : mem 66 41 = nI t) (ht2 : t + 3 ≤ 16) : jPi yX11_stampSize cX11_stampSize 4 .int 3 [.ref 66, .int (nI p), .int 1] np mem (fun v c => v = (mem 74 (9 * p + 4) - mem 74 (9 * p + 3) + 1) + mem 74 (9 * p + 5) ∧ c = jBeg (jBeg (mem) t 11) (t + 1) 10) := by
  refine jPi.of (own := RX11) rfl rfl (Nat.le_of_ble_eq_true rfl) (fun G X hR hr hE => ?_)
  refine j_iload_n X dX11_stampSize_0 rfl ?_
  refine j_iconst X dX11_stampSize_1 2 (by decide) ?_
  refine j_icmp_ne X 11 dX11_stampSize_2 (by decide) (fun c_2 => ?_) (fun c_2 => absurd c_2 (by decide))
  refine j_aload_n X dX11_stampSize_11 rfl ?_
  refine j_bipush X dX11_stampSize_12 11 (by decide) ?_
  refine s_callVv X hR (m_began np _ _ t ht (by omega)) rfl 11 (by decide) (o66 np) (k66 np) rfl u1430 u1427 u1429 qp68 u12 hyX11_began (by decide) (by decide) (Nat.le_of_ble_eq_true rfl) dX11_stampSize_14 (fun m_14 h_14 => ?_)
  have h_14 := h_14.symm; subst h_14
  refine j_aload_n X dX11_stampSize_17 rfl ?_
  refine j_iload_n X dX11_stampSize_18 rfl ?_
  refine s_callVi X hR (m_daysOf np _ p (t + 1) hp rfl (by omega)) rfl 11 (by decide) (o66 np) (k66 np) rfl u1434 u1431 u1433 qp69 u12 hyX11_daysOf (by decide) (by decide) (Nat.le_of_ble_eq_true rfl) dX11_stampSize_19 (fun v_19 m_19 h_19 => ?_)
  obtain ⟨e1, e2⟩ := h_19; have e1 := e1.symm; have e2 := e2.symm; subst e1; subst e2
  refine j_aload_n X dX11_stampSize_22 rfl ?_
  refine j_iload_n X dX11_stampSize_23 rfl ?_
  refine j_iconst X dX11_stampSize_24 0 (by decide) ?_
  refine s_callVi X hR (m_field0 np _ p hp) rfl 11 (by decide) (o66 np) (k66 np) rfl u1160 u1157 u1159 qp41 u12 hyX11_field (by decide) (by decide) (Nat.le_of_ble_eq_true rfl) dX11_stampSize_25 (fun v_25 m_25 h_25 => ?_)
  obtain ⟨e1, e2⟩ := h_25; have e1 := e1.symm; have e2 := e2.symm; subst e1; subst e2
  refine j_iadd X dX11_stampSize_28 ?_
  refine j_istore_n X dX11_stampSize_29 (by decide) ?_
  refine j_iload_n X dX11_stampSize_30 rfl ?_
  refine j_iconst X dX11_stampSize_31 2 (by decide) ?_
  refine j_icmp_ne X 41 dX11_stampSize_32 (by decide) (fun c_32 => ?_) (fun c_32 => absurd c_32 (by decide))
  refine j_iload_n X dX11_stampSize_41 rfl ?_
  refine s_iret X hE hr dX11_stampSize_42 rfl ?_
  first | exact ⟨rfl, rfl⟩ | (exfalso; clear hE hr hR X; (try simp only [lg_cmp_lt, lg_cmp_gt, lg_cmp_le, lg_cmp_ge] at *); (try simp (disch := omega) only [Int64.le_iff_toInt_le, Int64.lt_iff_toInt_lt, Int32.le_iff_toInt_le, Int32.lt_iff_toInt_lt, fa_eq, fa_lit, fa_litL, nI_toInt, pk_lT, Int32.toInt_toInt64, jadd64, jin, jnoneT] at *); omega)
set_option maxRecDepth 4000 in
set_option maxHeartbeats 1000000 in
theorem m_stampSize2 (np : Nat) (mem : jMem) (p t : Nat) (hp : p < 12) (ht : mem 66 41 = nI t) (ht2 : t + 3 ≤ 16) : jPi yX11_stampSize cX11_stampSize 4 .int 3 [.ref 66, .int (nI p), .int 2] np mem (fun v c => v = 2 * ((mem 74 (9 * p + 4) - mem 74 (9 * p + 3) + 1) + mem 74 (9 * p + 5)) ∧ c = jBeg (jBeg (jBeg mem t 12) (t + 1) 11) (t + 2) 10) := by
  refine jPi.of (own := RX11) rfl rfl (Nat.le_of_ble_eq_true rfl) (fun G X hR hr hE => ?_)
  refine j_iload_n X dX11_stampSize_0 rfl ?_
  refine j_iconst X dX11_stampSize_1 2 (by decide) ?_
  refine j_icmp_ne X 11 dX11_stampSize_2 (by decide) (fun c_2 => absurd c_2 (by decide)) (fun c_2 => ?_)
  refine j_aload_n X dX11_stampSize_5 rfl ?_
  refine j_bipush X dX11_stampSize_6 12 (by decide) ?_
  refine s_callVv X hR (m_began np _ _ t ht (by omega)) rfl 11 (by decide) (o66 np) (k66 np) rfl u1430 u1427 u1429 qp68 u12 hyX11_began (by decide) (by decide) (Nat.le_of_ble_eq_true rfl) dX11_stampSize_8 (fun m_8 h_8 => ?_)
  have h_8 := h_8.symm; subst h_8
  refine j_aload_n X dX11_stampSize_11 rfl ?_
  refine j_bipush X dX11_stampSize_12 11 (by decide) ?_
  refine s_callVv X hR (m_began np _ _ (t + 1) rfl (by omega)) rfl 11 (by decide) (o66 np) (k66 np) rfl u1430 u1427 u1429 qp68 u12 hyX11_began (by decide) (by decide) (Nat.le_of_ble_eq_true rfl) dX11_stampSize_14 (fun m_14 h_14 => ?_)
  have h_14 := h_14.symm; subst h_14
  refine j_aload_n X dX11_stampSize_17 rfl ?_
  refine j_iload_n X dX11_stampSize_18 rfl ?_
  refine s_callVi X hR (m_daysOf np _ p (t + 2) hp rfl (by omega)) rfl 11 (by decide) (o66 np) (k66 np) rfl u1434 u1431 u1433 qp69 u12 hyX11_daysOf (by decide) (by decide) (Nat.le_of_ble_eq_true rfl) dX11_stampSize_19 (fun v_19 m_19 h_19 => ?_)
  obtain ⟨e1, e2⟩ := h_19; have e1 := e1.symm; have e2 := e2.symm; subst e1; subst e2
  refine j_aload_n X dX11_stampSize_22 rfl ?_
  refine j_iload_n X dX11_stampSize_23 rfl ?_
  refine j_iconst X dX11_stampSize_24 0 (by decide) ?_
  refine s_callVi X hR (m_field0 np _ p hp) rfl 11 (by decide) (o66 np) (k66 np) rfl u1160 u1157 u1159 qp41 u12 hyX11_field (by decide) (by decide) (Nat.le_of_ble_eq_true rfl) dX11_stampSize_25 (fun v_25 m_25 h_25 => ?_)
  obtain ⟨e1, e2⟩ := h_25; have e1 := e1.symm; have e2 := e2.symm; subst e1; subst e2
  refine j_iadd X dX11_stampSize_28 ?_
  refine j_istore_n X dX11_stampSize_29 (by decide) ?_
  refine j_iload_n X dX11_stampSize_30 rfl ?_
  refine j_iconst X dX11_stampSize_31 2 (by decide) ?_
  refine j_icmp_ne X 41 dX11_stampSize_32 (by decide) (fun c_32 => absurd c_32 (by decide)) (fun c_32 => ?_)
  refine j_iconst X dX11_stampSize_35 2 (by decide) ?_
  refine j_iload_n X dX11_stampSize_36 rfl ?_
  refine j_imul X dX11_stampSize_37 ?_
  refine j_goto X 42 dX11_stampSize_38 (by decide) ?_
  refine s_iret X hE hr dX11_stampSize_42 rfl ?_
  first | exact ⟨rfl, rfl⟩ | (exfalso; clear hE hr hR X; (try simp only [lg_cmp_lt, lg_cmp_gt, lg_cmp_le, lg_cmp_ge] at *); (try simp (disch := omega) only [Int64.le_iff_toInt_le, Int64.lt_iff_toInt_lt, Int32.le_iff_toInt_le, Int32.lt_iff_toInt_lt, fa_eq, fa_lit, fa_litL, nI_toInt, pk_lT, Int32.toInt_toInt64, jadd64, jin, jnoneT] at *); omega)
set_option maxRecDepth 4000 in
set_option maxHeartbeats 1000000 in
theorem m_markOf0 (np : Nat) (mem : jMem) (p t : Nat) (hp : p < 12) (ht : mem 66 41 = nI t) (ht2 : t + 5 ≤ 16) : jPi yX11_markOf cX11_markOf 6 .int 4 [.ref 66, .int (nI p), .int 0] np mem (fun v c => v = nI p ∧ c = jBeg (mem) t 20) := by
  refine jPi.of (own := RX11) rfl rfl (Nat.le_of_ble_eq_true rfl) (fun G X hR hr hE => ?_)
  refine j_iload_n X dX11_markOf_0 rfl ?_
  refine j_iconst X dX11_markOf_1 2 (by decide) ?_
  refine j_icmp_eq X 15 dX11_markOf_2 (by decide) (fun c_2 => absurd c_2 (by decide)) (fun c_2 => ?_)
  refine j_iload_n X dX11_markOf_5 rfl ?_
  refine j_iconst X dX11_markOf_6 3 (by decide) ?_
  refine j_icmp_eq X 15 dX11_markOf_7 (by decide) (fun c_7 => absurd c_7 (by decide)) (fun c_7 => ?_)
  refine j_iload_n X dX11_markOf_10 rfl ?_
  refine j_iconst X dX11_markOf_11 4 (by decide) ?_
  refine j_icmp_ne X 41 dX11_markOf_12 (by decide) (fun c_12 => ?_) (fun c_12 => absurd c_12 (by decide))
  refine j_aload_n X dX11_markOf_41 rfl ?_
  refine j_bipush X dX11_markOf_42 20 (by decide) ?_
  refine s_callVv X hR (m_began np _ _ t ht (by omega)) rfl 11 (by decide) (o66 np) (k66 np) rfl u1430 u1427 u1429 qp68 u12 hyX11_began (by decide) (by decide) (Nat.le_of_ble_eq_true rfl) dX11_markOf_44 (fun m_44 h_44 => ?_)
  have h_44 := h_44.symm; subst h_44
  refine j_iload_n X dX11_markOf_47 rfl ?_
  refine j_istore_n X dX11_markOf_48 (by decide) ?_
  refine j_iload_n X dX11_markOf_49 rfl ?_
  refine j_iconst X dX11_markOf_50 3 (by decide) ?_
  refine j_icmp_ne X 103 dX11_markOf_51 (by decide) (fun c_51 => ?_) (fun c_51 => absurd c_51 (by decide))
  refine j_iload_n X dX11_markOf_103 rfl ?_
  refine j_iconst X dX11_markOf_104 2 (by decide) ?_
  refine j_icmp_ne X 119 dX11_markOf_105 (by decide) (fun c_105 => ?_) (fun c_105 => absurd c_105 (by decide))
  refine j_iload_n X dX11_markOf_119 rfl ?_
  refine j_iconst X dX11_markOf_120 4 (by decide) ?_
  refine j_icmp_ne X 132 dX11_markOf_121 (by decide) (fun c_121 => ?_) (fun c_121 => absurd c_121 (by decide))
  refine j_iload_n X dX11_markOf_132 rfl ?_
  refine s_iret X hE hr dX11_markOf_133 rfl ?_
  first | exact ⟨rfl, rfl⟩ | (exfalso; clear hE hr hR X; (try simp only [lg_cmp_lt, lg_cmp_gt, lg_cmp_le, lg_cmp_ge] at *); (try simp (disch := omega) only [Int64.le_iff_toInt_le, Int64.lt_iff_toInt_lt, Int32.le_iff_toInt_le, Int32.lt_iff_toInt_lt, fa_eq, fa_lit, fa_litL, nI_toInt, pk_lT, Int32.toInt_toInt64, jadd64, jin, jnoneT] at *); omega)
set_option maxRecDepth 4000 in
set_option maxHeartbeats 1000000 in
theorem m_markOf1 (np : Nat) (mem : jMem) (p t : Nat) (hp : p < 12) (ht : mem 66 41 = nI t) (ht2 : t + 5 ≤ 16) : jPi yX11_markOf cX11_markOf 6 .int 4 [.ref 66, .int (nI p), .int 1] np mem (fun v c => v = nI p ∧ c = jBeg (mem) t 20) := by
  refine jPi.of (own := RX11) rfl rfl (Nat.le_of_ble_eq_true rfl) (fun G X hR hr hE => ?_)
  refine j_iload_n X dX11_markOf_0 rfl ?_
  refine j_iconst X dX11_markOf_1 2 (by decide) ?_
  refine j_icmp_eq X 15 dX11_markOf_2 (by decide) (fun c_2 => absurd c_2 (by decide)) (fun c_2 => ?_)
  refine j_iload_n X dX11_markOf_5 rfl ?_
  refine j_iconst X dX11_markOf_6 3 (by decide) ?_
  refine j_icmp_eq X 15 dX11_markOf_7 (by decide) (fun c_7 => absurd c_7 (by decide)) (fun c_7 => ?_)
  refine j_iload_n X dX11_markOf_10 rfl ?_
  refine j_iconst X dX11_markOf_11 4 (by decide) ?_
  refine j_icmp_ne X 41 dX11_markOf_12 (by decide) (fun c_12 => ?_) (fun c_12 => absurd c_12 (by decide))
  refine j_aload_n X dX11_markOf_41 rfl ?_
  refine j_bipush X dX11_markOf_42 20 (by decide) ?_
  refine s_callVv X hR (m_began np _ _ t ht (by omega)) rfl 11 (by decide) (o66 np) (k66 np) rfl u1430 u1427 u1429 qp68 u12 hyX11_began (by decide) (by decide) (Nat.le_of_ble_eq_true rfl) dX11_markOf_44 (fun m_44 h_44 => ?_)
  have h_44 := h_44.symm; subst h_44
  refine j_iload_n X dX11_markOf_47 rfl ?_
  refine j_istore_n X dX11_markOf_48 (by decide) ?_
  refine j_iload_n X dX11_markOf_49 rfl ?_
  refine j_iconst X dX11_markOf_50 3 (by decide) ?_
  refine j_icmp_ne X 103 dX11_markOf_51 (by decide) (fun c_51 => ?_) (fun c_51 => absurd c_51 (by decide))
  refine j_iload_n X dX11_markOf_103 rfl ?_
  refine j_iconst X dX11_markOf_104 2 (by decide) ?_
  refine j_icmp_ne X 119 dX11_markOf_105 (by decide) (fun c_105 => ?_) (fun c_105 => absurd c_105 (by decide))
  refine j_iload_n X dX11_markOf_119 rfl ?_
  refine j_iconst X dX11_markOf_120 4 (by decide) ?_
  refine j_icmp_ne X 132 dX11_markOf_121 (by decide) (fun c_121 => ?_) (fun c_121 => absurd c_121 (by decide))
  refine j_iload_n X dX11_markOf_132 rfl ?_
  refine s_iret X hE hr dX11_markOf_133 rfl ?_
  first | exact ⟨rfl, rfl⟩ | (exfalso; clear hE hr hR X; (try simp only [lg_cmp_lt, lg_cmp_gt, lg_cmp_le, lg_cmp_ge] at *); (try simp (disch := omega) only [Int64.le_iff_toInt_le, Int64.lt_iff_toInt_lt, Int32.le_iff_toInt_le, Int32.lt_iff_toInt_lt, fa_eq, fa_lit, fa_litL, nI_toInt, pk_lT, Int32.toInt_toInt64, jadd64, jin, jnoneT] at *); omega)
set_option maxRecDepth 4000 in
set_option maxHeartbeats 1000000 in
theorem m_markOf2 (np : Nat) (mem : jMem) (p t : Nat) (hp : p < 12) (ht : mem 66 41 = nI t) (ht2 : t + 5 ≤ 16) : jPi yX11_markOf cX11_markOf 6 .int 4 [.ref 66, .int (nI p), .int 2] np mem (fun v c => v = nI p + 2 * ((mem 74 (9 * p + 4) - mem 74 (9 * p + 3) + 1) + mem 74 (9 * p + 5)) ∧ c = jBeg (jBeg (jBeg (jBeg (jBeg (mem) t 21) (t + 1) 20) (t + 2) 12) (t + 3) 11) (t + 4) 10) := by
  refine jPi.of (own := RX11) rfl rfl (Nat.le_of_ble_eq_true rfl) (fun G X hR hr hE => ?_)
  refine j_iload_n X dX11_markOf_0 rfl ?_
  refine j_iconst X dX11_markOf_1 2 (by decide) ?_
  refine j_icmp_eq X 15 dX11_markOf_2 (by decide) (fun c_2 => ?_) (fun c_2 => absurd c_2 (by decide))
  refine j_aload_n X dX11_markOf_15 rfl ?_
  refine j_iload_n X dX11_markOf_16 rfl ?_
  refine j_iconst X dX11_markOf_17 2 (by decide) ?_
  refine j_icmp_ne X 26 dX11_markOf_18 (by decide) (fun c_18 => absurd c_18 (by decide)) (fun c_18 => ?_)
  refine j_bipush X dX11_markOf_21 21 (by decide) ?_
  refine j_goto X 38 dX11_markOf_23 (by decide) ?_
  refine s_callVv X hR (m_began np _ _ t ht (by omega)) rfl 11 (by decide) (o66 np) (k66 np) rfl u1430 u1427 u1429 qp68 u12 hyX11_began (by decide) (by decide) (Nat.le_of_ble_eq_true rfl) dX11_markOf_38 (fun m_38 h_38 => ?_)
  have h_38 := h_38.symm; subst h_38
  refine j_aload_n X dX11_markOf_41 rfl ?_
  refine j_bipush X dX11_markOf_42 20 (by decide) ?_
  refine s_callVv X hR (m_began np _ _ (t + 1) rfl (by omega)) rfl 11 (by decide) (o66 np) (k66 np) rfl u1430 u1427 u1429 qp68 u12 hyX11_began (by decide) (by decide) (Nat.le_of_ble_eq_true rfl) dX11_markOf_44 (fun m_44 h_44 => ?_)
  have h_44 := h_44.symm; subst h_44
  refine j_iload_n X dX11_markOf_47 rfl ?_
  refine j_istore_n X dX11_markOf_48 (by decide) ?_
  refine j_iload_n X dX11_markOf_49 rfl ?_
  refine j_iconst X dX11_markOf_50 3 (by decide) ?_
  refine j_icmp_ne X 103 dX11_markOf_51 (by decide) (fun c_51 => ?_) (fun c_51 => absurd c_51 (by decide))
  refine j_iload_n X dX11_markOf_103 rfl ?_
  refine j_iconst X dX11_markOf_104 2 (by decide) ?_
  refine j_icmp_ne X 119 dX11_markOf_105 (by decide) (fun c_105 => absurd c_105 (by decide)) (fun c_105 => ?_)
  refine j_iload_n X dX11_markOf_108 rfl ?_
  refine j_aload_n X dX11_markOf_109 rfl ?_
  refine j_iload_n X dX11_markOf_110 rfl ?_
  refine j_iload_n X dX11_markOf_111 rfl ?_
  refine s_callVi X hR (m_stampSize2 np _ p (t + 2) hp rfl (by omega)) rfl 11 (by decide) (o66 np) (k66 np) rfl u1426 u1423 u1425 qp67 u12 hyX11_stampSize (by decide) (by decide) (Nat.le_of_ble_eq_true rfl) dX11_markOf_112 (fun v_112 m_112 h_112 => ?_)
  obtain ⟨e1, e2⟩ := h_112; have e1 := e1.symm; have e2 := e2.symm; subst e1; subst e2
  refine j_iadd X dX11_markOf_115 ?_
  refine j_goto X 133 dX11_markOf_116 (by decide) ?_
  refine s_iret X hE hr dX11_markOf_133 rfl ?_
  first | exact ⟨rfl, rfl⟩ | (exfalso; clear hE hr hR X; (try simp only [lg_cmp_lt, lg_cmp_gt, lg_cmp_le, lg_cmp_ge] at *); (try simp (disch := omega) only [Int64.le_iff_toInt_le, Int64.lt_iff_toInt_lt, Int32.le_iff_toInt_le, Int32.lt_iff_toInt_lt, fa_eq, fa_lit, fa_litL, nI_toInt, pk_lT, Int32.toInt_toInt64, jadd64, jin, jnoneT] at *); omega)
set_option maxRecDepth 4000 in
set_option maxHeartbeats 1000000 in
theorem m_markOf3 (np : Nat) (mem : jMem) (p t : Nat) (hp : p < 12) (ht : mem 66 41 = nI t) (ht2 : t + 5 ≤ 16) : jPi yX11_markOf cX11_markOf 6 .int 4 [.ref 66, .int (nI p), .int 3] np mem (fun v c => v = nI p + jMax4 (mem 74 (9 * p + 5)) (mem 74 (9 * p + 6)) (mem 74 (9 * p + 7)) (mem 74 (9 * p + 8)) ∧ c = jBeg (jBeg (mem) t 22) (t + 1) 20) := by
  refine jPi.of (own := RX11) rfl rfl (Nat.le_of_ble_eq_true rfl) (fun G X hR hr hE => ?_)
  refine j_iload_n X dX11_markOf_0 rfl ?_
  refine j_iconst X dX11_markOf_1 2 (by decide) ?_
  refine j_icmp_eq X 15 dX11_markOf_2 (by decide) (fun c_2 => absurd c_2 (by decide)) (fun c_2 => ?_)
  refine j_iload_n X dX11_markOf_5 rfl ?_
  refine j_iconst X dX11_markOf_6 3 (by decide) ?_
  refine j_icmp_eq X 15 dX11_markOf_7 (by decide) (fun c_7 => ?_) (fun c_7 => absurd c_7 (by decide))
  refine j_aload_n X dX11_markOf_15 rfl ?_
  refine j_iload_n X dX11_markOf_16 rfl ?_
  refine j_iconst X dX11_markOf_17 2 (by decide) ?_
  refine j_icmp_ne X 26 dX11_markOf_18 (by decide) (fun c_18 => ?_) (fun c_18 => absurd c_18 (by decide))
  refine j_iload_n X dX11_markOf_26 rfl ?_
  refine j_iconst X dX11_markOf_27 3 (by decide) ?_
  refine j_icmp_ne X 36 dX11_markOf_28 (by decide) (fun c_28 => absurd c_28 (by decide)) (fun c_28 => ?_)
  refine j_bipush X dX11_markOf_31 22 (by decide) ?_
  refine j_goto X 38 dX11_markOf_33 (by decide) ?_
  refine s_callVv X hR (m_began np _ _ t ht (by omega)) rfl 11 (by decide) (o66 np) (k66 np) rfl u1430 u1427 u1429 qp68 u12 hyX11_began (by decide) (by decide) (Nat.le_of_ble_eq_true rfl) dX11_markOf_38 (fun m_38 h_38 => ?_)
  have h_38 := h_38.symm; subst h_38
  refine j_aload_n X dX11_markOf_41 rfl ?_
  refine j_bipush X dX11_markOf_42 20 (by decide) ?_
  refine s_callVv X hR (m_began np _ _ (t + 1) rfl (by omega)) rfl 11 (by decide) (o66 np) (k66 np) rfl u1430 u1427 u1429 qp68 u12 hyX11_began (by decide) (by decide) (Nat.le_of_ble_eq_true rfl) dX11_markOf_44 (fun m_44 h_44 => ?_)
  have h_44 := h_44.symm; subst h_44
  refine j_iload_n X dX11_markOf_47 rfl ?_
  refine j_istore_n X dX11_markOf_48 (by decide) ?_
  refine j_iload_n X dX11_markOf_49 rfl ?_
  refine j_iconst X dX11_markOf_50 3 (by decide) ?_
  refine j_icmp_ne X 103 dX11_markOf_51 (by decide) (fun c_51 => absurd c_51 (by decide)) (fun c_51 => ?_)
  refine j_iconst X dX11_markOf_54 0 (by decide) ?_
  refine j_istore X dX11_markOf_55 (by decide) ?_
  refine j_iconst X dX11_markOf_57 0 (by decide) ?_
  refine j_istore X dX11_markOf_58 (by decide) ?_
  refine j_iload X dX11_markOf_60 rfl ?_
  refine j_iconst X dX11_markOf_62 4 (by decide) ?_
  refine j_icmp_ge X 98 dX11_markOf_63 (by decide) (fun c_63 => absurd c_63 (by decide)) (fun c_63 => ?_)
  refine j_aload_n X dX11_markOf_66 rfl ?_
  refine j_iload_n X dX11_markOf_67 rfl ?_
  refine j_iload X dX11_markOf_68 rfl ?_
  refine s_callVi X hR (m_field0 np _ p hp) rfl 11 (by decide) (o66 np) (k66 np) rfl u1160 u1157 u1159 qp41 u12 hyX11_field (by decide) (by decide) (Nat.le_of_ble_eq_true rfl) dX11_markOf_70 (fun v_70 m_70 h_70 => ?_)
  obtain ⟨e1, e2⟩ := h_70; have e1 := e1.symm; have e2 := e2.symm; subst e1; subst e2
  refine j_iload X dX11_markOf_73 rfl ?_
  refine j_icmp_le X 88 dX11_markOf_75 (by decide) (fun c_75 => ?_) (fun c_75 => ?_)
  · refine j_iload X dX11_markOf_88 rfl ?_
    refine j_nrm _ (by first | exact jmx_t c_75 | exact jmx_f c_75) ?_
    refine j_istore X dX11_markOf_90 (by decide) ?_
    refine j_iinc X dX11_markOf_92 rfl 1 rfl ?_
    refine j_goto X 60 dX11_markOf_95 (by decide) ?_
    refine j_iload X dX11_markOf_60 rfl ?_
    refine j_iconst X dX11_markOf_62 4 (by decide) ?_
    refine j_icmp_ge X 98 dX11_markOf_63 (by decide) (fun c_63 => absurd c_63 (by decide)) (fun c_63 => ?_)
    refine j_aload_n X dX11_markOf_66 rfl ?_
    refine j_iload_n X dX11_markOf_67 rfl ?_
    refine j_iload X dX11_markOf_68 rfl ?_
    refine s_callVi X hR (m_field1 np _ p hp) rfl 11 (by decide) (o66 np) (k66 np) rfl u1160 u1157 u1159 qp41 u12 hyX11_field (by decide) (by decide) (Nat.le_of_ble_eq_true rfl) dX11_markOf_70 (fun v_70 m_70 h_70 => ?_)
    obtain ⟨e1, e2⟩ := h_70; have e1 := e1.symm; have e2 := e2.symm; subst e1; subst e2
    refine j_iload X dX11_markOf_73 rfl ?_
    refine j_icmp_le X 88 dX11_markOf_75 (by decide) (fun c_75 => ?_) (fun c_75 => ?_)
    · refine j_iload X dX11_markOf_88 rfl ?_
      refine j_nrm _ (by first | exact jmx_t c_75 | exact jmx_f c_75) ?_
      refine j_istore X dX11_markOf_90 (by decide) ?_
      refine j_iinc X dX11_markOf_92 rfl 1 rfl ?_
      refine j_goto X 60 dX11_markOf_95 (by decide) ?_
      refine j_iload X dX11_markOf_60 rfl ?_
      refine j_iconst X dX11_markOf_62 4 (by decide) ?_
      refine j_icmp_ge X 98 dX11_markOf_63 (by decide) (fun c_63 => absurd c_63 (by decide)) (fun c_63 => ?_)
      refine j_aload_n X dX11_markOf_66 rfl ?_
      refine j_iload_n X dX11_markOf_67 rfl ?_
      refine j_iload X dX11_markOf_68 rfl ?_
      refine s_callVi X hR (m_field2 np _ p hp) rfl 11 (by decide) (o66 np) (k66 np) rfl u1160 u1157 u1159 qp41 u12 hyX11_field (by decide) (by decide) (Nat.le_of_ble_eq_true rfl) dX11_markOf_70 (fun v_70 m_70 h_70 => ?_)
      obtain ⟨e1, e2⟩ := h_70; have e1 := e1.symm; have e2 := e2.symm; subst e1; subst e2
      refine j_iload X dX11_markOf_73 rfl ?_
      refine j_icmp_le X 88 dX11_markOf_75 (by decide) (fun c_75 => ?_) (fun c_75 => ?_)
      · refine j_iload X dX11_markOf_88 rfl ?_
        refine j_nrm _ (by first | exact jmx_t c_75 | exact jmx_f c_75) ?_
        refine j_istore X dX11_markOf_90 (by decide) ?_
        refine j_iinc X dX11_markOf_92 rfl 1 rfl ?_
        refine j_goto X 60 dX11_markOf_95 (by decide) ?_
        refine j_iload X dX11_markOf_60 rfl ?_
        refine j_iconst X dX11_markOf_62 4 (by decide) ?_
        refine j_icmp_ge X 98 dX11_markOf_63 (by decide) (fun c_63 => absurd c_63 (by decide)) (fun c_63 => ?_)
        refine j_aload_n X dX11_markOf_66 rfl ?_
        refine j_iload_n X dX11_markOf_67 rfl ?_
        refine j_iload X dX11_markOf_68 rfl ?_
        refine s_callVi X hR (m_field3 np _ p hp) rfl 11 (by decide) (o66 np) (k66 np) rfl u1160 u1157 u1159 qp41 u12 hyX11_field (by decide) (by decide) (Nat.le_of_ble_eq_true rfl) dX11_markOf_70 (fun v_70 m_70 h_70 => ?_)
        obtain ⟨e1, e2⟩ := h_70; have e1 := e1.symm; have e2 := e2.symm; subst e1; subst e2
        refine j_iload X dX11_markOf_73 rfl ?_
        refine j_icmp_le X 88 dX11_markOf_75 (by decide) (fun c_75 => ?_) (fun c_75 => ?_)
        · refine j_iload X dX11_markOf_88 rfl ?_
          refine j_nrm _ (by first | exact jmx_t c_75 | exact jmx_f c_75) ?_
          refine j_istore X dX11_markOf_90 (by decide) ?_
          refine j_iinc X dX11_markOf_92 rfl 1 rfl ?_
          refine j_goto X 60 dX11_markOf_95 (by decide) ?_
          refine j_iload X dX11_markOf_60 rfl ?_
          refine j_iconst X dX11_markOf_62 4 (by decide) ?_
          refine j_icmp_ge X 98 dX11_markOf_63 (by decide) (fun c_63 => ?_) (fun c_63 => absurd c_63 (by decide))
          refine j_iload_n X dX11_markOf_98 rfl ?_
          refine j_iload X dX11_markOf_99 rfl ?_
          refine j_iadd X dX11_markOf_101 ?_
          refine j_istore_n X dX11_markOf_102 (by decide) ?_
          refine j_iload_n X dX11_markOf_103 rfl ?_
          refine j_iconst X dX11_markOf_104 2 (by decide) ?_
          refine j_icmp_ne X 119 dX11_markOf_105 (by decide) (fun c_105 => ?_) (fun c_105 => absurd c_105 (by decide))
          refine j_iload_n X dX11_markOf_119 rfl ?_
          refine j_iconst X dX11_markOf_120 4 (by decide) ?_
          refine j_icmp_ne X 132 dX11_markOf_121 (by decide) (fun c_121 => ?_) (fun c_121 => absurd c_121 (by decide))
          refine j_iload_n X dX11_markOf_132 rfl ?_
          refine s_iret X hE hr dX11_markOf_133 rfl ?_
          first | exact ⟨rfl, rfl⟩ | (exfalso; clear hE hr hR X; (try simp only [lg_cmp_lt, lg_cmp_gt, lg_cmp_le, lg_cmp_ge] at *); (try simp (disch := omega) only [Int64.le_iff_toInt_le, Int64.lt_iff_toInt_lt, Int32.le_iff_toInt_le, Int32.lt_iff_toInt_lt, fa_eq, fa_lit, fa_litL, nI_toInt, pk_lT, Int32.toInt_toInt64, jadd64, jin, jnoneT] at *); omega)
        · refine j_aload_n X dX11_markOf_78 rfl ?_
          refine j_iload_n X dX11_markOf_79 rfl ?_
          refine j_iload X dX11_markOf_80 rfl ?_
          refine s_callVi X hR (m_field3 np _ p hp) rfl 11 (by decide) (o66 np) (k66 np) rfl u1160 u1157 u1159 qp41 u12 hyX11_field (by decide) (by decide) (Nat.le_of_ble_eq_true rfl) dX11_markOf_82 (fun v_82 m_82 h_82 => ?_)
          obtain ⟨e1, e2⟩ := h_82; have e1 := e1.symm; have e2 := e2.symm; subst e1; subst e2
          refine j_goto X 90 dX11_markOf_85 (by decide) ?_
          refine j_nrm _ (by first | exact jmx_t c_75 | exact jmx_f c_75) ?_
          refine j_istore X dX11_markOf_90 (by decide) ?_
          refine j_iinc X dX11_markOf_92 rfl 1 rfl ?_
          refine j_goto X 60 dX11_markOf_95 (by decide) ?_
          refine j_iload X dX11_markOf_60 rfl ?_
          refine j_iconst X dX11_markOf_62 4 (by decide) ?_
          refine j_icmp_ge X 98 dX11_markOf_63 (by decide) (fun c_63 => ?_) (fun c_63 => absurd c_63 (by decide))
          refine j_iload_n X dX11_markOf_98 rfl ?_
          refine j_iload X dX11_markOf_99 rfl ?_
          refine j_iadd X dX11_markOf_101 ?_
          refine j_istore_n X dX11_markOf_102 (by decide) ?_
          refine j_iload_n X dX11_markOf_103 rfl ?_
          refine j_iconst X dX11_markOf_104 2 (by decide) ?_
          refine j_icmp_ne X 119 dX11_markOf_105 (by decide) (fun c_105 => ?_) (fun c_105 => absurd c_105 (by decide))
          refine j_iload_n X dX11_markOf_119 rfl ?_
          refine j_iconst X dX11_markOf_120 4 (by decide) ?_
          refine j_icmp_ne X 132 dX11_markOf_121 (by decide) (fun c_121 => ?_) (fun c_121 => absurd c_121 (by decide))
          refine j_iload_n X dX11_markOf_132 rfl ?_
          refine s_iret X hE hr dX11_markOf_133 rfl ?_
          first | exact ⟨rfl, rfl⟩ | (exfalso; clear hE hr hR X; (try simp only [lg_cmp_lt, lg_cmp_gt, lg_cmp_le, lg_cmp_ge] at *); (try simp (disch := omega) only [Int64.le_iff_toInt_le, Int64.lt_iff_toInt_lt, Int32.le_iff_toInt_le, Int32.lt_iff_toInt_lt, fa_eq, fa_lit, fa_litL, nI_toInt, pk_lT, Int32.toInt_toInt64, jadd64, jin, jnoneT] at *); omega)
      · refine j_aload_n X dX11_markOf_78 rfl ?_
        refine j_iload_n X dX11_markOf_79 rfl ?_
        refine j_iload X dX11_markOf_80 rfl ?_
        refine s_callVi X hR (m_field2 np _ p hp) rfl 11 (by decide) (o66 np) (k66 np) rfl u1160 u1157 u1159 qp41 u12 hyX11_field (by decide) (by decide) (Nat.le_of_ble_eq_true rfl) dX11_markOf_82 (fun v_82 m_82 h_82 => ?_)
        obtain ⟨e1, e2⟩ := h_82; have e1 := e1.symm; have e2 := e2.symm; subst e1; subst e2
        refine j_goto X 90 dX11_markOf_85 (by decide) ?_
        refine j_nrm _ (by first | exact jmx_t c_75 | exact jmx_f c_75) ?_
        refine j_istore X dX11_markOf_90 (by decide) ?_
        refine j_iinc X dX11_markOf_92 rfl 1 rfl ?_
        refine j_goto X 60 dX11_markOf_95 (by decide) ?_
        refine j_iload X dX11_markOf_60 rfl ?_
        refine j_iconst X dX11_markOf_62 4 (by decide) ?_
        refine j_icmp_ge X 98 dX11_markOf_63 (by decide) (fun c_63 => absurd c_63 (by decide)) (fun c_63 => ?_)
        refine j_aload_n X dX11_markOf_66 rfl ?_
        refine j_iload_n X dX11_markOf_67 rfl ?_
        refine j_iload X dX11_markOf_68 rfl ?_
        refine s_callVi X hR (m_field3 np _ p hp) rfl 11 (by decide) (o66 np) (k66 np) rfl u1160 u1157 u1159 qp41 u12 hyX11_field (by decide) (by decide) (Nat.le_of_ble_eq_true rfl) dX11_markOf_70 (fun v_70 m_70 h_70 => ?_)
        obtain ⟨e1, e2⟩ := h_70; have e1 := e1.symm; have e2 := e2.symm; subst e1; subst e2
        refine j_iload X dX11_markOf_73 rfl ?_
        refine j_icmp_le X 88 dX11_markOf_75 (by decide) (fun c_75 => ?_) (fun c_75 => ?_)
        · refine j_iload X dX11_markOf_88 rfl ?_
          refine j_nrm _ (by first | exact jmx_t c_75 | exact jmx_f c_75) ?_
          refine j_istore X dX11_markOf_90 (by decide) ?_
          refine j_iinc X dX11_markOf_92 rfl 1 rfl ?_
          refine j_goto X 60 dX11_markOf_95 (by decide) ?_
          refine j_iload X dX11_markOf_60 rfl ?_
          refine j_iconst X dX11_markOf_62 4 (by decide) ?_
          refine j_icmp_ge X 98 dX11_markOf_63 (by decide) (fun c_63 => ?_) (fun c_63 => absurd c_63 (by decide))
          refine j_iload_n X dX11_markOf_98 rfl ?_
          refine j_iload X dX11_markOf_99 rfl ?_
          refine j_iadd X dX11_markOf_101 ?_
          refine j_istore_n X dX11_markOf_102 (by decide) ?_
          refine j_iload_n X dX11_markOf_103 rfl ?_
          refine j_iconst X dX11_markOf_104 2 (by decide) ?_
          refine j_icmp_ne X 119 dX11_markOf_105 (by decide) (fun c_105 => ?_) (fun c_105 => absurd c_105 (by decide))
          refine j_iload_n X dX11_markOf_119 rfl ?_
          refine j_iconst X dX11_markOf_120 4 (by decide) ?_
          refine j_icmp_ne X 132 dX11_markOf_121 (by decide) (fun c_121 => ?_) (fun c_121 => absurd c_121 (by decide))
          refine j_iload_n X dX11_markOf_132 rfl ?_
          refine s_iret X hE hr dX11_markOf_133 rfl ?_
          first | exact ⟨rfl, rfl⟩ | (exfalso; clear hE hr hR X; (try simp only [lg_cmp_lt, lg_cmp_gt, lg_cmp_le, lg_cmp_ge] at *); (try simp (disch := omega) only [Int64.le_iff_toInt_le, Int64.lt_iff_toInt_lt, Int32.le_iff_toInt_le, Int32.lt_iff_toInt_lt, fa_eq, fa_lit, fa_litL, nI_toInt, pk_lT, Int32.toInt_toInt64, jadd64, jin, jnoneT] at *); omega)
        · refine j_aload_n X dX11_markOf_78 rfl ?_
          refine j_iload_n X dX11_markOf_79 rfl ?_
          refine j_iload X dX11_markOf_80 rfl ?_
          refine s_callVi X hR (m_field3 np _ p hp) rfl 11 (by decide) (o66 np) (k66 np) rfl u1160 u1157 u1159 qp41 u12 hyX11_field (by decide) (by decide) (Nat.le_of_ble_eq_true rfl) dX11_markOf_82 (fun v_82 m_82 h_82 => ?_)
          obtain ⟨e1, e2⟩ := h_82; have e1 := e1.symm; have e2 := e2.symm; subst e1; subst e2
          refine j_goto X 90 dX11_markOf_85 (by decide) ?_
          refine j_nrm _ (by first | exact jmx_t c_75 | exact jmx_f c_75) ?_
          refine j_istore X dX11_markOf_90 (by decide) ?_
          refine j_iinc X dX11_markOf_92 rfl 1 rfl ?_
          refine j_goto X 60 dX11_markOf_95 (by decide) ?_
          refine j_iload X dX11_markOf_60 rfl ?_
          refine j_iconst X dX11_markOf_62 4 (by decide) ?_
          refine j_icmp_ge X 98 dX11_markOf_63 (by decide) (fun c_63 => ?_) (fun c_63 => absurd c_63 (by decide))
          refine j_iload_n X dX11_markOf_98 rfl ?_
          refine j_iload X dX11_markOf_99 rfl ?_
          refine j_iadd X dX11_markOf_101 ?_
          refine j_istore_n X dX11_markOf_102 (by decide) ?_
          refine j_iload_n X dX11_markOf_103 rfl ?_
          refine j_iconst X dX11_markOf_104 2 (by decide) ?_
          refine j_icmp_ne X 119 dX11_markOf_105 (by decide) (fun c_105 => ?_) (fun c_105 => absurd c_105 (by decide))
          refine j_iload_n X dX11_markOf_119 rfl ?_
          refine j_iconst X dX11_markOf_120 4 (by decide) ?_
          refine j_icmp_ne X 132 dX11_markOf_121 (by decide) (fun c_121 => ?_) (fun c_121 => absurd c_121 (by decide))
          refine j_iload_n X dX11_markOf_132 rfl ?_
          refine s_iret X hE hr dX11_markOf_133 rfl ?_
          first | exact ⟨rfl, rfl⟩ | (exfalso; clear hE hr hR X; (try simp only [lg_cmp_lt, lg_cmp_gt, lg_cmp_le, lg_cmp_ge] at *); (try simp (disch := omega) only [Int64.le_iff_toInt_le, Int64.lt_iff_toInt_lt, Int32.le_iff_toInt_le, Int32.lt_iff_toInt_lt, fa_eq, fa_lit, fa_litL, nI_toInt, pk_lT, Int32.toInt_toInt64, jadd64, jin, jnoneT] at *); omega)
    · refine j_aload_n X dX11_markOf_78 rfl ?_
      refine j_iload_n X dX11_markOf_79 rfl ?_
      refine j_iload X dX11_markOf_80 rfl ?_
      refine s_callVi X hR (m_field1 np _ p hp) rfl 11 (by decide) (o66 np) (k66 np) rfl u1160 u1157 u1159 qp41 u12 hyX11_field (by decide) (by decide) (Nat.le_of_ble_eq_true rfl) dX11_markOf_82 (fun v_82 m_82 h_82 => ?_)
      obtain ⟨e1, e2⟩ := h_82; have e1 := e1.symm; have e2 := e2.symm; subst e1; subst e2
      refine j_goto X 90 dX11_markOf_85 (by decide) ?_
      refine j_nrm _ (by first | exact jmx_t c_75 | exact jmx_f c_75) ?_
      refine j_istore X dX11_markOf_90 (by decide) ?_
      refine j_iinc X dX11_markOf_92 rfl 1 rfl ?_
      refine j_goto X 60 dX11_markOf_95 (by decide) ?_
      refine j_iload X dX11_markOf_60 rfl ?_
      refine j_iconst X dX11_markOf_62 4 (by decide) ?_
      refine j_icmp_ge X 98 dX11_markOf_63 (by decide) (fun c_63 => absurd c_63 (by decide)) (fun c_63 => ?_)
      refine j_aload_n X dX11_markOf_66 rfl ?_
      refine j_iload_n X dX11_markOf_67 rfl ?_
      refine j_iload X dX11_markOf_68 rfl ?_
      refine s_callVi X hR (m_field2 np _ p hp) rfl 11 (by decide) (o66 np) (k66 np) rfl u1160 u1157 u1159 qp41 u12 hyX11_field (by decide) (by decide) (Nat.le_of_ble_eq_true rfl) dX11_markOf_70 (fun v_70 m_70 h_70 => ?_)
      obtain ⟨e1, e2⟩ := h_70; have e1 := e1.symm; have e2 := e2.symm; subst e1; subst e2
      refine j_iload X dX11_markOf_73 rfl ?_
      refine j_icmp_le X 88 dX11_markOf_75 (by decide) (fun c_75 => ?_) (fun c_75 => ?_)
      · refine j_iload X dX11_markOf_88 rfl ?_
        refine j_nrm _ (by first | exact jmx_t c_75 | exact jmx_f c_75) ?_
        refine j_istore X dX11_markOf_90 (by decide) ?_
        refine j_iinc X dX11_markOf_92 rfl 1 rfl ?_
        refine j_goto X 60 dX11_markOf_95 (by decide) ?_
        refine j_iload X dX11_markOf_60 rfl ?_
        refine j_iconst X dX11_markOf_62 4 (by decide) ?_
        refine j_icmp_ge X 98 dX11_markOf_63 (by decide) (fun c_63 => absurd c_63 (by decide)) (fun c_63 => ?_)
        refine j_aload_n X dX11_markOf_66 rfl ?_
        refine j_iload_n X dX11_markOf_67 rfl ?_
        refine j_iload X dX11_markOf_68 rfl ?_
        refine s_callVi X hR (m_field3 np _ p hp) rfl 11 (by decide) (o66 np) (k66 np) rfl u1160 u1157 u1159 qp41 u12 hyX11_field (by decide) (by decide) (Nat.le_of_ble_eq_true rfl) dX11_markOf_70 (fun v_70 m_70 h_70 => ?_)
        obtain ⟨e1, e2⟩ := h_70; have e1 := e1.symm; have e2 := e2.symm; subst e1; subst e2
        refine j_iload X dX11_markOf_73 rfl ?_
        refine j_icmp_le X 88 dX11_markOf_75 (by decide) (fun c_75 => ?_) (fun c_75 => ?_)
        · refine j_iload X dX11_markOf_88 rfl ?_
          refine j_nrm _ (by first | exact jmx_t c_75 | exact jmx_f c_75) ?_
          refine j_istore X dX11_markOf_90 (by decide) ?_
          refine j_iinc X dX11_markOf_92 rfl 1 rfl ?_
          refine j_goto X 60 dX11_markOf_95 (by decide) ?_
          refine j_iload X dX11_markOf_60 rfl ?_
          refine j_iconst X dX11_markOf_62 4 (by decide) ?_
          refine j_icmp_ge X 98 dX11_markOf_63 (by decide) (fun c_63 => ?_) (fun c_63 => absurd c_63 (by decide))
          refine j_iload_n X dX11_markOf_98 rfl ?_
          refine j_iload X dX11_markOf_99 rfl ?_
          refine j_iadd X dX11_markOf_101 ?_
          refine j_istore_n X dX11_markOf_102 (by decide) ?_
          refine j_iload_n X dX11_markOf_103 rfl ?_
          refine j_iconst X dX11_markOf_104 2 (by decide) ?_
          refine j_icmp_ne X 119 dX11_markOf_105 (by decide) (fun c_105 => ?_) (fun c_105 => absurd c_105 (by decide))
          refine j_iload_n X dX11_markOf_119 rfl ?_
          refine j_iconst X dX11_markOf_120 4 (by decide) ?_
          refine j_icmp_ne X 132 dX11_markOf_121 (by decide) (fun c_121 => ?_) (fun c_121 => absurd c_121 (by decide))
          refine j_iload_n X dX11_markOf_132 rfl ?_
          refine s_iret X hE hr dX11_markOf_133 rfl ?_
          first | exact ⟨rfl, rfl⟩ | (exfalso; clear hE hr hR X; (try simp only [lg_cmp_lt, lg_cmp_gt, lg_cmp_le, lg_cmp_ge] at *); (try simp (disch := omega) only [Int64.le_iff_toInt_le, Int64.lt_iff_toInt_lt, Int32.le_iff_toInt_le, Int32.lt_iff_toInt_lt, fa_eq, fa_lit, fa_litL, nI_toInt, pk_lT, Int32.toInt_toInt64, jadd64, jin, jnoneT] at *); omega)
        · refine j_aload_n X dX11_markOf_78 rfl ?_
          refine j_iload_n X dX11_markOf_79 rfl ?_
          refine j_iload X dX11_markOf_80 rfl ?_
          refine s_callVi X hR (m_field3 np _ p hp) rfl 11 (by decide) (o66 np) (k66 np) rfl u1160 u1157 u1159 qp41 u12 hyX11_field (by decide) (by decide) (Nat.le_of_ble_eq_true rfl) dX11_markOf_82 (fun v_82 m_82 h_82 => ?_)
          obtain ⟨e1, e2⟩ := h_82; have e1 := e1.symm; have e2 := e2.symm; subst e1; subst e2
          refine j_goto X 90 dX11_markOf_85 (by decide) ?_
          refine j_nrm _ (by first | exact jmx_t c_75 | exact jmx_f c_75) ?_
          refine j_istore X dX11_markOf_90 (by decide) ?_
          refine j_iinc X dX11_markOf_92 rfl 1 rfl ?_
          refine j_goto X 60 dX11_markOf_95 (by decide) ?_
          refine j_iload X dX11_markOf_60 rfl ?_
          refine j_iconst X dX11_markOf_62 4 (by decide) ?_
          refine j_icmp_ge X 98 dX11_markOf_63 (by decide) (fun c_63 => ?_) (fun c_63 => absurd c_63 (by decide))
          refine j_iload_n X dX11_markOf_98 rfl ?_
          refine j_iload X dX11_markOf_99 rfl ?_
          refine j_iadd X dX11_markOf_101 ?_
          refine j_istore_n X dX11_markOf_102 (by decide) ?_
          refine j_iload_n X dX11_markOf_103 rfl ?_
          refine j_iconst X dX11_markOf_104 2 (by decide) ?_
          refine j_icmp_ne X 119 dX11_markOf_105 (by decide) (fun c_105 => ?_) (fun c_105 => absurd c_105 (by decide))
          refine j_iload_n X dX11_markOf_119 rfl ?_
          refine j_iconst X dX11_markOf_120 4 (by decide) ?_
          refine j_icmp_ne X 132 dX11_markOf_121 (by decide) (fun c_121 => ?_) (fun c_121 => absurd c_121 (by decide))
          refine j_iload_n X dX11_markOf_132 rfl ?_
          refine s_iret X hE hr dX11_markOf_133 rfl ?_
          first | exact ⟨rfl, rfl⟩ | (exfalso; clear hE hr hR X; (try simp only [lg_cmp_lt, lg_cmp_gt, lg_cmp_le, lg_cmp_ge] at *); (try simp (disch := omega) only [Int64.le_iff_toInt_le, Int64.lt_iff_toInt_lt, Int32.le_iff_toInt_le, Int32.lt_iff_toInt_lt, fa_eq, fa_lit, fa_litL, nI_toInt, pk_lT, Int32.toInt_toInt64, jadd64, jin, jnoneT] at *); omega)
      · refine j_aload_n X dX11_markOf_78 rfl ?_
        refine j_iload_n X dX11_markOf_79 rfl ?_
        refine j_iload X dX11_markOf_80 rfl ?_
        refine s_callVi X hR (m_field2 np _ p hp) rfl 11 (by decide) (o66 np) (k66 np) rfl u1160 u1157 u1159 qp41 u12 hyX11_field (by decide) (by decide) (Nat.le_of_ble_eq_true rfl) dX11_markOf_82 (fun v_82 m_82 h_82 => ?_)
        obtain ⟨e1, e2⟩ := h_82; have e1 := e1.symm; have e2 := e2.symm; subst e1; subst e2
        refine j_goto X 90 dX11_markOf_85 (by decide) ?_
        refine j_nrm _ (by first | exact jmx_t c_75 | exact jmx_f c_75) ?_
        refine j_istore X dX11_markOf_90 (by decide) ?_
        refine j_iinc X dX11_markOf_92 rfl 1 rfl ?_
        refine j_goto X 60 dX11_markOf_95 (by decide) ?_
        refine j_iload X dX11_markOf_60 rfl ?_
        refine j_iconst X dX11_markOf_62 4 (by decide) ?_
        refine j_icmp_ge X 98 dX11_markOf_63 (by decide) (fun c_63 => absurd c_63 (by decide)) (fun c_63 => ?_)
        refine j_aload_n X dX11_markOf_66 rfl ?_
        refine j_iload_n X dX11_markOf_67 rfl ?_
        refine j_iload X dX11_markOf_68 rfl ?_
        refine s_callVi X hR (m_field3 np _ p hp) rfl 11 (by decide) (o66 np) (k66 np) rfl u1160 u1157 u1159 qp41 u12 hyX11_field (by decide) (by decide) (Nat.le_of_ble_eq_true rfl) dX11_markOf_70 (fun v_70 m_70 h_70 => ?_)
        obtain ⟨e1, e2⟩ := h_70; have e1 := e1.symm; have e2 := e2.symm; subst e1; subst e2
        refine j_iload X dX11_markOf_73 rfl ?_
        refine j_icmp_le X 88 dX11_markOf_75 (by decide) (fun c_75 => ?_) (fun c_75 => ?_)
        · refine j_iload X dX11_markOf_88 rfl ?_
          refine j_nrm _ (by first | exact jmx_t c_75 | exact jmx_f c_75) ?_
          refine j_istore X dX11_markOf_90 (by decide) ?_
          refine j_iinc X dX11_markOf_92 rfl 1 rfl ?_
          refine j_goto X 60 dX11_markOf_95 (by decide) ?_
          refine j_iload X dX11_markOf_60 rfl ?_
          refine j_iconst X dX11_markOf_62 4 (by decide) ?_
          refine j_icmp_ge X 98 dX11_markOf_63 (by decide) (fun c_63 => ?_) (fun c_63 => absurd c_63 (by decide))
          refine j_iload_n X dX11_markOf_98 rfl ?_
          refine j_iload X dX11_markOf_99 rfl ?_
          refine j_iadd X dX11_markOf_101 ?_
          refine j_istore_n X dX11_markOf_102 (by decide) ?_
          refine j_iload_n X dX11_markOf_103 rfl ?_
          refine j_iconst X dX11_markOf_104 2 (by decide) ?_
          refine j_icmp_ne X 119 dX11_markOf_105 (by decide) (fun c_105 => ?_) (fun c_105 => absurd c_105 (by decide))
          refine j_iload_n X dX11_markOf_119 rfl ?_
          refine j_iconst X dX11_markOf_120 4 (by decide) ?_
          refine j_icmp_ne X 132 dX11_markOf_121 (by decide) (fun c_121 => ?_) (fun c_121 => absurd c_121 (by decide))
          refine j_iload_n X dX11_markOf_132 rfl ?_
          refine s_iret X hE hr dX11_markOf_133 rfl ?_
          first | exact ⟨rfl, rfl⟩ | (exfalso; clear hE hr hR X; (try simp only [lg_cmp_lt, lg_cmp_gt, lg_cmp_le, lg_cmp_ge] at *); (try simp (disch := omega) only [Int64.le_iff_toInt_le, Int64.lt_iff_toInt_lt, Int32.le_iff_toInt_le, Int32.lt_iff_toInt_lt, fa_eq, fa_lit, fa_litL, nI_toInt, pk_lT, Int32.toInt_toInt64, jadd64, jin, jnoneT] at *); omega)
        · refine j_aload_n X dX11_markOf_78 rfl ?_
          refine j_iload_n X dX11_markOf_79 rfl ?_
          refine j_iload X dX11_markOf_80 rfl ?_
          refine s_callVi X hR (m_field3 np _ p hp) rfl 11 (by decide) (o66 np) (k66 np) rfl u1160 u1157 u1159 qp41 u12 hyX11_field (by decide) (by decide) (Nat.le_of_ble_eq_true rfl) dX11_markOf_82 (fun v_82 m_82 h_82 => ?_)
          obtain ⟨e1, e2⟩ := h_82; have e1 := e1.symm; have e2 := e2.symm; subst e1; subst e2
          refine j_goto X 90 dX11_markOf_85 (by decide) ?_
          refine j_nrm _ (by first | exact jmx_t c_75 | exact jmx_f c_75) ?_
          refine j_istore X dX11_markOf_90 (by decide) ?_
          refine j_iinc X dX11_markOf_92 rfl 1 rfl ?_
          refine j_goto X 60 dX11_markOf_95 (by decide) ?_
          refine j_iload X dX11_markOf_60 rfl ?_
          refine j_iconst X dX11_markOf_62 4 (by decide) ?_
          refine j_icmp_ge X 98 dX11_markOf_63 (by decide) (fun c_63 => ?_) (fun c_63 => absurd c_63 (by decide))
          refine j_iload_n X dX11_markOf_98 rfl ?_
          refine j_iload X dX11_markOf_99 rfl ?_
          refine j_iadd X dX11_markOf_101 ?_
          refine j_istore_n X dX11_markOf_102 (by decide) ?_
          refine j_iload_n X dX11_markOf_103 rfl ?_
          refine j_iconst X dX11_markOf_104 2 (by decide) ?_
          refine j_icmp_ne X 119 dX11_markOf_105 (by decide) (fun c_105 => ?_) (fun c_105 => absurd c_105 (by decide))
          refine j_iload_n X dX11_markOf_119 rfl ?_
          refine j_iconst X dX11_markOf_120 4 (by decide) ?_
          refine j_icmp_ne X 132 dX11_markOf_121 (by decide) (fun c_121 => ?_) (fun c_121 => absurd c_121 (by decide))
          refine j_iload_n X dX11_markOf_132 rfl ?_
          refine s_iret X hE hr dX11_markOf_133 rfl ?_
          first | exact ⟨rfl, rfl⟩ | (exfalso; clear hE hr hR X; (try simp only [lg_cmp_lt, lg_cmp_gt, lg_cmp_le, lg_cmp_ge] at *); (try simp (disch := omega) only [Int64.le_iff_toInt_le, Int64.lt_iff_toInt_lt, Int32.le_iff_toInt_le, Int32.lt_iff_toInt_lt, fa_eq, fa_lit, fa_litL, nI_toInt, pk_lT, Int32.toInt_toInt64, jadd64, jin, jnoneT] at *); omega)
  · refine j_aload_n X dX11_markOf_78 rfl ?_
    refine j_iload_n X dX11_markOf_79 rfl ?_
    refine j_iload X dX11_markOf_80 rfl ?_
    refine s_callVi X hR (m_field0 np _ p hp) rfl 11 (by decide) (o66 np) (k66 np) rfl u1160 u1157 u1159 qp41 u12 hyX11_field (by decide) (by decide) (Nat.le_of_ble_eq_true rfl) dX11_markOf_82 (fun v_82 m_82 h_82 => ?_)
    obtain ⟨e1, e2⟩ := h_82; have e1 := e1.symm; have e2 := e2.symm; subst e1; subst e2
    refine j_goto X 90 dX11_markOf_85 (by decide) ?_
    refine j_nrm _ (by first | exact jmx_t c_75 | exact jmx_f c_75) ?_
    refine j_istore X dX11_markOf_90 (by decide) ?_
    refine j_iinc X dX11_markOf_92 rfl 1 rfl ?_
    refine j_goto X 60 dX11_markOf_95 (by decide) ?_
    refine j_iload X dX11_markOf_60 rfl ?_
    refine j_iconst X dX11_markOf_62 4 (by decide) ?_
    refine j_icmp_ge X 98 dX11_markOf_63 (by decide) (fun c_63 => absurd c_63 (by decide)) (fun c_63 => ?_)
    refine j_aload_n X dX11_markOf_66 rfl ?_
    refine j_iload_n X dX11_markOf_67 rfl ?_
    refine j_iload X dX11_markOf_68 rfl ?_
    refine s_callVi X hR (m_field1 np _ p hp) rfl 11 (by decide) (o66 np) (k66 np) rfl u1160 u1157 u1159 qp41 u12 hyX11_field (by decide) (by decide) (Nat.le_of_ble_eq_true rfl) dX11_markOf_70 (fun v_70 m_70 h_70 => ?_)
    obtain ⟨e1, e2⟩ := h_70; have e1 := e1.symm; have e2 := e2.symm; subst e1; subst e2
    refine j_iload X dX11_markOf_73 rfl ?_
    refine j_icmp_le X 88 dX11_markOf_75 (by decide) (fun c_75 => ?_) (fun c_75 => ?_)
    · refine j_iload X dX11_markOf_88 rfl ?_
      refine j_nrm _ (by first | exact jmx_t c_75 | exact jmx_f c_75) ?_
      refine j_istore X dX11_markOf_90 (by decide) ?_
      refine j_iinc X dX11_markOf_92 rfl 1 rfl ?_
      refine j_goto X 60 dX11_markOf_95 (by decide) ?_
      refine j_iload X dX11_markOf_60 rfl ?_
      refine j_iconst X dX11_markOf_62 4 (by decide) ?_
      refine j_icmp_ge X 98 dX11_markOf_63 (by decide) (fun c_63 => absurd c_63 (by decide)) (fun c_63 => ?_)
      refine j_aload_n X dX11_markOf_66 rfl ?_
      refine j_iload_n X dX11_markOf_67 rfl ?_
      refine j_iload X dX11_markOf_68 rfl ?_
      refine s_callVi X hR (m_field2 np _ p hp) rfl 11 (by decide) (o66 np) (k66 np) rfl u1160 u1157 u1159 qp41 u12 hyX11_field (by decide) (by decide) (Nat.le_of_ble_eq_true rfl) dX11_markOf_70 (fun v_70 m_70 h_70 => ?_)
      obtain ⟨e1, e2⟩ := h_70; have e1 := e1.symm; have e2 := e2.symm; subst e1; subst e2
      refine j_iload X dX11_markOf_73 rfl ?_
      refine j_icmp_le X 88 dX11_markOf_75 (by decide) (fun c_75 => ?_) (fun c_75 => ?_)
      · refine j_iload X dX11_markOf_88 rfl ?_
        refine j_nrm _ (by first | exact jmx_t c_75 | exact jmx_f c_75) ?_
        refine j_istore X dX11_markOf_90 (by decide) ?_
        refine j_iinc X dX11_markOf_92 rfl 1 rfl ?_
        refine j_goto X 60 dX11_markOf_95 (by decide) ?_
        refine j_iload X dX11_markOf_60 rfl ?_
        refine j_iconst X dX11_markOf_62 4 (by decide) ?_
        refine j_icmp_ge X 98 dX11_markOf_63 (by decide) (fun c_63 => absurd c_63 (by decide)) (fun c_63 => ?_)
        refine j_aload_n X dX11_markOf_66 rfl ?_
        refine j_iload_n X dX11_markOf_67 rfl ?_
        refine j_iload X dX11_markOf_68 rfl ?_
        refine s_callVi X hR (m_field3 np _ p hp) rfl 11 (by decide) (o66 np) (k66 np) rfl u1160 u1157 u1159 qp41 u12 hyX11_field (by decide) (by decide) (Nat.le_of_ble_eq_true rfl) dX11_markOf_70 (fun v_70 m_70 h_70 => ?_)
        obtain ⟨e1, e2⟩ := h_70; have e1 := e1.symm; have e2 := e2.symm; subst e1; subst e2
        refine j_iload X dX11_markOf_73 rfl ?_
        refine j_icmp_le X 88 dX11_markOf_75 (by decide) (fun c_75 => ?_) (fun c_75 => ?_)
        · refine j_iload X dX11_markOf_88 rfl ?_
          refine j_nrm _ (by first | exact jmx_t c_75 | exact jmx_f c_75) ?_
          refine j_istore X dX11_markOf_90 (by decide) ?_
          refine j_iinc X dX11_markOf_92 rfl 1 rfl ?_
          refine j_goto X 60 dX11_markOf_95 (by decide) ?_
          refine j_iload X dX11_markOf_60 rfl ?_
          refine j_iconst X dX11_markOf_62 4 (by decide) ?_
          refine j_icmp_ge X 98 dX11_markOf_63 (by decide) (fun c_63 => ?_) (fun c_63 => absurd c_63 (by decide))
          refine j_iload_n X dX11_markOf_98 rfl ?_
          refine j_iload X dX11_markOf_99 rfl ?_
          refine j_iadd X dX11_markOf_101 ?_
          refine j_istore_n X dX11_markOf_102 (by decide) ?_
          refine j_iload_n X dX11_markOf_103 rfl ?_
          refine j_iconst X dX11_markOf_104 2 (by decide) ?_
          refine j_icmp_ne X 119 dX11_markOf_105 (by decide) (fun c_105 => ?_) (fun c_105 => absurd c_105 (by decide))
          refine j_iload_n X dX11_markOf_119 rfl ?_
          refine j_iconst X dX11_markOf_120 4 (by decide) ?_
          refine j_icmp_ne X 132 dX11_markOf_121 (by decide) (fun c_121 => ?_) (fun c_121 => absurd c_121 (by decide))
          refine j_iload_n X dX11_markOf_132 rfl ?_
          refine s_iret X hE hr dX11_markOf_133 rfl ?_
          first | exact ⟨rfl, rfl⟩ | (exfalso; clear hE hr hR X; (try simp only [lg_cmp_lt, lg_cmp_gt, lg_cmp_le, lg_cmp_ge] at *); (try simp (disch := omega) only [Int64.le_iff_toInt_le, Int64.lt_iff_toInt_lt, Int32.le_iff_toInt_le, Int32.lt_iff_toInt_lt, fa_eq, fa_lit, fa_litL, nI_toInt, pk_lT, Int32.toInt_toInt64, jadd64, jin, jnoneT] at *); omega)
        · refine j_aload_n X dX11_markOf_78 rfl ?_
          refine j_iload_n X dX11_markOf_79 rfl ?_
          refine j_iload X dX11_markOf_80 rfl ?_
          refine s_callVi X hR (m_field3 np _ p hp) rfl 11 (by decide) (o66 np) (k66 np) rfl u1160 u1157 u1159 qp41 u12 hyX11_field (by decide) (by decide) (Nat.le_of_ble_eq_true rfl) dX11_markOf_82 (fun v_82 m_82 h_82 => ?_)
          obtain ⟨e1, e2⟩ := h_82; have e1 := e1.symm; have e2 := e2.symm; subst e1; subst e2
          refine j_goto X 90 dX11_markOf_85 (by decide) ?_
          refine j_nrm _ (by first | exact jmx_t c_75 | exact jmx_f c_75) ?_
          refine j_istore X dX11_markOf_90 (by decide) ?_
          refine j_iinc X dX11_markOf_92 rfl 1 rfl ?_
          refine j_goto X 60 dX11_markOf_95 (by decide) ?_
          refine j_iload X dX11_markOf_60 rfl ?_
          refine j_iconst X dX11_markOf_62 4 (by decide) ?_
          refine j_icmp_ge X 98 dX11_markOf_63 (by decide) (fun c_63 => ?_) (fun c_63 => absurd c_63 (by decide))
          refine j_iload_n X dX11_markOf_98 rfl ?_
          refine j_iload X dX11_markOf_99 rfl ?_
          refine j_iadd X dX11_markOf_101 ?_
          refine j_istore_n X dX11_markOf_102 (by decide) ?_
          refine j_iload_n X dX11_markOf_103 rfl ?_
          refine j_iconst X dX11_markOf_104 2 (by decide) ?_
          refine j_icmp_ne X 119 dX11_markOf_105 (by decide) (fun c_105 => ?_) (fun c_105 => absurd c_105 (by decide))
          refine j_iload_n X dX11_markOf_119 rfl ?_
          refine j_iconst X dX11_markOf_120 4 (by decide) ?_
          refine j_icmp_ne X 132 dX11_markOf_121 (by decide) (fun c_121 => ?_) (fun c_121 => absurd c_121 (by decide))
          refine j_iload_n X dX11_markOf_132 rfl ?_
          refine s_iret X hE hr dX11_markOf_133 rfl ?_
          first | exact ⟨rfl, rfl⟩ | (exfalso; clear hE hr hR X; (try simp only [lg_cmp_lt, lg_cmp_gt, lg_cmp_le, lg_cmp_ge] at *); (try simp (disch := omega) only [Int64.le_iff_toInt_le, Int64.lt_iff_toInt_lt, Int32.le_iff_toInt_le, Int32.lt_iff_toInt_lt, fa_eq, fa_lit, fa_litL, nI_toInt, pk_lT, Int32.toInt_toInt64, jadd64, jin, jnoneT] at *); omega)
      · refine j_aload_n X dX11_markOf_78 rfl ?_
        refine j_iload_n X dX11_markOf_79 rfl ?_
        refine j_iload X dX11_markOf_80 rfl ?_
        refine s_callVi X hR (m_field2 np _ p hp) rfl 11 (by decide) (o66 np) (k66 np) rfl u1160 u1157 u1159 qp41 u12 hyX11_field (by decide) (by decide) (Nat.le_of_ble_eq_true rfl) dX11_markOf_82 (fun v_82 m_82 h_82 => ?_)
        obtain ⟨e1, e2⟩ := h_82; have e1 := e1.symm; have e2 := e2.symm; subst e1; subst e2
        refine j_goto X 90 dX11_markOf_85 (by decide) ?_
        refine j_nrm _ (by first | exact jmx_t c_75 | exact jmx_f c_75) ?_
        refine j_istore X dX11_markOf_90 (by decide) ?_
        refine j_iinc X dX11_markOf_92 rfl 1 rfl ?_
        refine j_goto X 60 dX11_markOf_95 (by decide) ?_
        refine j_iload X dX11_markOf_60 rfl ?_
        refine j_iconst X dX11_markOf_62 4 (by decide) ?_
        refine j_icmp_ge X 98 dX11_markOf_63 (by decide) (fun c_63 => absurd c_63 (by decide)) (fun c_63 => ?_)
        refine j_aload_n X dX11_markOf_66 rfl ?_
        refine j_iload_n X dX11_markOf_67 rfl ?_
        refine j_iload X dX11_markOf_68 rfl ?_
        refine s_callVi X hR (m_field3 np _ p hp) rfl 11 (by decide) (o66 np) (k66 np) rfl u1160 u1157 u1159 qp41 u12 hyX11_field (by decide) (by decide) (Nat.le_of_ble_eq_true rfl) dX11_markOf_70 (fun v_70 m_70 h_70 => ?_)
        obtain ⟨e1, e2⟩ := h_70; have e1 := e1.symm; have e2 := e2.symm; subst e1; subst e2
        refine j_iload X dX11_markOf_73 rfl ?_
        refine j_icmp_le X 88 dX11_markOf_75 (by decide) (fun c_75 => ?_) (fun c_75 => ?_)
        · refine j_iload X dX11_markOf_88 rfl ?_
          refine j_nrm _ (by first | exact jmx_t c_75 | exact jmx_f c_75) ?_
          refine j_istore X dX11_markOf_90 (by decide) ?_
          refine j_iinc X dX11_markOf_92 rfl 1 rfl ?_
          refine j_goto X 60 dX11_markOf_95 (by decide) ?_
          refine j_iload X dX11_markOf_60 rfl ?_
          refine j_iconst X dX11_markOf_62 4 (by decide) ?_
          refine j_icmp_ge X 98 dX11_markOf_63 (by decide) (fun c_63 => ?_) (fun c_63 => absurd c_63 (by decide))
          refine j_iload_n X dX11_markOf_98 rfl ?_
          refine j_iload X dX11_markOf_99 rfl ?_
          refine j_iadd X dX11_markOf_101 ?_
          refine j_istore_n X dX11_markOf_102 (by decide) ?_
          refine j_iload_n X dX11_markOf_103 rfl ?_
          refine j_iconst X dX11_markOf_104 2 (by decide) ?_
          refine j_icmp_ne X 119 dX11_markOf_105 (by decide) (fun c_105 => ?_) (fun c_105 => absurd c_105 (by decide))
          refine j_iload_n X dX11_markOf_119 rfl ?_
          refine j_iconst X dX11_markOf_120 4 (by decide) ?_
          refine j_icmp_ne X 132 dX11_markOf_121 (by decide) (fun c_121 => ?_) (fun c_121 => absurd c_121 (by decide))
          refine j_iload_n X dX11_markOf_132 rfl ?_
          refine s_iret X hE hr dX11_markOf_133 rfl ?_
          first | exact ⟨rfl, rfl⟩ | (exfalso; clear hE hr hR X; (try simp only [lg_cmp_lt, lg_cmp_gt, lg_cmp_le, lg_cmp_ge] at *); (try simp (disch := omega) only [Int64.le_iff_toInt_le, Int64.lt_iff_toInt_lt, Int32.le_iff_toInt_le, Int32.lt_iff_toInt_lt, fa_eq, fa_lit, fa_litL, nI_toInt, pk_lT, Int32.toInt_toInt64, jadd64, jin, jnoneT] at *); omega)
        · refine j_aload_n X dX11_markOf_78 rfl ?_
          refine j_iload_n X dX11_markOf_79 rfl ?_
          refine j_iload X dX11_markOf_80 rfl ?_
          refine s_callVi X hR (m_field3 np _ p hp) rfl 11 (by decide) (o66 np) (k66 np) rfl u1160 u1157 u1159 qp41 u12 hyX11_field (by decide) (by decide) (Nat.le_of_ble_eq_true rfl) dX11_markOf_82 (fun v_82 m_82 h_82 => ?_)
          obtain ⟨e1, e2⟩ := h_82; have e1 := e1.symm; have e2 := e2.symm; subst e1; subst e2
          refine j_goto X 90 dX11_markOf_85 (by decide) ?_
          refine j_nrm _ (by first | exact jmx_t c_75 | exact jmx_f c_75) ?_
          refine j_istore X dX11_markOf_90 (by decide) ?_
          refine j_iinc X dX11_markOf_92 rfl 1 rfl ?_
          refine j_goto X 60 dX11_markOf_95 (by decide) ?_
          refine j_iload X dX11_markOf_60 rfl ?_
          refine j_iconst X dX11_markOf_62 4 (by decide) ?_
          refine j_icmp_ge X 98 dX11_markOf_63 (by decide) (fun c_63 => ?_) (fun c_63 => absurd c_63 (by decide))
          refine j_iload_n X dX11_markOf_98 rfl ?_
          refine j_iload X dX11_markOf_99 rfl ?_
          refine j_iadd X dX11_markOf_101 ?_
          refine j_istore_n X dX11_markOf_102 (by decide) ?_
          refine j_iload_n X dX11_markOf_103 rfl ?_
          refine j_iconst X dX11_markOf_104 2 (by decide) ?_
          refine j_icmp_ne X 119 dX11_markOf_105 (by decide) (fun c_105 => ?_) (fun c_105 => absurd c_105 (by decide))
          refine j_iload_n X dX11_markOf_119 rfl ?_
          refine j_iconst X dX11_markOf_120 4 (by decide) ?_
          refine j_icmp_ne X 132 dX11_markOf_121 (by decide) (fun c_121 => ?_) (fun c_121 => absurd c_121 (by decide))
          refine j_iload_n X dX11_markOf_132 rfl ?_
          refine s_iret X hE hr dX11_markOf_133 rfl ?_
          first | exact ⟨rfl, rfl⟩ | (exfalso; clear hE hr hR X; (try simp only [lg_cmp_lt, lg_cmp_gt, lg_cmp_le, lg_cmp_ge] at *); (try simp (disch := omega) only [Int64.le_iff_toInt_le, Int64.lt_iff_toInt_lt, Int32.le_iff_toInt_le, Int32.lt_iff_toInt_lt, fa_eq, fa_lit, fa_litL, nI_toInt, pk_lT, Int32.toInt_toInt64, jadd64, jin, jnoneT] at *); omega)
    · refine j_aload_n X dX11_markOf_78 rfl ?_
      refine j_iload_n X dX11_markOf_79 rfl ?_
      refine j_iload X dX11_markOf_80 rfl ?_
      refine s_callVi X hR (m_field1 np _ p hp) rfl 11 (by decide) (o66 np) (k66 np) rfl u1160 u1157 u1159 qp41 u12 hyX11_field (by decide) (by decide) (Nat.le_of_ble_eq_true rfl) dX11_markOf_82 (fun v_82 m_82 h_82 => ?_)
      obtain ⟨e1, e2⟩ := h_82; have e1 := e1.symm; have e2 := e2.symm; subst e1; subst e2
      refine j_goto X 90 dX11_markOf_85 (by decide) ?_
      refine j_nrm _ (by first | exact jmx_t c_75 | exact jmx_f c_75) ?_
      refine j_istore X dX11_markOf_90 (by decide) ?_
      refine j_iinc X dX11_markOf_92 rfl 1 rfl ?_
      refine j_goto X 60 dX11_markOf_95 (by decide) ?_
      refine j_iload X dX11_markOf_60 rfl ?_
      refine j_iconst X dX11_markOf_62 4 (by decide) ?_
      refine j_icmp_ge X 98 dX11_markOf_63 (by decide) (fun c_63 => absurd c_63 (by decide)) (fun c_63 => ?_)
      refine j_aload_n X dX11_markOf_66 rfl ?_
      refine j_iload_n X dX11_markOf_67 rfl ?_
      refine j_iload X dX11_markOf_68 rfl ?_
      refine s_callVi X hR (m_field2 np _ p hp) rfl 11 (by decide) (o66 np) (k66 np) rfl u1160 u1157 u1159 qp41 u12 hyX11_field (by decide) (by decide) (Nat.le_of_ble_eq_true rfl) dX11_markOf_70 (fun v_70 m_70 h_70 => ?_)
      obtain ⟨e1, e2⟩ := h_70; have e1 := e1.symm; have e2 := e2.symm; subst e1; subst e2
      refine j_iload X dX11_markOf_73 rfl ?_
      refine j_icmp_le X 88 dX11_markOf_75 (by decide) (fun c_75 => ?_) (fun c_75 => ?_)
      · refine j_iload X dX11_markOf_88 rfl ?_
        refine j_nrm _ (by first | exact jmx_t c_75 | exact jmx_f c_75) ?_
        refine j_istore X dX11_markOf_90 (by decide) ?_
        refine j_iinc X dX11_markOf_92 rfl 1 rfl ?_
        refine j_goto X 60 dX11_markOf_95 (by decide) ?_
        refine j_iload X dX11_markOf_60 rfl ?_
        refine j_iconst X dX11_markOf_62 4 (by decide) ?_
        refine j_icmp_ge X 98 dX11_markOf_63 (by decide) (fun c_63 => absurd c_63 (by decide)) (fun c_63 => ?_)
        refine j_aload_n X dX11_markOf_66 rfl ?_
        refine j_iload_n X dX11_markOf_67 rfl ?_
        refine j_iload X dX11_markOf_68 rfl ?_
        refine s_callVi X hR (m_field3 np _ p hp) rfl 11 (by decide) (o66 np) (k66 np) rfl u1160 u1157 u1159 qp41 u12 hyX11_field (by decide) (by decide) (Nat.le_of_ble_eq_true rfl) dX11_markOf_70 (fun v_70 m_70 h_70 => ?_)
        obtain ⟨e1, e2⟩ := h_70; have e1 := e1.symm; have e2 := e2.symm; subst e1; subst e2
        refine j_iload X dX11_markOf_73 rfl ?_
        refine j_icmp_le X 88 dX11_markOf_75 (by decide) (fun c_75 => ?_) (fun c_75 => ?_)
        · refine j_iload X dX11_markOf_88 rfl ?_
          refine j_nrm _ (by first | exact jmx_t c_75 | exact jmx_f c_75) ?_
          refine j_istore X dX11_markOf_90 (by decide) ?_
          refine j_iinc X dX11_markOf_92 rfl 1 rfl ?_
          refine j_goto X 60 dX11_markOf_95 (by decide) ?_
          refine j_iload X dX11_markOf_60 rfl ?_
          refine j_iconst X dX11_markOf_62 4 (by decide) ?_
          refine j_icmp_ge X 98 dX11_markOf_63 (by decide) (fun c_63 => ?_) (fun c_63 => absurd c_63 (by decide))
          refine j_iload_n X dX11_markOf_98 rfl ?_
          refine j_iload X dX11_markOf_99 rfl ?_
          refine j_iadd X dX11_markOf_101 ?_
          refine j_istore_n X dX11_markOf_102 (by decide) ?_
          refine j_iload_n X dX11_markOf_103 rfl ?_
          refine j_iconst X dX11_markOf_104 2 (by decide) ?_
          refine j_icmp_ne X 119 dX11_markOf_105 (by decide) (fun c_105 => ?_) (fun c_105 => absurd c_105 (by decide))
          refine j_iload_n X dX11_markOf_119 rfl ?_
          refine j_iconst X dX11_markOf_120 4 (by decide) ?_
          refine j_icmp_ne X 132 dX11_markOf_121 (by decide) (fun c_121 => ?_) (fun c_121 => absurd c_121 (by decide))
          refine j_iload_n X dX11_markOf_132 rfl ?_
          refine s_iret X hE hr dX11_markOf_133 rfl ?_
          first | exact ⟨rfl, rfl⟩ | (exfalso; clear hE hr hR X; (try simp only [lg_cmp_lt, lg_cmp_gt, lg_cmp_le, lg_cmp_ge] at *); (try simp (disch := omega) only [Int64.le_iff_toInt_le, Int64.lt_iff_toInt_lt, Int32.le_iff_toInt_le, Int32.lt_iff_toInt_lt, fa_eq, fa_lit, fa_litL, nI_toInt, pk_lT, Int32.toInt_toInt64, jadd64, jin, jnoneT] at *); omega)
        · refine j_aload_n X dX11_markOf_78 rfl ?_
          refine j_iload_n X dX11_markOf_79 rfl ?_
          refine j_iload X dX11_markOf_80 rfl ?_
          refine s_callVi X hR (m_field3 np _ p hp) rfl 11 (by decide) (o66 np) (k66 np) rfl u1160 u1157 u1159 qp41 u12 hyX11_field (by decide) (by decide) (Nat.le_of_ble_eq_true rfl) dX11_markOf_82 (fun v_82 m_82 h_82 => ?_)
          obtain ⟨e1, e2⟩ := h_82; have e1 := e1.symm; have e2 := e2.symm; subst e1; subst e2
          refine j_goto X 90 dX11_markOf_85 (by decide) ?_
          refine j_nrm _ (by first | exact jmx_t c_75 | exact jmx_f c_75) ?_
          refine j_istore X dX11_markOf_90 (by decide) ?_
          refine j_iinc X dX11_markOf_92 rfl 1 rfl ?_
          refine j_goto X 60 dX11_markOf_95 (by decide) ?_
          refine j_iload X dX11_markOf_60 rfl ?_
          refine j_iconst X dX11_markOf_62 4 (by decide) ?_
          refine j_icmp_ge X 98 dX11_markOf_63 (by decide) (fun c_63 => ?_) (fun c_63 => absurd c_63 (by decide))
          refine j_iload_n X dX11_markOf_98 rfl ?_
          refine j_iload X dX11_markOf_99 rfl ?_
          refine j_iadd X dX11_markOf_101 ?_
          refine j_istore_n X dX11_markOf_102 (by decide) ?_
          refine j_iload_n X dX11_markOf_103 rfl ?_
          refine j_iconst X dX11_markOf_104 2 (by decide) ?_
          refine j_icmp_ne X 119 dX11_markOf_105 (by decide) (fun c_105 => ?_) (fun c_105 => absurd c_105 (by decide))
          refine j_iload_n X dX11_markOf_119 rfl ?_
          refine j_iconst X dX11_markOf_120 4 (by decide) ?_
          refine j_icmp_ne X 132 dX11_markOf_121 (by decide) (fun c_121 => ?_) (fun c_121 => absurd c_121 (by decide))
          refine j_iload_n X dX11_markOf_132 rfl ?_
          refine s_iret X hE hr dX11_markOf_133 rfl ?_
          first | exact ⟨rfl, rfl⟩ | (exfalso; clear hE hr hR X; (try simp only [lg_cmp_lt, lg_cmp_gt, lg_cmp_le, lg_cmp_ge] at *); (try simp (disch := omega) only [Int64.le_iff_toInt_le, Int64.lt_iff_toInt_lt, Int32.le_iff_toInt_le, Int32.lt_iff_toInt_lt, fa_eq, fa_lit, fa_litL, nI_toInt, pk_lT, Int32.toInt_toInt64, jadd64, jin, jnoneT] at *); omega)
      · refine j_aload_n X dX11_markOf_78 rfl ?_
        refine j_iload_n X dX11_markOf_79 rfl ?_
        refine j_iload X dX11_markOf_80 rfl ?_
        refine s_callVi X hR (m_field2 np _ p hp) rfl 11 (by decide) (o66 np) (k66 np) rfl u1160 u1157 u1159 qp41 u12 hyX11_field (by decide) (by decide) (Nat.le_of_ble_eq_true rfl) dX11_markOf_82 (fun v_82 m_82 h_82 => ?_)
        obtain ⟨e1, e2⟩ := h_82; have e1 := e1.symm; have e2 := e2.symm; subst e1; subst e2
        refine j_goto X 90 dX11_markOf_85 (by decide) ?_
        refine j_nrm _ (by first | exact jmx_t c_75 | exact jmx_f c_75) ?_
        refine j_istore X dX11_markOf_90 (by decide) ?_
        refine j_iinc X dX11_markOf_92 rfl 1 rfl ?_
        refine j_goto X 60 dX11_markOf_95 (by decide) ?_
        refine j_iload X dX11_markOf_60 rfl ?_
        refine j_iconst X dX11_markOf_62 4 (by decide) ?_
        refine j_icmp_ge X 98 dX11_markOf_63 (by decide) (fun c_63 => absurd c_63 (by decide)) (fun c_63 => ?_)
        refine j_aload_n X dX11_markOf_66 rfl ?_
        refine j_iload_n X dX11_markOf_67 rfl ?_
        refine j_iload X dX11_markOf_68 rfl ?_
        refine s_callVi X hR (m_field3 np _ p hp) rfl 11 (by decide) (o66 np) (k66 np) rfl u1160 u1157 u1159 qp41 u12 hyX11_field (by decide) (by decide) (Nat.le_of_ble_eq_true rfl) dX11_markOf_70 (fun v_70 m_70 h_70 => ?_)
        obtain ⟨e1, e2⟩ := h_70; have e1 := e1.symm; have e2 := e2.symm; subst e1; subst e2
        refine j_iload X dX11_markOf_73 rfl ?_
        refine j_icmp_le X 88 dX11_markOf_75 (by decide) (fun c_75 => ?_) (fun c_75 => ?_)
        · refine j_iload X dX11_markOf_88 rfl ?_
          refine j_nrm _ (by first | exact jmx_t c_75 | exact jmx_f c_75) ?_
          refine j_istore X dX11_markOf_90 (by decide) ?_
          refine j_iinc X dX11_markOf_92 rfl 1 rfl ?_
          refine j_goto X 60 dX11_markOf_95 (by decide) ?_
          refine j_iload X dX11_markOf_60 rfl ?_
          refine j_iconst X dX11_markOf_62 4 (by decide) ?_
          refine j_icmp_ge X 98 dX11_markOf_63 (by decide) (fun c_63 => ?_) (fun c_63 => absurd c_63 (by decide))
          refine j_iload_n X dX11_markOf_98 rfl ?_
          refine j_iload X dX11_markOf_99 rfl ?_
          refine j_iadd X dX11_markOf_101 ?_
          refine j_istore_n X dX11_markOf_102 (by decide) ?_
          refine j_iload_n X dX11_markOf_103 rfl ?_
          refine j_iconst X dX11_markOf_104 2 (by decide) ?_
          refine j_icmp_ne X 119 dX11_markOf_105 (by decide) (fun c_105 => ?_) (fun c_105 => absurd c_105 (by decide))
          refine j_iload_n X dX11_markOf_119 rfl ?_
          refine j_iconst X dX11_markOf_120 4 (by decide) ?_
          refine j_icmp_ne X 132 dX11_markOf_121 (by decide) (fun c_121 => ?_) (fun c_121 => absurd c_121 (by decide))
          refine j_iload_n X dX11_markOf_132 rfl ?_
          refine s_iret X hE hr dX11_markOf_133 rfl ?_
          first | exact ⟨rfl, rfl⟩ | (exfalso; clear hE hr hR X; (try simp only [lg_cmp_lt, lg_cmp_gt, lg_cmp_le, lg_cmp_ge] at *); (try simp (disch := omega) only [Int64.le_iff_toInt_le, Int64.lt_iff_toInt_lt, Int32.le_iff_toInt_le, Int32.lt_iff_toInt_lt, fa_eq, fa_lit, fa_litL, nI_toInt, pk_lT, Int32.toInt_toInt64, jadd64, jin, jnoneT] at *); omega)
        · refine j_aload_n X dX11_markOf_78 rfl ?_
          refine j_iload_n X dX11_markOf_79 rfl ?_
          refine j_iload X dX11_markOf_80 rfl ?_
          refine s_callVi X hR (m_field3 np _ p hp) rfl 11 (by decide) (o66 np) (k66 np) rfl u1160 u1157 u1159 qp41 u12 hyX11_field (by decide) (by decide) (Nat.le_of_ble_eq_true rfl) dX11_markOf_82 (fun v_82 m_82 h_82 => ?_)
          obtain ⟨e1, e2⟩ := h_82; have e1 := e1.symm; have e2 := e2.symm; subst e1; subst e2
          refine j_goto X 90 dX11_markOf_85 (by decide) ?_
          refine j_nrm _ (by first | exact jmx_t c_75 | exact jmx_f c_75) ?_
          refine j_istore X dX11_markOf_90 (by decide) ?_
          refine j_iinc X dX11_markOf_92 rfl 1 rfl ?_
          refine j_goto X 60 dX11_markOf_95 (by decide) ?_
          refine j_iload X dX11_markOf_60 rfl ?_
          refine j_iconst X dX11_markOf_62 4 (by decide) ?_
          refine j_icmp_ge X 98 dX11_markOf_63 (by decide) (fun c_63 => ?_) (fun c_63 => absurd c_63 (by decide))
          refine j_iload_n X dX11_markOf_98 rfl ?_
          refine j_iload X dX11_markOf_99 rfl ?_
          refine j_iadd X dX11_markOf_101 ?_
          refine j_istore_n X dX11_markOf_102 (by decide) ?_
          refine j_iload_n X dX11_markOf_103 rfl ?_
          refine j_iconst X dX11_markOf_104 2 (by decide) ?_
          refine j_icmp_ne X 119 dX11_markOf_105 (by decide) (fun c_105 => ?_) (fun c_105 => absurd c_105 (by decide))
          refine j_iload_n X dX11_markOf_119 rfl ?_
          refine j_iconst X dX11_markOf_120 4 (by decide) ?_
          refine j_icmp_ne X 132 dX11_markOf_121 (by decide) (fun c_121 => ?_) (fun c_121 => absurd c_121 (by decide))
          refine j_iload_n X dX11_markOf_132 rfl ?_
          refine s_iret X hE hr dX11_markOf_133 rfl ?_
          first | exact ⟨rfl, rfl⟩ | (exfalso; clear hE hr hR X; (try simp only [lg_cmp_lt, lg_cmp_gt, lg_cmp_le, lg_cmp_ge] at *); (try simp (disch := omega) only [Int64.le_iff_toInt_le, Int64.lt_iff_toInt_lt, Int32.le_iff_toInt_le, Int32.lt_iff_toInt_lt, fa_eq, fa_lit, fa_litL, nI_toInt, pk_lT, Int32.toInt_toInt64, jadd64, jin, jnoneT] at *); omega)
set_option maxRecDepth 4000 in
set_option maxHeartbeats 1000000 in
theorem m_markOf4 (np : Nat) (mem : jMem) (p t : Nat) (hp : p < 12) (ht : mem 66 41 = nI t) (ht2 : t + 5 ≤ 16) : jPi yX11_markOf cX11_markOf 6 .int 4 [.ref 66, .int (nI p), .int 4] np mem (fun v c => v = nI p + 1000 ∧ c = jBeg (jBeg (mem) t 23) (t + 1) 20) := by
  refine jPi.of (own := RX11) rfl rfl (Nat.le_of_ble_eq_true rfl) (fun G X hR hr hE => ?_)
  refine j_iload_n X dX11_markOf_0 rfl ?_
  refine j_iconst X dX11_markOf_1 2 (by decide) ?_
  refine j_icmp_eq X 15 dX11_markOf_2 (by decide) (fun c_2 => absurd c_2 (by decide)) (fun c_2 => ?_)
  refine j_iload_n X dX11_markOf_5 rfl ?_
  refine j_iconst X dX11_markOf_6 3 (by decide) ?_
  refine j_icmp_eq X 15 dX11_markOf_7 (by decide) (fun c_7 => absurd c_7 (by decide)) (fun c_7 => ?_)
  refine j_iload_n X dX11_markOf_10 rfl ?_
  refine j_iconst X dX11_markOf_11 4 (by decide) ?_
  refine j_icmp_ne X 41 dX11_markOf_12 (by decide) (fun c_12 => absurd c_12 (by decide)) (fun c_12 => ?_)
  refine j_aload_n X dX11_markOf_15 rfl ?_
  refine j_iload_n X dX11_markOf_16 rfl ?_
  refine j_iconst X dX11_markOf_17 2 (by decide) ?_
  refine j_icmp_ne X 26 dX11_markOf_18 (by decide) (fun c_18 => ?_) (fun c_18 => absurd c_18 (by decide))
  refine j_iload_n X dX11_markOf_26 rfl ?_
  refine j_iconst X dX11_markOf_27 3 (by decide) ?_
  refine j_icmp_ne X 36 dX11_markOf_28 (by decide) (fun c_28 => ?_) (fun c_28 => absurd c_28 (by decide))
  refine j_bipush X dX11_markOf_36 23 (by decide) ?_
  refine s_callVv X hR (m_began np _ _ t ht (by omega)) rfl 11 (by decide) (o66 np) (k66 np) rfl u1430 u1427 u1429 qp68 u12 hyX11_began (by decide) (by decide) (Nat.le_of_ble_eq_true rfl) dX11_markOf_38 (fun m_38 h_38 => ?_)
  have h_38 := h_38.symm; subst h_38
  refine j_aload_n X dX11_markOf_41 rfl ?_
  refine j_bipush X dX11_markOf_42 20 (by decide) ?_
  refine s_callVv X hR (m_began np _ _ (t + 1) rfl (by omega)) rfl 11 (by decide) (o66 np) (k66 np) rfl u1430 u1427 u1429 qp68 u12 hyX11_began (by decide) (by decide) (Nat.le_of_ble_eq_true rfl) dX11_markOf_44 (fun m_44 h_44 => ?_)
  have h_44 := h_44.symm; subst h_44
  refine j_iload_n X dX11_markOf_47 rfl ?_
  refine j_istore_n X dX11_markOf_48 (by decide) ?_
  refine j_iload_n X dX11_markOf_49 rfl ?_
  refine j_iconst X dX11_markOf_50 3 (by decide) ?_
  refine j_icmp_ne X 103 dX11_markOf_51 (by decide) (fun c_51 => ?_) (fun c_51 => absurd c_51 (by decide))
  refine j_iload_n X dX11_markOf_103 rfl ?_
  refine j_iconst X dX11_markOf_104 2 (by decide) ?_
  refine j_icmp_ne X 119 dX11_markOf_105 (by decide) (fun c_105 => ?_) (fun c_105 => absurd c_105 (by decide))
  refine j_iload_n X dX11_markOf_119 rfl ?_
  refine j_iconst X dX11_markOf_120 4 (by decide) ?_
  refine j_icmp_ne X 132 dX11_markOf_121 (by decide) (fun c_121 => absurd c_121 (by decide)) (fun c_121 => ?_)
  refine j_iload_n X dX11_markOf_124 rfl ?_
  refine j_sipush X dX11_markOf_125 1000 (by decide) ?_
  refine j_iadd X dX11_markOf_128 ?_
  refine j_goto X 133 dX11_markOf_129 (by decide) ?_
  refine s_iret X hE hr dX11_markOf_133 rfl ?_
  first | exact ⟨rfl, rfl⟩ | (exfalso; clear hE hr hR X; (try simp only [lg_cmp_lt, lg_cmp_gt, lg_cmp_le, lg_cmp_ge] at *); (try simp (disch := omega) only [Int64.le_iff_toInt_le, Int64.lt_iff_toInt_lt, Int32.le_iff_toInt_le, Int32.lt_iff_toInt_lt, fa_eq, fa_lit, fa_litL, nI_toInt, pk_lT, Int32.toInt_toInt64, jadd64, jin, jnoneT] at *); omega)
set_option maxRecDepth 4000 in
set_option maxHeartbeats 1000000 in
theorem m_markOf5 (np : Nat) (mem : jMem) (p t : Nat) (hp : p < 12) (ht : mem 66 41 = nI t) (ht2 : t + 5 ≤ 16) : jPi yX11_markOf cX11_markOf 6 .int 4 [.ref 66, .int (nI p), .int 5] np mem (fun v c => v = nI p ∧ c = jBeg (mem) t 20) := by
  refine jPi.of (own := RX11) rfl rfl (Nat.le_of_ble_eq_true rfl) (fun G X hR hr hE => ?_)
  refine j_iload_n X dX11_markOf_0 rfl ?_
  refine j_iconst X dX11_markOf_1 2 (by decide) ?_
  refine j_icmp_eq X 15 dX11_markOf_2 (by decide) (fun c_2 => absurd c_2 (by decide)) (fun c_2 => ?_)
  refine j_iload_n X dX11_markOf_5 rfl ?_
  refine j_iconst X dX11_markOf_6 3 (by decide) ?_
  refine j_icmp_eq X 15 dX11_markOf_7 (by decide) (fun c_7 => absurd c_7 (by decide)) (fun c_7 => ?_)
  refine j_iload_n X dX11_markOf_10 rfl ?_
  refine j_iconst X dX11_markOf_11 4 (by decide) ?_
  refine j_icmp_ne X 41 dX11_markOf_12 (by decide) (fun c_12 => ?_) (fun c_12 => absurd c_12 (by decide))
  refine j_aload_n X dX11_markOf_41 rfl ?_
  refine j_bipush X dX11_markOf_42 20 (by decide) ?_
  refine s_callVv X hR (m_began np _ _ t ht (by omega)) rfl 11 (by decide) (o66 np) (k66 np) rfl u1430 u1427 u1429 qp68 u12 hyX11_began (by decide) (by decide) (Nat.le_of_ble_eq_true rfl) dX11_markOf_44 (fun m_44 h_44 => ?_)
  have h_44 := h_44.symm; subst h_44
  refine j_iload_n X dX11_markOf_47 rfl ?_
  refine j_istore_n X dX11_markOf_48 (by decide) ?_
  refine j_iload_n X dX11_markOf_49 rfl ?_
  refine j_iconst X dX11_markOf_50 3 (by decide) ?_
  refine j_icmp_ne X 103 dX11_markOf_51 (by decide) (fun c_51 => ?_) (fun c_51 => absurd c_51 (by decide))
  refine j_iload_n X dX11_markOf_103 rfl ?_
  refine j_iconst X dX11_markOf_104 2 (by decide) ?_
  refine j_icmp_ne X 119 dX11_markOf_105 (by decide) (fun c_105 => ?_) (fun c_105 => absurd c_105 (by decide))
  refine j_iload_n X dX11_markOf_119 rfl ?_
  refine j_iconst X dX11_markOf_120 4 (by decide) ?_
  refine j_icmp_ne X 132 dX11_markOf_121 (by decide) (fun c_121 => ?_) (fun c_121 => absurd c_121 (by decide))
  refine j_iload_n X dX11_markOf_132 rfl ?_
  refine s_iret X hE hr dX11_markOf_133 rfl ?_
  first | exact ⟨rfl, rfl⟩ | (exfalso; clear hE hr hR X; (try simp only [lg_cmp_lt, lg_cmp_gt, lg_cmp_le, lg_cmp_ge] at *); (try simp (disch := omega) only [Int64.le_iff_toInt_le, Int64.lt_iff_toInt_lt, Int32.le_iff_toInt_le, Int32.lt_iff_toInt_lt, fa_eq, fa_lit, fa_litL, nI_toInt, pk_lT, Int32.toInt_toInt64, jadd64, jin, jnoneT] at *); omega)
set_option maxRecDepth 4000 in
set_option maxHeartbeats 1000000 in
theorem m_sizeOf0 (np : Nat) (mem : jMem) (p t : Nat) (hp : p < 12) (ht : mem 66 41 = nI t) (ht2 : t + 7 ≤ 16) : jPi yX11_sizeOf cX11_sizeOf 4 .int 5 [.ref 66, .int (nI p), .int 0] np mem (fun v c => v = (mem 74 (9 * p + 4) - mem 74 (9 * p + 3) + 1) ∧ c = jBeg (mem) t 10) := by
  refine jPi.of (own := RX11) rfl rfl (Nat.le_of_ble_eq_true rfl) (fun G X hR hr hE => ?_)
  refine j_iload_n X dX11_sizeOf_0 rfl ?_
  refine j_iconst X dX11_sizeOf_1 1 (by decide) ?_
  refine s_callSi X hR (m_isOf np _ _ _) rfl u1414 u1412 u1413 u12 hyX11_isOf (by decide) (by decide) (Nat.le_of_ble_eq_true rfl) dX11_sizeOf_2 (fun v_2 m_2 h_2 => ?_)
  obtain ⟨e1, e2⟩ := h_2; have e1 := e1.symm; have e2 := e2.symm; subst e1; subst e2
  refine j_ifb_eq X 15 dX11_sizeOf_5 (by decide) (fun c_5 => ?_) (fun c_5 => absurd c_5 (by decide))
  refine j_iload_n X dX11_sizeOf_15 rfl ?_
  refine j_iconst X dX11_sizeOf_16 3 (by decide) ?_
  refine j_icmp_eq X 25 dX11_sizeOf_17 (by decide) (fun c_17 => absurd c_17 (by decide)) (fun c_17 => ?_)
  refine j_iload_n X dX11_sizeOf_20 rfl ?_
  refine j_iconst X dX11_sizeOf_21 5 (by decide) ?_
  refine j_icmp_ne X 41 dX11_sizeOf_22 (by decide) (fun c_22 => ?_) (fun c_22 => absurd c_22 (by decide))
  refine j_aload_n X dX11_sizeOf_41 rfl ?_
  refine j_iload_n X dX11_sizeOf_42 rfl ?_
  refine s_callVi X hR (m_daysOf np _ p t hp ht (by omega)) rfl 11 (by decide) (o66 np) (k66 np) rfl u1434 u1431 u1433 qp69 u12 hyX11_daysOf (by decide) (by decide) (Nat.le_of_ble_eq_true rfl) dX11_sizeOf_43 (fun v_43 m_43 h_43 => ?_)
  obtain ⟨e1, e2⟩ := h_43; have e1 := e1.symm; have e2 := e2.symm; subst e1; subst e2
  refine j_istore_n X dX11_sizeOf_46 (by decide) ?_
  refine j_iload_n X dX11_sizeOf_47 rfl ?_
  refine j_iconst X dX11_sizeOf_48 3 (by decide) ?_
  refine j_icmp_ne X 63 dX11_sizeOf_49 (by decide) (fun c_49 => ?_) (fun c_49 => absurd c_49 (by decide))
  refine j_iload_n X dX11_sizeOf_63 rfl ?_
  refine j_iconst X dX11_sizeOf_64 5 (by decide) ?_
  refine j_icmp_ne X 73 dX11_sizeOf_65 (by decide) (fun c_65 => ?_) (fun c_65 => absurd c_65 (by decide))
  refine j_iload_n X dX11_sizeOf_73 rfl ?_
  refine s_iret X hE hr dX11_sizeOf_74 rfl ?_
  first | exact ⟨rfl, rfl⟩ | (exfalso; clear hE hr hR X; (try simp only [lg_cmp_lt, lg_cmp_gt, lg_cmp_le, lg_cmp_ge] at *); (try simp (disch := omega) only [Int64.le_iff_toInt_le, Int64.lt_iff_toInt_lt, Int32.le_iff_toInt_le, Int32.lt_iff_toInt_lt, fa_eq, fa_lit, fa_litL, nI_toInt, pk_lT, Int32.toInt_toInt64, jadd64, jin, jnoneT] at *); omega)
set_option maxRecDepth 4000 in
set_option maxHeartbeats 1000000 in
theorem m_sizeOf1 (np : Nat) (mem : jMem) (p t : Nat) (hp : p < 12) (ht : mem 66 41 = nI t) (ht2 : t + 7 ≤ 16) : jPi yX11_sizeOf cX11_sizeOf 4 .int 5 [.ref 66, .int (nI p), .int 1] np mem (fun v c => v = (mem 74 (9 * p + 4) - mem 74 (9 * p + 3) + 1) + mem 74 (9 * p + 5) ∧ c = jBeg (jBeg (mem) t 11) (t + 1) 10) := by
  refine jPi.of (own := RX11) rfl rfl (Nat.le_of_ble_eq_true rfl) (fun G X hR hr hE => ?_)
  refine j_iload_n X dX11_sizeOf_0 rfl ?_
  refine j_iconst X dX11_sizeOf_1 1 (by decide) ?_
  refine s_callSi X hR (m_isOf np _ _ _) rfl u1414 u1412 u1413 u12 hyX11_isOf (by decide) (by decide) (Nat.le_of_ble_eq_true rfl) dX11_sizeOf_2 (fun v_2 m_2 h_2 => ?_)
  obtain ⟨e1, e2⟩ := h_2; have e1 := e1.symm; have e2 := e2.symm; subst e1; subst e2
  refine j_ifb_eq X 15 dX11_sizeOf_5 (by decide) (fun c_5 => absurd c_5 (by decide)) (fun c_5 => ?_)
  refine j_aload_n X dX11_sizeOf_8 rfl ?_
  refine j_iload_n X dX11_sizeOf_9 rfl ?_
  refine j_iload_n X dX11_sizeOf_10 rfl ?_
  refine s_callVi X hR (m_stampSize1 np _ p t hp ht (by omega)) rfl 11 (by decide) (o66 np) (k66 np) rfl u1426 u1423 u1425 qp67 u12 hyX11_stampSize (by decide) (by decide) (Nat.le_of_ble_eq_true rfl) dX11_sizeOf_11 (fun v_11 m_11 h_11 => ?_)
  obtain ⟨e1, e2⟩ := h_11; have e1 := e1.symm; have e2 := e2.symm; subst e1; subst e2
  refine s_iret X hE hr dX11_sizeOf_14 rfl ?_
  first | exact ⟨rfl, rfl⟩ | (exfalso; clear hE hr hR X; (try simp only [lg_cmp_lt, lg_cmp_gt, lg_cmp_le, lg_cmp_ge] at *); (try simp (disch := omega) only [Int64.le_iff_toInt_le, Int64.lt_iff_toInt_lt, Int32.le_iff_toInt_le, Int32.lt_iff_toInt_lt, fa_eq, fa_lit, fa_litL, nI_toInt, pk_lT, Int32.toInt_toInt64, jadd64, jin, jnoneT] at *); omega)
set_option maxRecDepth 4000 in
set_option maxHeartbeats 1000000 in
theorem m_sizeOf2 (np : Nat) (mem : jMem) (p t : Nat) (hp : p < 12) (ht : mem 66 41 = nI t) (ht2 : t + 7 ≤ 16) : jPi yX11_sizeOf cX11_sizeOf 4 .int 5 [.ref 66, .int (nI p), .int 2] np mem (fun v c => v = 2 * ((mem 74 (9 * p + 4) - mem 74 (9 * p + 3) + 1) + mem 74 (9 * p + 5)) ∧ c = jBeg (jBeg (jBeg mem t 12) (t + 1) 11) (t + 2) 10) := by
  refine jPi.of (own := RX11) rfl rfl (Nat.le_of_ble_eq_true rfl) (fun G X hR hr hE => ?_)
  refine j_iload_n X dX11_sizeOf_0 rfl ?_
  refine j_iconst X dX11_sizeOf_1 1 (by decide) ?_
  refine s_callSi X hR (m_isOf np _ _ _) rfl u1414 u1412 u1413 u12 hyX11_isOf (by decide) (by decide) (Nat.le_of_ble_eq_true rfl) dX11_sizeOf_2 (fun v_2 m_2 h_2 => ?_)
  obtain ⟨e1, e2⟩ := h_2; have e1 := e1.symm; have e2 := e2.symm; subst e1; subst e2
  refine j_ifb_eq X 15 dX11_sizeOf_5 (by decide) (fun c_5 => absurd c_5 (by decide)) (fun c_5 => ?_)
  refine j_aload_n X dX11_sizeOf_8 rfl ?_
  refine j_iload_n X dX11_sizeOf_9 rfl ?_
  refine j_iload_n X dX11_sizeOf_10 rfl ?_
  refine s_callVi X hR (m_stampSize2 np _ p t hp ht (by omega)) rfl 11 (by decide) (o66 np) (k66 np) rfl u1426 u1423 u1425 qp67 u12 hyX11_stampSize (by decide) (by decide) (Nat.le_of_ble_eq_true rfl) dX11_sizeOf_11 (fun v_11 m_11 h_11 => ?_)
  obtain ⟨e1, e2⟩ := h_11; have e1 := e1.symm; have e2 := e2.symm; subst e1; subst e2
  refine s_iret X hE hr dX11_sizeOf_14 rfl ?_
  first | exact ⟨rfl, rfl⟩ | (exfalso; clear hE hr hR X; (try simp only [lg_cmp_lt, lg_cmp_gt, lg_cmp_le, lg_cmp_ge] at *); (try simp (disch := omega) only [Int64.le_iff_toInt_le, Int64.lt_iff_toInt_lt, Int32.le_iff_toInt_le, Int32.lt_iff_toInt_lt, fa_eq, fa_lit, fa_litL, nI_toInt, pk_lT, Int32.toInt_toInt64, jadd64, jin, jnoneT] at *); omega)
set_option maxRecDepth 4000 in
set_option maxHeartbeats 1000000 in
theorem m_sizeOf3 (np : Nat) (mem : jMem) (p t : Nat) (hp : p < 12) (ht : mem 66 41 = nI t) (ht2 : t + 7 ≤ 16) : jPi yX11_sizeOf cX11_sizeOf 4 .int 5 [.ref 66, .int (nI p), .int 3] np mem (fun v c => v = (mem 74 (9 * p + 4) - mem 74 (9 * p + 3) + 1) + (nI p + jMax4 (mem 74 (9 * p + 5)) (mem 74 (9 * p + 6)) (mem 74 (9 * p + 7)) (mem 74 (9 * p + 8))) ∧ c = jBeg (jBeg (jBeg (jBeg mem t 13) (t + 1) 10) (t + 2) 22) (t + 3) 20) := by
  refine jPi.of (own := RX11) rfl rfl (Nat.le_of_ble_eq_true rfl) (fun G X hR hr hE => ?_)
  refine j_iload_n X dX11_sizeOf_0 rfl ?_
  refine j_iconst X dX11_sizeOf_1 1 (by decide) ?_
  refine s_callSi X hR (m_isOf np _ _ _) rfl u1414 u1412 u1413 u12 hyX11_isOf (by decide) (by decide) (Nat.le_of_ble_eq_true rfl) dX11_sizeOf_2 (fun v_2 m_2 h_2 => ?_)
  obtain ⟨e1, e2⟩ := h_2; have e1 := e1.symm; have e2 := e2.symm; subst e1; subst e2
  refine j_ifb_eq X 15 dX11_sizeOf_5 (by decide) (fun c_5 => ?_) (fun c_5 => absurd c_5 (by decide))
  refine j_iload_n X dX11_sizeOf_15 rfl ?_
  refine j_iconst X dX11_sizeOf_16 3 (by decide) ?_
  refine j_icmp_eq X 25 dX11_sizeOf_17 (by decide) (fun c_17 => ?_) (fun c_17 => absurd c_17 (by decide))
  refine j_aload_n X dX11_sizeOf_25 rfl ?_
  refine j_iload_n X dX11_sizeOf_26 rfl ?_
  refine j_iconst X dX11_sizeOf_27 3 (by decide) ?_
  refine j_icmp_ne X 36 dX11_sizeOf_28 (by decide) (fun c_28 => absurd c_28 (by decide)) (fun c_28 => ?_)
  refine j_bipush X dX11_sizeOf_31 13 (by decide) ?_
  refine j_goto X 38 dX11_sizeOf_33 (by decide) ?_
  refine s_callVv X hR (m_began np _ _ t ht (by omega)) rfl 11 (by decide) (o66 np) (k66 np) rfl u1430 u1427 u1429 qp68 u12 hyX11_began (by decide) (by decide) (Nat.le_of_ble_eq_true rfl) dX11_sizeOf_38 (fun m_38 h_38 => ?_)
  have h_38 := h_38.symm; subst h_38
  refine j_aload_n X dX11_sizeOf_41 rfl ?_
  refine j_iload_n X dX11_sizeOf_42 rfl ?_
  refine s_callVi X hR (m_daysOf np _ p (t + 1) hp rfl (by omega)) rfl 11 (by decide) (o66 np) (k66 np) rfl u1434 u1431 u1433 qp69 u12 hyX11_daysOf (by decide) (by decide) (Nat.le_of_ble_eq_true rfl) dX11_sizeOf_43 (fun v_43 m_43 h_43 => ?_)
  obtain ⟨e1, e2⟩ := h_43; have e1 := e1.symm; have e2 := e2.symm; subst e1; subst e2
  refine j_istore_n X dX11_sizeOf_46 (by decide) ?_
  refine j_iload_n X dX11_sizeOf_47 rfl ?_
  refine j_iconst X dX11_sizeOf_48 3 (by decide) ?_
  refine j_icmp_ne X 63 dX11_sizeOf_49 (by decide) (fun c_49 => absurd c_49 (by decide)) (fun c_49 => ?_)
  refine j_iload_n X dX11_sizeOf_52 rfl ?_
  refine j_aload_n X dX11_sizeOf_53 rfl ?_
  refine j_iload_n X dX11_sizeOf_54 rfl ?_
  refine j_iload_n X dX11_sizeOf_55 rfl ?_
  refine s_callVi X hR (m_markOf3 np _ p (t + 2) hp rfl (by omega)) rfl 11 (by decide) (o66 np) (k66 np) rfl u1438 u1435 u1437 qp70 u12 hyX11_markOf (by decide) (by decide) (Nat.le_of_ble_eq_true rfl) dX11_sizeOf_56 (fun v_56 m_56 h_56 => ?_)
  obtain ⟨e1, e2⟩ := h_56; have e1 := e1.symm; have e2 := e2.symm; subst e1; subst e2
  refine j_iadd X dX11_sizeOf_59 ?_
  refine j_goto X 74 dX11_sizeOf_60 (by decide) ?_
  refine s_iret X hE hr dX11_sizeOf_74 rfl ?_
  first | exact ⟨rfl, rfl⟩ | (exfalso; clear hE hr hR X; (try simp only [lg_cmp_lt, lg_cmp_gt, lg_cmp_le, lg_cmp_ge] at *); (try simp (disch := omega) only [Int64.le_iff_toInt_le, Int64.lt_iff_toInt_lt, Int32.le_iff_toInt_le, Int32.lt_iff_toInt_lt, fa_eq, fa_lit, fa_litL, nI_toInt, pk_lT, Int32.toInt_toInt64, jadd64, jin, jnoneT] at *); omega)
set_option maxRecDepth 4000 in
set_option maxHeartbeats 1000000 in
theorem m_sizeOf4 (np : Nat) (mem : jMem) (p t : Nat) (hp : p < 12) (ht : mem 66 41 = nI t) (ht2 : t + 7 ≤ 16) : jPi yX11_sizeOf cX11_sizeOf 4 .int 5 [.ref 66, .int (nI p), .int 4] np mem (fun v c => v = (mem 74 (9 * p + 4) - mem 74 (9 * p + 3) + 1) ∧ c = jBeg (mem) t 10) := by
  refine jPi.of (own := RX11) rfl rfl (Nat.le_of_ble_eq_true rfl) (fun G X hR hr hE => ?_)
  refine j_iload_n X dX11_sizeOf_0 rfl ?_
  refine j_iconst X dX11_sizeOf_1 1 (by decide) ?_
  refine s_callSi X hR (m_isOf np _ _ _) rfl u1414 u1412 u1413 u12 hyX11_isOf (by decide) (by decide) (Nat.le_of_ble_eq_true rfl) dX11_sizeOf_2 (fun v_2 m_2 h_2 => ?_)
  obtain ⟨e1, e2⟩ := h_2; have e1 := e1.symm; have e2 := e2.symm; subst e1; subst e2
  refine j_ifb_eq X 15 dX11_sizeOf_5 (by decide) (fun c_5 => ?_) (fun c_5 => absurd c_5 (by decide))
  refine j_iload_n X dX11_sizeOf_15 rfl ?_
  refine j_iconst X dX11_sizeOf_16 3 (by decide) ?_
  refine j_icmp_eq X 25 dX11_sizeOf_17 (by decide) (fun c_17 => absurd c_17 (by decide)) (fun c_17 => ?_)
  refine j_iload_n X dX11_sizeOf_20 rfl ?_
  refine j_iconst X dX11_sizeOf_21 5 (by decide) ?_
  refine j_icmp_ne X 41 dX11_sizeOf_22 (by decide) (fun c_22 => ?_) (fun c_22 => absurd c_22 (by decide))
  refine j_aload_n X dX11_sizeOf_41 rfl ?_
  refine j_iload_n X dX11_sizeOf_42 rfl ?_
  refine s_callVi X hR (m_daysOf np _ p t hp ht (by omega)) rfl 11 (by decide) (o66 np) (k66 np) rfl u1434 u1431 u1433 qp69 u12 hyX11_daysOf (by decide) (by decide) (Nat.le_of_ble_eq_true rfl) dX11_sizeOf_43 (fun v_43 m_43 h_43 => ?_)
  obtain ⟨e1, e2⟩ := h_43; have e1 := e1.symm; have e2 := e2.symm; subst e1; subst e2
  refine j_istore_n X dX11_sizeOf_46 (by decide) ?_
  refine j_iload_n X dX11_sizeOf_47 rfl ?_
  refine j_iconst X dX11_sizeOf_48 3 (by decide) ?_
  refine j_icmp_ne X 63 dX11_sizeOf_49 (by decide) (fun c_49 => ?_) (fun c_49 => absurd c_49 (by decide))
  refine j_iload_n X dX11_sizeOf_63 rfl ?_
  refine j_iconst X dX11_sizeOf_64 5 (by decide) ?_
  refine j_icmp_ne X 73 dX11_sizeOf_65 (by decide) (fun c_65 => ?_) (fun c_65 => absurd c_65 (by decide))
  refine j_iload_n X dX11_sizeOf_73 rfl ?_
  refine s_iret X hE hr dX11_sizeOf_74 rfl ?_
  first | exact ⟨rfl, rfl⟩ | (exfalso; clear hE hr hR X; (try simp only [lg_cmp_lt, lg_cmp_gt, lg_cmp_le, lg_cmp_ge] at *); (try simp (disch := omega) only [Int64.le_iff_toInt_le, Int64.lt_iff_toInt_lt, Int32.le_iff_toInt_le, Int32.lt_iff_toInt_lt, fa_eq, fa_lit, fa_litL, nI_toInt, pk_lT, Int32.toInt_toInt64, jadd64, jin, jnoneT] at *); omega)
set_option maxRecDepth 4000 in
set_option maxHeartbeats 1000000 in
theorem m_sizeOf5 (np : Nat) (mem : jMem) (p t : Nat) (hp : p < 12) (ht : mem 66 41 = nI t) (ht2 : t + 7 ≤ 16) : jPi yX11_sizeOf cX11_sizeOf 4 .int 5 [.ref 66, .int (nI p), .int 5] np mem (fun v c => v = -(mem 74 (9 * p + 4) - mem 74 (9 * p + 3) + 1) ∧ c = jBeg (jBeg mem t 14) (t + 1) 10) := by
  refine jPi.of (own := RX11) rfl rfl (Nat.le_of_ble_eq_true rfl) (fun G X hR hr hE => ?_)
  refine j_iload_n X dX11_sizeOf_0 rfl ?_
  refine j_iconst X dX11_sizeOf_1 1 (by decide) ?_
  refine s_callSi X hR (m_isOf np _ _ _) rfl u1414 u1412 u1413 u12 hyX11_isOf (by decide) (by decide) (Nat.le_of_ble_eq_true rfl) dX11_sizeOf_2 (fun v_2 m_2 h_2 => ?_)
  obtain ⟨e1, e2⟩ := h_2; have e1 := e1.symm; have e2 := e2.symm; subst e1; subst e2
  refine j_ifb_eq X 15 dX11_sizeOf_5 (by decide) (fun c_5 => ?_) (fun c_5 => absurd c_5 (by decide))
  refine j_iload_n X dX11_sizeOf_15 rfl ?_
  refine j_iconst X dX11_sizeOf_16 3 (by decide) ?_
  refine j_icmp_eq X 25 dX11_sizeOf_17 (by decide) (fun c_17 => absurd c_17 (by decide)) (fun c_17 => ?_)
  refine j_iload_n X dX11_sizeOf_20 rfl ?_
  refine j_iconst X dX11_sizeOf_21 5 (by decide) ?_
  refine j_icmp_ne X 41 dX11_sizeOf_22 (by decide) (fun c_22 => absurd c_22 (by decide)) (fun c_22 => ?_)
  refine j_aload_n X dX11_sizeOf_25 rfl ?_
  refine j_iload_n X dX11_sizeOf_26 rfl ?_
  refine j_iconst X dX11_sizeOf_27 3 (by decide) ?_
  refine j_icmp_ne X 36 dX11_sizeOf_28 (by decide) (fun c_28 => ?_) (fun c_28 => absurd c_28 (by decide))
  refine j_bipush X dX11_sizeOf_36 14 (by decide) ?_
  refine s_callVv X hR (m_began np _ _ t ht (by omega)) rfl 11 (by decide) (o66 np) (k66 np) rfl u1430 u1427 u1429 qp68 u12 hyX11_began (by decide) (by decide) (Nat.le_of_ble_eq_true rfl) dX11_sizeOf_38 (fun m_38 h_38 => ?_)
  have h_38 := h_38.symm; subst h_38
  refine j_aload_n X dX11_sizeOf_41 rfl ?_
  refine j_iload_n X dX11_sizeOf_42 rfl ?_
  refine s_callVi X hR (m_daysOf np _ p (t + 1) hp rfl (by omega)) rfl 11 (by decide) (o66 np) (k66 np) rfl u1434 u1431 u1433 qp69 u12 hyX11_daysOf (by decide) (by decide) (Nat.le_of_ble_eq_true rfl) dX11_sizeOf_43 (fun v_43 m_43 h_43 => ?_)
  obtain ⟨e1, e2⟩ := h_43; have e1 := e1.symm; have e2 := e2.symm; subst e1; subst e2
  refine j_istore_n X dX11_sizeOf_46 (by decide) ?_
  refine j_iload_n X dX11_sizeOf_47 rfl ?_
  refine j_iconst X dX11_sizeOf_48 3 (by decide) ?_
  refine j_icmp_ne X 63 dX11_sizeOf_49 (by decide) (fun c_49 => ?_) (fun c_49 => absurd c_49 (by decide))
  refine j_iload_n X dX11_sizeOf_63 rfl ?_
  refine j_iconst X dX11_sizeOf_64 5 (by decide) ?_
  refine j_icmp_ne X 73 dX11_sizeOf_65 (by decide) (fun c_65 => absurd c_65 (by decide)) (fun c_65 => ?_)
  refine j_iload_n X dX11_sizeOf_68 rfl ?_
  refine j_ineg X dX11_sizeOf_69 ?_
  refine j_goto X 74 dX11_sizeOf_70 (by decide) ?_
  refine s_iret X hE hr dX11_sizeOf_74 rfl ?_
  first | exact ⟨rfl, rfl⟩ | (exfalso; clear hE hr hR X; (try simp only [lg_cmp_lt, lg_cmp_gt, lg_cmp_le, lg_cmp_ge] at *); (try simp (disch := omega) only [Int64.le_iff_toInt_le, Int64.lt_iff_toInt_lt, Int32.le_iff_toInt_le, Int32.lt_iff_toInt_lt, fa_eq, fa_lit, fa_litL, nI_toInt, pk_lT, Int32.toInt_toInt64, jadd64, jin, jnoneT] at *); omega)
