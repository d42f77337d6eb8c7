theorem lorN (a b : Nat) : lN a ||| lN b = lN (a ||| b) := by
  apply Int64.toBitVec_inj.mp
  apply BitVec.eq_of_toNat_eq
  show ((BitVec.ofNat 64 a) ||| (BitVec.ofNat 64 b)).toNat = (BitVec.ofNat 64 (a ||| b)).toNat
  rw [BitVec.toNat_or, BitVec.toNat_ofNat, BitVec.toNat_ofNat, BitVec.toNat_ofNat, Nat.or_mod_two_pow]
theorem lN_natJ {n : Nat} (h : n < 2 ^ 64) : (lN n).toBitVec.toNat = n := by
  show (BitVec.ofNat 64 n).toNat = n
  rw [BitVec.toNat_ofNat]
  exact Nat.mod_eq_of_lt h
theorem lshl8 {a : Nat} (h : a < 2 ^ 56) : lN a <<< ((8 : Int32).toInt64 &&& 63) = lN (a * 256) := by
  apply Int64.toBitVec_inj.mp
  apply BitVec.eq_of_toNat_eq
  have e : (((8 : Int32).toInt64 &&& 63).toBitVec.smod 64).toNat = 8 := by decide
  show ((lN a).toBitVec <<< (((8 : Int32).toInt64 &&& 63).toBitVec.smod 64).toNat).toNat = (lN (a * 256)).toBitVec.toNat
  rw [e, BitVec.toNat_shiftLeft, Nat.shiftLeft_eq, lN_natJ (by omega), lN_natJ (by omega)]
  show a * 256 % 2 ^ 64 = a * 256
  omega
theorem lw8 {a b : Nat} (ha : a < 2 ^ 56) (hb : b < 256) : lN a <<< ((8 : Int32).toInt64 &&& 63) ||| (nI b).toInt64 = lN (a * 256 + b) := by
  rw [lshl8 ha, nI_l (by omega), lorN]
  have := Nat.two_pow_add_eq_or_of_lt (i := 8) (b := b) hb a
  rw [Nat.mul_comm a 256, show 256 * a + b = 256 * a ||| b from this]
def jWf (B : Nat → Nat) (f : Nat) : Nat → Nat
  | 0 => 0
  | k + 1 => jWf B f k * 256 + B (f + k)
theorem jWf_lt {B : Nat → Nat} {f : Nat} : ∀ k, (∀ i, i < k → B (f + i) < 256) → jWf B f k < 256 ^ k
  | 0, _ => by show 0 < 1; omega
  | k + 1, h => by
    have h1 := h k (by omega)
    have h2 := jWf_lt (B := B) (f := f) k (fun i hi => h i (by omega))
    show jWf B f k * 256 + B (f + k) < 256 ^ (k + 1)
    rw [Nat.pow_succ]
    omega
def tWd (B : Nat → Nat) (z p : Nat) : Nat := if tK B z p = 2 ∧ tN B z p - tF B z p < 8 then jWf B (tF B z p) (tN B z p - tF B z p) else 0
theorem tWd_lt {B : Nat → Nat} {z p : Nat} (hB : ∀ i, i < z → B i < 256) : tWd B z p < 2 ^ 62 := by
  unfold tWd
  by_cases h : tK B z p = 2 ∧ tN B z p - tF B z p < 8
  · rw [if_pos h]
    obtain ⟨-, -, h3, -⟩ := tK_2 h.1
    have h4 := jWf_lt (B := B) (f := tF B z p) (tN B z p - tF B z p) (fun i hi => hB _ (by omega))
    have h5 : 256 ^ (tN B z p - tF B z p) ≤ 256 ^ 7 := Nat.pow_le_pow_right (by omega) (by omega)
    omega
  · rw [if_neg h]; omega
def tAw (B : Nat → Nat) (z p : Nat) : Nat := if tWd B z p = 1718775661 then 0 else if tWd B z p = 439854918756 then 1 else if tWd B z p = 1870030194 then 2 else 3
/-- how a text is read, token by token: (mode, place, door, many or set, what, of, texts, the doors' store) -/
abbrev aSt : Type := Nat × Nat × Nat × Nat × Nat × Nat × Nat × (Nat → Nat)
def aUp (dn : Bool) (S : Nat → Nat) (i v : Nat) : Nat → Nat := if dn = true then (fun j => if j = i then v else S j) else S
def aWr (dn : Bool) (S : Nat → Nat) (d k w o b : Nat) : Nat → Nat := aUp dn (aUp dn (aUp dn S (8 + 8 * d + k) w) (40 + 8 * d + k) o) (72 + 8 * d + k) b
def aFl (B : Nat → Nat) (z p code : Nat) : aSt := (7, 0, 0, 0, code, tF B z p, 0, fun _ => 0)
def aF (B : Nat → Nat) (z : Nat) (dn : Bool) (s : aSt) : Option aSt := match s with
  | (0, p, d, k, w, o, c, S) => if tK B z p = 1 then none else if tWd B z p = 1685024626 then some (1, tN B z p, 0, 0, 0, 0, c, S) else if tWd B z p = 491394656372 then some (5, tN B z p, 0, 0, 0, 0, c, S) else some (aFl B z p 1)
  | (1, p, d, k, w, o, c, S) => if tK B z p = 3 then (if tV B z p ≤ 3 then some (2, tN B z p, tV B z p, 0, 0, 0, c, S) else some (aFl B z p 2)) else some (aFl B z p 1)
  | (2, p, d, k, w, o, c, S) => if tAw B z p = 3 then (if tK B z p = 4 then some (0, tN B z p, 0, 0, 0, 0, c + 1, aUp dn S d k) else some (aFl B z p 1)) else if k = 8 then some (aFl B z p 3) else some (3, tN B z p, d, k, tAw B z p, 0, c, S)
  | (3, p, d, k, w, o, c, S) => if tK B z p = 3 then (if tV B z p ≤ 3 then (if w = 2 then some (4, tN B z p, d, k, w, tV B z p, c, S) else some (2, tN B z p, d, k + 1, 0, 0, c, aWr dn S d k w (tV B z p) 0)) else some (aFl B z p 2)) else some (aFl B z p 1)
  | (4, p, d, k, w, o, c, S) => if tK B z p = 3 then (if tV B z p ≤ 999 then some (2, tN B z p, d, k + 1, 0, 0, c, aWr dn S d k w o (tV B z p)) else some (aFl B z p 2)) else some (aFl B z p 1)
  | (5, p, d, k, w, o, c, S) => if tK B z p = 3 then (if tV B z p ≤ 3 then some (6, tN B z p, tV B z p, 0, 0, 0, c, S) else some (aFl B z p 2)) else some (aFl B z p 1)
  | (6, p, d, k, w, o, c, S) => if tK B z p = 3 then (if tV B z p ≤ 3 then some (6, tN B z p, d, k ||| 2 ^ tV B z p, 0, 0, c, S) else some (aFl B z p 2)) else if tK B z p = 4 then some (0, tN B z p, 0, 0, 0, 0, c + 1, aUp dn S (4 + d) k) else some (aFl B z p 1)
  | _ => none
def aIt (f : aSt → Option aSt) : Nat → aSt → Option aSt
  | 0, a => some a
  | t + 1, a => (aIt f t a).bind f
def aR (f : aSt → Option aSt) (a b : aSt) : Prop := ∃ t, aIt f t a = some b
theorem aR.rf {f : aSt → Option aSt} {a : aSt} : aR f a a := ⟨0, rfl⟩
theorem aR.st {f : aSt → Option aSt} {a b c : aSt} (h : aR f a b) (h2 : f b = some c) : aR f a c := by
  obtain ⟨t, ht⟩ := h
  exact ⟨t + 1, by show (aIt f t a).bind f = some c; rw [ht]; exact h2⟩
theorem aIt_none {f : aSt → Option aSt} {a : aSt} {t : Nat} (h : aIt f t a = none) : ∀ k, aIt f (t + k) a = none
  | 0 => h
  | k + 1 => by
    show (aIt f (t + k) a).bind f = none
    rw [aIt_none h k]
    rfl
theorem aR_u {f : aSt → Option aSt} {a b c : aSt} (h : aR f a b) (hb : f b = none) (h2 : aR f a c) (hc : f c = none) : b = c := by
  obtain ⟨t, ht⟩ := h
  obtain ⟨u, hu⟩ := h2
  have n1 : aIt f (t + 1) a = none := by show (aIt f t a).bind f = none; rw [ht]; exact hb
  have n2 : aIt f (u + 1) a = none := by show (aIt f u a).bind f = none; rw [hu]; exact hc
  rcases Nat.lt_trichotomy t u with e | e | e
  · have := aIt_none n1 (u - (t + 1))
    rw [show t + 1 + (u - (t + 1)) = u by omega, hu] at this
    cases this
  · subst e
    rw [ht] at hu
    exact Option.some.inj hu
  · have := aIt_none n2 (t - (u + 1))
    rw [show u + 1 + (t - (u + 1)) = t by omega, ht] at this
    cases this
/-- a number that is not as told -/
def aNb (B : Nat → Nat) (z p most : Nat) : Prop := tK B z p = 3 ∧ tV B z p ≤ most
def aNc (B : Nat → Nat) (z p : Nat) : Nat := if tK B z p = 3 then 2 else 1
/-- the model stands at the token of p -/
def jTs (B : Nat → Nat) (z p : Nat) (mem : jMem) : Prop := jBy8 mem B z ∧ mem 66 24 = nI z ∧ p ≤ z ∧ jTm B z p (mem 66)
theorem jTs_mv {B : Nat → Nat} {z p p2 : Nat} {mem c : jMem} (h : jTs B z p mem) (h1 : jeq [66] mem c) (h2 : jso [25, 26, 27, 28] (mem 66) (c 66)) (h3 : jTm B z p2 (c 66)) (hp : p2 ≤ z) : jTs B z p2 c := by
  obtain ⟨a1, a2, a3, a4⟩ := h
  exact ⟨⟨a1.1, fun i hi => by rw [h1 85 (by decide)]; exact a1.2 i hi⟩, (h2 24 (by decide)).trans a2, hp, h3⟩
/-- what a number's reading leaves in the model -/
def jNq (B : Nat → Nat) (z p most : Nat) (mem : jMem) (v : Int32) (c : jMem) : Prop := (aNb B z p most ∧ v = nI (tV B z p) ∧ jeq [66] mem c ∧ jso [25, 26, 27, 28] (mem 66) (c 66) ∧ jTm B z (tN B z p) (c 66)) ∨ (¬ aNb B z p most ∧ jeq [66] mem c ∧ jso [29, 30] (mem 66) (c 66) ∧ c 66 29 = nI (aNc B z p) ∧ c 66 30 = nI (tF B z p))
theorem aNc_12 (B : Nat → Nat) (z p : Nat) : aNc B z p = 1 ∨ aNc B z p = 2 := by
  unfold aNc
  by_cases h : tK B z p = 3
  · rw [if_pos h]; exact Or.inr rfl
  · rw [if_neg h]; exact Or.inl rfl
set_option maxRecDepth 4000 in
set_option maxHeartbeats 1000000 in
theorem m_bad0 (np : Nat) (mem : jMem) (k : Int32) (hf : mem 66 29 = 0) : jPv yX11_bad cX11_bad 2 1 [.ref 66, .int k] np mem (fun c => c = jup (jup mem 66 29 k) 66 30 (mem 66 27)) := by
  refine jPv.of (own := RX11) rfl rfl (Nat.le_of_ble_eq_true rfl) (fun G X hR hr hE => ?_)
  refine j_aload_n X dX11_bad_0 rfl ?_
  refine j_getF X 11 29 (by decide) (by decide) rfl u979 (o66 np) (k66 np) (mem 66) rfl dX11_bad_1 ?_
  refine j_if_ne X 20 dX11_bad_4 (by decide) (fun c_4 => absurd hf c_4) (fun c_4 => ?_)
  refine j_aload_n X dX11_bad_7 rfl ?_
  refine j_iload_n X dX11_bad_8 rfl ?_
  refine j_putI X 11 29 (by decide) (by decide) rfl rfl rfl rfl u979 (o66 np) (k66 np) dX11_bad_9 ?_
  refine j_aload_n X dX11_bad_12 rfl ?_
  refine j_aload_n X dX11_bad_13 rfl ?_
  refine j_getF X 11 27 (by decide) (by decide) rfl u977 (o66 np) (k66 np) _ rfl dX11_bad_14 ?_
  refine j_nrm (mem 66 27) (jup_n (by decide)) ?_
  refine j_putI X 11 30 (by decide) (by decide) rfl rfl rfl rfl u980 (o66 np) (k66 np) dX11_bad_17 ?_
  refine s_vret X hE hr dX11_bad_20 ?_
  first | exact rfl | (exfalso; clear hE hr hR X; (try simp only [lg_cmp_lt, lg_cmp_gt, lg_cmp_le, lg_cmp_ge] at *); (try simp (disch := omega) only [Int64.le_iff_toInt_le, Int64.lt_iff_toInt_lt, Int32.le_iff_toInt_le, Int32.lt_iff_toInt_lt, fa_eq, fa_lit, fa_litL, nI_toInt, pk_lT, Int32.toInt_toInt64, jadd64, jin, jnoneT] at *); omega)
set_option maxRecDepth 4000 in
set_option maxHeartbeats 1000000 in
theorem m_bad1 (np : Nat) (mem : jMem) (k : Int32) (hf : ¬ mem 66 29 = 0) : jPv yX11_bad cX11_bad 2 1 [.ref 66, .int k] np mem (fun c => c = mem) := by
  refine jPv.of (own := RX11) rfl rfl (Nat.le_of_ble_eq_true rfl) (fun G X hR hr hE => ?_)
  refine j_aload_n X dX11_bad_0 rfl ?_
  refine j_getF X 11 29 (by decide) (by decide) rfl u979 (o66 np) (k66 np) (mem 66) rfl dX11_bad_1 ?_
  refine j_if_ne X 20 dX11_bad_4 (by decide) (fun c_4 => ?_) (fun c_4 => absurd c_4 hf)
  refine s_vret X hE hr dX11_bad_20 ?_
  first | exact rfl | (exfalso; clear hE hr hR X; (try simp only [lg_cmp_lt, lg_cmp_gt, lg_cmp_le, lg_cmp_ge] at *); (try simp (disch := omega) only [Int64.le_iff_toInt_le, Int64.lt_iff_toInt_lt, Int32.le_iff_toInt_le, Int32.lt_iff_toInt_lt, fa_eq, fa_lit, fa_litL, nI_toInt, pk_lT, Int32.toInt_toInt64, jadd64, jin, jnoneT] at *); omega)
set_option maxRecDepth 4000 in
set_option maxHeartbeats 1000000 in
theorem m_must_step (np : Nat) (mem : jMem) (p z : Nat) (B : Nat → Nat) (h : jTs B z p mem) (hf : mem 66 29 = 0) : jPv yX11_must cX11_must 2 3 [.ref 66, .int 1] np mem (fun c => jeq [66] mem c ∧ jso [25, 26, 27, 28] (mem 66) (c 66) ∧ jTm B z (tN B z p) (c 66)) := by
  refine jPv.of (own := RX11) rfl rfl (Nat.le_of_ble_eq_true rfl) (fun G X hR hr hE => ?_)
  refine j_iload_n X dX11_must_0 rfl ?_
  refine j_if_ne X 9 dX11_must_1 (by decide) (fun c_1 => ?_) (fun c_1 => absurd c_1 (by decide))
  refine j_aload_n X dX11_must_9 rfl ?_
  refine j_getF X 11 29 (by decide) (by decide) rfl u979 (o66 np) (k66 np) (mem 66) rfl dX11_must_10 ?_
  refine j_if_ne X 20 dX11_must_13 (by decide) (fun c_13 => absurd hf c_13) (fun c_13 => ?_)
  refine j_aload_n X dX11_must_16 rfl ?_
  refine s_callVv X hR (m_step np _ (tN B z p) z B h.1 h.2.1 (tN_le h.2.2.1) h.2.2.2.1) rfl 11 (by decide) (o66 np) (k66 np) rfl u1302 u1299 u1301 qp51 u12 hyX11_step (by decide) (by decide) (Nat.le_of_ble_eq_true rfl) dX11_must_17 (fun m_17 h_17 => ?_)
  refine s_vret X hE hr dX11_must_20 ?_
  exact h_17
set_option maxRecDepth 4000 in
set_option maxHeartbeats 1000000 in
theorem m_must_bad (np : Nat) (mem : jMem)  (hf : mem 66 29 = 0) : jPv yX11_must cX11_must 2 3 [.ref 66, .int 0] np mem (fun c => c = jup (jup mem 66 29 1) 66 30 (mem 66 27)) := by
  refine jPv.of (own := RX11) rfl rfl (Nat.le_of_ble_eq_true rfl) (fun G X hR hr hE => ?_)
  refine j_iload_n X dX11_must_0 rfl ?_
  refine j_if_ne X 9 dX11_must_1 (by decide) (fun c_1 => absurd c_1 (by decide)) (fun c_1 => ?_)
  refine j_aload_n X dX11_must_4 rfl ?_
  refine j_iconst X dX11_must_5 1 (by decide) ?_
  refine s_callVv X hR (m_bad0 np _ 1 hf) rfl 11 (by decide) (o66 np) (k66 np) rfl u1326 u1323 u1325 qp55 u12 hyX11_bad (by decide) (by decide) (Nat.le_of_ble_eq_true rfl) dX11_must_6 (fun m_6 h_6 => ?_)
  have h_6 := h_6.symm; subst h_6
  refine j_aload_n X dX11_must_9 rfl ?_
  refine j_getF X 11 29 (by decide) (by decide) rfl u979 (o66 np) (k66 np) _ rfl dX11_must_10 ?_
  refine j_nrm 1 (by rw [jup_n (by decide), jup_s]) ?_
  refine j_if_ne X 20 dX11_must_13 (by decide) (fun c_13 => ?_) (fun c_13 => ?_)
  · refine s_vret X hE hr dX11_must_20 ?_
    first | exact rfl | (exfalso; clear hE hr hR X; (try simp only [lg_cmp_lt, lg_cmp_gt, lg_cmp_le, lg_cmp_ge] at *); (try simp (disch := omega) only [Int64.le_iff_toInt_le, Int64.lt_iff_toInt_lt, Int32.le_iff_toInt_le, Int32.lt_iff_toInt_lt, fa_eq, fa_lit, fa_litL, nI_toInt, pk_lT, Int32.toInt_toInt64, jadd64, jin, jnoneT] at *); omega)
  · exact absurd c_13 (by decide)
set_option maxRecDepth 4000 in
set_option maxHeartbeats 1000000 in
theorem m_must_f (np : Nat) (mem : jMem)  (hf : ¬ mem 66 29 = 0) : jPv yX11_must cX11_must 2 3 [.ref 66, .int 1] np mem (fun c => c = mem) := by
  refine jPv.of (own := RX11) rfl rfl (Nat.le_of_ble_eq_true rfl) (fun G X hR hr hE => ?_)
  refine j_iload_n X dX11_must_0 rfl ?_
  refine j_if_ne X 9 dX11_must_1 (by decide) (fun c_1 => ?_) (fun c_1 => absurd c_1 (by decide))
  refine j_aload_n X dX11_must_9 rfl ?_
  refine j_getF X 11 29 (by decide) (by decide) rfl u979 (o66 np) (k66 np) (mem 66) rfl dX11_must_10 ?_
  refine j_if_ne X 20 dX11_must_13 (by decide) (fun c_13 => ?_) (fun c_13 => absurd c_13 hf)
  refine s_vret X hE hr dX11_must_20 ?_
  first | exact rfl | (exfalso; clear hE hr hR X; (try simp only [lg_cmp_lt, lg_cmp_gt, lg_cmp_le, lg_cmp_ge] at *); (try simp (disch := omega) only [Int64.le_iff_toInt_le, Int64.lt_iff_toInt_lt, Int32.le_iff_toInt_le, Int32.lt_iff_toInt_lt, fa_eq, fa_lit, fa_litL, nI_toInt, pk_lT, Int32.toInt_toInt64, jadd64, jin, jnoneT] at *); omega)
set_option maxRecDepth 4000 in
set_option maxHeartbeats 1000000 in
theorem m_word (np : Nat) (mem : jMem) (p z : Nat) (B : Nat → Nat) (h : jTs B z p mem) : jPl yX11_word cX11_word 4 1 [.ref 66] np mem (fun v c => v = lN (tWd B z p) ∧ c = mem) := by
  refine jPl.of (own := RX11) rfl rfl (Nat.le_of_ble_eq_true rfl) (fun G X hR hr hE => ?_)
  obtain ⟨h8, hz, hp, hT25, hT26, hT27, hT28⟩ := h
  have h300 := h8.1
  have hfn := tN_ge (B := B) (n := z) (p := p)
  have hnz := tN_le (B := B) hp
  have hkl := tK_lt B z p
  refine j_lconst X dX11_word_0 0 (by decide) ?_
  refine j_lstore_n X dX11_word_1 (by decide) ?_
  refine j_aload_n X dX11_word_2 rfl ?_
  refine j_getF X 11 27 (by decide) (by decide) rfl u977 (o66 np) (k66 np) (mem 66) rfl dX11_word_3 ?_
  refine j_nrm (nI (tF B z p)) hT27 ?_
  refine j_istore_n X dX11_word_6 (by decide) ?_
  have lp7 : ∀ (n : Nat) (k : Nat), tF B z p + k ≤ tN B z p → tN B z p + 1 ≤ tF B z p + k + n → (0 < k → tK B z p = 2 ∧ tN B z p - tF B z p < 8) → (¬ (tK B z p = 2 ∧ tN B z p - tF B z p < 8) → k = 0) → J G RX11 cX11_word 4 0 0 7 (jlv [some (.ref 66), some (.long (lN (jWf B (tF B z p) k))), none, some (.int (nI (tF B z p + k)))]) [] (jS np) (mem) := by
    intro n
    induction n with
    | zero =>
      intro k hk hn hst hk0
      exact absurd hn (by omega)
    | succ n ih7 =>
      intro k hk hn hst hk0
      refine j_iload_n X dX11_word_7 rfl ?_
      refine j_aload_n X dX11_word_8 rfl ?_
      refine j_getF X 11 28 (by decide) (by decide) rfl u978 (o66 np) (k66 np) (mem 66) rfl dX11_word_9 ?_
      refine j_nrm (nI (tN B z p)) hT28 ?_
      refine j_icmp_ge X 56 dX11_word_12 (by decide) (fun c_12 => ?_) (fun c_12 => ?_)
      · refine j_lload_n X dX11_word_56 rfl ?_
        refine s_lret X hE hr dX11_word_57 ?_
        refine ⟨?_, rfl⟩
        unfold tWd
        obtain rfl : k = tN B z p - tF B z p := by clear hE hr hR X h8; (try simp only [lg_cmp_lt, lg_cmp_gt, lg_cmp_le, lg_cmp_ge] at *); (try simp (disch := omega) only [Int64.le_iff_toInt_le, Int64.lt_iff_toInt_lt, Int32.le_iff_toInt_le, Int32.lt_iff_toInt_lt, fa_eq, fa_lit, fa_litL, nI_toInt, pk_lT, Int32.toInt_toInt64, jadd64, jin, jnoneT] at *); omega
        by_cases hq : tK B z p = 2 ∧ tN B z p - tF B z p < 8
        · rw [if_pos hq]
        · rw [if_neg hq]
          rcases Nat.eq_zero_or_pos (tN B z p - tF B z p) with e | e
          · rw [e]; rfl
          · exact absurd (hst e) hq
      · have hk2 : tF B z p + k < tN B z p := by clear hE hr hR X h8; (try simp only [lg_cmp_lt, lg_cmp_gt, lg_cmp_le, lg_cmp_ge] at *); (try simp (disch := omega) only [Int64.le_iff_toInt_le, Int64.lt_iff_toInt_lt, Int32.le_iff_toInt_le, Int32.lt_iff_toInt_lt, fa_eq, fa_lit, fa_litL, nI_toInt, pk_lT, Int32.toInt_toInt64, jadd64, jin, jnoneT] at *); omega
        refine j_aload_n X dX11_word_15 rfl ?_
        refine j_getF X 11 26 (by decide) (by decide) rfl u976 (o66 np) (k66 np) (mem 66) rfl dX11_word_16 ?_
        refine j_nrm (nI (tK B z p)) hT26 ?_
        refine j_iconst X dX11_word_19 2 (by decide) ?_
        refine j_icmp_ne X 56 dX11_word_20 (by decide) (fun c_20 => ?_) (fun c_20 => ?_)
        · refine j_lload_n X dX11_word_56 rfl ?_
          refine s_lret X hE hr dX11_word_57 ?_
          refine ⟨?_, rfl⟩
          unfold tWd
          obtain rfl : k = 0 := hk0 (fun e => c_20 (congrArg nI e.1))
          rw [if_neg (fun e => c_20 (congrArg nI e.1))]
          rfl
        · refine j_aload_n X dX11_word_23 rfl ?_
          refine j_getF X 11 28 (by decide) (by decide) rfl u978 (o66 np) (k66 np) (mem 66) rfl dX11_word_24 ?_
          refine j_nrm (nI (tN B z p)) hT28 ?_
          refine j_aload_n X dX11_word_27 rfl ?_
          refine j_getF X 11 27 (by decide) (by decide) rfl u977 (o66 np) (k66 np) (mem 66) rfl dX11_word_28 ?_
          refine j_nrm (nI (tF B z p)) hT27 ?_
          refine j_isub X dX11_word_31 ?_
          refine j_nrm (nI (tN B z p - tF B z p)) (pk_sub hfn) ?_
          refine j_bipush X dX11_word_32 8 (by decide) ?_
          refine j_icmp_ge X 56 dX11_word_34 (by decide) (fun c_34 => ?_) (fun c_34 => ?_)
          · refine j_lload_n X dX11_word_56 rfl ?_
            refine s_lret X hE hr dX11_word_57 ?_
            refine ⟨?_, rfl⟩
            unfold tWd
            have hnn : ¬ (tK B z p = 2 ∧ tN B z p - tF B z p < 8) := fun e => absurd c_34 (by rw [show (8 : Int32) = nI 8 from rfl, nI_leI (by omega) (by omega)]; omega)
            obtain rfl : k = 0 := hk0 hnn
            rw [if_neg hnn]
            rfl
          · have hkd : tK B z p = 2 := (nI_eq (by omega) (by omega)).mp (show nI (tK B z p) = nI 2 from c_20)
            have hl8 : tN B z p - tF B z p < 8 := by clear hE hr hR X h8; (try simp only [lg_cmp_lt, lg_cmp_gt, lg_cmp_le, lg_cmp_ge] at *); (try simp (disch := omega) only [Int64.le_iff_toInt_le, Int64.lt_iff_toInt_lt, Int32.le_iff_toInt_le, Int32.lt_iff_toInt_lt, fa_eq, fa_lit, fa_litL, nI_toInt, pk_lT, Int32.toInt_toInt64, jadd64, jin, jnoneT] at *); omega
            obtain ⟨hb1, hb2⟩ := h8.2 (tF B z p + k) (by omega)
            have hjw := jWf_lt (B := B) (f := tF B z p) k (fun i hi => (h8.2 _ (by omega)).2)
            have hjw2 : 256 ^ k ≤ 256 ^ 7 := Nat.pow_le_pow_right (by omega) (by omega)
            refine j_lload_n X dX11_word_37 rfl ?_
            refine j_bipush X dX11_word_38 8 (by decide) ?_
            refine j_lshl X dX11_word_40 ?_
            refine j_aload_n X dX11_word_41 rfl ?_
            refine j_getR X 11 21 (by decide) (by decide) rfl u971 (o66 np) (k66 np) _ (p66_21 np) dX11_word_42 ?_
            refine j_iload_n X dX11_word_45 rfl ?_
            refine j_nrm _ (by first | (simp only [fa_lit, pk_mul, nI_add]; done) | (simp only [fa_lit, pk_mul, nI_add]; rfl) | rfl) ?_
            refine j_ialdN X (o85 np) (k85 np) (by rw [l85]; omega) (by rw [l85]; decide) (mem 85) rfl dX11_word_46 ?_
            refine j_nrm (nI (B (tF B z p + k))) hb1 ?_
            refine j_i2l X dX11_word_47 ?_
            refine j_lor X dX11_word_48 ?_
            refine j_lstore_n X dX11_word_49 (by decide) ?_
            refine j_iinc X dX11_word_50 rfl 1 rfl ?_
            refine j_goto X 7 dX11_word_53 (by decide) ?_
            refine j_lv [some (.ref 66), some (.long (lN (jWf B (tF B z p) (k + 1)))), none, some (.int (nI (tF B z p + (k + 1))))] ⟨rfl, (congrArg (fun z => some (Value.long z)) (lw8 (by omega) hb2)), (congrArg (fun z => some (Value.int z)) (nI_1 _)), trivial⟩ ?_
            exact ih7 (k + 1) (by omega) (by omega) (fun _ => ⟨hkd, hl8⟩) (fun e => absurd ⟨hkd, hl8⟩ e)
  refine j_lv [some (.ref 66), some (.long (lN (jWf B (tF B z p) 0))), none, some (.int (nI (tF B z p + 0)))] ⟨rfl, rfl, rfl, trivial⟩ ?_
  exact lp7 (tN B z p + 1) 0 (by omega) (by omega) (fun e => absurd e (by omega)) (fun _ => rfl)
set_option maxRecDepth 4000 in
set_option maxHeartbeats 1000000 in
theorem m_askOfWord (np : Nat) (mem : jMem) (p z : Nat) (B : Nat → Nat) (h : jTs B z p mem) : jPi yX11_askOfWord cX11_askOfWord 3 .int 2 [.ref 66] np mem (fun v c => v = (if tAw B z p = 3 then -1000000 else nI (tAw B z p)) ∧ c = mem) := by
  refine jPi.of (own := RX11) rfl rfl (Nat.le_of_ble_eq_true rfl) (fun G X hR hr hE => ?_)
  refine j_aload_n X dX11_askOfWord_0 rfl ?_
  refine s_callVl X hR (m_word np _ p z B h) rfl 11 (by decide) (o66 np) (k66 np) rfl u1316 u1313 u1315 qp53 u12 hyX11_word (by decide) (by decide) (Nat.le_of_ble_eq_true rfl) dX11_askOfWord_1 (fun v_1 m_1 h_1 => ?_)
  obtain ⟨e1, e2⟩ := h_1; have e1 := e1.symm; have e2 := e2.symm; subst e1; subst e2
  refine j_lstore_n X dX11_askOfWord_4 (by decide) ?_
  have hwl := tWd_lt (B := B) (z := z) (p := p) (fun i hi => (h.1.2 i hi).2)
  refine j_lload_n X dX11_askOfWord_5 rfl ?_
  refine j_ldc2 X dX11_askOfWord_6 u1339 ?_
  refine j_lcmp X dX11_askOfWord_9 ?_
  refine j_if_ne X 17 dX11_askOfWord_10 (by decide) (fun c_10 => ?_) (fun c_10 => ?_)
  · refine j_lload_n X dX11_askOfWord_17 rfl ?_
    refine j_ldc2 X dX11_askOfWord_18 u1340 ?_
    refine j_lcmp X dX11_askOfWord_21 ?_
    refine j_if_ne X 29 dX11_askOfWord_22 (by decide) (fun c_22 => ?_) (fun c_22 => ?_)
    · refine j_lload_n X dX11_askOfWord_29 rfl ?_
      refine j_ldc2 X dX11_askOfWord_30 u1341 ?_
      refine j_lcmp X dX11_askOfWord_33 ?_
      refine j_if_ne X 41 dX11_askOfWord_34 (by decide) (fun c_34 => ?_) (fun c_34 => ?_)
      · refine j_ldc X dX11_askOfWord_41 u949 ?_
        refine s_iret X hE hr dX11_askOfWord_43 rfl ?_
        refine ⟨?_, rfl⟩
        unfold tAw
        simp only [lg_cmp_eq, fa_litL] at *
        first
          | (rw [if_pos ((pk_lEQ (by omega) (by omega)).mp c_10)]; rfl)
          | (rw [if_neg (fun e => c_10 (congrArg lN e)), if_pos ((pk_lEQ (by omega) (by omega)).mp c_22)]; rfl)
          | (rw [if_neg (fun e => c_10 (congrArg lN e)), if_neg (fun e => c_22 (congrArg lN e)), if_pos ((pk_lEQ (by omega) (by omega)).mp c_34)]; rfl)
          | (rw [if_neg (fun e => c_10 (congrArg lN e)), if_neg (fun e => c_22 (congrArg lN e)), if_neg (fun e => c_34 (congrArg lN e))]; rfl)
      · refine j_iconst X dX11_askOfWord_37 2 (by decide) ?_
        refine j_goto X 43 dX11_askOfWord_38 (by decide) ?_
        refine s_iret X hE hr dX11_askOfWord_43 rfl ?_
        refine ⟨?_, rfl⟩
        unfold tAw
        simp only [lg_cmp_eq, fa_litL] at *
        first
          | (rw [if_pos ((pk_lEQ (by omega) (by omega)).mp c_10)]; rfl)
          | (rw [if_neg (fun e => c_10 (congrArg lN e)), if_pos ((pk_lEQ (by omega) (by omega)).mp c_22)]; rfl)
          | (rw [if_neg (fun e => c_10 (congrArg lN e)), if_neg (fun e => c_22 (congrArg lN e)), if_pos ((pk_lEQ (by omega) (by omega)).mp c_34)]; rfl)
          | (rw [if_neg (fun e => c_10 (congrArg lN e)), if_neg (fun e => c_22 (congrArg lN e)), if_neg (fun e => c_34 (congrArg lN e))]; rfl)
    · refine j_iconst X dX11_askOfWord_25 1 (by decide) ?_
      refine j_goto X 43 dX11_askOfWord_26 (by decide) ?_
      refine s_iret X hE hr dX11_askOfWord_43 rfl ?_
      refine ⟨?_, rfl⟩
      unfold tAw
      simp only [lg_cmp_eq, fa_litL] at *
      first
        | (rw [if_pos ((pk_lEQ (by omega) (by omega)).mp c_10)]; rfl)
        | (rw [if_neg (fun e => c_10 (congrArg lN e)), if_pos ((pk_lEQ (by omega) (by omega)).mp c_22)]; rfl)
        | (rw [if_neg (fun e => c_10 (congrArg lN e)), if_neg (fun e => c_22 (congrArg lN e)), if_pos ((pk_lEQ (by omega) (by omega)).mp c_34)]; rfl)
        | (rw [if_neg (fun e => c_10 (congrArg lN e)), if_neg (fun e => c_22 (congrArg lN e)), if_neg (fun e => c_34 (congrArg lN e))]; rfl)
  · refine j_iconst X dX11_askOfWord_13 0 (by decide) ?_
    refine j_goto X 43 dX11_askOfWord_14 (by decide) ?_
    refine s_iret X hE hr dX11_askOfWord_43 rfl ?_
    refine ⟨?_, rfl⟩
    unfold tAw
    simp only [lg_cmp_eq, fa_litL] at *
    first
      | (rw [if_pos ((pk_lEQ (by omega) (by omega)).mp c_10)]; rfl)
      | (rw [if_neg (fun e => c_10 (congrArg lN e)), if_pos ((pk_lEQ (by omega) (by omega)).mp c_22)]; rfl)
      | (rw [if_neg (fun e => c_10 (congrArg lN e)), if_neg (fun e => c_22 (congrArg lN e)), if_pos ((pk_lEQ (by omega) (by omega)).mp c_34)]; rfl)
      | (rw [if_neg (fun e => c_10 (congrArg lN e)), if_neg (fun e => c_22 (congrArg lN e)), if_neg (fun e => c_34 (congrArg lN e))]; rfl)
set_option maxRecDepth 4000 in
set_option maxHeartbeats 1000000 in
theorem m_numberTo (np : Nat) (mem : jMem) (p z most : Nat) (B : Nat → Nat) (h : jTs B z p mem) (hf : mem 66 29 = 0) (hm : most ≤ 999) : jPi yX11_numberTo cX11_numberTo 4 .int 4 [.ref 66, .int (nI most)] np mem (jNq B z p most mem) := by
  refine jPi.of (own := RX11) rfl rfl (Nat.le_of_ble_eq_true rfl) (fun G X hR hr hE => ?_)
  obtain ⟨h8, hz, hp, hT25, hT26, hT27, hT28⟩ := h
  have h300 := h8.1
  have hfn := tN_ge (B := B) (n := z) (p := p)
  have hnz := tN_le (B := B) hp
  have hkl := tK_lt B z p
  refine j_aload_n X dX11_numberTo_0 rfl ?_
  refine j_getF X 11 29 (by decide) (by decide) rfl u979 (o66 np) (k66 np) (mem 66) rfl dX11_numberTo_1 ?_
  refine j_nrm 0 hf ?_
  refine j_if_le X 9 dX11_numberTo_4 (by decide) (fun c_4 => ?_) (fun c_4 => absurd c_4 (by decide))
  refine j_iconst X dX11_numberTo_9 0 (by decide) ?_
  refine j_istore_n X dX11_numberTo_10 (by decide) ?_
  refine j_aload_n X dX11_numberTo_11 rfl ?_
  refine j_getF X 11 27 (by decide) (by decide) rfl u977 (o66 np) (k66 np) (mem 66) rfl dX11_numberTo_12 ?_
  refine j_nrm (nI (tF B z p)) hT27 ?_
  refine j_istore_n X dX11_numberTo_15 (by decide) ?_
  have lp16 : ∀ (n : Nat) (k : Nat), tF B z p + k ≤ tN B z p → tN B z p + 1 ≤ tF B z p + k + n → J G RX11 cX11_numberTo 4 0 0 16 (jlv [some (.ref 66), some (.int (nI most)), some (.int (jVf B (tF B z p) k)), some (.int (nI (tF B z p + k)))]) [] (jS np) (mem) := by
    intro n
    induction n with
    | zero =>
      intro k hk hn
      exact absurd hn (by omega)
    | succ n ih16 =>
      intro k hk hn
      refine j_iload_n X dX11_numberTo_16 rfl ?_
      refine j_aload_n X dX11_numberTo_17 rfl ?_
      refine j_getF X 11 28 (by decide) (by decide) rfl u978 (o66 np) (k66 np) (mem 66) rfl dX11_numberTo_18 ?_
      refine j_nrm (nI (tN B z p)) hT28 ?_
      refine j_icmp_ge X 53 dX11_numberTo_21 (by decide) (fun c_21 => ?_) (fun c_21 => ?_)
      · refine j_aload_n X dX11_numberTo_53 rfl ?_
        refine j_getF X 11 26 (by decide) (by decide) rfl u976 (o66 np) (k66 np) (mem 66) rfl dX11_numberTo_54 ?_
        refine j_nrm (nI (tK B z p)) hT26 ?_
        refine j_iconst X dX11_numberTo_57 3 (by decide) ?_
        refine j_icmp_ne X 71 dX11_numberTo_58 (by decide) (fun c_58 => ?_) (fun c_58 => ?_)
        · have hk3 : ¬ tK B z p = 3 := fun e => c_58 (congrArg nI e)
          refine j_aload_n X dX11_numberTo_71 rfl ?_
          refine j_aload_n X dX11_numberTo_72 rfl ?_
          refine j_getF X 11 26 (by decide) (by decide) rfl u976 (o66 np) (k66 np) (mem 66) rfl dX11_numberTo_73 ?_
          refine j_nrm (nI (tK B z p)) hT26 ?_
          refine j_iconst X dX11_numberTo_76 3 (by decide) ?_
          refine j_icmp_ne X 84 dX11_numberTo_77 (by decide) (fun c_77 => ?_) (fun c_77 => ?_)
          · refine j_iconst X dX11_numberTo_84 0 (by decide) ?_
            refine s_callVv X hR (m_must_bad np _ hf) rfl 11 (by decide) (o66 np) (k66 np) rfl u1322 u1319 u1321 qp54 u12 hyX11_must (by decide) (by decide) (Nat.le_of_ble_eq_true rfl) dX11_numberTo_85 (fun m_85 h_85 => ?_)
            have h_85 := h_85.symm; subst h_85
            refine j_iload_n X dX11_numberTo_88 rfl ?_
            refine s_iret X hE hr dX11_numberTo_89 rfl ?_
            exact Or.inr ⟨fun e => hk3 e.1, jeq.up (jeq.up jeq.rf (by decide)) (by decide), jso.up (jso.up jso.rf (by decide)) (by decide), by rw [jup_n (by decide), jup_s]; unfold aNc; rw [if_neg hk3]; rfl, by rw [jup_s]; exact hT27⟩
          · exact absurd ((nI_eq (by omega) (by omega)).mp (show nI (tK B z p) = nI 3 from c_77)) hk3
        · have hk3 : tK B z p = 3 := (nI_eq (by omega) (by omega)).mp (show nI (tK B z p) = nI 3 from c_58)
          obtain rfl : k = tN B z p - tF B z p := by clear hE hr hR X h8; (try simp only [lg_cmp_lt, lg_cmp_gt, lg_cmp_le, lg_cmp_ge] at *); (try simp (disch := omega) only [Int64.le_iff_toInt_le, Int64.lt_iff_toInt_lt, Int32.le_iff_toInt_le, Int32.lt_iff_toInt_lt, fa_eq, fa_lit, fa_litL, nI_toInt, pk_lT, Int32.toInt_toInt64, jadd64, jin, jnoneT] at *); omega
          obtain ⟨hval, hv9⟩ := tV_e hk3
          refine j_iload_n X dX11_numberTo_61 rfl ?_
          refine j_iload_n X dX11_numberTo_62 rfl ?_
          skip
          refine j_icmp_le X 71 dX11_numberTo_63 (by decide) (fun c_63 => ?_) (fun c_63 => ?_)
          · have hle : tV B z p ≤ most := (nI_leI (by omega) (by omega)).mp (by rw [← hval]; exact c_63)
            refine j_aload_n X dX11_numberTo_71 rfl ?_
            refine j_aload_n X dX11_numberTo_72 rfl ?_
            refine j_getF X 11 26 (by decide) (by decide) rfl u976 (o66 np) (k66 np) (mem 66) rfl dX11_numberTo_73 ?_
            refine j_nrm (nI (tK B z p)) hT26 ?_
            refine j_iconst X dX11_numberTo_76 3 (by decide) ?_
            refine j_icmp_ne X 84 dX11_numberTo_77 (by decide) (fun c_77 => ?_) (fun c_77 => ?_)
            · exact absurd (congrArg nI hk3) c_77
            · refine j_iconst X dX11_numberTo_80 1 (by decide) ?_
              refine j_goto X 85 dX11_numberTo_81 (by decide) ?_
              refine s_callVv X hR (m_must_step np _ p z B ⟨h8, hz, hp, hT25, hT26, hT27, hT28⟩ hf) rfl 11 (by decide) (o66 np) (k66 np) rfl u1322 u1319 u1321 qp54 u12 hyX11_must (by decide) (by decide) (Nat.le_of_ble_eq_true rfl) dX11_numberTo_85 (fun m_85 h_85 => ?_)
              refine j_iload_n X dX11_numberTo_88 rfl ?_
              refine s_iret X hE hr dX11_numberTo_89 rfl ?_
              exact Or.inl ⟨⟨hk3, hle⟩, hval, h_85⟩
          · have hle : most < tV B z p := by
              rcases Nat.lt_or_ge most (tV B z p) with e | e
              · exact e
              · exact absurd ((nI_leI (by omega) (by omega)).mpr e) (by rw [← hval]; exact c_63)
            refine j_aload_n X dX11_numberTo_66 rfl ?_
            refine j_iconst X dX11_numberTo_67 2 (by decide) ?_
            refine s_callVv X hR (m_bad0 np _ 2 hf) rfl 11 (by decide) (o66 np) (k66 np) rfl u1326 u1323 u1325 qp55 u12 hyX11_bad (by decide) (by decide) (Nat.le_of_ble_eq_true rfl) dX11_numberTo_68 (fun m_68 h_68 => ?_)
            have h_68 := h_68.symm; subst h_68
            refine j_aload_n X dX11_numberTo_71 rfl ?_
            refine j_aload_n X dX11_numberTo_72 rfl ?_
            refine j_getF X 11 26 (by decide) (by decide) rfl u976 (o66 np) (k66 np) _ rfl dX11_numberTo_73 ?_
            refine j_nrm (nI (tK B z p)) (by rw [jup_n (by decide), jup_n (by decide)]; exact hT26) ?_
            refine j_iconst X dX11_numberTo_76 3 (by decide) ?_
            refine j_icmp_ne X 84 dX11_numberTo_77 (by decide) (fun c_77 => ?_) (fun c_77 => ?_)
            · exact absurd (congrArg nI hk3) c_77
            · refine j_iconst X dX11_numberTo_80 1 (by decide) ?_
              refine j_goto X 85 dX11_numberTo_81 (by decide) ?_
              refine s_callVv X hR (m_must_f np _ (by rw [jup_n (by decide), jup_s]; decide)) rfl 11 (by decide) (o66 np) (k66 np) rfl u1322 u1319 u1321 qp54 u12 hyX11_must (by decide) (by decide) (Nat.le_of_ble_eq_true rfl) dX11_numberTo_85 (fun m_85 h_85 => ?_)
              have h_85 := h_85.symm; subst h_85
              refine j_iload_n X dX11_numberTo_88 rfl ?_
              refine s_iret X hE hr dX11_numberTo_89 rfl ?_
              exact Or.inr ⟨fun e => absurd e.2 (by omega), jeq.up (jeq.up jeq.rf (by decide)) (by decide), jso.up (jso.up jso.rf (by decide)) (by decide), by rw [jup_n (by decide), jup_s]; unfold aNc; rw [if_pos hk3]; rfl, by rw [jup_s]; exact hT27⟩
      · have hk2 : tF B z p + k < tN B z p := by clear hE hr hR X h8; (try simp only [lg_cmp_lt, lg_cmp_gt, lg_cmp_le, lg_cmp_ge] at *); (try simp (disch := omega) only [Int64.le_iff_toInt_le, Int64.lt_iff_toInt_lt, Int32.le_iff_toInt_le, Int32.lt_iff_toInt_lt, fa_eq, fa_lit, fa_litL, nI_toInt, pk_lT, Int32.toInt_toInt64, jadd64, jin, jnoneT] at *); omega
        refine j_aload_n X dX11_numberTo_24 rfl ?_
        refine j_getF X 11 26 (by decide) (by decide) rfl u976 (o66 np) (k66 np) (mem 66) rfl dX11_numberTo_25 ?_
        refine j_nrm (nI (tK B z p)) hT26 ?_
        refine j_iconst X dX11_numberTo_28 3 (by decide) ?_
        refine j_icmp_ne X 53 dX11_numberTo_29 (by decide) (fun c_29 => ?_) (fun c_29 => ?_)
        · refine j_aload_n X dX11_numberTo_53 rfl ?_
          refine j_getF X 11 26 (by decide) (by decide) rfl u976 (o66 np) (k66 np) (mem 66) rfl dX11_numberTo_54 ?_
          refine j_nrm (nI (tK B z p)) hT26 ?_
          refine j_iconst X dX11_numberTo_57 3 (by decide) ?_
          refine j_icmp_ne X 71 dX11_numberTo_58 (by decide) (fun c_58 => ?_) (fun c_58 => ?_)
          · have hk3 : ¬ tK B z p = 3 := fun e => c_58 (congrArg nI e)
            refine j_aload_n X dX11_numberTo_71 rfl ?_
            refine j_aload_n X dX11_numberTo_72 rfl ?_
            refine j_getF X 11 26 (by decide) (by decide) rfl u976 (o66 np) (k66 np) (mem 66) rfl dX11_numberTo_73 ?_
            refine j_nrm (nI (tK B z p)) hT26 ?_
            refine j_iconst X dX11_numberTo_76 3 (by decide) ?_
            refine j_icmp_ne X 84 dX11_numberTo_77 (by decide) (fun c_77 => ?_) (fun c_77 => ?_)
            · refine j_iconst X dX11_numberTo_84 0 (by decide) ?_
              refine s_callVv X hR (m_must_bad np _ hf) rfl 11 (by decide) (o66 np) (k66 np) rfl u1322 u1319 u1321 qp54 u12 hyX11_must (by decide) (by decide) (Nat.le_of_ble_eq_true rfl) dX11_numberTo_85 (fun m_85 h_85 => ?_)
              have h_85 := h_85.symm; subst h_85
              refine j_iload_n X dX11_numberTo_88 rfl ?_
              refine s_iret X hE hr dX11_numberTo_89 rfl ?_
              exact Or.inr ⟨fun e => hk3 e.1, jeq.up (jeq.up jeq.rf (by decide)) (by decide), jso.up (jso.up jso.rf (by decide)) (by decide), by rw [jup_n (by decide), jup_s]; unfold aNc; rw [if_neg hk3]; rfl, by rw [jup_s]; exact hT27⟩
            · exact absurd ((nI_eq (by omega) (by omega)).mp (show nI (tK B z p) = nI 3 from c_77)) hk3
          · exact absurd c_58 c_29
        · have hkd : tK B z p = 3 := (nI_eq (by omega) (by omega)).mp (show nI (tK B z p) = nI 3 from c_29)
          obtain ⟨hb1, hb2⟩ := h8.2 (tF B z p + k) (by omega)
          refine j_bipush X dX11_numberTo_32 10 (by decide) ?_
          refine j_iload_n X dX11_numberTo_34 rfl ?_
          refine j_imul X dX11_numberTo_35 ?_
          refine j_aload_n X dX11_numberTo_36 rfl ?_
          refine j_getR X 11 21 (by decide) (by decide) rfl u971 (o66 np) (k66 np) _ (p66_21 np) dX11_numberTo_37 ?_
          refine j_iload_n X dX11_numberTo_40 rfl ?_
          refine j_nrm _ (by first | (simp only [fa_lit, pk_mul, nI_add]; done) | (simp only [fa_lit, pk_mul, nI_add]; rfl) | rfl) ?_
          refine j_ialdN X (o85 np) (k85 np) (by rw [l85]; omega) (by rw [l85]; decide) (mem 85) rfl dX11_numberTo_41 ?_
          refine j_nrm (nI (B (tF B z p + k))) hb1 ?_
          refine j_iadd X dX11_numberTo_42 ?_
          refine j_bipush X dX11_numberTo_43 48 (by decide) ?_
          refine j_isub X dX11_numberTo_45 ?_
          refine j_istore_n X dX11_numberTo_46 (by decide) ?_
          refine j_iinc X dX11_numberTo_47 rfl 1 rfl ?_
          refine j_goto X 16 dX11_numberTo_50 (by decide) ?_
          refine j_lv [some (.ref 66), some (.int (nI most)), some (.int (jVf B (tF B z p) (k + 1))), some (.int (nI (tF B z p + (k + 1))))] ⟨rfl, rfl, rfl, (congrArg (fun z => some (Value.int z)) (nI_1 _)), trivial⟩ ?_
          exact ih16 (k + 1) (by omega) (by omega)
  refine j_lv [some (.ref 66), some (.int (nI most)), some (.int (jVf B (tF B z p) 0)), some (.int (nI (tF B z p + 0)))] ⟨rfl, rfl, rfl, rfl, trivial⟩ ?_
  exact lp16 (tN B z p + 1) 0 (by omega) (by omega)
set_option maxRecDepth 4000 in
set_option maxHeartbeats 1000000 in
theorem m_numberTo_f (np : Nat) (mem : jMem) (x : Int32) (k : Nat) (hf : mem 66 29 = nI k) (hk : 0 < k) (hk2 : k < 10) : jPi yX11_numberTo cX11_numberTo 4 .int 4 [.ref 66, .int x] np mem (fun v c => v = 0 ∧ c = mem) := by
  refine jPi.of (own := RX11) rfl rfl (Nat.le_of_ble_eq_true rfl) (fun G X hR hr hE => ?_)
  refine j_aload_n X dX11_numberTo_0 rfl ?_
  refine j_getF X 11 29 (by decide) (by decide) rfl u979 (o66 np) (k66 np) (mem 66) rfl dX11_numberTo_1 ?_
  refine j_nrm (nI k) hf ?_
  refine j_if_le X 9 dX11_numberTo_4 (by decide) (fun c_4 => ?_) (fun c_4 => ?_)
  · exact absurd ((nI_leI (by omega) (by omega)).mp (show nI k ≤ nI 0 from c_4)) (by omega)
  · refine j_iconst X dX11_numberTo_7 0 (by decide) ?_
    refine s_iret X hE hr dX11_numberTo_8 rfl ?_
    first | exact ⟨rfl, rfl⟩ | (exfalso; clear hE hr hR X; (try simp only [lg_cmp_lt, lg_cmp_gt, lg_cmp_le, lg_cmp_ge] at *); (try simp (disch := omega) only [Int64.le_iff_toInt_le, Int64.lt_iff_toInt_lt, Int32.le_iff_toInt_le, Int32.lt_iff_toInt_lt, fa_eq, fa_lit, fa_litL, nI_toInt, pk_lT, Int32.toInt_toInt64, jadd64, jin, jnoneT] at *); omega)
