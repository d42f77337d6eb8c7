def jBw (x y : Nat) : Nat := (x + 257 - y) % 257
def jNum (xs : Nat → Nat) (pl i c : Nat) : Nat → Nat
  | 0 => c
  | j + 1 => if j = i then jNum xs pl i c j else jNum xs pl i c j * jBw pl (xs j) % 257
def jDen (xs : Nat → Nat) (i : Nat) : Nat → Nat
  | 0 => 1
  | j + 1 => if j = i then jDen xs i j else jDen xs i j * jBw (xs i) (xs j) % 257
def jLv (xs : Nat → Nat) (pl i c : Nat) : Nat → Nat
  | 0 => c
  | j + 1 => if j = i then jLv xs pl i c j else jLv xs pl i c j * jBw pl (xs j) % 257 * (jBw (xs i) (xs j) ^ 255 % 257) % 257
def jLag (xs ys : Nat → Nat) (n pl : Nat) : Nat → Nat
  | 0 => 0
  | a + 1 => (jLag xs ys n pl a + jLv xs pl a (ys a) n) % 257
theorem jBw_le (x y : Nat) : jBw x y ≤ 256 := by
  have : (x + 257 - y) % 257 < 257 := Nat.mod_lt _ (by omega)
  unfold jBw
  omega
theorem jNum_le {xs : Nat → Nat} {pl i c : Nat} (hc : c ≤ 256) : ∀ j, jNum xs pl i c j ≤ 256
  | 0 => hc
  | j + 1 => by
    show (if j = i then jNum xs pl i c j else jNum xs pl i c j * jBw pl (xs j) % 257) ≤ 256
    by_cases h : j = i
    · rw [if_pos h]; exact jNum_le hc j
    · rw [if_neg h]
      have : jNum xs pl i c j * jBw pl (xs j) % 257 < 257 := Nat.mod_lt _ (by omega)
      omega
theorem jDen_le {xs : Nat → Nat} {i : Nat} : ∀ j, jDen xs i j ≤ 256
  | 0 => by show 1 ≤ 256; omega
  | j + 1 => by
    show (if j = i then jDen xs i j else jDen xs i j * jBw (xs i) (xs j) % 257) ≤ 256
    by_cases h : j = i
    · rw [if_pos h]; exact jDen_le j
    · rw [if_neg h]
      have : jDen xs i j * jBw (xs i) (xs j) % 257 < 257 := Nat.mod_lt _ (by omega)
      omega
theorem jLv_le {xs : Nat → Nat} {pl i c : Nat} (hc : c ≤ 256) : ∀ j, jLv xs pl i c j ≤ 256
  | 0 => hc
  | j + 1 => by
    show (if j = i then jLv xs pl i c j else jLv xs pl i c j * jBw pl (xs j) % 257 * (jBw (xs i) (xs j) ^ 255 % 257) % 257) ≤ 256
    by_cases h : j = i
    · rw [if_pos h]; exact jLv_le hc j
    · rw [if_neg h]
      have : jLv xs pl i c j * jBw pl (xs j) % 257 * (jBw (xs i) (xs j) ^ 255 % 257) % 257 < 257 := Nat.mod_lt _ (by omega)
      omega
theorem jLag_le {xs ys : Nat → Nat} {n pl : Nat} : ∀ a, jLag xs ys n pl a ≤ 256
  | 0 => by show 0 ≤ 256; omega
  | a + 1 => by
    have : (jLag xs ys n pl a + jLv xs pl a (ys a) n) % 257 < 257 := Nat.mod_lt _ (by omega)
    show (jLag xs ys n pl a + jLv xs pl a (ys a) n) % 257 ≤ 256
    omega
theorem jalg (N A D B d b : Nat) (hd : d = D ^ 255) (hb : b = B ^ 255) : N * (D ^ 255 % 257) % 257 * A % 257 * (B ^ 255 % 257) % 257 = N * A % 257 * ((D * B % 257) ^ 255 % 257) % 257 := by
  rw [← Nat.pow_mod, Nat.mul_pow, ← hd, ← hb]
  simp only [Nat.mul_mod_mod, Nat.mod_mul_mod]
  rw [Nat.mul_right_comm N d A, Nat.mul_assoc]
/-- the model's road and the class' give one number -/
theorem jLv_e {xs : Nat → Nat} {pl i c : Nat} (hc : c ≤ 256) : ∀ n, jLv xs pl i c n = jNum xs pl i c n * (jDen xs i n ^ 255 % 257) % 257
  | 0 => by
    show c = c * (1 ^ 255 % 257) % 257
    rw [Nat.one_pow]
    show c = c * 1 % 257
    omega
  | n + 1 => by
    have ih := jLv_e (xs := xs) (pl := pl) (i := i) hc n
    by_cases h : n = i
    · rw [show jLv xs pl i c (n + 1) = jLv xs pl i c n from if_pos h, show jNum xs pl i c (n + 1) = jNum xs pl i c n from if_pos h, show jDen xs i (n + 1) = jDen xs i n from if_pos h]
      exact ih
    · rw [show jLv xs pl i c (n + 1) = _ from if_neg h, show jNum xs pl i c (n + 1) = _ from if_neg h, show jDen xs i (n + 1) = _ from if_neg h, ih]
      exact jalg _ _ _ _ _ _ rfl rfl
theorem jmm {a b : Nat} (ha : a ≤ 256) (hb : b ≤ 256) : jRem (nI a * nI b) 257 = nI (a * b % 257) := by
  have h : a * b ≤ 256 * 256 := Nat.mul_le_mul ha hb
  unfold jRem
  rw [show (257 : Int32) = nI 257 from rfl, pk_mul, pk_rem (by omega) (by omega) (by omega)]
theorem jam {a b : Nat} (ha : a ≤ 256) (hb : b ≤ 65536) : jRem (nI a + nI b) 257 = nI ((a + b) % 257) := by
  unfold jRem
  rw [show (257 : Int32) = nI 257 from rfl, nI_add, pk_rem (by omega) (by omega) (by omega)]
theorem jPow_n {w : Nat} (hw : w ≤ 256) : ∀ k, jPow (nI w) 257 k = nI (w ^ k % 257)
  | 0 => rfl
  | k + 1 => by
    show jRem (jPow (nI w) 257 k * nI w) 257 = _
    have : w ^ k % 257 < 257 := Nat.mod_lt _ (by omega)
    rw [jPow_n hw k, jmm (by omega) hw, Nat.mod_mul_mod, ← Nat.pow_succ]
theorem jbw_d : ∀ x, x < 7 → ∀ y, y < 7 → jRem (nI x - nI y + 257) 257 = nI (jBw x y) := by decide +kernel
theorem jbw_e {x y : Nat} (hx : x ≤ 6) (hy : y ≤ 6) : jRem (nI x - nI y + 257) 257 = nI (jBw x y) := jbw_d x (by omega) y (by omega)
theorem jfm_d : ∀ x, x < 7 → ∀ y, y < 7 → (if 0 ≤ (nI x - nI y) ^^^ 257 then jRem (nI x - nI y) 257 else if jRem (nI x - nI y) 257 = 0 then jRem (nI x - nI y) 257 else jRem (nI x - nI y) 257 + 257) = nI (jBw x y) := by decide +kernel
theorem jtu_d : ∀ x, x < 7 → ∀ y, y < 7 → ¬ x = y → 1 ≤ jBw x y ^ 255 % 257 ∧ jBw x y ^ 255 % 257 * jBw x y % 257 = 1 ∧ ∀ j, j < jBw x y ^ 255 % 257 → ¬ j * jBw x y % 257 = 1 := by decide +kernel
/-- those met so far, as bits -/
def jMet (f : Nat → Int32) : Nat → Int32
  | 0 => 0
  | a + 1 => jMet f a ||| (1 <<< (f (2 * a) &&& 31))
def jFok (f : Nat → Int32) (n : Nat) : Prop := ∀ a, a < n → jin (f (2 * a)) 1 6 ∧ jin (f (2 * a + 1)) 0 256 ∧ ¬ (jMet f a >>> (f (2 * a) &&& 31)) &&& 1 = 1
def jFx (f : Nat → Int32) (a : Nat) : Nat := (f (2 * a)).toNatClampNeg
def jFy (f : Nat → Int32) (a : Nat) : Nat := (f (2 * a + 1)).toNatClampNeg
theorem jFok_s {f : Nat → Int32} {k : Nat} (h : jFok f k) (h1 : jin (f (2 * k)) 1 6) (h2 : jin (f (2 * k + 1)) 0 256) (h3 : ¬ (jMet f k >>> (f (2 * k) &&& 31)) &&& 1 = 1) : jFok f (k + 1) := fun a ha => by
  rcases Nat.lt_or_ge a k with z | z
  · exact h a z
  · obtain rfl : a = k := by omega
    exact ⟨h1, h2, h3⟩
theorem jFx_e {f : Nat → Int32} {n a : Nat} (h : jFok f n) (ha : a < n) : f (2 * a) = nI (jFx f a) ∧ 1 ≤ jFx f a ∧ jFx f a ≤ 6 := by
  have h1 := (h a ha).1
  obtain ⟨x, hx, hx2, e⟩ := jin_n (c := 6) (x := f (2 * a)) ⟨by have := h1.1; omega, h1.2⟩
  have h2 := h1.1
  unfold jFx
  rw [e, nI_clamp hx2]
  rw [e, nI_toInt hx2] at h2
  exact ⟨rfl, by omega, by omega⟩
theorem jFy_e {f : Nat → Int32} {n a : Nat} (h : jFok f n) (ha : a < n) : f (2 * a + 1) = nI (jFy f a) ∧ jFy f a ≤ 256 := by
  have h1 := (h a ha).2.1
  obtain ⟨x, hx, hx2, e⟩ := jin_n h1
  unfold jFy
  rw [e, nI_clamp hx2]
  exact ⟨rfl, by omega⟩
theorem jmt_d : ∀ m, m < 128 → ∀ x, x < 7 → nI m ||| (1 <<< (nI x &&& 31)) = nI (m ||| 2 ^ x) ∧ m ||| 2 ^ x < 128 ∧ (((nI m >>> (nI x &&& 31)) &&& 1 = 1) ↔ m.testBit x = true) := by decide +kernel
theorem jMet_n {f : Nat → Int32} {n : Nat} (h : jFok f n) : ∀ a, a ≤ n → ∃ m, m < 128 ∧ jMet f a = nI m ∧ ∀ b, b < a → m.testBit (jFx f b) = true
  | 0, _ => ⟨0, by omega, rfl, fun b hb => absurd hb (by omega)⟩
  | a + 1, ha => by
    obtain ⟨m, hm, e, hb⟩ := jMet_n h a (by omega)
    obtain ⟨e1, e2, e3⟩ := jFx_e h (show a < n by omega)
    obtain ⟨d1, d2, -⟩ := jmt_d m hm (jFx f a) (by omega)
    refine ⟨m ||| 2 ^ jFx f a, d2, ?_, fun b hba => ?_⟩
    · show jMet f a ||| _ = _
      rw [e, e1, d1]
    · rw [Nat.testBit_or]
      rcases Nat.lt_or_ge b a with z | z
      · rw [hb b z]; rfl
      · obtain rfl : b = a := by omega
        rw [Nat.testBit_two_pow_self, Bool.or_true]
theorem jFx_lt {f : Nat → Int32} {n a b : Nat} (h : jFok f n) (hb : b < n) (hab : a < b) : ¬ jFx f a = jFx f b := fun q => by
  obtain ⟨m, hm, e, ht⟩ := jMet_n h b (by omega)
  obtain ⟨e1, e2, e3⟩ := jFx_e h hb
  have h1 := (h b hb).2.2
  rw [e, e1] at h1
  have h2 := ht a hab
  rw [q] at h2
  exact h1 ((jmt_d m hm (jFx f b) (by omega)).2.2.mpr h2)
theorem jFx_ne {f : Nat → Int32} {n a b : Nat} (h : jFok f n) (ha : a < n) (hb : b < n) (hab : ¬ a = b) : ¬ jFx f a = jFx f b := by
  rcases Nat.lt_or_ge a b with z | z
  · exact jFx_lt h hb z
  · exact fun q => jFx_lt h ha (show b < a by omega) q.symm
set_option maxRecDepth 4000 in
set_option maxHeartbeats 1000000 in
theorem m_turned (np : Nat) (mem : jMem) (w k : Nat) (hw : w ≤ 256) (hk1 : 1 ≤ k) (hk2 : k ≤ 256) (hk : k * w % 257 = 1) (hl : ∀ j, j < k → ¬ j * w % 257 = 1) : jPi yX11_turned cX11_turned 2 .int 1 [.int (nI w)] np mem (fun v c => v = nI k ∧ c = mem) := by
  refine jPi.of (own := RX11) rfl rfl (Nat.le_of_ble_eq_true rfl) (fun G X hR hr hE => ?_)
  refine j_iconst X dX11_turned_0 1 (by decide) ?_
  refine j_istore_n X dX11_turned_1 (by decide) ?_
  have lp2 : ∀ (n : Nat) (j : Nat), j ≤ k → k + 1 ≤ j + n → J G RX11 cX11_turned 2 0 0 2 (jlv [some (.int (nI w)), some (.int (nI j))]) [] (jS np) (mem) := by
    intro n
    induction n with
    | zero =>
      intro j hj hn
      exact absurd hn (by omega)
    | succ n ih2 =>
      intro j hj hn
      refine j_iload_n X dX11_turned_2 rfl ?_
      refine j_iload_n X dX11_turned_3 rfl ?_
      refine j_imul X dX11_turned_4 ?_
      refine j_sipush X dX11_turned_5 257 (by decide) ?_
      refine j_irem X dX11_turned_8 (by decide) ?_
      have hjw : j * w ≤ 256 * 256 := Nat.mul_le_mul (by omega) hw
      have hjm : j * w % 257 < 257 := Nat.mod_lt _ (by omega)
      refine j_nrm (nI (j * w % 257)) (jmm (by omega) hw) ?_
      refine j_iconst X dX11_turned_9 1 (by decide) ?_
      refine j_icmp_eq X 19 dX11_turned_10 (by decide) (fun c_10 => ?_) (fun c_10 => ?_)
      · obtain rfl : j = k := by
          rcases Nat.lt_or_ge j k with z | z
          · exact absurd ((nI_eq (by omega) (by omega)).mp (show nI (j * w % 257) = nI 1 from c_10)) (hl j z)
          · omega
        refine j_iload_n X dX11_turned_19 rfl ?_
        refine s_iret X hE hr dX11_turned_20 rfl ?_
        first | exact ⟨rfl, rfl⟩ | (exfalso; clear hE hr hR X; (try simp only [lg_cmp_lt, lg_cmp_gt, lg_cmp_le, lg_cmp_ge] at *); (try simp (disch := omega) only [Int64.le_iff_toInt_le, Int64.lt_iff_toInt_lt, Int32.le_iff_toInt_le, Int32.lt_iff_toInt_lt, fa_eq, fa_lit, fa_litL, nI_toInt, pk_lT, Int32.toInt_toInt64, jadd64, jin, jnoneT] at *); omega)
      · have hjk : j < k := by
          rcases Nat.lt_or_ge j k with z | z
          · exact z
          · obtain rfl : j = k := by omega
            exact absurd (congrArg nI hk) c_10
        refine j_iinc X dX11_turned_13 rfl 1 rfl ?_
        refine j_goto X 2 dX11_turned_16 (by decide) ?_
        refine j_lv [some (.int (nI w)), some (.int (nI (j + 1)))] ⟨rfl, (congrArg (fun z => some (Value.int z)) (nI_1 _)), trivial⟩ ?_
        exact ih2 (j + 1) (by omega) (by omega)
  refine j_lv [some (.int (nI w)), some (.int (nI 1))] ⟨rfl, rfl, trivial⟩ ?_
  exact lp2 k 1 (by omega) (by omega)
set_option maxRecDepth 4000 in
set_option maxHeartbeats 1000000 in
theorem m_valueAt (np : Nat) (mem : jMem) (t q pl : Nat) (xs ys : Nat → Nat) (hat : t + 2 * q ≤ 480) (hpl : pl ≤ 6) (hx : ∀ a, a < q → mem 69 (t + 2 * a) = nI (xs a) ∧ xs a ≤ 6) (hy : ∀ a, a < q → mem 69 (t + 2 * a + 1) = nI (ys a) ∧ ys a ≤ 256) (hne : ∀ a b, a < q → b < q → ¬ a = b → ¬ xs a = xs b) : jPi yX11_valueAt cX11_valueAt 9 .int 2 [.ref 66, .int (nI t), .int (nI q), .int (nI pl)] np mem (fun v c => v = nI (jLag xs ys q pl q) ∧ c = mem) := by
  refine jPi.of (own := RX11) rfl rfl (Nat.le_of_ble_eq_true rfl) (fun G X hR hr hE => ?_)
  refine j_iconst X dX11_valueAt_0 0 (by decide) ?_
  refine j_istore X dX11_valueAt_1 (by decide) ?_
  refine j_iconst X dX11_valueAt_3 0 (by decide) ?_
  refine j_istore X dX11_valueAt_4 (by decide) ?_
  have lp6 : ∀ (n : Nat) (a : Nat), a ≤ q → q + 1 ≤ a + n → J G RX11 cX11_valueAt 9 0 0 6 (jlv [some (.ref 66), some (.int (nI t)), some (.int (nI q)), some (.int (nI pl)), some (.int (nI (jLag xs ys q pl a))), some (.int (nI a))]) [] (jS np) (mem) := by
    intro n
    induction n with
    | zero =>
      intro a ha hn
      exact absurd hn (by omega)
    | succ n ih6 =>
      intro a ha hn
      refine j_iload X dX11_valueAt_6 rfl ?_
      refine j_iload_n X dX11_valueAt_8 rfl ?_
      refine j_icmp_ge X 139 dX11_valueAt_9 (by decide) (fun c_9 => ?_) (fun c_9 => ?_)
      · obtain rfl : a = q := by clear hx hy hne hE hr hR X; (try simp only [lg_cmp_lt, lg_cmp_gt, lg_cmp_le, lg_cmp_ge] at *); (try simp (disch := omega) only [Int64.le_iff_toInt_le, Int64.lt_iff_toInt_lt, Int32.le_iff_toInt_le, Int32.lt_iff_toInt_lt, fa_eq, fa_lit, fa_litL, nI_toInt, pk_lT, Int32.toInt_toInt64, jadd64, jin, jnoneT] at *); omega
        refine j_iload X dX11_valueAt_139 rfl ?_
        refine s_iret X hE hr dX11_valueAt_141 rfl ?_
        first | exact ⟨rfl, rfl⟩ | (exfalso; clear hE hr hR X; (try simp only [lg_cmp_lt, lg_cmp_gt, lg_cmp_le, lg_cmp_ge] at *); (try simp (disch := omega) only [Int64.le_iff_toInt_le, Int64.lt_iff_toInt_lt, Int32.le_iff_toInt_le, Int32.lt_iff_toInt_lt, fa_eq, fa_lit, fa_litL, nI_toInt, pk_lT, Int32.toInt_toInt64, jadd64, jin, jnoneT] at *); omega)
      · have ha2 : a < q := by clear hE hr hR X; have c_9 := c_9; clear hx hy hne; (try simp only [lg_cmp_lt, lg_cmp_gt, lg_cmp_le, lg_cmp_ge] at *); (try simp (disch := omega) only [Int64.le_iff_toInt_le, Int64.lt_iff_toInt_lt, Int32.le_iff_toInt_le, Int32.lt_iff_toInt_lt, fa_eq, fa_lit, fa_litL, nI_toInt, pk_lT, Int32.toInt_toInt64, jadd64, jin, jnoneT] at *); omega
        refine j_aload_n X dX11_valueAt_12 rfl ?_
        refine j_getR X 11 4 (by decide) (by decide) rfl u954 (o66 np) (k66 np) _ (p66_4 np) dX11_valueAt_13 ?_
        refine j_iload_n X dX11_valueAt_16 rfl ?_
        refine j_iconst X dX11_valueAt_17 2 (by decide) ?_
        refine j_iload X dX11_valueAt_18 rfl ?_
        refine j_imul X dX11_valueAt_20 ?_
        refine j_iadd X dX11_valueAt_21 ?_
        refine j_iconst X dX11_valueAt_22 1 (by decide) ?_
        refine j_iadd X dX11_valueAt_23 ?_
        refine j_nrm _ (by first | (simp only [fa_lit, pk_mul, nI_add]; done) | (simp only [fa_lit, pk_mul, nI_add]; rfl) | rfl) ?_
        refine j_ialdN X (o69 np) (k69 np) (by rw [l69]; omega) (by rw [l69]; decide) (mem 69) rfl dX11_valueAt_24 ?_
        refine j_nrm (nI (ys a)) (hy a ha2).1 ?_
        refine j_istore X dX11_valueAt_25 (by decide) ?_
        refine j_iconst X dX11_valueAt_27 0 (by decide) ?_
        refine j_istore X dX11_valueAt_28 (by decide) ?_
        have lp30 : ∀ (n : Nat) (b : Nat), b ≤ q → q + 1 ≤ b + n → J G RX11 cX11_valueAt 9 0 0 30 (jlv [some (.ref 66), some (.int (nI t)), some (.int (nI q)), some (.int (nI pl)), some (.int (nI (jLag xs ys q pl a))), some (.int (nI a)), some (.int (nI (jLv xs pl a (ys a) b))), some (.int (nI b))]) [] (jS np) (mem) := by
          intro n
          induction n with
          | zero =>
            intro b hb hnb
            exact absurd hnb (by omega)
          | succ n ih30 =>
            intro b hb hnb
            refine j_iload X dX11_valueAt_30 rfl ?_
            refine j_iload_n X dX11_valueAt_32 rfl ?_
            refine j_icmp_ge X 122 dX11_valueAt_33 (by decide) (fun c_33 => ?_) (fun c_33 => ?_)
            · obtain rfl : b = q := by clear hx hy hne hE hr hR X; (try simp only [lg_cmp_lt, lg_cmp_gt, lg_cmp_le, lg_cmp_ge] at *); (try simp (disch := omega) only [Int64.le_iff_toInt_le, Int64.lt_iff_toInt_lt, Int32.le_iff_toInt_le, Int32.lt_iff_toInt_lt, fa_eq, fa_lit, fa_litL, nI_toInt, pk_lT, Int32.toInt_toInt64, jadd64, jin, jnoneT] at *); omega
              refine j_iload X dX11_valueAt_122 rfl ?_
              refine j_iload X dX11_valueAt_124 rfl ?_
              refine j_iadd X dX11_valueAt_126 ?_
              refine j_sipush X dX11_valueAt_127 257 (by decide) ?_
              refine j_irem X dX11_valueAt_130 (by decide) ?_
              have hlv := jLv_le (xs := xs) (pl := pl) (i := a) (hy a ha2).2 b
              have hlg := jLag_le (xs := xs) (ys := ys) (n := b) (pl := pl) a
              refine j_nrm (nI ((jLag xs ys b pl a + jLv xs pl a (ys a) b) % 257)) (jam hlg (by omega)) ?_
              refine j_istore X dX11_valueAt_131 (by decide) ?_
              refine j_iinc X dX11_valueAt_133 rfl 1 rfl ?_
              refine j_goto X 6 dX11_valueAt_136 (by decide) ?_
              refine j_lv [some (.ref 66), some (.int (nI t)), some (.int (nI b)), some (.int (nI pl)), some (.int (nI (jLag xs ys b pl (a + 1)))), some (.int (nI (a + 1)))] ⟨rfl, rfl, rfl, rfl, rfl, (congrArg (fun z => some (Value.int z)) (nI_1 _)), trivial⟩ ?_
              exact ih6 (a + 1) (by omega) (by omega)
            · have hb2 : b < q := by clear hE hr hR X; clear hx hy hne; (try simp only [lg_cmp_lt, lg_cmp_gt, lg_cmp_le, lg_cmp_ge] at *); (try simp (disch := omega) only [Int64.le_iff_toInt_le, Int64.lt_iff_toInt_lt, Int32.le_iff_toInt_le, Int32.lt_iff_toInt_lt, fa_eq, fa_lit, fa_litL, nI_toInt, pk_lT, Int32.toInt_toInt64, jadd64, jin, jnoneT] at *); omega
              refine j_iload X dX11_valueAt_36 rfl ?_
              refine j_iload X dX11_valueAt_38 rfl ?_
              refine j_icmp_eq X 116 dX11_valueAt_40 (by decide) (fun c_40 => ?_) (fun c_40 => ?_)
              · refine j_iinc X dX11_valueAt_116 rfl 1 rfl ?_
                refine j_goto X 30 dX11_valueAt_119 (by decide) ?_
                refine j_lv [some (.ref 66), some (.int (nI t)), some (.int (nI q)), some (.int (nI pl)), some (.int (nI (jLag xs ys q pl a))), some (.int (nI a)), some (.int (nI (jLv xs pl a (ys a) (b + 1)))), some (.int (nI (b + 1)))] ⟨rfl, rfl, rfl, rfl, rfl, rfl, (congrArg (fun z => some (Value.int z)) (congrArg nI (by first | exact (show jLv xs pl a (ys a) (b + 1) = _ from if_neg hab).symm | exact (show jLv xs pl a (ys a) (b + 1) = _ from if_pos ((nI_eq (by omega) (by omega)).mp c_40)).symm))), (congrArg (fun z => some (Value.int z)) (nI_1 _)), trivial⟩ ?_
                exact ih30 (b + 1) (by omega) (by omega)
              · have hab : ¬ b = a := fun z => c_40 (congrArg nI z)
                have hxa := hx a ha2
                have hxb := hx b hb2
                have htu := jtu_d (xs a) (by omega) (xs b) (by omega) (hne a b ha2 hb2 (fun z => hab z.symm))
                have hlv := jLv_le (xs := xs) (pl := pl) (i := a) (hy a ha2).2 b
                have hbp := jBw_le pl (xs b)
                have hba := jBw_le (xs a) (xs b)
                have hm1 : jLv xs pl a (ys a) b * jBw pl (xs b) % 257 < 257 := Nat.mod_lt _ (by omega)
                have hm2 : jBw (xs a) (xs b) ^ 255 % 257 < 257 := Nat.mod_lt _ (by omega)
                refine j_aload_n X dX11_valueAt_43 rfl ?_
                refine j_getR X 11 4 (by decide) (by decide) rfl u954 (o66 np) (k66 np) _ (p66_4 np) dX11_valueAt_44 ?_
                refine j_iload_n X dX11_valueAt_47 rfl ?_
                refine j_iconst X dX11_valueAt_48 2 (by decide) ?_
                refine j_iload X dX11_valueAt_49 rfl ?_
                refine j_imul X dX11_valueAt_51 ?_
                refine j_iadd X dX11_valueAt_52 ?_
                refine j_nrm _ (by first | (simp only [fa_lit, pk_mul, nI_add]; done) | (simp only [fa_lit, pk_mul, nI_add]; rfl) | rfl) ?_
                refine j_ialdN X (o69 np) (k69 np) (by rw [l69]; omega) (by rw [l69]; decide) (mem 69) rfl dX11_valueAt_53 ?_
                refine j_nrm (nI (xs a)) hxa.1 ?_
                refine j_aload_n X dX11_valueAt_54 rfl ?_
                refine j_getR X 11 4 (by decide) (by decide) rfl u954 (o66 np) (k66 np) _ (p66_4 np) dX11_valueAt_55 ?_
                refine j_iload_n X dX11_valueAt_58 rfl ?_
                refine j_iconst X dX11_valueAt_59 2 (by decide) ?_
                refine j_iload X dX11_valueAt_60 rfl ?_
                refine j_imul X dX11_valueAt_62 ?_
                refine j_iadd X dX11_valueAt_63 ?_
                refine j_nrm _ (by first | (simp only [fa_lit, pk_mul, nI_add]; done) | (simp only [fa_lit, pk_mul, nI_add]; rfl) | rfl) ?_
                refine j_ialdN X (o69 np) (k69 np) (by rw [l69]; omega) (by rw [l69]; decide) (mem 69) rfl dX11_valueAt_64 ?_
                refine j_nrm (nI (xs b)) hxb.1 ?_
                refine j_isub X dX11_valueAt_65 ?_
                refine j_sipush X dX11_valueAt_66 257 (by decide) ?_
                refine j_iadd X dX11_valueAt_69 ?_
                refine j_sipush X dX11_valueAt_70 257 (by decide) ?_
                refine j_irem X dX11_valueAt_73 (by decide) ?_
                refine j_nrm (nI (jBw (xs a) (xs b))) (jbw_e hxa.2 hxb.2) ?_
                refine j_istore X dX11_valueAt_74 (by decide) ?_
                refine j_iload X dX11_valueAt_76 rfl ?_
                refine j_iload_n X dX11_valueAt_78 rfl ?_
                refine j_aload_n X dX11_valueAt_79 rfl ?_
                refine j_getR X 11 4 (by decide) (by decide) rfl u954 (o66 np) (k66 np) _ (p66_4 np) dX11_valueAt_80 ?_
                refine j_iload_n X dX11_valueAt_83 rfl ?_
                refine j_iconst X dX11_valueAt_84 2 (by decide) ?_
                refine j_iload X dX11_valueAt_85 rfl ?_
                refine j_imul X dX11_valueAt_87 ?_
                refine j_iadd X dX11_valueAt_88 ?_
                refine j_nrm _ (by first | (simp only [fa_lit, pk_mul, nI_add]; done) | (simp only [fa_lit, pk_mul, nI_add]; rfl) | rfl) ?_
                refine j_ialdN X (o69 np) (k69 np) (by rw [l69]; omega) (by rw [l69]; decide) (mem 69) rfl dX11_valueAt_89 ?_
                refine j_nrm (nI (xs b)) hxb.1 ?_
                refine j_isub X dX11_valueAt_90 ?_
                refine j_sipush X dX11_valueAt_91 257 (by decide) ?_
                refine j_iadd X dX11_valueAt_94 ?_
                refine j_sipush X dX11_valueAt_95 257 (by decide) ?_
                refine j_irem X dX11_valueAt_98 (by decide) ?_
                refine j_nrm (nI (jBw pl (xs b))) (jbw_e hpl hxb.2) ?_
                refine j_imul X dX11_valueAt_99 ?_
                refine j_sipush X dX11_valueAt_100 257 (by decide) ?_
                refine j_irem X dX11_valueAt_103 (by decide) ?_
                refine j_nrm (nI (jLv xs pl a (ys a) b * jBw pl (xs b) % 257)) (jmm hlv hbp) ?_
                refine j_iload X dX11_valueAt_104 rfl ?_
                refine s_callSi X hR (m_turned np _ (jBw (xs a) (xs b)) (jBw (xs a) (xs b) ^ 255 % 257) hba htu.1 (by omega) htu.2.1 htu.2.2) rfl u1262 u1260 u1261 u12 hyX11_turned (by decide) (by decide) (Nat.le_of_ble_eq_true rfl) dX11_valueAt_106 (fun v_106 m_106 h_106 => ?_)
                obtain ⟨e1, e2⟩ := h_106; have e1 := e1.symm; have e2 := e2.symm; subst e1; subst e2
                refine j_imul X dX11_valueAt_109 ?_
                refine j_sipush X dX11_valueAt_110 257 (by decide) ?_
                refine j_irem X dX11_valueAt_113 (by decide) ?_
                refine j_nrm (nI (jLv xs pl a (ys a) b * jBw pl (xs b) % 257 * (jBw (xs a) (xs b) ^ 255 % 257) % 257)) (jmm (by omega) (by omega)) ?_
                refine j_istore X dX11_valueAt_114 (by decide) ?_
                refine j_iinc X dX11_valueAt_116 rfl 1 rfl ?_
                refine j_goto X 30 dX11_valueAt_119 (by decide) ?_
                refine j_lv [some (.ref 66), some (.int (nI t)), some (.int (nI q)), some (.int (nI pl)), some (.int (nI (jLag xs ys q pl a))), some (.int (nI a)), some (.int (nI (jLv xs pl a (ys a) (b + 1)))), some (.int (nI (b + 1)))] ⟨rfl, rfl, rfl, rfl, rfl, rfl, (congrArg (fun z => some (Value.int z)) (congrArg nI (by first | exact (show jLv xs pl a (ys a) (b + 1) = _ from if_neg hab).symm | exact (show jLv xs pl a (ys a) (b + 1) = _ from if_pos ((nI_eq (by omega) (by omega)).mp c_40)).symm))), (congrArg (fun z => some (Value.int z)) (nI_1 _)), trivial⟩ ?_
                exact ih30 (b + 1) (by omega) (by omega)
        refine j_lv [some (.ref 66), some (.int (nI t)), some (.int (nI q)), some (.int (nI pl)), some (.int (nI (jLag xs ys q pl a))), some (.int (nI a)), some (.int (nI (jLv xs pl a (ys a) 0))), some (.int (nI 0))] ⟨rfl, rfl, rfl, rfl, rfl, rfl, rfl, rfl, trivial⟩ ?_
        exact lp30 (q + 1) 0 (by omega) (by omega)
  refine j_lv [some (.ref 66), some (.int (nI t)), some (.int (nI q)), some (.int (nI pl)), some (.int (nI (jLag xs ys q pl 0))), some (.int (nI 0))] ⟨rfl, rfl, rfl, rfl, rfl, rfl, trivial⟩ ?_
  exact lp6 (q + 1) 0 (by omega) (by omega)
