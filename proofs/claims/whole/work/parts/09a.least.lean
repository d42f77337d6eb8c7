theorem jsm : ∀ p, p < 32 → ((nI p &&& 31).toBitVec.smod 32).toNat = p := by decide +kernel
theorem jsu : ∀ p, p < 32 → (((nI p).toUInt32 &&& Int32.toUInt32 31).toBitVec % 32).toNat = p := by decide +kernel
theorem jorN (a b : Nat) : nI a ||| nI b = nI (a ||| b) := by
  apply Int32.toBitVec_inj.mp
  apply BitVec.eq_of_toNat_eq
  show ((BitVec.ofNat 32 a) ||| (BitVec.ofNat 32 b)).toNat = (BitVec.ofNat 32 (a ||| b)).toNat
  rw [BitVec.toNat_or, BitVec.toNat_ofNat, BitVec.toNat_ofNat, BitVec.toNat_ofNat, Nat.or_mod_two_pow]
theorem jandN (a b : Nat) : nI a &&& nI b = nI (a &&& b) := by
  apply Int32.toBitVec_inj.mp
  apply BitVec.eq_of_toNat_eq
  show ((BitVec.ofNat 32 a) &&& (BitVec.ofNat 32 b)).toNat = (BitVec.ofNat 32 (a &&& b)).toNat
  rw [BitVec.toNat_and, BitVec.toNat_ofNat, BitVec.toNat_ofNat, BitVec.toNat_ofNat, Nat.and_mod_two_pow]
theorem j1l {p : Nat} (h : p < 31) : (1 : Int32) <<< (nI p &&& 31) = nI (2 ^ p) := by
  have h2 : 2 ^ p ≤ 2 ^ 30 := Nat.pow_le_pow_right (by omega) (by omega)
  have := pk_shlN (n := 1) (nI p &&& 31) p (jsm p (by omega)) (by omega)
  rw [Nat.one_mul] at this
  exact this
theorem jbit {S p : Nat} (hS : S < 2 ^ 31) (hp : p < 31) : ((nI S >>> (nI p &&& 31)) &&& 1 = 1) ↔ S.testBit p = true := by
  have h2 : S / 2 ^ p ≤ S := Nat.div_le_self _ _
  have h3 : S / 2 ^ p % 2 < 2 := Nat.mod_lt _ (by omega)
  rw [pk_shrN hS _ p (jsm p (by omega)), pk_andN (by omega) 1 (by decide), Nat.testBit_eq_decide_div_mod_eq, decide_eq_true_eq, show (1 : Int32) = nI 1 from rfl, nI_eq (by omega) (by omega)]
def jBn (g : Nat → Bool) : Nat → Nat
  | 0 => 0
  | n + 1 => if g n = true then jBn g n ||| 2 ^ n else jBn g n
theorem jBits_n {g : Nat → Bool} : ∀ n, n ≤ 31 → jBits g nI n = nI (jBn g n)
  | 0, _ => rfl
  | n + 1, h => by
    show (if g n = true then jBits g nI n ||| (1 <<< (nI n &&& 31)) else jBits g nI n) = nI (if g n = true then jBn g n ||| 2 ^ n else jBn g n)
    rw [jBits_n n (by omega), j1l (by omega), jorN]
    by_cases q : g n = true
    · rw [if_pos q, if_pos q]
    · rw [if_neg q, if_neg q]
theorem jBn_lt {g : Nat → Bool} : ∀ n, jBn g n < 2 ^ n
  | 0 => by show 0 < 1; omega
  | n + 1 => by
    show (if g n = true then jBn g n ||| 2 ^ n else jBn g n) < 2 ^ (n + 1)
    have ih := jBn_lt (g := g) n
    have e : 2 ^ (n + 1) = 2 ^ n * 2 := Nat.pow_succ 2 n
    by_cases q : g n = true
    · rw [if_pos q]; exact Nat.or_lt_two_pow (by omega) (by omega)
    · rw [if_neg q]; omega
theorem jBn_bit {g : Nat → Bool} {p : Nat} : ∀ n, (jBn g n).testBit p = (decide (p < n) && g p)
  | 0 => by
    show (0 : Nat).testBit p = _
    rw [Nat.zero_testBit]
    simp
  | n + 1 => by
    show (if g n = true then jBn g n ||| 2 ^ n else jBn g n).testBit p = _
    have ih := jBn_bit (g := g) (p := p) n
    by_cases e : p = n
    · subst e
      by_cases q : g p = true
      · rw [if_pos q, Nat.testBit_or, Nat.testBit_two_pow_self, q]; simp
      · rw [if_neg q, ih]; simp [q]
    · have e2 : decide (p < n + 1) = decide (p < n) := by
        by_cases z : p < n
        · rw [decide_eq_true z, decide_eq_true (by omega)]
        · rw [decide_eq_false z, decide_eq_false (by omega)]
      by_cases q : g n = true
      · rw [if_pos q, Nat.testBit_or, ih, Nat.testBit_two_pow, decide_eq_false (show ¬ n = p from fun z => e z.symm), Bool.or_false, e2]
      · rw [if_neg q, ih, e2]
theorem jsubset {S M : Nat} (hS : S < 2 ^ 31) (hM : M < 2 ^ 31) : (nI S &&& (nI M ^^^ (-1))) = 0 ↔ ∀ p, S.testBit p = true → M.testBit p = true := by
  have e1 : (-1 : Int32).toBitVec = BitVec.allOnes 32 := by decide
  have e : (nI S &&& (nI M ^^^ (-1))).toBitVec = BitVec.ofNat 32 S &&& (BitVec.ofNat 32 M ^^^ BitVec.allOnes 32) := by
    rw [← e1]; rfl
  constructor
  · intro h p hp
    have hp2 : p < 32 := by
      rcases Nat.lt_or_ge p 32 with z | z
      · exact z
      · have : S < 2 ^ p := Nat.lt_of_lt_of_le hS (Nat.pow_le_pow_right (by omega) (by omega))
        rw [Nat.testBit_lt_two_pow this] at hp
        cases hp
    have h2 := congrArg (fun x : Int32 => x.toBitVec.getLsbD p) h
    have h3 : (nI S &&& (nI M ^^^ (-1))).toBitVec.getLsbD p = (0 : Int32).toBitVec.getLsbD p := h2
    rw [e, BitVec.getLsbD_and, BitVec.getLsbD_xor, BitVec.getLsbD_ofNat, BitVec.getLsbD_ofNat, BitVec.getLsbD_allOnes, decide_eq_true hp2, hp, show (0 : Int32).toBitVec = 0#32 from rfl, BitVec.getLsbD_zero] at h3
    simpa using h3
  · intro h
    apply Int32.toBitVec_inj.mp
    rw [e, show (0 : Int32).toBitVec = 0#32 from rfl]
    apply BitVec.eq_of_getLsbD_eq
    intro i hi
    rw [BitVec.getLsbD_and, BitVec.getLsbD_xor, BitVec.getLsbD_ofNat, BitVec.getLsbD_ofNat, BitVec.getLsbD_allOnes, decide_eq_true hi, BitVec.getLsbD_zero]
    by_cases q : S.testBit i = true
    · rw [q, h i q]; rfl
    · have q : S.testBit i = false := by simpa using q
      rw [q]; rfl
/-! the least that does -/
def pc8 (x : Nat) : Nat := x % 2 + x / 2 % 2 + x / 4 % 2 + x / 8 % 2 + x / 16 % 2 + x / 32 % 2 + x / 64 % 2 + x / 128 % 2
theorem pc8_le (x : Nat) : pc8 x ≤ 8 := by
  unfold pc8
  omega
theorem jBc_d : ∀ x, x < 256 → jBc (nI x) 12 = nI (pc8 x) := by decide +kernel
def wS (F : Nat → Nat) (S : Nat) : Nat → Nat
  | 0 => 0
  | p + 1 => if S.testBit p = true then wS F S p + (1 + pc8 (F p)) else wS F S p
def oS (F : Nat → Nat) (S : Nat) : Nat → Nat
  | 0 => 0
  | p + 1 => if S.testBit p = true then oS F S p ||| F p else oS F S p
theorem wS_le {F : Nat → Nat} {S : Nat} : ∀ n, wS F S n ≤ 9 * n
  | 0 => Nat.le_refl _
  | n + 1 => by
    have ih := wS_le (F := F) (S := S) n
    have := pc8_le (F n)
    show (if S.testBit n = true then wS F S n + (1 + pc8 (F n)) else wS F S n) ≤ _
    by_cases q : S.testBit n = true
    · rw [if_pos q]; omega
    · rw [if_neg q]; omega
theorem wS_c {F : Nat → Nat} {S T : Nat} : ∀ n, (∀ p, p < n → S.testBit p = T.testBit p) → wS F S n = wS F T n
  | 0, _ => rfl
  | n + 1, h => by
    show (if S.testBit n = true then wS F S n + (1 + pc8 (F n)) else wS F S n) = (if T.testBit n = true then wS F T n + (1 + pc8 (F n)) else wS F T n)
    rw [wS_c n (fun p hp => h p (by omega)), h n (by omega)]
theorem oS_c {F : Nat → Nat} {S T : Nat} : ∀ n, (∀ p, p < n → S.testBit p = T.testBit p) → oS F S n = oS F T n
  | 0, _ => rfl
  | n + 1, h => by
    show (if S.testBit n = true then oS F S n ||| F n else oS F S n) = (if T.testBit n = true then oS F T n ||| F n else oS F T n)
    rw [oS_c n (fun p hp => h p (by omega)), h n (by omega)]
theorem wS_f {F F2 : Nat → Nat} {S : Nat} : ∀ n, (∀ p, p < n → F p = F2 p) → wS F S n = wS F2 S n
  | 0, _ => rfl
  | n + 1, h => by
    show (if S.testBit n = true then wS F S n + (1 + pc8 (F n)) else wS F S n) = (if S.testBit n = true then wS F2 S n + (1 + pc8 (F2 n)) else wS F2 S n)
    rw [wS_f n (fun p hp => h p (by omega)), h n (by omega)]
theorem oS_f {F F2 : Nat → Nat} {S : Nat} : ∀ n, (∀ p, p < n → F p = F2 p) → oS F S n = oS F2 S n
  | 0, _ => rfl
  | n + 1, h => by
    show (if S.testBit n = true then oS F S n ||| F n else oS F S n) = (if S.testBit n = true then oS F2 S n ||| F2 n else oS F2 S n)
    rw [oS_f n (fun p hp => h p (by omega)), h n (by omega)]
theorem oS_lt {F : Nat → Nat} {S q : Nat} : ∀ n, (∀ p, p < n → F p < 2 ^ q) → oS F S n < 2 ^ q
  | 0, _ => Nat.two_pow_pos q
  | n + 1, h => by
    have ih := oS_lt (S := S) n (fun p hp => h p (by omega))
    show (if S.testBit n = true then oS F S n ||| F n else oS F S n) < 2 ^ q
    by_cases z : S.testBit n = true
    · rw [if_pos z]; exact Nat.or_lt_two_pow ih (h n (by omega))
    · rw [if_neg z]; exact ih
/-- a set of the first n papers, all of which may be shown, fits the asks st at the price K -/
def jIs (g : Nat → Bool) (F : Nat → Nat) (n st K : Nat) : Prop := ∃ S, S < 2 ^ n ∧ (∀ p, p < n → S.testBit p = true → g p = true) ∧ oS F S n = st ∧ K = wS F S n * 4096 + S
def jMin (C : Nat → Prop) (v : Int32) : Prop := (v = -1000000 ∧ ∀ K, ¬ C K) ∨ ∃ K, v = nI K ∧ C K ∧ ∀ K2, C K2 → K ≤ K2
theorem jMin_c {C D : Nat → Prop} {v : Int32} (h : jMin C v) (e : ∀ K, C K ↔ D K) : jMin D v := by
  rcases h with ⟨h1, h2⟩ | ⟨K, h1, h2, h3⟩
  · exact Or.inl ⟨h1, fun K z => h2 K ((e K).mpr z)⟩
  · exact Or.inr ⟨K, h1, (e K).mp h2, fun K2 z => h3 K2 ((e K2).mpr z)⟩
theorem jIs_lt {g : Nat → Bool} {F : Nat → Nat} {n st K : Nat} (hn : n ≤ 12) (h : jIs g F n st K) : K < 500000 := by
  obtain ⟨S, h1, -, -, rfl⟩ := h
  have h2 := wS_le (F := F) (S := S) n
  have h3 : 2 ^ n ≤ 2 ^ 12 := Nat.pow_le_pow_right (by omega) hn
  omega
theorem jIs_0 {g : Nat → Bool} {F : Nat → Nat} {st K : Nat} : jIs g F 0 st K ↔ st = 0 ∧ K = 0 := by
  constructor
  · rintro ⟨S, h1, -, rfl, rfl⟩
    obtain rfl : S = 0 := by
      have : S < 1 := h1
      omega
    exact ⟨rfl, by show 0 * 4096 + 0 = 0; omega⟩
  · rintro ⟨rfl, rfl⟩
    exact ⟨0, by show 0 < 1; omega, fun p hp => absurd hp (by omega), rfl, by show 0 = 0 * 4096 + 0; omega⟩
theorem jIs_no {g : Nat → Bool} {F : Nat → Nat} {n st K : Nat} (hg : ¬ g n = true) : jIs g F n st K ↔ jIs g F (n + 1) st K := by
  have e : 2 ^ (n + 1) = 2 ^ n * 2 := Nat.pow_succ 2 n
  constructor
  · rintro ⟨S, h1, h2, rfl, rfl⟩
    have hb : ¬ S.testBit n = true := by rw [Nat.testBit_lt_two_pow h1]; simp
    refine ⟨S, by omega, fun p hp hs => ?_, if_neg hb, by rw [show wS F S (n + 1) = wS F S n from if_neg hb]⟩
    rcases Nat.lt_or_ge p n with z | z
    · exact h2 p z hs
    · obtain rfl : p = n := by omega
      exact absurd hs hb
  · rintro ⟨S, h1, h2, rfl, rfl⟩
    have hb : ¬ S.testBit n = true := fun z => hg (h2 n (by omega) z)
    refine ⟨S, ?_, fun p hp hs => h2 p (by omega) hs, (if_neg hb).symm, by rw [show wS F S (n + 1) = wS F S n from if_neg hb]⟩
    rcases Nat.lt_or_ge S (2 ^ n) with z | z
    · exact z
    · exfalso
      apply hb
      rw [Nat.testBit_eq_decide_div_mod_eq, decide_eq_true_eq]
      have : S / 2 ^ n = 1 := by
        rw [Nat.div_eq_iff (Nat.two_pow_pos n)]
        omega
      rw [this]
theorem jIs_yes {g : Nat → Bool} {F : Nat → Nat} {n r K : Nat} (hg : g n = true) : jIs g F (n + 1) r K ↔ (jIs g F n r K ∨ ∃ st K0, jIs g F n st K0 ∧ st ||| F n = r ∧ K = K0 + ((1 + pc8 (F n)) * 4096 + 2 ^ n)) := by
  have e : 2 ^ (n + 1) = 2 ^ n * 2 := Nat.pow_succ 2 n
  constructor
  · rintro ⟨S, h1, h2, rfl, rfl⟩
    by_cases hb : S.testBit n = true
    · refine Or.inr ⟨oS F S n, wS F S n * 4096 + S % 2 ^ n, ⟨S % 2 ^ n, Nat.mod_lt _ (Nat.two_pow_pos n), fun p hp hs => h2 p (by omega) (by rw [Nat.testBit_mod_two_pow] at hs; simp at hs; exact hs.2), ?_, ?_⟩, (if_pos hb).symm, ?_⟩
      · exact oS_c n (fun p hp => by rw [Nat.testBit_mod_two_pow, decide_eq_true hp, Bool.true_and])
      · rw [wS_c n (fun p hp => by rw [Nat.testBit_mod_two_pow, decide_eq_true hp, Bool.true_and] : ∀ p, p < n → (S % 2 ^ n).testBit p = S.testBit p)]
      · rw [show wS F S (n + 1) = wS F S n + (1 + pc8 (F n)) from if_pos hb]
        have h3 : S / 2 ^ n = 1 := by
          rw [Nat.testBit_eq_decide_div_mod_eq, decide_eq_true_eq] at hb
          have h6 : S / 2 ^ n < 2 := (Nat.div_lt_iff_lt_mul (Nat.two_pow_pos n)).mpr (by omega)
          have h5 : ∀ d, d < 2 → d % 2 = 1 → d = 1 := by omega
          exact h5 _ h6 hb
        have h4 := Nat.div_add_mod S (2 ^ n)
        rw [h3] at h4
        omega
    · refine Or.inl ⟨S, ?_, fun p hp hs => h2 p (by omega) hs, (if_neg hb).symm, by rw [show wS F S (n + 1) = wS F S n from if_neg hb]⟩
      rcases Nat.lt_or_ge S (2 ^ n) with z | z
      · exact z
      · exfalso
        apply hb
        rw [Nat.testBit_eq_decide_div_mod_eq, decide_eq_true_eq]
        have : S / 2 ^ n = 1 := by
          rw [Nat.div_eq_iff (Nat.two_pow_pos n)]
          omega
        rw [this]
  · rintro (⟨S, h1, h2, rfl, rfl⟩ | ⟨st, K0, ⟨S, h1, h2, rfl, rfl⟩, rfl, rfl⟩)
    · have hb : ¬ S.testBit n = true := by rw [Nat.testBit_lt_two_pow h1]; simp
      refine ⟨S, by omega, fun p hp hs => ?_, if_neg hb, by rw [show wS F S (n + 1) = wS F S n from if_neg hb]⟩
      rcases Nat.lt_or_ge p n with z | z
      · exact h2 p z hs
      · obtain rfl : p = n := by omega
        exact absurd hs hb
    · have ea : 2 ^ n + S = 2 ^ n ||| S := by
        have := Nat.two_pow_add_eq_or_of_lt h1 1
        rw [Nat.mul_one] at this
        exact this
      have hb : (2 ^ n + S).testBit n = true := by rw [ea, Nat.testBit_or, Nat.testBit_two_pow_self, Bool.true_or]
      have hc : ∀ p, p < n → (2 ^ n + S).testBit p = S.testBit p := fun p hp => by
        rw [ea, Nat.testBit_or, Nat.testBit_two_pow, decide_eq_false (by omega), Bool.false_or]
      refine ⟨2 ^ n + S, by omega, fun p hp hs => ?_, ?_, ?_⟩
      · rcases Nat.lt_or_ge p n with z | z
        · rw [hc p z] at hs
          exact h2 p z hs
        · obtain rfl : p = n := by omega
          exact hg
      · rw [show oS F (2 ^ n + S) (n + 1) = oS F (2 ^ n + S) n ||| F n from if_pos hb, oS_c n hc]
      · rw [show wS F (2 ^ n + S) (n + 1) = wS F (2 ^ n + S) n + (1 + pc8 (F n)) from if_pos hb, wS_c n hc]
        omega
theorem jIs_cg {g g2 : Nat → Bool} {F F2 : Nat → Nat} {n st K : Nat} (hg : ∀ p, p < n → g p = g2 p) (hF : ∀ p, p < n → F p = F2 p) : jIs g F n st K ↔ jIs g2 F2 n st K := by
  constructor
  · rintro ⟨S, h1, h2, rfl, rfl⟩
    exact ⟨S, h1, fun p hp hs => by rw [← hg p hp]; exact h2 p hp hs, (oS_f n hF).symm, by rw [wS_f n hF]⟩
  · rintro ⟨S, h1, h2, rfl, rfl⟩
    exact ⟨S, h1, fun p hp hs => by rw [hg p hp]; exact h2 p hp hs, oS_f n hF, by rw [wS_f n hF]⟩
/-- while a paper is offered: states below k have been gone through -/
def jOf (C : Nat → Nat → Prop) (f m k r K : Nat) : Prop := C r K ∨ ∃ st K0, st < k ∧ st ||| f = r ∧ C st K0 ∧ K = K0 + m
theorem jnn {K : Nat} (h : K < 2 ^ 31) : ¬ nI K = -1000000 := fun q => absurd (nI_pos h) (by rw [q]; decide)
theorem jOf_s {C : Nat → Nat → Prop} {f m k q : Nat} {b b2 : Nat → Int32} (hC : ∀ r K, C r K → K < 500000) (hm : m < 500000) (hm0 : 0 < m) (hk : k < 2 ^ q) (hb : ∀ r, r < 2 ^ q → jMin (jOf C f m k r) (b r))
    (h1 : ∀ r, ¬ r = k ||| f → b2 r = b r) (h2 : b2 (k ||| f) = if ¬ b k = -1000000 ∧ (b (k ||| f) = -1000000 ∨ b k + nI m < b (k ||| f)) then b k + nI m else b (k ||| f)) : ∀ r, r < 2 ^ q → jMin (jOf C f m (k + 1) r) (b2 r) := by
  intro r hr
  by_cases e : r = k ||| f
  · subst e
    rw [h2]
    have hO : ∀ K, jOf C f m (k + 1) (k ||| f) K ↔ (jOf C f m k (k ||| f) K ∨ ∃ K0, C k K0 ∧ K = K0 + m) := by
      intro K
      constructor
      · rintro (z | ⟨st, K0, z1, z2, z3, z4⟩)
        · exact Or.inl (Or.inl z)
        · rcases Nat.lt_or_ge st k with y | y
          · exact Or.inl (Or.inr ⟨st, K0, y, z2, z3, z4⟩)
          · obtain rfl : st = k := by omega
            exact Or.inr ⟨K0, z3, z4⟩
      · rintro ((z | ⟨st, K0, z1, z2, z3, z4⟩) | ⟨K0, z3, z4⟩)
        · exact Or.inl z
        · exact Or.inr ⟨st, K0, by omega, z2, z3, z4⟩
        · exact Or.inr ⟨k, K0, by omega, rfl, z3, z4⟩
    have hOl : ∀ r K, jOf C f m k r K → K < 1000000 := by
      rintro r K (z | ⟨st, K0, z1, z2, z3, z4⟩)
      · have := hC _ _ z; omega
      · have := hC _ _ z3; omega
    rcases hb k hk with ⟨a1, a2⟩ | ⟨K1, a1, a2, a3⟩
    · rw [if_neg (fun z => z.1 a1)]
      refine jMin_c (hb _ hr) (fun K => ⟨fun z => (hO K).mpr (Or.inl z), fun z => ?_⟩)
      rcases (hO K).mp z with y | ⟨K0, y, -⟩
      · exact y
      · exact absurd (Or.inl y) (a2 K0)
    · have l1 := hOl _ _ a2
      have hK0 : ∀ K0, C k K0 → K1 ≤ K0 := fun K0 z => a3 K0 (Or.inl z)
      by_cases hkr : k = k ||| f
      · rw [← hkr] at hO ⊢
        rw [a1, if_neg (fun z => by
          rcases z.2 with y | y
          · exact jnn (by omega) y
          · rw [nI_add, nI_ltI (by omega) (by omega)] at y
            omega)]
        refine Or.inr ⟨K1, rfl, (hO K1).mpr (Or.inl a2), fun K2 z => ?_⟩
        rcases (hO K2).mp z with y | ⟨K0, y, rfl⟩
        · exact a3 K2 y
        · have := hK0 K0 y; omega
      · have hCk : C k K1 := by
          rcases a2 with z | ⟨st, K0, z1, z2, z3, z4⟩
          · exact z
          · exfalso
            apply hkr
            rw [← z2, Nat.or_assoc, Nat.or_self]
        have l2 := hC _ _ hCk
        have hnew : jOf C f m (k + 1) (k ||| f) (K1 + m) := (hO _).mpr (Or.inr ⟨K1, hCk, rfl⟩)
        rcases hb (k ||| f) hr with ⟨c1, c2⟩ | ⟨K3, c1, c2, c3⟩
        · rw [if_pos ⟨by rw [a1]; exact jnn (by omega), Or.inl c1⟩, a1, nI_add]
          refine Or.inr ⟨K1 + m, rfl, hnew, fun K2 z => ?_⟩
          rcases (hO K2).mp z with y | ⟨K0, y, rfl⟩
          · exact absurd y (c2 K2)
          · have := hK0 K0 y; omega
        · have l3 := hOl _ _ c2
          by_cases hlt : K1 + m < K3
          · rw [if_pos ⟨by rw [a1]; exact jnn (by omega), Or.inr (by rw [a1, c1, nI_add, nI_ltI (by omega) (by omega)]; exact hlt)⟩, a1, nI_add]
            refine Or.inr ⟨K1 + m, rfl, hnew, fun K2 z => ?_⟩
            rcases (hO K2).mp z with y | ⟨K0, y, rfl⟩
            · have := c3 K2 y; omega
            · have := hK0 K0 y; omega
          · rw [if_neg (fun z => by
              rcases z.2 with y | y
              · rw [c1] at y; exact jnn (by omega) y
              · rw [a1, c1, nI_add, nI_ltI (by omega) (by omega)] at y
                exact hlt y), c1]
            refine Or.inr ⟨K3, rfl, (hO _).mpr (Or.inl c2), fun K2 z => ?_⟩
            rcases (hO K2).mp z with y | ⟨K0, y, rfl⟩
            · exact c3 K2 y
            · have := hK0 K0 y; omega
  · rw [h1 r e]
    refine jMin_c (hb r hr) (fun K => ⟨?_, ?_⟩)
    · rintro (z | ⟨st, K0, z1, z2, z3, z4⟩)
      · exact Or.inl z
      · exact Or.inr ⟨st, K0, by omega, z2, z3, z4⟩
    · rintro (z | ⟨st, K0, z1, z2, z3, z4⟩)
      · exact Or.inl z
      · rcases Nat.lt_or_ge st k with y | y
        · exact Or.inr ⟨st, K0, y, z2, z3, z4⟩
        · obtain rfl : st = k := by omega
          exact absurd z2.symm e
theorem jOf_end {g : Nat → Bool} {F : Nat → Nat} {n q r K : Nat} (hg : g n = true) (hF : ∀ p, p < n → F p < 2 ^ q) : jOf (jIs g F n) (F n) ((1 + pc8 (F n)) * 4096 + 2 ^ n) (2 ^ q) r K ↔ jIs g F (n + 1) r K := by
  rw [jIs_yes hg]
  constructor
  · rintro (z | ⟨st, K0, z1, z2, z3, z4⟩)
    · exact Or.inl z
    · exact Or.inr ⟨st, K0, z3, z2, z4⟩
  · rintro (z | ⟨st, K0, z3, z2, z4⟩)
    · exact Or.inl z
    · refine Or.inr ⟨st, K0, ?_, z2, z3, z4⟩
      obtain ⟨S, -, -, rfl, -⟩ := z3
      exact oS_lt n hF
/-- what 'least' answers: of the least price its set, or its weight -/
def jBest (C : Nat → Prop) (w : Nat) (v : Int32) : Prop := (v = -1000000 ∧ ∀ K, ¬ C K) ∨ ∃ K, C K ∧ (∀ K2, C K2 → K ≤ K2) ∧ v = nI (if w = 0 then K % 4096 else K / 4096)
theorem jBest_u {C D : Nat → Prop} {w : Nat} {v v2 : Int32} (e : ∀ K, C K ↔ D K) (h : jBest C w v) (h2 : jBest D w v2) : v = v2 := by
  rcases h with ⟨a1, a2⟩ | ⟨K, a1, a2, a3⟩
  · rcases h2 with ⟨b1, b2⟩ | ⟨K2, b1, b2, b3⟩
    · rw [a1, b1]
    · exact absurd ((e K2).mpr b1) (a2 K2)
  · rcases h2 with ⟨b1, b2⟩ | ⟨K2, b1, b2, b3⟩
    · exact absurd ((e K).mp a1) (b2 K)
    · have h3 := a2 K2 ((e K2).mpr b1)
      have h4 := b2 K ((e K).mp a1)
      obtain rfl : K = K2 := by omega
      rw [a3, b3]
/-- while the model goes through the sets: those below k have been -/
def jVs (g : Nat → Bool) (F : Nat → Nat) (n st S : Nat) : Prop := (∀ p, p < n → S.testBit p = true → g p = true) ∧ oS F S n = st
def jMS (g : Nat → Bool) (F : Nat → Nat) (n st k : Nat) (best least : Int32) : Prop := (best = -1000000 ∧ ∀ S, S < k → ¬ jVs g F n st S) ∨ ∃ B, B < k ∧ jVs g F n st B ∧ best = nI B ∧ least = nI (wS F B n) ∧ ∀ S, S < k → jVs g F n st S → wS F B n * 4096 + B ≤ wS F S n * 4096 + S
theorem jMS_no {g : Nat → Bool} {F : Nat → Nat} {n st k : Nat} {best least : Int32} (h : jMS g F n st k best least) (hk : ¬ jVs g F n st k) : jMS g F n st (k + 1) best least := by
  rcases h with ⟨a1, a2⟩ | ⟨B, a0, a1, a2, a3, a4⟩
  · refine Or.inl ⟨a1, fun S hS => ?_⟩
    rcases Nat.lt_or_ge S k with z | z
    · exact a2 S z
    · obtain rfl : S = k := by omega
      exact hk
  · refine Or.inr ⟨B, by omega, a1, a2, a3, fun S hS hv => ?_⟩
    rcases Nat.lt_or_ge S k with z | z
    · exact a4 S z hv
    · obtain rfl : S = k := by omega
      exact absurd hv hk
theorem jMS_take {g : Nat → Bool} {F : Nat → Nat} {n st k : Nat} {best least : Int32} (hn : n ≤ 12) (hk4 : k < 4096) (h : jMS g F n st k best least) (hk : jVs g F n st k) (hlt : best = -1000000 ∨ nI (wS F k n) < least) : jMS g F n st (k + 1) (nI k) (nI (wS F k n)) := by
  refine Or.inr ⟨k, by omega, hk, rfl, rfl, fun S hS hv => ?_⟩
  rcases Nat.lt_or_ge S k with z | z
  · rcases h with ⟨a1, a2⟩ | ⟨B, a0, a1, a2, a3, a4⟩
    · exact absurd hv (a2 S z)
    · have h1 := a4 S z hv
      have h2 : wS F k n < wS F B n := by
        rcases hlt with y | y
        · rw [a2] at y
          exact absurd y (jnn (by omega))
        · rw [a3] at y
          have := wS_le (F := F) (S := k) n
          have := wS_le (F := F) (S := B) n
          exact (nI_ltI (by omega) (by omega)).mp y
      have h5 : ∀ a b s B k S : Nat, b * 4096 + B ≤ s * 4096 + S → a < b → k < 4096 → a * 4096 + k ≤ s * 4096 + S := by omega
      exact h5 _ _ _ _ _ _ h1 h2 hk4
  · obtain rfl : S = k := by omega
    exact Nat.le_refl _
theorem jMS_keep {g : Nat → Bool} {F : Nat → Nat} {n st k : Nat} {best least : Int32} (hn : n ≤ 12) (h : jMS g F n st k best least) (h1 : ¬ best = -1000000) (h2 : least ≤ nI (wS F k n)) : jMS g F n st (k + 1) best least := by
  rcases h with ⟨a1, a2⟩ | ⟨B, a0, a1, a2, a3, a4⟩
  · exact absurd a1 h1
  · refine Or.inr ⟨B, by omega, a1, a2, a3, fun S hS hv => ?_⟩
    rcases Nat.lt_or_ge S k with z | z
    · exact a4 S z hv
    · obtain rfl : S = k := by omega
      rw [a3] at h2
      have := wS_le (F := F) (S := S) n
      have := wS_le (F := F) (S := B) n
      have := (nI_leI (by omega) (by omega)).mp h2
      omega
theorem jMS_end {g : Nat → Bool} {F : Nat → Nat} {n st : Nat} {best least : Int32} (hn : n ≤ 12) (h : jMS g F n st (2 ^ n) best least) : (best = -1000000 ∧ ∀ K, ¬ jIs g F n st K) ∨ (¬ best = -1000000 ∧ jBest (jIs g F n st) 0 best ∧ jBest (jIs g F n st) 1 least) := by
  have hp : 2 ^ n ≤ 2 ^ 12 := Nat.pow_le_pow_right (by omega) hn
  rcases h with ⟨a1, a2⟩ | ⟨B, a0, a1, a2, a3, a4⟩
  · exact Or.inl ⟨a1, fun K ⟨S, h1, h2, h3, _⟩ => a2 S h1 ⟨h2, h3⟩⟩
  · have hI : jIs g F n st (wS F B n * 4096 + B) := ⟨B, a0, a1.1, a1.2, rfl⟩
    have hM : ∀ K2, jIs g F n st K2 → wS F B n * 4096 + B ≤ K2 := fun K2 ⟨S, h1, h2, h3, h4⟩ => by
      rw [h4]
      exact a4 S h1 ⟨h2, h3⟩
    refine Or.inr ⟨by rw [a2]; exact jnn (by omega), Or.inr ⟨_, hI, hM, ?_⟩, Or.inr ⟨_, hI, hM, ?_⟩⟩
    · rw [a2, if_pos rfl, show (wS F B n * 4096 + B) % 4096 = B by omega]
    · rw [a3, if_neg (by omega), show (wS F B n * 4096 + B) / 4096 = wS F B n by omega]
