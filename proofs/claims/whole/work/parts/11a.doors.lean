/-! the doors' texts: tokens -/
def tB (b : Nat) : Bool := decide (b = 32 ∨ b = 10)
def tL (b : Nat) : Bool := decide (97 ≤ b ∧ b ≤ 122)
def tG (b : Nat) : Bool := decide (48 ≤ b ∧ b ≤ 57)
def tRun (g : Nat → Bool) (B : Nat → Nat) (n : Nat) : Nat → Nat → Nat
  | 0, p => p
  | f + 1, p => if p < n ∧ g (B p) = true then tRun g B n f (p + 1) else p
def tR (g : Nat → Bool) (B : Nat → Nat) (n p : Nat) : Nat := tRun g B n (n - p) p
theorem tR_go {g : Nat → Bool} {B : Nat → Nat} {n p : Nat} (h : p < n) (hg : g (B p) = true) : tR g B n p = tR g B n (p + 1) := by
  unfold tR
  rw [show n - p = (n - (p + 1)) + 1 by omega]
  exact if_pos ⟨h, hg⟩
theorem tR_stop {g : Nat → Bool} {B : Nat → Nat} {n p : Nat} (h : ¬ (p < n ∧ g (B p) = true)) : tR g B n p = p := by
  unfold tR
  cases hk : n - p with
  | zero => rfl
  | succ k => exact if_neg h
theorem tRun_ge {g : Nat → Bool} {B : Nat → Nat} {n : Nat} : ∀ f p, p ≤ tRun g B n f p
  | 0, _ => Nat.le_refl _
  | f + 1, p => by
    show p ≤ if p < n ∧ g (B p) = true then tRun g B n f (p + 1) else p
    by_cases q : p < n ∧ g (B p) = true
    · rw [if_pos q]
      have := tRun_ge (g := g) (B := B) (n := n) f (p + 1)
      omega
    · rw [if_neg q]; exact Nat.le_refl _
theorem tR_ge {g : Nat → Bool} {B : Nat → Nat} {n p : Nat} : p ≤ tR g B n p := tRun_ge _ _
theorem tRun_le {g : Nat → Bool} {B : Nat → Nat} {n : Nat} : ∀ f p, p ≤ n → tRun g B n f p ≤ n
  | 0, _, h => h
  | f + 1, p, h => by
    show (if p < n ∧ g (B p) = true then tRun g B n f (p + 1) else p) ≤ n
    by_cases q : p < n ∧ g (B p) = true
    · rw [if_pos q]; exact tRun_le f (p + 1) (by omega)
    · rw [if_neg q]; exact h
theorem tR_le {g : Nat → Bool} {B : Nat → Nat} {n p : Nat} (h : p ≤ n) : tR g B n p ≤ n := tRun_le _ _ h
theorem tRun_in {g : Nat → Bool} {B : Nat → Nat} {n : Nat} : ∀ f p i, p ≤ i → i < tRun g B n f p → i < n ∧ g (B i) = true
  | 0, p, i, h1, h2 => absurd (show i < p from h2) (by omega)
  | f + 1, p, i, h1, h2 => by
    have h3 : i < if p < n ∧ g (B p) = true then tRun g B n f (p + 1) else p := h2
    by_cases q : p < n ∧ g (B p) = true
    · rw [if_pos q] at h3
      rcases Nat.eq_or_lt_of_le h1 with e | e
      · subst e; exact q
      · exact tRun_in f (p + 1) i (by omega) h3
    · rw [if_neg q] at h3; omega
theorem tR_in {g : Nat → Bool} {B : Nat → Nat} {n p i : Nat} (h1 : p ≤ i) (h2 : i < tR g B n p) : i < n ∧ g (B i) = true := tRun_in _ _ _ h1 h2
theorem tR_gt {g : Nat → Bool} {B : Nat → Nat} {n p : Nat} (h : p < n) (hg : g (B p) = true) : p < tR g B n p := by
  rw [tR_go h hg]
  have := tR_ge (g := g) (B := B) (n := n) (p := p + 1)
  omega
def tF (B : Nat → Nat) (n p : Nat) : Nat := tR tB B n p
def tK (B : Nat → Nat) (n p : Nat) : Nat := if n ≤ tF B n p then 1 else if tL (B (tF B n p)) = true then 2 else if tG (B (tF B n p)) = true then (if 3 < tR tG B n (tF B n p) - tF B n p then 0 else 3) else if B (tF B n p) = 59 then 4 else 0
def tN (B : Nat → Nat) (n p : Nat) : Nat := if n ≤ tF B n p then tF B n p else if tL (B (tF B n p)) = true then tR tL B n (tF B n p) else if tG (B (tF B n p)) = true then tR tG B n (tF B n p) else tF B n p + 1
def jVf (B : Nat → Nat) (f : Nat) : Nat → Int32
  | 0 => 0
  | k + 1 => 10 * jVf B f k + nI (B (f + k)) - 48
def jVn (B : Nat → Nat) (f : Nat) : Nat → Nat
  | 0 => 0
  | k + 1 => 10 * jVn B f k + (B (f + k) - 48)
def tV (B : Nat → Nat) (n p : Nat) : Nat := jVn B (tF B n p) (tN B n p - tF B n p)
theorem tLG {b : Nat} (h : tL b = true) : ¬ tG b = true := by
  have := of_decide_eq_true h
  exact fun z => by have := of_decide_eq_true z; omega
theorem jVf_e {B : Nat → Nat} {f : Nat} : ∀ k, (∀ i, i < k → tG (B (f + i)) = true) → jVf B f k = nI (jVn B f k)
  | 0, _ => rfl
  | k + 1, h => by
    have h1 := of_decide_eq_true (h k (by omega))
    show 10 * jVf B f k + nI (B (f + k)) - 48 = nI (10 * jVn B f k + (B (f + k) - 48))
    rw [jVf_e k (fun i hi => h i (by omega)), show (10 : Int32) = nI 10 from rfl, show (48 : Int32) = nI 48 from rfl, pk_mul, nI_add, pk_sub (by omega)]
    congr 1
    omega
theorem jVn_lt {B : Nat → Nat} {f : Nat} : ∀ k, (∀ i, i < k → tG (B (f + i)) = true) → jVn B f k < 10 ^ k
  | 0, _ => by show 0 < 1; omega
  | k + 1, h => by
    have h1 := of_decide_eq_true (h k (by omega))
    have h2 := jVn_lt (B := B) (f := f) k (fun i hi => h i (by omega))
    show 10 * jVn B f k + (B (f + k) - 48) < 10 ^ (k + 1)
    rw [Nat.pow_succ]
    omega
theorem tF_ge {B : Nat → Nat} {n p : Nat} : p ≤ tF B n p := tR_ge
theorem tF_le {B : Nat → Nat} {n p : Nat} (h : p ≤ n) : tF B n p ≤ n := tR_le h
theorem tN_ge {B : Nat → Nat} {n p : Nat} : tF B n p ≤ tN B n p := by
  unfold tN
  by_cases h : n ≤ tF B n p
  · rw [if_pos h]; exact Nat.le_refl _
  · rw [if_neg h]
    by_cases h2 : tL (B (tF B n p)) = true
    · rw [if_pos h2]; exact tR_ge
    · rw [if_neg h2]
      by_cases h3 : tG (B (tF B n p)) = true
      · rw [if_pos h3]; exact tR_ge
      · rw [if_neg h3]; omega
theorem tN_le {B : Nat → Nat} {n p : Nat} (hp : p ≤ n) : tN B n p ≤ n := by
  have hf := tF_le (B := B) hp
  unfold tN
  by_cases h : n ≤ tF B n p
  · rw [if_pos h]; exact hf
  · rw [if_neg h]
    by_cases h2 : tL (B (tF B n p)) = true
    · rw [if_pos h2]; exact tR_le hf
    · rw [if_neg h2]
      by_cases h3 : tG (B (tF B n p)) = true
      · rw [if_pos h3]; exact tR_le hf
      · rw [if_neg h3]; omega
/-- a token that is no end goes on -/
theorem tN_gt {B : Nat → Nat} {n p : Nat} (hk : ¬ tK B n p = 1) : p < tN B n p ∧ tF B n p < n := by
  have hf := tF_ge (B := B) (n := n) (p := p)
  have h : ¬ n ≤ tF B n p := fun z => hk (if_pos z)
  refine ⟨?_, by omega⟩
  unfold tN
  rw [if_neg h]
  by_cases h2 : tL (B (tF B n p)) = true
  · rw [if_pos h2]
    have := tR_gt (g := tL) (B := B) (n := n) (p := tF B n p) (by omega) h2
    omega
  · rw [if_neg h2]
    by_cases h3 : tG (B (tF B n p)) = true
    · rw [if_pos h3]
      have := tR_gt (g := tG) (B := B) (n := n) (p := tF B n p) (by omega) h3
      omega
    · rw [if_neg h3]; omega
theorem tK_lt (B : Nat → Nat) (n p : Nat) : tK B n p < 5 := by
  unfold tK
  by_cases h : n ≤ tF B n p
  · rw [if_pos h]; omega
  · rw [if_neg h]
    by_cases h2 : tL (B (tF B n p)) = true
    · rw [if_pos h2]; omega
    · rw [if_neg h2]
      by_cases h3 : tG (B (tF B n p)) = true
      · rw [if_pos h3]
        by_cases h4 : 3 < tR tG B n (tF B n p) - tF B n p
        · rw [if_pos h4]; omega
        · rw [if_neg h4]; omega
      · rw [if_neg h3]
        by_cases h4 : B (tF B n p) = 59
        · rw [if_pos h4]; omega
        · rw [if_neg h4]; omega
/-- a number token: figures, three at most -/
theorem tK_3 {B : Nat → Nat} {n p : Nat} (h : tK B n p = 3) : tN B n p = tR tG B n (tF B n p) ∧ tN B n p - tF B n p ≤ 3 ∧ tF B n p < n ∧ ∀ i, i < tN B n p - tF B n p → tG (B (tF B n p + i)) = true := by
  unfold tK at h
  by_cases h1 : n ≤ tF B n p
  · rw [if_pos h1] at h; omega
  · rw [if_neg h1] at h
    by_cases h2 : tL (B (tF B n p)) = true
    · rw [if_pos h2] at h; omega
    · rw [if_neg h2] at h
      by_cases h3 : tG (B (tF B n p)) = true
      · rw [if_pos h3] at h
        have e : tN B n p = tR tG B n (tF B n p) := by
          unfold tN
          rw [if_neg h1, if_neg h2, if_pos h3]
        by_cases h4 : 3 < tR tG B n (tF B n p) - tF B n p
        · rw [if_pos h4] at h; omega
        · refine ⟨e, by rw [e]; omega, by omega, fun i hi => ?_⟩
          rw [e] at hi
          have h9 : tF B n p + i < tR tG B n (tF B n p) := by omega
          exact (tR_in (Nat.le_add_right _ _) h9).2
      · rw [if_neg h3] at h
        by_cases h4 : B (tF B n p) = 59
        · rw [if_pos h4] at h; omega
        · rw [if_neg h4] at h; omega
theorem tV_e {B : Nat → Nat} {n p : Nat} (h : tK B n p = 3) : jVf B (tF B n p) (tN B n p - tF B n p) = nI (tV B n p) ∧ tV B n p ≤ 999 := by
  obtain ⟨-, h2, -, h4⟩ := tK_3 h
  refine ⟨jVf_e _ h4, ?_⟩
  have h5 := jVn_lt _ h4
  have h6 : 10 ^ (tN B n p - tF B n p) ≤ 10 ^ 3 := Nat.pow_le_pow_right (by omega) h2
  unfold tV
  omega
/-- a name token: letters -/
theorem tK_2 {B : Nat → Nat} {n p : Nat} (h : tK B n p = 2) : tN B n p = tR tL B n (tF B n p) ∧ tF B n p < tN B n p ∧ tN B n p ≤ n ∧ ∀ i, tF B n p ≤ i → i < tN B n p → tL (B i) = true := by
  unfold tK at h
  by_cases h1 : n ≤ tF B n p
  · rw [if_pos h1] at h; omega
  · rw [if_neg h1] at h
    by_cases h2 : tL (B (tF B n p)) = true
    · have e : tN B n p = tR tL B n (tF B n p) := by
        unfold tN
        rw [if_neg h1, if_pos h2]
      refine ⟨e, by rw [e]; exact tR_gt (by omega) h2, by rw [e]; exact tR_le (by omega), fun i hi hi2 => ?_⟩
      rw [e] at hi2
      exact (tR_in hi hi2).2
    · rw [if_neg h2] at h
      by_cases h3 : tG (B (tF B n p)) = true
      · rw [if_pos h3] at h
        by_cases h4 : 3 < tR tG B n (tF B n p) - tF B n p
        · rw [if_pos h4] at h; omega
        · rw [if_neg h4] at h; omega
      · rw [if_neg h3] at h
        by_cases h4 : B (tF B n p) = 59
        · rw [if_pos h4] at h; omega
        · rw [if_neg h4] at h; omega
theorem jup_s {m : jMem} {o k : Nat} {x : Int32} : jup m o k x o k = x := by simp [jup, va_up]
theorem jup_n {m : jMem} {o k j : Nat} {x : Int32} (h : ¬ j = k) : jup m o k x o j = m o j := by simp [jup, va_up, h]
/-- some slots alone differ -/
def jso (S : List Nat) (f g : Nat → Int32) : Prop := ∀ j, j ∉ S → g j = f j
theorem jso.rf {S : List Nat} {f : Nat → Int32} : jso S f f := fun _ _ => rfl
theorem jso.tr {S : List Nat} {f g h : Nat → Int32} (a : jso S f g) (b : jso S g h) : jso S f h := fun j hj => (b j hj).trans (a j hj)
theorem jso.mo {S T : List Nat} {f g : Nat → Int32} (a : jso S f g) (hs : ∀ x ∈ S, x ∈ T) : jso T f g := fun j hj => a j (fun q => hj (hs j q))
theorem jso.up {S : List Nat} {f : Nat → Int32} {m : jMem} {o k : Nat} {x : Int32} (a : jso S f (m o)) (hk : k ∈ S) : jso S f (jup m o k x o) := fun j hj => by
  have : ¬ j = k := fun e => hj (e ▸ hk)
  rw [jup_n this]
  exact a j hj
/-! the model's eyes -/
def jBa (B : Nat → Nat) (n r : Nat) : Int32 := if r < n then nI (B r) else -1000000
def jBy8 (mem : jMem) (B : Nat → Nat) (n : Nat) : Prop := n ≤ 300 ∧ ∀ i, i < n → mem 85 i = nI (B i) ∧ B i < 256
theorem jBa_e {B : Nat → Nat} {n r x : Nat} (hB : ∀ i, i < n → B i < 256) (hx : x < 256) : jBa B n r = nI x ↔ (r < n ∧ B r = x) := by
  unfold jBa
  by_cases h : r < n
  · have := hB r h
    rw [if_pos h, nI_eq (by omega) (by omega)]
    exact ⟨fun z => ⟨h, z⟩, fun z => z.2⟩
  · rw [if_neg h]
    exact ⟨fun z => absurd z.symm (jnn (by omega)), fun z => absurd z.1 h⟩
theorem jBa_in {B : Nat → Nat} {n r a b : Nat} (hB : ∀ i, i < n → B i < 256) : jin (jBa B n r) a b ↔ (r < n ∧ a ≤ B r ∧ B r ≤ b) := by
  unfold jBa
  by_cases h : r < n
  · have := hB r h
    rw [if_pos h]
    unfold jin
    rw [nI_toInt (by omega)]
    omega
  · rw [if_neg h]
    unfold jin
    rw [jnoneT]
    omega
def jTm (B : Nat → Nat) (n p : Nat) (f : Nat → Int32) : Prop := f 25 = nI (tN B n p) ∧ f 26 = nI (tK B n p) ∧ f 27 = nI (tF B n p) ∧ f 28 = nI (tN B n p)
