/-! the queue: orders, their sums, the order in which they are gone through -/
def qW (c l : Nat → Nat) : List Nat → Nat × Nat → Nat × Nat
  | [], s => s
  | d :: t, s => qW c l t (max s.1 (c d) + l d, s.2 + (max s.1 (c d) - c d))
theorem qW_app (c l : Nat → Nat) : ∀ (p q : List Nat) (s : Nat × Nat), qW c l (p ++ q) s = qW c l q (qW c l p s)
  | [], _, _ => rfl
  | d :: t, q, s => qW_app c l t q _
theorem qW_le {c l : Nat → Nat} (hc : ∀ w, c w ≤ 999) (hl : ∀ w, l w ≤ 99) : ∀ (p : List Nat) (s : Nat × Nat) (k : Nat), s.1 ≤ 999 + 99 * k → s.2 ≤ 1800 * k → k + p.length ≤ 7 → (qW c l p s).1 ≤ 999 + 99 * (k + p.length) ∧ (qW c l p s).2 ≤ 1800 * (k + p.length)
  | [], s, k, h1, h2, _ => ⟨h1, h2⟩
  | d :: t, s, k, h1, h2, h3 => by
    have e : k + (d :: t).length = k + 1 + t.length := by rw [List.length_cons]; omega
    rw [e] at h3 ⊢
    have a := hc d
    have b := hl d
    exact qW_le hc hl t _ (k + 1) (by show max s.1 (c d) + l d ≤ _; omega) (by show s.2 + (max s.1 (c d) - c d) ≤ _; omega) h3
theorem qW_le0 {c l : Nat → Nat} (hc : ∀ w, c w ≤ 999) (hl : ∀ w, l w ≤ 99) {p : List Nat} (h : p.length ≤ 7) : (qW c l p (0, 0)).1 ≤ 999 + 99 * p.length ∧ (qW c l p (0, 0)).2 ≤ 1800 * p.length := by
  have := qW_le hc hl p (0, 0) 0 (by omega) (by omega) (by omega)
  rw [Nat.zero_add] at this
  exact this
def qSum (c l : Nat → Nat) (p : List Nat) : Nat := (qW c l p (0, 0)).2
def qP (n : Nat) : Nat → Nat → List Nat → List (List Nat)
  | 0, _, pre => [pre]
  | d + 1, P, pre => (List.range n).flatMap (fun w => if P.testBit w = true then [] else qP n d (P ||| 2 ^ w) (pre ++ [w]))
def qC (P : Nat) : Nat → Nat
  | 0 => 0
  | i + 1 => qC P i + if P.testBit i = true then 0 else 1
def qT (c : Nat → Nat) (now P : Nat) : Nat → Nat
  | 0 => 0
  | i + 1 => qT c now P i + if P.testBit i = true then 0 else now - c i
theorem qbit {P w i : Nat} : (P ||| 2 ^ w).testBit i = (P.testBit i || decide (w = i)) := by
  rw [Nat.testBit_or, Nat.testBit_two_pow]
theorem qC_ge {P w : Nat} : ∀ n, n ≤ w → qC (P ||| 2 ^ w) n = qC P n
  | 0, _ => rfl
  | i + 1, h => by
    show qC (P ||| 2 ^ w) i + (if (P ||| 2 ^ w).testBit i = true then 0 else 1) = qC P i + _
    rw [qC_ge i (by omega), qbit, decide_eq_false (by omega), Bool.or_false]
theorem qC_s {P w : Nat} (hw : ¬ P.testBit w = true) : ∀ n, w < n → qC (P ||| 2 ^ w) n + 1 = qC P n
  | 0, h => absurd h (by omega)
  | i + 1, h => by
    show qC (P ||| 2 ^ w) i + (if (P ||| 2 ^ w).testBit i = true then 0 else 1) + 1 = qC P i + (if P.testBit i = true then 0 else 1)
    by_cases e : w = i
    · subst e
      rw [qC_ge w (Nat.le_refl _), qbit, decide_eq_true rfl, Bool.or_true, if_pos rfl, if_neg hw]
    · have := qC_s hw i (by omega)
      rw [qbit, decide_eq_false e, Bool.or_false]
      omega
theorem qT_ge {c : Nat → Nat} {now now2 P w : Nat} (h2 : now ≤ now2) : ∀ n, n ≤ w → qT c now P n ≤ qT c now2 (P ||| 2 ^ w) n
  | 0, _ => Nat.le_refl _
  | i + 1, h => by
    have := qT_ge (c := c) (P := P) (w := w) h2 i (by omega)
    show qT c now P i + (if P.testBit i = true then 0 else now - c i) ≤ qT c now2 (P ||| 2 ^ w) i + (if (P ||| 2 ^ w).testBit i = true then 0 else now2 - c i)
    rw [qbit, decide_eq_false (by omega), Bool.or_false]
    by_cases q : P.testBit i = true
    · rw [if_pos q, if_pos q]; omega
    · rw [if_neg q, if_neg q]; omega
theorem qT_s {c : Nat → Nat} {now now2 P w : Nat} (hw : ¬ P.testBit w = true) (h2 : now ≤ now2) : ∀ n, w < n → qT c now P n ≤ (now - c w) + qT c now2 (P ||| 2 ^ w) n
  | 0, h => absurd h (by omega)
  | i + 1, h => by
    show qT c now P i + (if P.testBit i = true then 0 else now - c i) ≤ (now - c w) + (qT c now2 (P ||| 2 ^ w) i + (if (P ||| 2 ^ w).testBit i = true then 0 else now2 - c i))
    by_cases e : w = i
    · subst e
      have := qT_ge (c := c) (P := P) (w := w) h2 w (Nat.le_refl _)
      rw [qbit, decide_eq_true rfl, Bool.or_true, if_pos rfl, if_neg hw]
      omega
    · have := qT_s (c := c) hw h2 i (by omega)
      rw [qbit, decide_eq_false e, Bool.or_false]
      by_cases q : P.testBit i = true
      · rw [if_pos q]; omega
      · rw [if_neg q, if_neg q]; omega
theorem qC_all {P : Nat} : ∀ n, qC P n = 0 → ∀ i, i < n → P.testBit i = true
  | 0, _, i, hi => absurd hi (by omega)
  | n + 1, h, i, hi => by
    have h1 : qC P n + (if P.testBit n = true then 0 else 1) = 0 := h
    rcases Nat.lt_or_ge i n with z | z
    · exact qC_all n (by omega) i z
    · obtain rfl : i = n := by omega
      by_cases q : P.testBit i = true
      · exact q
      · rw [if_neg q] at h1
        omega
theorem qT_0 {c : Nat → Nat} {now P : Nat} : ∀ n, (∀ i, i < n → P.testBit i = true) → qT c now P n = 0
  | 0, _ => rfl
  | n + 1, h => by
    show qT c now P n + (if P.testBit n = true then 0 else now - c n) = 0
    rw [if_pos (h n (by omega)), qT_0 n (fun i hi => h i (by omega))]
theorem qT_le {c : Nat → Nat} {now P : Nat} : ∀ n, qT c now P n ≤ now * n
  | 0 => Nat.zero_le _
  | n + 1 => by
    have ih := qT_le (c := c) (now := now) (P := P) n
    show qT c now P n + (if P.testBit n = true then 0 else now - c n) ≤ now * (n + 1)
    rw [Nat.mul_succ]
    by_cases q : P.testBit n = true
    · rw [if_pos q]; omega
    · rw [if_neg q]; omega
/-- no order can wait less than what has been waited -/
theorem qLB {c l : Nat → Nat} {n : Nat} : ∀ (d P : Nat) (pre : List Nat) (s : Nat × Nat), qW c l pre (0, 0) = s → qC P n = d → ∀ p, p ∈ qP n d P pre → s.2 + qT c s.1 P n ≤ qSum c l p
  | 0, P, pre, s, h1, h2, p, hp => by
    have e : p = pre := by
      have : p ∈ [pre] := hp
      simpa using this
    subst e
    rw [qT_0 n (qC_all n h2)]
    unfold qSum
    rw [h1]
    exact Nat.le_refl _
  | d + 1, P, pre, s, h1, h2, p, hp => by
    have hp2 : p ∈ (List.range n).flatMap (fun w => if P.testBit w = true then [] else qP n d (P ||| 2 ^ w) (pre ++ [w])) := hp
    rw [List.mem_flatMap] at hp2
    obtain ⟨w, hw, hp3⟩ := hp2
    rw [List.mem_range] at hw
    by_cases q : P.testBit w = true
    · rw [if_pos q] at hp3
      cases hp3
    · rw [if_neg q] at hp3
      have hs := qC_s q n hw
      have e : qW c l (pre ++ [w]) (0, 0) = (max s.1 (c w) + l w, s.2 + (max s.1 (c w) - c w)) := by
        rw [qW_app, h1]
        rfl
      have ih := qLB d (P ||| 2 ^ w) (pre ++ [w]) _ e (by omega) p hp3
      have ht := qT_s (c := c) (now := s.1) (now2 := max s.1 (c w) + l w) q (by omega) n hw
      have h3 : s.2 + (max s.1 (c w) - c w) + qT c (max s.1 (c w) + l w) (P ||| 2 ^ w) n ≤ qSum c l p := ih
      omega
def qS (W : List Nat → Nat) (st : Nat × List Nat) (p : List Nat) : Nat × List Nat := if W p < st.1 then (W p, p) else st
theorem qS_no {W : List Nat → Nat} : ∀ (L : List (List Nat)) (st : Nat × List Nat), (∀ p, p ∈ L → st.1 ≤ W p) → L.foldl (qS W) st = st
  | [], _, _ => rfl
  | a :: t, st, h => by
    have h1 : qS W st a = st := if_neg (by have := h a List.mem_cons_self; omega)
    show t.foldl (qS W) (qS W st a) = st
    rw [h1]
    exact qS_no t st (fun p hp => h p (List.mem_cons_of_mem _ hp))
theorem qS_le {W : List Nat → Nat} : ∀ (L : List (List Nat)) (st : Nat × List Nat), (L.foldl (qS W) st).1 ≤ st.1
  | [], _ => Nat.le_refl _
  | a :: t, st => by
    have h2 := qS_le (W := W) t (qS W st a)
    have h1 : (qS W st a).1 ≤ st.1 := by
      unfold qS
      by_cases q : W a < st.1
      · rw [if_pos q]; show W a ≤ _; omega
      · rw [if_neg q]; exact Nat.le_refl _
    exact Nat.le_trans h2 h1
/-- the next order of a row, as the model finds it -/
def nK (f : Nat → Nat) : Nat → Option Nat
  | 0 => none
  | k + 1 => if f (k + 1) < f k then nK f k else some k
def nJ (f : Nat → Nat) (v : Nat) : Nat → Nat
  | 0 => 0
  | j + 1 => if f (j + 1) < v then nJ f v j else j + 1
def nW (f : Nat → Nat) (a b : Nat) : Nat → Nat := fun i => if i = b then f a else if i = a then f b else f i
def nR (f : Nat → Nat) : Nat → Nat → Nat → (Nat → Nat)
  | 0, _, _ => f
  | t + 1, a, b => if a < b then nR (nW f a b) t (a + 1) (b - 1) else f
def nN (n : Nat) (f : Nat → Nat) : Option (Nat → Nat) := match nK f (n - 1) with
  | none => none
  | some k => some (nR (nW f k (nJ f (f k) (n - 1))) n (k + 1) (n - 1))
def nL (n : Nat) (f : Nat → Nat) : List Nat := (List.range n).map f
def nF (p : List Nat) : Nat → Nat := fun i => p.getD i 0
def nOk (n : Nat) (p : List Nat) : Bool := p.length == n && p.all (fun x => decide (x < n))
def nCh (n : Nat) : List (List Nat) → Bool
  | [] => true
  | a :: t => nOk n a && (match t, nN n (nF a) with
      | [], none => true
      | b :: _, some f => nL n f == b
      | _, _ => false) && nCh n t
theorem nCh_1 : nCh 1 (qP 1 1 0 []) = true := by decide +kernel
theorem nCh_2 : nCh 2 (qP 2 2 0 []) = true := by decide +kernel
theorem nCh_3 : nCh 3 (qP 3 3 0 []) = true := by decide +kernel
theorem nCh_4 : nCh 4 (qP 4 4 0 []) = true := by decide +kernel
theorem nCh_5 : nCh 5 (qP 5 5 0 []) = true := by decide +kernel
theorem nCh_6 : nCh 6 (qP 6 6 0 []) = true := by decide +kernel
theorem nCh_7 : nCh 7 (qP 7 7 0 []) = true := by decide +kernel
