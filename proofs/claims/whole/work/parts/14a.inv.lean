/-! WHAT CLASS AND MODEL HOLD IN COMMON, between two calls -/
def jch (C a b c d e : List Nat) (m m2 : jMem) : Prop := (∀ i, i ∉ C → i ≠ 0 → i ≠ 66 → i ≠ 51 → i ≠ 55 → i ≠ 63 → m2 i = m i) ∧ jso a (m 0) (m2 0) ∧ jso b (m 66) (m2 66) ∧ jso c (m 51) (m2 51) ∧ jso d (m 55) (m2 55) ∧ jso e (m 63) (m2 63)
def jchk (C a b c d e : List Nat) (o k : Nat) : Bool := if o = 0 then a.contains k else if o = 66 then b.contains k else if o = 51 then c.contains k else if o = 55 then d.contains k else if o = 63 then e.contains k else C.contains o
section JCH
variable {C a b c d e : List Nat} {m m2 m3 : jMem} {o k : Nat} {x : Int32}
theorem jch.rf : jch C a b c d e m m := ⟨fun _ _ _ _ _ _ _ => rfl, jso.rf, jso.rf, jso.rf, jso.rf, jso.rf⟩
theorem jso_at {S : List Nat} {f : Nat → Int32} {q : Nat} (h : jso S f (m2 q)) (hk : o = q → k ∈ S) : jso S f (jup m2 o k x q) := by
  by_cases e : o = q
  · subst e; exact jso.up h (hk rfl)
  · rw [jup_o (fun z => e z.symm)]; exact h
theorem jch.up (h : jch C a b c d e m m2) (hk : jchk C a b c d e o k = true) : jch C a b c d e m (jup m2 o k x) := by
  obtain ⟨h1, h2, h3, h4, h5, h6⟩ := h
  unfold jchk at hk
  refine ⟨fun i hi i0 i1 i2 i3 i4 => ?_, jso_at h2 (fun e => ?_), jso_at h3 (fun e => ?_), jso_at h4 (fun e => ?_), jso_at h5 (fun e => ?_), jso_at h6 (fun e => ?_)⟩
  · rw [jup_o (fun z => ?_)]
    · exact h1 i hi i0 i1 i2 i3 i4
    · subst z
      rw [if_neg i0, if_neg i1, if_neg i2, if_neg i3, if_neg i4] at hk
      exact hi (List.contains_iff_mem.mp hk)
  · rw [if_pos e] at hk; exact List.contains_iff_mem.mp hk
  · rw [if_neg (by omega), if_pos e] at hk; exact List.contains_iff_mem.mp hk
  · rw [if_neg (by omega), if_neg (by omega), if_pos e] at hk; exact List.contains_iff_mem.mp hk
  · rw [if_neg (by omega), if_neg (by omega), if_neg (by omega), if_pos e] at hk; exact List.contains_iff_mem.mp hk
  · rw [if_neg (by omega), if_neg (by omega), if_neg (by omega), if_neg (by omega), if_pos e] at hk; exact List.contains_iff_mem.mp hk
theorem jch.va {f : Nat → Int32} (h : jch C a b c d e m m2) (ho : o ∈ C) (hs : o ≠ 0 ∧ o ≠ 66 ∧ o ≠ 51 ∧ o ≠ 55 ∧ o ≠ 63) : jch C a b c d e m (va_up m2 o f) := by
  obtain ⟨h1, h2, h3, h4, h5, h6⟩ := h
  refine ⟨fun i hi i0 i1 i2 i3 i4 => ?_, ?_, ?_, ?_, ?_, ?_⟩
  · rw [va_up_ne _ _ (fun z => hi (by rw [z]; exact ho))]; exact h1 i hi i0 i1 i2 i3 i4
  · rw [va_up_ne _ _ (fun z => hs.1 z.symm)]; exact h2
  · rw [va_up_ne _ _ (fun z => hs.2.1 z.symm)]; exact h3
  · rw [va_up_ne _ _ (fun z => hs.2.2.1 z.symm)]; exact h4
  · rw [va_up_ne _ _ (fun z => hs.2.2.2.1 z.symm)]; exact h5
  · rw [va_up_ne _ _ (fun z => hs.2.2.2.2 z.symm)]; exact h6
theorem jch.upC (h : jch C a b c d e m m2) (ho : o ∈ C) (hs : o ≠ 0 ∧ o ≠ 66 ∧ o ≠ 51 ∧ o ≠ 55 ∧ o ≠ 63) : jch C a b c d e m (jup m2 o k x) := h.va ho hs
theorem jch.eq {S : List Nat} (h : jch C a b c d e m m2) (hj : jeq S m2 m3) (hs : S.all (fun y => C.contains y && !([0, 66, 51, 55, 63].contains y)) = true) : jch C a b c d e m m3 := by
  obtain ⟨h1, h2, h3, h4, h5, h6⟩ := h
  have hq : ∀ y, y ∈ S → y ∈ C ∧ ¬ y ∈ [0, 66, 51, 55, 63] := fun y hy => by
    have := List.all_eq_true.mp hs y hy
    rw [Bool.and_eq_true, Bool.not_eq_true'] at this
    refine ⟨List.contains_iff_mem.mp this.1, fun z => ?_⟩
    have z2 := List.contains_iff_mem.mpr z
    rw [z2] at this
    cases this.2
  refine ⟨fun i hi i0 i1 i2 i3 i4 => ?_, ?_, ?_, ?_, ?_, ?_⟩
  · rw [hj i (fun z => hi (hq i z).1)]; exact h1 i hi i0 i1 i2 i3 i4
  · rw [hj 0 (fun z => (hq 0 z).2 (by decide))]; exact h2
  · rw [hj 66 (fun z => (hq 66 z).2 (by decide))]; exact h3
  · rw [hj 51 (fun z => (hq 51 z).2 (by decide))]; exact h4
  · rw [hj 55 (fun z => (hq 55 z).2 (by decide))]; exact h5
  · rw [hj 63 (fun z => (hq 63 z).2 (by decide))]; exact h6
theorem jch.get {K : List Nat} (h : jch C a b c d e m m2) (hk : K.all (fun y => !(C.contains y) && !([0, 66, 51, 55, 63].contains y)) = true) {y : Nat} (hy : y ∈ K) : m2 y = m y := by
  have := List.all_eq_true.mp hk y hy
  rw [Bool.and_eq_true, Bool.not_eq_true', Bool.not_eq_true'] at this
  have hn : ¬ y ∈ [0, 66, 51, 55, 63] := fun z => by
    have z2 := List.contains_iff_mem.mpr z
    rw [z2] at this
    cases this.2
  refine h.1 y (fun z => ?_) (fun z => hn (by subst z; decide)) (fun z => hn (by subst z; decide)) (fun z => hn (by subst z; decide)) (fun z => hn (by subst z; decide)) (fun z => hn (by subst z; decide))
  have z2 := List.contains_iff_mem.mpr z
  rw [z2] at this
  cases this.1
theorem jso_g {S : List Nat} {f g : Nat → Int32} (h : jso S f g) {j : Nat} (hj : S.contains j = false) : g j = f j := h j (fun z => by rw [List.contains_iff_mem.mpr z] at hj; cases hj)
end JCH
/-- sheets -/
abbrev K1 : List Nat := [3, 4, 5, 6, 7, 8, 9, 10, 11, 12, 67, 68, 69]
def I1 (mem : jMem) : Prop := (∀ s, s < 8 → (mem 12 s = -1 ∧ (mem 67 s).toInt < 0) ∨ ∃ z, z ≤ 60 ∧ mem 12 s = nI z ∧ mem 68 s = nI z ∧ mem 67 s = mem 11 s ∧ jin (mem 11 s) 0 2) ∧ ∀ s, s < 8 → ∀ k, k < 60 → mem 69 (60 * s + k) = mem (3 + s) k
theorem m3s {s : Nat} (h : s < 8) : 3 + s ∈ [3, 4, 5, 6, 7, 8, 9, 10] := by
  rcases (show s = 0 ∨ s = 1 ∨ s = 2 ∨ s = 3 ∨ s = 4 ∨ s = 5 ∨ s = 6 ∨ s = 7 by omega) with rfl | rfl | rfl | rfl | rfl | rfl | rfl | rfl <;> decide
/-- offices -/
abbrev K2 : List Nat := [15, 16, 17, 18, 20, 21, 22, 23, 24, 25, 26, 70, 71, 72, 73]
def jev (x y : Int32) : Prop := (x = 1000 ∧ y = -1000000) ∨ (x = y ∧ jin x 0 999)
def I2 (mem : jMem) : Prop := ∀ o, o < 4 → (∃ q, q ≤ 6 ∧ mem 24 o = nI q ∧ mem 70 o = nI q ∧ (∀ j, j < q → mem 71 (6 * o + j) = mem (15 + o) j ∧ mem 72 (6 * o + j) = mem (20 + o) j ∧ 0 ≤ (mem (15 + o) j).toInt)) ∧ jev (mem 25 o) (mem 73 (2 * o)) ∧ jev (mem 26 o) (mem 73 (2 * o + 1))
/-- papers -/
def I3p (mem : jMem) (p : Nat) : Prop := mem (92 + 2 * p) 0 = nI p ∧ mem (92 + 2 * p) 1 = mem 74 (9 * p) ∧ mem (92 + 2 * p) 2 = mem 74 (9 * p + 1) ∧ mem (92 + 2 * p) 3 = mem 74 (9 * p + 2) ∧ mem (92 + 2 * p) 4 = mem 74 (9 * p + 3) ∧ mem (92 + 2 * p) 5 = mem 74 (9 * p + 4) ∧ mem (93 + 2 * p) 0 = mem 74 (9 * p + 5) ∧ mem (93 + 2 * p) 1 = mem 74 (9 * p + 6) ∧ mem (93 + 2 * p) 2 = mem 74 (9 * p + 7) ∧ mem (93 + 2 * p) 3 = mem 74 (9 * p + 8) ∧ jPok (mem 74) (9 * p) ∧ jev (mem (92 + 2 * p) 7) (mem 75 p)
def I3 (np : Nat) (mem : jMem) : Prop := np ≤ 12 ∧ mem 0 12 = nI np ∧ mem 66 9 = nI np ∧ (∀ p, p < np → I3p mem p) ∧ (∀ p, np ≤ p → p < 12 → mem 75 p = -1000000) ∧ ∀ i, 92 + 2 * np ≤ i → mem i = fun _ => 0
def I4 (mem : jMem) : Prop := mem 0 13 = mem 66 39 ∧ jin (mem 0 13) 0 999
def I4s (mem : jMem) : Prop := mem 0 14 = mem 66 1
def I5 (mem : jMem) : Prop := ∀ b, b < 6 → ∃ w, w ≤ 22 ∧ mem 28 b = nI w ∧ mem 78 b = nI w
def I6 (mem : jMem) : Prop := ∀ d, d < 4 → mem 33 d = mem 79 d ∧ jin (mem 33 d) 0 999
def gS (S : Nat → Nat) : Prop := (∀ d, d < 4 → S d ≤ 8) ∧ ∀ e, e < 32 → S (8 + e) < 3 ∧ S (40 + e) < 4
abbrev K6 : List Nat := [34, 35, 37, 38, 39, 40, 42, 43, 44, 45, 47, 48, 49, 50, 80, 81, 82, 83, 84]
def I6g (mem : jMem) : Prop := ∃ S, jSM mem S ∧ cSM mem S ∧ gS S
def I7 (mem : jMem) : Prop := ∃ z B, mem 51 1 = nI z ∧ mem 66 22 = nI z ∧ jBy8 mem B z ∧ cBy8 mem B z
def I7f (mem : jMem) : Prop := mem 51 2 = mem 66 23
def I8 (np : Nat) (mem : jMem) : Prop := ∃ q, q ≤ 30 ∧ mem 55 2 = nI q ∧ mem 66 34 = nI q ∧ ∀ s, s < q → ∃ sp, sp < np ∧ mem 56 s = nI sp ∧ mem 87 s = nI sp ∧ mem 57 s = mem 88 s
def I9 (mem : jMem) : Prop := ∃ t, t ≤ 16 ∧ mem 63 1 = nI t ∧ mem 66 41 = nI t ∧ ∀ j, j < t → mem 64 j = mem 91 j
def Inv (np : Nat) (mem : jMem) : Prop := I1 mem ∧ I2 mem ∧ I3 np mem ∧ I4 mem ∧ I4s mem ∧ I5 mem ∧ I6 mem ∧ I6g mem ∧ I7 mem ∧ I7f mem ∧ I8 np mem ∧ I9 mem
section IFR
variable {C a b c d e : List Nat} {m m2 : jMem} {np : Nat}
theorem I1.fr (h : I1 m) (hc : jch C a b c d e m m2) (hk : K1.all (fun y => !(C.contains y) && !([0, 66, 51, 55, 63].contains y)) = true) : I1 m2 := by
  have e := fun y hy => hc.get hk (y := y) hy
  refine ⟨fun s hs => ?_, fun s hs k hk2 => ?_⟩
  · rw [e 11 (by decide), e 12 (by decide), e 67 (by decide), e 68 (by decide)]; exact h.1 s hs
  · rw [e 69 (by decide), e (3 + s) (List.mem_of_mem_take (i := 8) (m3s hs))]; exact h.2 s hs k hk2
theorem I2.fr (h : I2 m) (hc : jch C a b c d e m m2) (hk : K2.all (fun y => !(C.contains y) && !([0, 66, 51, 55, 63].contains y)) = true) : I2 m2 := by
  have e := fun y hy => hc.get hk (y := y) hy
  intro o ho
  have e1 : m2 (15 + o) = m (15 + o) ∧ m2 (20 + o) = m (20 + o) := by
    rcases (show o = 0 ∨ o = 1 ∨ o = 2 ∨ o = 3 by omega) with rfl | rfl | rfl | rfl <;> exact ⟨e _ (by decide), e _ (by decide)⟩
  rw [e 24 (by decide), e 25 (by decide), e 26 (by decide), e 70 (by decide), e 71 (by decide), e 72 (by decide), e 73 (by decide), e1.1, e1.2]
  exact h o ho
theorem I3.fr (h : I3 np m) (hc : jch C a b c d e m m2) (h0 : a.contains 12 = false) (h66 : b.contains 9 = false) (hk : C.all (fun y => decide (y < 92)) = true) (hk2 : [74, 75].all (fun y => !(C.contains y) && !([0, 66, 51, 55, 63].contains y)) = true) : I3 np m2 := by
  have ep : ∀ i, 92 ≤ i → m2 i = m i := fun i hi => hc.1 i (fun z => by have := of_decide_eq_true (List.all_eq_true.mp hk i z); omega) (by omega) (by omega) (by omega) (by omega) (by omega)
  have e74 := hc.get hk2 (y := 74) (by decide)
  have e75 := hc.get hk2 (y := 75) (by decide)
  obtain ⟨a1, a2, a3, a4, a5, a6⟩ := h
  refine ⟨a1, (jso_g hc.2.1 h0).trans a2, (jso_g hc.2.2.1 h66).trans a3, fun p hp => ?_, fun p h1 h2 => ?_, fun i hi => ?_⟩
  · unfold I3p
    rw [ep (92 + 2 * p) (by omega), ep (93 + 2 * p) (by omega), e74, e75]
    exact a4 p hp
  · rw [e75]; exact a5 p h1 h2
  · rw [ep i (by omega)]; exact a6 i hi
theorem I4.fr (h : I4 m) (hc : jch C a b c d e m m2) (h0 : a.contains 13 = false) (h66 : b.contains 39 = false) : I4 m2 := by
  unfold I4
  rw [jso_g hc.2.1 h0, jso_g hc.2.2.1 h66]; exact h
theorem I4s.fr (h : I4s m) (hc : jch C a b c d e m m2) (h0 : a.contains 14 = false) (h66 : b.contains 1 = false) : I4s m2 := by
  unfold I4s
  rw [jso_g hc.2.1 h0, jso_g hc.2.2.1 h66]; exact h
theorem I5.fr (h : I5 m) (hc : jch C a b c d e m m2) (hk : [28, 78].all (fun y => !(C.contains y) && !([0, 66, 51, 55, 63].contains y)) = true) : I5 m2 := by
  unfold I5
  rw [hc.get hk (y := 28) (by decide), hc.get hk (y := 78) (by decide)]; exact h
theorem I6.fr (h : I6 m) (hc : jch C a b c d e m m2) (hk : [33, 79].all (fun y => !(C.contains y) && !([0, 66, 51, 55, 63].contains y)) = true) : I6 m2 := by
  unfold I6
  rw [hc.get hk (y := 33) (by decide), hc.get hk (y := 79) (by decide)]; exact h
theorem I6g.fr (h : I6g m) (hc : jch C a b c d e m m2) (hk : K6.all (fun y => !(C.contains y) && !([0, 66, 51, 55, 63].contains y)) = true) : I6g m2 := by
  have e := fun y hy => hc.get hk (y := y) hy
  obtain ⟨S, h1, h2, h3⟩ := h
  exact ⟨S, jSM_c h1 (e 80 (by decide)) (e 81 (by decide)) (e 82 (by decide)) (e 83 (by decide)) (e 84 (by decide)), cSM_c h2 (fun i hi => e i (List.mem_of_mem_take (i := 14) hi)), h3⟩
theorem I7.fr (h : I7 m) (hc : jch C a b c d e m m2) (h51 : c.contains 1 = false) (h66 : b.contains 22 = false) (hk : [52, 85].all (fun y => !(C.contains y) && !([0, 66, 51, 55, 63].contains y)) = true) : I7 m2 := by
  obtain ⟨z, B, h1, h2, h3, h4⟩ := h
  exact ⟨z, B, (jso_g hc.2.2.2.1 h51).trans h1, (jso_g hc.2.2.1 h66).trans h2, ⟨h3.1, fun i hi => by rw [hc.get hk (y := 85) (by decide)]; exact h3.2 i hi⟩, cBy8_c h4 (hc.get hk (y := 52) (by decide))⟩
theorem I7f.fr (h : I7f m) (hc : jch C a b c d e m m2) (h51 : c.contains 2 = false) (h66 : b.contains 23 = false) : I7f m2 := by
  unfold I7f
  rw [jso_g hc.2.2.2.1 h51, jso_g hc.2.2.1 h66]; exact h
theorem I8.fr (h : I8 np m) (hc : jch C a b c d e m m2) (h55 : d.contains 2 = false) (h66 : b.contains 34 = false) (hk : [56, 57, 87, 88].all (fun y => !(C.contains y) && !([0, 66, 51, 55, 63].contains y)) = true) : I8 np m2 := by
  unfold I8
  rw [jso_g hc.2.2.2.2.1 h55, jso_g hc.2.2.1 h66, hc.get hk (y := 56) (by decide), hc.get hk (y := 57) (by decide), hc.get hk (y := 87) (by decide), hc.get hk (y := 88) (by decide)]; exact h
theorem I9.fr (h : I9 m) (hc : jch C a b c d e m m2) (h63 : e.contains 1 = false) (h66 : b.contains 41 = false) (hk : [64, 91].all (fun y => !(C.contains y) && !([0, 66, 51, 55, 63].contains y)) = true) : I9 m2 := by
  unfold I9
  rw [jso_g hc.2.2.2.2.2 h63, jso_g hc.2.2.1 h66, hc.get hk (y := 64) (by decide), hc.get hk (y := 91) (by decide)]; exact h
/-- what touches only thrown, the finding and scratch rows -/
abbrev KS : List Nat := [30, 31, 53, 54, 58, 59, 60, 61, 62, 65, 76, 77, 86, 89, 90]
theorem Inv.st (h : Inv np m) (hc : jch KS [14] [0, 1] [] [] [] m m2) (hs : m2 0 14 = m2 66 1) : Inv np m2 := by
  obtain ⟨h1, h2, h3, h4, h5, h6, h7, h8, h9, h10, h11, h12⟩ := h
  exact ⟨h1.fr hc (by decide), h2.fr hc (by decide), h3.fr hc (by decide) (by decide) (by decide) (by decide), h4.fr hc (by decide) (by decide), hs, h6.fr hc (by decide), h7.fr hc (by decide), h8.fr hc (by decide), h9.fr hc (by decide) (by decide) (by decide), h10.fr hc (by decide) (by decide), h11.fr hc (by decide) (by decide) (by decide), h12.fr hc (by decide) (by decide) (by decide)⟩
theorem Inv.s0 (h : Inv np m) (hc : jch KS [] [0] [] [] [] m m2) : Inv np m2 := by
  obtain ⟨h1, h2, h3, h4, h5, h6, h7, h8, h9, h10, h11, h12⟩ := h
  exact ⟨h1.fr hc (by decide), h2.fr hc (by decide), h3.fr hc (by decide) (by decide) (by decide) (by decide), h4.fr hc (by decide) (by decide), h5.fr hc (by decide) (by decide), h6.fr hc (by decide), h7.fr hc (by decide), h8.fr hc (by decide), h9.fr hc (by decide) (by decide) (by decide), h10.fr hc (by decide) (by decide), h11.fr hc (by decide) (by decide) (by decide), h12.fr hc (by decide) (by decide) (by decide)⟩
end IFR
theorem Inv.th {np : Nat} {mem : jMem} (h : Inv np mem) : Inv np (jup mem 66 0 0) := h.s0 (jch.rf.up rfl)
theorem Inv.f1 {np : Nat} {mem : jMem} (h : Inv np mem) (k : Int32) : Inv np (jup (jup (jup (jup mem 0 14 k) 66 0 0) 66 1 0) 66 1 k) := h.st ((((jch.rf.up rfl).up rfl).up rfl).up rfl) (by rw [jup_o (by decide), jup_o (by decide), jup_o (by decide), jup_s, jup_s])
theorem Inv.f2 {np : Nat} {mem : jMem} (h : Inv np mem) (k : Int32) : Inv np (jup (jup (jup mem 0 14 k) 66 0 0) 66 1 k) := h.st (((jch.rf.up rfl).up rfl).up rfl) (by rw [jup_o (by decide), jup_o (by decide), jup_s, jup_s])
/-- one call on both sides -/
def Sim (yc : MethodName) (cc : ByteArray) (nc dc : Nat) (ym : MethodName) (cm : ByteArray) (nm dm : Nat) (av : List Value) (np : Nat) (mem : jMem) : Prop := ∃ P1, jPi yc cc nc .int dc (.ref 0 :: av) np mem P1 ∧ ∀ v1 m1, P1 v1 m1 → ∃ P2, jPi ym cm nm .int dm (.ref 66 :: av) np m1 P2 ∧ ∀ v2 m2, P2 v2 m2 → v1 = v2 ∧ Inv np m2
theorem Sim.of {yc : MethodName} {cc : ByteArray} {nc dc : Nat} {ym : MethodName} {cm : ByteArray} {nm dm : Nat} {av : List Value} {np : Nat} {mem : jMem} {P1 : Int32 → jMem → Prop} (h1 : jPi yc cc nc .int dc (.ref 0 :: av) np mem P1) (h2 : ∀ v1 m1, P1 v1 m1 → ∃ P2, jPi ym cm nm .int dm (.ref 66 :: av) np m1 P2 ∧ ∀ v2 m2, P2 v2 m2 → v1 = v2 ∧ Inv np m2) : Sim yc cc nc dc ym cm nm dm av np mem := ⟨P1, h1, h2⟩
/-- both are explicit -/
theorem Sim.ee {yc : MethodName} {cc : ByteArray} {nc dc : Nat} {ym : MethodName} {cm : ByteArray} {nm dm : Nat} {av : List Value} {np : Nat} {mem M1 M2 : jMem} {x1 x2 : Int32} (h1 : jPi yc cc nc .int dc (.ref 0 :: av) np mem (fun v c => v = x1 ∧ c = M1)) (h2 : jPi ym cm nm .int dm (.ref 66 :: av) np M1 (fun v c => v = x2 ∧ c = M2)) (he : x1 = x2) (hI : Inv np M2) : Sim yc cc nc dc ym cm nm dm av np mem := ⟨_, h1, fun v1 m1 q1 => by
  obtain ⟨rfl, rfl⟩ := q1
  exact ⟨_, h2, fun v2 m2 q2 => by obtain ⟨rfl, rfl⟩ := q2; exact ⟨he, hI⟩⟩⟩
