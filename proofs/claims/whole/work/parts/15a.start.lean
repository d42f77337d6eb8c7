/-! THE START: what both constructors leave -/
def L92 : List (Nat × Nat × Nat) := [(66, 40, 91), (66, 38, 90), (66, 37, 89), (66, 36, 88), (66, 35, 87), (66, 33, 86), (66, 21, 85), (66, 20, 84), (66, 19, 83), (66, 18, 82), (66, 17, 81), (66, 16, 80), (66, 15, 79), (66, 14, 78), (66, 13, 77), (66, 12, 76), (66, 11, 75), (66, 10, 74), (66, 8, 73), (66, 7, 72), (66, 6, 71), (66, 5, 70), (66, 4, 69), (66, 3, 68), (66, 2, 67), (0, 11, 65), (0, 10, 63), (63, 0, 64), (0, 9, 58), (58, 3, 62), (58, 2, 61), (58, 1, 60), (58, 0, 59), (0, 8, 55), (55, 1, 57), (55, 0, 56), (0, 7, 53), (53, 0, 54), (0, 6, 51), (51, 0, 52), (0, 5, 32), (32, 5, 46), (32, 4, 41), (32, 3, 36), (32, 2, 35), (32, 1, 34), (32, 0, 33), (0, 4, 29), (29, 1, 31), (29, 0, 30), (0, 3, 28), (0, 2, 27), (0, 1, 13), (13, 4, 26), (13, 3, 25), (13, 2, 24), (13, 1, 19), (13, 0, 14), (0, 0, 1), (1, 2, 12), (1, 1, 11), (1, 0, 2)]
def mPk : jMem := jsec (jfill (jfill (jfill (jfill (fun _ _ => 0) 12 0 8 (-1)) 25 0 4 1000) 26 0 4 1000) 34 0 4 15) 6
def mSt : jMem := (jfill (jfill (jup (jup (jup (jup (jup (jup (jup (jup (jup (jup (jup (jup (jup (jup (jup (jup (jup (jup mPk 67 0 (-1)) 67 1 (-1)) 67 2 (-1)) 67 3 (-1)) 67 4 (-1)) 67 5 (-1)) 67 6 (-1)) 67 7 (-1)) 78 0 2) 78 1 3) 78 2 4) 78 3 5) 78 4 6) 78 5 7) 80 0 15) 80 1 15) 80 2 15) 80 3 15) 75 0 (0 + 12) (-1000000)) 73 0 (0 + 8) (-1000000))
theorem jsec_o {mem : jMem} {y : Nat} (h : ¬ y = 28) : ∀ n, jsec mem n y = mem y
  | 0 => rfl
  | n + 1 => by
    unfold jsec
    rw [jup_o h, jsec_o h n]
theorem mPk_o {y : Nat} (h12 : ¬ y = 12) (h25 : ¬ y = 25) (h26 : ¬ y = 26) (h34 : ¬ y = 34) (h28 : ¬ y = 28) : mPk y = fun _ => 0 := by
  unfold mPk
  rw [jsec_o h28, jfill_o h34, jfill_o h26, jfill_o h25, jfill_o h12]
theorem mSt_o {y : Nat} (h12 : ¬ y = 12) (h25 : ¬ y = 25) (h26 : ¬ y = 26) (h34 : ¬ y = 34) (h28 : ¬ y = 28) (h67 : ¬ y = 67) (h78 : ¬ y = 78) (h80 : ¬ y = 80) (h75 : ¬ y = 75) (h73 : ¬ y = 73) : mSt y = fun _ => 0 := by
  unfold mSt
  rw [jfill_o h73, jfill_o h75, jup_o h80, jup_o h80, jup_o h80, jup_o h80, jup_o h78, jup_o h78, jup_o h78, jup_o h78, jup_o h78, jup_o h78, jup_o h67, jup_o h67, jup_o h67, jup_o h67, jup_o h67, jup_o h67, jup_o h67, jup_o h67, mPk_o h12 h25 h26 h34 h28]
theorem ptL_big : ∀ (L : List (Nat × Nat × Nat)), L.all (fun q => decide (q.2.1 < 42)) = true → ∀ i j, 42 ≤ j → ptL L i j = jpt0 i j
  | [], _, _, _, _ => rfl
  | (o, k, t) :: L, h, i, j, hj => by
    rw [List.all_cons, Bool.and_eq_true] at h
    have hk : k < 42 := of_decide_eq_true h.1
    have ih := ptL_big L h.2 i j hj
    unfold ptL
    by_cases e : i = o
    · subst e
      show (if i = i then va_up (ptL L i) k (some t) else ptL L i) j = _
      rw [if_pos rfl]
      show (if j = k then some t else ptL L i j) = _
      rw [if_neg (by omega)]
      exact ih
    · show (if i = o then va_up (ptL L o) k (some t) else ptL L i) j = _
      rw [if_neg e]
      exact ih
theorem jpt_big {i j : Nat} (hi : i < 92) (hj : 42 ≤ j) : jpt 0 i j = none := by
  unfold jpt
  split <;> (try dsimp only) <;> (try split) <;> first | rfl | omega
theorem jpt_st (i j : Nat) (hi : i < 92) : jpt 0 i j = ptL L92 i j := by
  rcases Nat.lt_or_ge j 42 with hj | hj
  · have h : ∀ i, i < 92 → ∀ j, j < 42 → jpt 0 i j = ptL L92 i j := by decide +kernel
    exact h i hi j hj
  · rw [ptL_big L92 (by decide) i j hj, jpt_big hi hj]
    unfold jpt0
    by_cases e : jkd i = 15
    · rw [if_pos e, jpt_big hi hj]
    · rw [if_neg e]
theorem inv_st : Inv 0 mSt := by
  refine ⟨⟨fun s hs => Or.inl ?_, ?_⟩, fun o ho => ?_, ⟨by omega, by decide +kernel, by decide +kernel, fun p hp => absurd hp (by omega), fun p _ hp => ?_, fun i hi => mSt_o (by omega) (by omega) (by omega) (by omega) (by omega) (by omega) (by omega) (by omega) (by omega) (by omega)⟩, ⟨by decide +kernel, by decide +kernel, by decide +kernel⟩, by unfold I4s; decide +kernel, fun b hb => ?_, fun d hd => ?_, ⟨fun k => if 4 ≤ k ∧ k < 8 then 15 else 0, ⟨fun d hd => ?_, fun e he => ?_⟩, ⟨fun d hd => ?_, fun d hd => ?_⟩, fun d hd => ?_, fun e he => ?_⟩, ⟨0, fun _ => 0, by decide +kernel, by decide +kernel, ⟨by omega, fun i hi => absurd hi (by omega)⟩, ⟨by omega, fun i hi => absurd hi (by omega)⟩⟩, by unfold I7f; decide +kernel, ⟨0, by omega, by decide +kernel, by decide +kernel, fun s hs => absurd hs (by omega)⟩, ⟨0, by omega, by decide +kernel, by decide +kernel, fun s hs => absurd hs (by omega)⟩⟩
  · exact (by decide +kernel : ∀ s, s < 8 → mSt 12 s = -1 ∧ (mSt 67 s).toInt < 0) s hs
  · decide +kernel
  · have h : ∀ o, o < 4 → (mSt 24 o = nI 0 ∧ mSt 70 o = nI 0) ∧ (mSt 25 o = 1000 ∧ mSt 73 (2 * o) = -1000000) ∧ (mSt 26 o = 1000 ∧ mSt 73 (2 * o + 1) = -1000000) := by decide +kernel
    obtain ⟨a, b, c⟩ := h o ho
    exact ⟨⟨0, by omega, a.1, a.2, fun j hj => absurd hj (by omega)⟩, Or.inl b, Or.inl c⟩
  · exact (by decide +kernel : ∀ p, p < 12 → mSt 75 p = -1000000) p hp
  · have h : ∀ b, b < 6 → mSt 28 b = nI (b + 2) ∧ mSt 78 b = nI (b + 2) := by decide +kernel
    exact ⟨b + 2, by omega, (h b hb).1, (h b hb).2⟩
  · exact (by decide +kernel : ∀ d, d < 4 → mSt 33 d = mSt 79 d ∧ (0 ≤ (mSt 33 d).toInt ∧ (mSt 33 d).toInt ≤ 999)) d hd
  · exact (by decide +kernel : ∀ d, d < 4 → mSt 81 d = nI (if 4 ≤ d ∧ d < 8 then 15 else 0) ∧ mSt 80 d = nI (if 4 ≤ 4 + d ∧ 4 + d < 8 then 15 else 0)) d hd
  · exact (by decide +kernel : ∀ e, e < 32 → mSt 82 e = nI (if 4 ≤ 8 + e ∧ 8 + e < 8 then 15 else 0) ∧ mSt 83 e = nI (if 4 ≤ 40 + e ∧ 40 + e < 8 then 15 else 0) ∧ mSt 84 e = nI (if 4 ≤ 72 + e ∧ 72 + e < 8 then 15 else 0)) e he
  · exact (by decide +kernel : ∀ d, d < 4 → mSt 35 d = nI (if 4 ≤ d ∧ d < 8 then 15 else 0) ∧ mSt 34 d = nI (if 4 ≤ 4 + d ∧ 4 + d < 8 then 15 else 0)) d hd
  · exact (by decide +kernel : ∀ d, d < 4 → ∀ k, k < 8 → mSt (37 + d) k = nI (if 4 ≤ 8 + 8 * d + k ∧ 8 + 8 * d + k < 8 then 15 else 0) ∧ mSt (42 + d) k = nI (if 4 ≤ 40 + 8 * d + k ∧ 40 + 8 * d + k < 8 then 15 else 0) ∧ mSt (47 + d) k = nI (if 4 ≤ 72 + 8 * d + k ∧ 72 + 8 * d + k < 8 then 15 else 0)) d hd
  · exact (by decide +kernel : ∀ d, d < 4 → (if 4 ≤ d ∧ d < 8 then 15 else 0) ≤ 8) d hd
  · exact (by decide +kernel : ∀ e, e < 32 → (if 4 ≤ 8 + e ∧ 8 + e < 8 then 15 else 0) < 3 ∧ (if 4 ≤ 40 + e ∧ 40 + e < 8 then 15 else 0) < 4) e he
