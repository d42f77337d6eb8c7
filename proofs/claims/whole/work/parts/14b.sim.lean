theorem Inv.c1 {np : Nat} {m m2 : jMem} (h : Inv np m) (hc : jch [3, 4, 5, 6, 7, 8, 9, 10, 11, 12, 67, 68, 69] [14] [0, 1] [] [] [] m m2) (qI1 : I1 m2) (qI4s : I4s m2) : Inv np m2 := by
  obtain ⟨h1, h2, h3, h4, h5, h6, h7, h8, h9, h10, h11, h12⟩ := h
  exact ⟨qI1, h2.fr hc (by decide), h3.fr hc (by decide) (by decide) (by decide) (by decide), h4.fr hc (by decide) (by decide), qI4s, h6.fr hc (by decide), h7.fr hc (by decide), h8.fr hc (by decide), h9.fr hc (by decide) (by decide) (by decide), h10.fr hc (by decide) (by decide), h11.fr hc (by decide) (by decide) (by decide), h12.fr hc (by decide) (by decide) (by decide)⟩
theorem Inv.c2 {np : Nat} {m m2 : jMem} (h : Inv np m) (hc : jch [15, 16, 17, 18, 20, 21, 22, 23, 24, 25, 26, 70, 71, 72, 73] [] [0] [] [] [] m m2) (qI2 : I2 m2) : Inv np m2 := by
  obtain ⟨h1, h2, h3, h4, h5, h6, h7, h8, h9, h10, h11, h12⟩ := h
  exact ⟨h1.fr hc (by decide), qI2, h3.fr hc (by decide) (by decide) (by decide) (by decide), h4.fr hc (by decide) (by decide), h5.fr hc (by decide) (by decide), h6.fr hc (by decide), h7.fr hc (by decide), h8.fr hc (by decide), h9.fr hc (by decide) (by decide) (by decide), h10.fr hc (by decide) (by decide), h11.fr hc (by decide) (by decide) (by decide), h12.fr hc (by decide) (by decide) (by decide)⟩
theorem Inv.c4 {np : Nat} {m m2 : jMem} (h : Inv np m) (hc : jch [] [13] [0, 39] [] [] [] m m2) (qI4 : I4 m2) : Inv np m2 := by
  obtain ⟨h1, h2, h3, h4, h5, h6, h7, h8, h9, h10, h11, h12⟩ := h
  exact ⟨h1.fr hc (by decide), h2.fr hc (by decide), h3.fr hc (by decide) (by decide) (by decide) (by decide), qI4, h5.fr hc (by decide) (by decide), h6.fr hc (by decide), h7.fr hc (by decide), h8.fr hc (by decide), h9.fr hc (by decide) (by decide) (by decide), h10.fr hc (by decide) (by decide), h11.fr hc (by decide) (by decide) (by decide), h12.fr hc (by decide) (by decide) (by decide)⟩
theorem Inv.c5 {np : Nat} {m m2 : jMem} (h : Inv np m) (hc : jch [28, 78] [] [0] [] [] [] m m2) (qI5 : I5 m2) : Inv np m2 := by
  obtain ⟨h1, h2, h3, h4, h5, h6, h7, h8, h9, h10, h11, h12⟩ := h
  exact ⟨h1.fr hc (by decide), h2.fr hc (by decide), h3.fr hc (by decide) (by decide) (by decide) (by decide), h4.fr hc (by decide) (by decide), h5.fr hc (by decide) (by decide), qI5, h7.fr hc (by decide), h8.fr hc (by decide), h9.fr hc (by decide) (by decide) (by decide), h10.fr hc (by decide) (by decide), h11.fr hc (by decide) (by decide) (by decide), h12.fr hc (by decide) (by decide) (by decide)⟩
theorem Inv.c6 {np : Nat} {m m2 : jMem} (h : Inv np m) (hc : jch [33, 79] [] [0] [] [] [] m m2) (qI6 : I6 m2) : Inv np m2 := by
  obtain ⟨h1, h2, h3, h4, h5, h6, h7, h8, h9, h10, h11, h12⟩ := h
  exact ⟨h1.fr hc (by decide), h2.fr hc (by decide), h3.fr hc (by decide) (by decide) (by decide) (by decide), h4.fr hc (by decide) (by decide), h5.fr hc (by decide) (by decide), h6.fr hc (by decide), qI6, h8.fr hc (by decide), h9.fr hc (by decide) (by decide) (by decide), h10.fr hc (by decide) (by decide), h11.fr hc (by decide) (by decide) (by decide), h12.fr hc (by decide) (by decide) (by decide)⟩
theorem Inv.c7 {np : Nat} {m m2 : jMem} (h : Inv np m) (hc : jch [52, 85] [] [0, 22] [1] [] [] m m2) (qI7 : I7 m2) : Inv np m2 := by
  obtain ⟨h1, h2, h3, h4, h5, h6, h7, h8, h9, h10, h11, h12⟩ := h
  exact ⟨h1.fr hc (by decide), h2.fr hc (by decide), h3.fr hc (by decide) (by decide) (by decide) (by decide), h4.fr hc (by decide) (by decide), h5.fr hc (by decide) (by decide), h6.fr hc (by decide), h7.fr hc (by decide), h8.fr hc (by decide), qI7, h10.fr hc (by decide) (by decide), h11.fr hc (by decide) (by decide) (by decide), h12.fr hc (by decide) (by decide) (by decide)⟩
theorem Inv.cd {np : Nat} {m m2 : jMem} (h : Inv np m) (hc : jch [34, 35, 37, 38, 39, 40, 42, 43, 44, 45, 47, 48, 49, 50, 80, 81, 82, 83, 84] [] [0, 22, 23, 24, 25, 26, 27, 28, 29, 30, 31, 32] [1, 2, 3, 4, 5, 6, 7, 8] [] [] m m2) (qI6g : I6g m2) (qI7 : I7 m2) (qI7f : I7f m2) : Inv np m2 := by
  obtain ⟨h1, h2, h3, h4, h5, h6, h7, h8, h9, h10, h11, h12⟩ := h
  exact ⟨h1.fr hc (by decide), h2.fr hc (by decide), h3.fr hc (by decide) (by decide) (by decide) (by decide), h4.fr hc (by decide) (by decide), h5.fr hc (by decide) (by decide), h6.fr hc (by decide), h7.fr hc (by decide), qI6g, qI7, qI7f, h11.fr hc (by decide) (by decide) (by decide), h12.fr hc (by decide) (by decide) (by decide)⟩
theorem Inv.c8 {np : Nat} {m m2 : jMem} (h : Inv np m) (hc : jch [56, 57, 87, 88] [] [0, 34] [] [2] [] m m2) (qI8 : I8 np m2) : Inv np m2 := by
  obtain ⟨h1, h2, h3, h4, h5, h6, h7, h8, h9, h10, h11, h12⟩ := h
  exact ⟨h1.fr hc (by decide), h2.fr hc (by decide), h3.fr hc (by decide) (by decide) (by decide) (by decide), h4.fr hc (by decide) (by decide), h5.fr hc (by decide) (by decide), h6.fr hc (by decide), h7.fr hc (by decide), h8.fr hc (by decide), h9.fr hc (by decide) (by decide) (by decide), h10.fr hc (by decide) (by decide), qI8, h12.fr hc (by decide) (by decide) (by decide)⟩
theorem Inv.c9 {np : Nat} {m m2 : jMem} (h : Inv np m) (hc : jch [64, 91] [] [0, 41] [] [] [1] m m2) (qI9 : I9 m2) : Inv np m2 := by
  obtain ⟨h1, h2, h3, h4, h5, h6, h7, h8, h9, h10, h11, h12⟩ := h
  exact ⟨h1.fr hc (by decide), h2.fr hc (by decide), h3.fr hc (by decide) (by decide) (by decide) (by decide), h4.fr hc (by decide) (by decide), h5.fr hc (by decide) (by decide), h6.fr hc (by decide), h7.fr hc (by decide), h8.fr hc (by decide), h9.fr hc (by decide) (by decide) (by decide), h10.fr hc (by decide) (by decide), h11.fr hc (by decide) (by decide) (by decide), qI9⟩
theorem jup_c {m : jMem} {o k : Nat} {x : Int32} : jup m o k x o = va_up (m o) k x := va_up_self _ _ _
theorem jfill_c {m : jMem} {o a b : Nat} {v : Int32} : jfill m o a b v o = fun j => if a ≤ j ∧ j < b then v else m o j := va_up_self _ _ _
theorem m3C {s : Nat} (h : s < 8) : 3 + s ∈ [3, 4, 5, 6, 7, 8, 9, 10, 11, 12, 67, 68, 69] := List.mem_of_mem_take (i := 8) (m3s h)
theorem m3n {s : Nat} (h : s < 8) : 3 + s ≠ 0 ∧ 3 + s ≠ 66 ∧ 3 + s ≠ 51 ∧ 3 + s ≠ 55 ∧ 3 + s ≠ 63 := by omega
theorem jcpy_o {m : jMem} {o sp dp n i : Nat} (h : ¬ i = o) : jcpy m o sp dp n i = m i := if_neg h
theorem va_o {m : jMem} {o i : Nat} {f : Nat → Int32} (h : ¬ i = o) : va_up m o f i = m i := if_neg h
theorem jcpy_c {m : jMem} {o sp dp n : Nat} : jcpy m o sp dp n o = va_cpy (m o) (m o) sp dp n := va_up_self _ _ _
theorem va_un {α : Type} {f : Nat → α} {k j : Nat} {v : α} (h : ¬ j = k) : va_up f k v j = f j := if_neg h
theorem va_c {m : jMem} {o : Nat} {f : Nat → Int32} : va_up m o f o = f := va_up_self _ _ _
theorem sim_sheet (np : Nat) (mem : jMem) (h : Inv np mem) (s l z : Int32) : Sim yX10_sheet cX10_sheet 4 3 yX11_sheet cX11_sheet 5 3 [.int s, .int l, .int z] np mem := by
  by_cases hb : jin s 0 7 ∧ jin l 0 2 ∧ z.toInt ≤ 60
  · by_cases hz : z.toInt < 0
    · exact Sim.ee (c_sheet_size np mem s l z hb hz) (m_sheet_size np _ s l z hb hz) rfl (h.f1 4)
    · obtain ⟨hs, hl, hz6⟩ := hb
      obtain ⟨s, hs8, -, rfl⟩ := jin_n hs
      have hs8 : s < 8 := by omega
      have hzj : jin z 0 60 := ⟨by omega, hz6⟩
      refine Sim.ee (c_sheet np mem s l z hs8 hl hzj) (m_sheet np _ s l z hs8 hl hzj) rfl ?_
      refine h.c1 (jch.va (((((jch.up (jch.va ((jch.rf.up rfl).up rfl) (m3C hs8) (m3n hs8)) rfl).up rfl).up rfl).up rfl).up rfl) (by decide) (by decide)) ⟨fun s2 hs2 => ?_, fun s2 hs2 k hk => ?_⟩ ?_
      · simp (disch := omega) only [jup_o, jfill_o, jup_c, jfill_c, jcpy_o, va_o]
        by_cases e : s2 = s
        · subst e
          obtain ⟨n, hn1, -, rfl⟩ := jin_n hzj
          rw [va_up_self, va_up_self, va_up_self, va_up_self]
          exact Or.inr ⟨n, by omega, rfl, rfl, rfl, hl⟩
        · rw [va_up_ne _ _ e, va_up_ne _ _ e, va_up_ne _ _ e, va_up_ne _ _ e]
          exact h.1.1 s2 hs2
      · by_cases e : s2 = s
        · subst e
          simp (disch := omega) only [jup_o, jfill_o, jup_c, jfill_c, jcpy_o, va_o]
          rw [if_pos ⟨by omega, by omega⟩, if_pos ⟨by omega, hk⟩]
        · simp (disch := omega) only [jup_o, jfill_o, jup_c, jfill_c, jcpy_o, va_o]
          rw [if_neg (by omega)]
          exact h.1.2 s2 hs2 k hk
      · show _ = _
        simp (disch := omega) only [jup_o, jfill_o, jup_c, jfill_c, jcpy_o, va_o]
        rfl
  · exact Sim.ee (c_sheet_bad np mem s l z hb) (m_sheet_bad np _ s l z hb) rfl h.th
theorem sim_set (np : Nat) (mem : jMem) (h : Inv np mem) (s i w : Int32) : Sim yX10_set cX10_set 5 3 yX11_set cX11_set 4 3 [.int s, .int i, .int w] np mem := by
  by_cases hs : jin s 0 7
  · obtain ⟨s, hs8, -, rfl⟩ := jin_n hs
    have hs8 : s < 8 := by omega
    rcases h.1.1 s hs8 with ⟨e1, e2⟩ | ⟨z, hz, e12, e68, e67, hl⟩
    · exact Sim.ee (c_set_null np mem s i w hs8 e1) (m_set_null np _ s i w hs8 e2) rfl (h.f1 1)
    · have hl0 : 0 ≤ (mem 67 s).toInt := by rw [e67]; exact hl.1
      by_cases hi : jin i 0 ((z : Int) - 1)
      · obtain ⟨i, hi2, -, rfl⟩ := jin_n hi
        have hiz : i < z := by omega
        have q67 : jup (jup mem (3 + s) i (jCv (mem 11 s) w)) 0 14 0 67 = mem 67 := by simp (disch := omega) only [jup_o, jfill_o, jup_c, jfill_c, jcpy_o, va_o]
        have q68 : jup (jup mem (3 + s) i (jCv (mem 11 s) w)) 0 14 0 68 = mem 68 := by simp (disch := omega) only [jup_o, jfill_o, jup_c, jfill_c, jcpy_o, va_o]
        refine Sim.ee (c_set np mem s i z w hs8 hz e12 hiz) (m_set np _ s i z w hs8 (by rw [q67]; exact hl0) hz (by rw [q68]; exact e68) hiz) (by rw [q67, e67]) ?_
        rw [q67, e67]
        refine h.c1 ((((jch.up (jch.upC jch.rf (m3C hs8) (m3n hs8)) rfl).up rfl).up rfl).up rfl) ⟨fun s2 hs2 => ?_, fun s2 hs2 k hk => ?_⟩ ?_
        · simp (disch := omega) only [jup_o, jfill_o, jup_c, jfill_c, jcpy_o, va_o]
          exact h.1.1 s2 hs2
        · by_cases e : s2 = s
          · subst e
            simp (disch := omega) only [jup_o, jfill_o, jup_c, jfill_c, jcpy_o, va_o]
            by_cases e9 : k = i
            · subst e9; rw [va_up_self, va_up_self]
            · rw [va_up_ne _ _ (by omega), va_up_ne _ _ e9]; exact h.1.2 s2 hs2 k hk
          · simp (disch := omega) only [jup_o, jfill_o, jup_c, jfill_c, jcpy_o, va_o]
            rw [va_up_ne _ _ (by omega)]; exact h.1.2 s2 hs2 k hk
        · show _ = _
          simp (disch := omega) only [jup_o, jfill_o, jup_c, jfill_c, jcpy_o, va_o]
          rfl
      · exact Sim.ee (c_set_place np mem s i w z hs8 hz e12 hi) (m_set_place np _ s i w z hs8 hl0 hz e68 hi) rfl (h.f1 2)
  · exact Sim.ee (c_set_bad np mem s i w hs) (m_set_bad np _ s i w hs) rfl h.th
theorem sim_drop (np : Nat) (mem : jMem) (h : Inv np mem) (s : Int32) : Sim yX10_drop cX10_drop 2 3 yX11_drop cX11_drop 2 3 [.int s] np mem := by
  by_cases hs : jin s 0 7
  · obtain ⟨s, hs8, -, rfl⟩ := jin_n hs
    have hs8 : s < 8 := by omega
    rcases h.1.1 s hs8 with ⟨e1, e2⟩ | ⟨z, hz, e12, e68, e67, hl⟩
    · exact Sim.ee (c_drop_null np mem s hs8 e1) (m_drop_null np _ s hs8 e2) rfl (h.f1 1)
    · have hl0 : 0 ≤ (mem 67 s).toInt := by rw [e67]; exact hl.1
      refine Sim.ee (c_drop np mem s hs8 (by rw [e12]; exact jnm1 (by omega))) (m_drop np _ s hs8 hl0) (by show mem 12 s = mem 68 s; rw [e12, e68]) ?_
      refine h.c1 (((((jch.rf.up rfl).up rfl).up rfl).up rfl).up rfl) ⟨fun s2 hs2 => ?_, fun s2 hs2 k hk => ?_⟩ ?_
      · simp (disch := omega) only [jup_o, jfill_o, jup_c, jfill_c, jcpy_o, va_o]
        by_cases e : s2 = s
        · subst e
          rw [va_up_self, va_up_self]
          exact Or.inl ⟨rfl, by decide⟩
        · rw [va_up_ne _ _ e, va_up_ne _ _ e]
          exact h.1.1 s2 hs2
      · simp (disch := omega) only [jup_o, jfill_o, jup_c, jfill_c, jcpy_o, va_o]
        exact h.1.2 s2 hs2 k hk
      · show _ = _
        simp (disch := omega) only [jup_o, jfill_o, jup_c, jfill_c, jcpy_o, va_o]
        rfl
  · exact Sim.ee (c_drop_bad np mem s hs) (m_drop_bad np _ s hs) rfl h.th
theorem sim_copy (np : Nat) (mem : jMem) (h : Inv np mem) (a i b j q : Int32) : Sim yX10_copy cX10_copy 6 3 yX11_copy cX11_copy 9 3 [.int a, .int i, .int b, .int j, .int q] np mem := by
  by_cases hab : jin a 0 7 ∧ jin b 0 7
  · obtain ⟨ha, hb⟩ := hab
    obtain ⟨a, ha8, -, rfl⟩ := jin_n ha
    obtain ⟨b, hb8, -, rfl⟩ := jin_n hb
    have ha8 : a < 8 := by omega
    have hb8 : b < 8 := by omega
    rcases h.1.1 a ha8 with ⟨e1, e2⟩ | ⟨z, hz, e12, e68, e67, hl⟩
    · exact Sim.ee (c_copy_null np mem a b i j q ha8 hb8 (Or.inl e1)) (m_copy_null np _ a b i j q ha8 hb8 (Or.inl e2)) rfl (h.f1 1)
    · rcases h.1.1 b hb8 with ⟨f1, f2⟩ | ⟨y, hy, f12, f68, f67, fl⟩
      · exact Sim.ee (c_copy_null np mem a b i j q ha8 hb8 (Or.inr f1)) (m_copy_null np _ a b i j q ha8 hb8 (Or.inr f2)) rfl (h.f1 1)
      · have hl0 : 0 ≤ (mem 67 a).toInt ∧ 0 ≤ (mem 67 b).toInt := ⟨by rw [e67]; exact hl.1, by rw [f67]; exact fl.1⟩
        by_cases hne : mem 11 a = mem 11 b
        · have hne2 : mem 67 a = mem 67 b := by rw [e67, f67, hne]
          by_cases hp : i.toInt < 0 ∨ j.toInt < 0 ∨ q.toInt < 0 ∨ i.toInt + q.toInt > z ∨ j.toInt + q.toInt > y
          · exact Sim.ee (c_copy_place np mem a b z y i j q ha8 hb8 hz hy e12 f12 hne hp) (m_copy_place np _ a b i j q ha8 hb8 hl0 hne2 (by show _ ∨ _ ∨ _ ∨ _ > (mem 68 a).toInt ∨ _ > (mem 68 b).toInt; rw [e68, f68, nI_toInt (by omega), nI_toInt (by omega)]; exact hp)) rfl (h.f1 2)
          · obtain ⟨i, -, hi31, rfl⟩ := jin_n (x := i) (c := 60) ⟨by omega, by omega⟩
            obtain ⟨j, -, hj31, rfl⟩ := jin_n (x := j) (c := 60) ⟨by omega, by omega⟩
            obtain ⟨q, -, hq31, rfl⟩ := jin_n (x := q) (c := 60) ⟨by omega, by omega⟩
            have w69 : ∀ c : jMem, c = jup (va_up mem (3 + b) (va_cpy (mem (3 + a)) (mem (3 + b)) i j q)) 0 14 0 → c 67 = mem 67 ∧ c 68 = mem 68 := fun c hc => by subst hc; constructor <;> (simp (disch := omega) only [jup_o, jfill_o, jup_c, jfill_c, jcpy_o, va_o])
            have w := w69 _ rfl
            rw [nI_toInt hi31, nI_toInt hj31, nI_toInt hq31] at hp
            have hK : Inv np (jcpy (jup (jup (jup (va_up mem (3 + b) (va_cpy (mem (3 + a)) (mem (3 + b)) i j q)) 0 14 0) 66 0 0) 66 1 0) 69 (60 * a + i) (60 * b + j) q) := by
              refine h.c1 (jch.va (((jch.up (jch.va jch.rf (m3C hb8) (m3n hb8)) rfl).up rfl).up rfl) (by decide) (by decide)) ⟨fun s2 hs2 => ?_, fun s2 hs2 k hk => ?_⟩ ?_
              · simp (disch := omega) only [jup_o, jfill_o, jup_c, jfill_c, jcpy_o, va_o]
                exact h.1.1 s2 hs2
              · by_cases e : s2 = b
                · subst e
                  simp (disch := omega) only [jup_o, jcpy_c, va_o, va_c, jcpy_o]
                  unfold va_cpy
                  by_cases e9 : j ≤ k ∧ k < j + q
                  · rw [if_pos ⟨by omega, by omega⟩, if_pos e9, show 60 * a + i + (60 * s2 + k - (60 * s2 + j)) = 60 * a + (i + (k - j)) by omega]
                    exact h.1.2 a ha8 _ (by omega)
                  · rw [if_neg (by omega), if_neg e9]; exact h.1.2 s2 hs2 k hk
                · simp (disch := omega) only [jup_o, jcpy_c, va_o, va_c, jcpy_o]
                  unfold va_cpy
                  rw [if_neg (by omega)]; exact h.1.2 s2 hs2 k hk
              · show _ = _
                simp (disch := omega) only [jup_o, jfill_o, jup_c, jfill_c, jcpy_o, va_o]
                rfl
            rcases Nat.lt_or_ge i j with hd | hd
            · exact Sim.ee (c_copy np mem a i b j q z y ha8 hb8 hz hy e12 f12 hne (by omega) (by omega)) (m_copy_dn np _ a i b j q ha8 hb8 (by rw [w.1]; exact hl0) (by rw [w.1]; exact hne2) z y hz hy (by rw [w.2]; exact e68) (by rw [w.2]; exact f68) (by omega) (by omega) hd) rfl hK
            · exact Sim.ee (c_copy np mem a i b j q z y ha8 hb8 hz hy e12 f12 hne (by omega) (by omega)) (m_copy_up np _ a i b j q ha8 hb8 (by rw [w.1]; exact hl0) (by rw [w.1]; exact hne2) z y hz hy (by rw [w.2]; exact e68) (by rw [w.2]; exact f68) (by omega) (by omega) hd) rfl hK
        · exact Sim.ee (c_copy_store np mem a b z y i j q ha8 hb8 hz hy e12 f12 hne) (m_copy_store np _ a b i j q ha8 hb8 hl0 (by show ¬ mem 67 a = mem 67 b; rw [e67, f67]; exact hne)) rfl (h.f1 5)
  · exact Sim.ee (c_copy_bad np mem a i b j q hab) (m_copy_bad np _ a i b j q hab) rfl h.th
theorem jKeyS_c {d1 d2 k1 k2 : Nat → Int32} {d : Int32} : ∀ q, (∀ j, j < q → d1 j = d2 j ∧ k1 j = k2 j) → jKeyS d1 k1 d q = jKeyS d2 k2 d q
  | 0, _ => rfl
  | q + 1, h => by
    have ih := jKeyS_c (d := d) q (fun j hj => h j (by omega))
    unfold jKeyS
    rw [ih, (h q (by omega)).1, (h q (by omega)).2]
theorem jKey_c {d1 d2 k1 k2 : Nat → Int32} {q : Nat} {o d : Int32} (h : ∀ j, j < q → d1 j = d2 j ∧ k1 j = k2 j) : jKey d1 k1 q o d = jKey d2 k2 q o d := by
  unfold jKey
  rw [jKeyS_c q h]
theorem m15n {o k : Nat} (h : o < 4) : (15 + o ∈ [15, 16, 17, 18, 20, 21, 22, 23, 24, 25, 26, 70, 71, 72, 73] ∧ 15 + o ≠ 0 ∧ 15 + o ≠ 66 ∧ 15 + o ≠ 51 ∧ 15 + o ≠ 55 ∧ 15 + o ≠ 63) ∧ 20 + o ∈ [15, 16, 17, 18, 20, 21, 22, 23, 24, 25, 26, 70, 71, 72, 73] ∧ 20 + o ≠ 0 ∧ 20 + o ≠ 66 ∧ 20 + o ≠ 51 ∧ 20 + o ≠ 55 ∧ 20 + o ≠ 63 := by
  rcases (show o = 0 ∨ o = 1 ∨ o = 2 ∨ o = 3 by omega) with rfl | rfl | rfl | rfl <;> decide
theorem sim_key (np : Nat) (mem : jMem) (h : Inv np mem) (o d w : Int32) : Sim yX10_key cX10_key 4 3 yX11_key cX11_key 4 3 [.int o, .int d, .int w] np mem := by
  by_cases hb : jin o 0 3 ∧ jin d 0 999 ∧ jin w 1 65520
  · obtain ⟨ho, hd, hw⟩ := hb
    obtain ⟨o, ho4, -, rfl⟩ := jin_n ho
    have ho4 : o < 4 := by omega
    obtain ⟨⟨q, hq, e24, e70, hj⟩, hb1, hb2⟩ := h.2.1 o ho4
    by_cases h6 : q = 6
    · subst h6
      exact Sim.ee (c_key_full np mem o d w ho4 hd hw e24) (m_key_full np _ o d w ho4 hd hw e70) rfl h.th
    · have mm := m15n (k := 0) ho4
      have q70 : jup (jup (jup mem (15 + o) q d) (20 + o) q w) 24 o (nI (q + 1)) 70 = mem 70 := by simp (disch := omega) only [jup_o, jfill_o, jup_c, jfill_c, jcpy_o, va_o]
      refine Sim.ee (c_key np mem o q d w ho4 hd hw (by omega) e24) (m_key np _ o q d w ho4 hd hw (by rw [q70]; exact e70) (by omega)) rfl ?_
      refine h.c2 (((((jch.up (jch.upC (jch.upC jch.rf mm.1.1 mm.1.2) mm.2.1 mm.2.2) rfl).up rfl).up rfl).up rfl).up rfl) (fun o2 ho2 => ?_)
      obtain ⟨⟨q2, hq2, f24, f70, fj⟩, fb1, fb2⟩ := h.2.1 o2 ho2
      have nn : 25 ≠ 15 + o ∧ 26 ≠ 15 + o ∧ 25 ≠ 20 + o ∧ 26 ≠ 20 + o := by omega
      refine ⟨?_, by simp (disch := omega) only [jup_o, jfill_o, jup_c, jfill_c, jcpy_o, va_o]; exact fb1, by simp (disch := omega) only [jup_o, jfill_o, jup_c, jfill_c, jcpy_o, va_o]; exact fb2⟩
      by_cases e : o2 = o
      · subst e
        refine ⟨q + 1, by omega, by simp (disch := omega) only [jup_o, jfill_o, jup_c, jfill_c, jcpy_o, va_o]; rw [va_up_self], by simp (disch := omega) only [jup_o, jfill_o, jup_c, jfill_c, jcpy_o, va_o]; rw [va_up_self], fun j hj9 => ?_⟩
        simp (disch := omega) only [jup_o, jfill_o, jup_c, jfill_c, jcpy_o, va_o]
        by_cases e9 : j = q
        · subst e9
          rw [va_up_self, va_up_self, va_up_self, va_up_self]
          exact ⟨rfl, rfl, hd.1⟩
        · simp (disch := omega) only [va_un]
          exact hj j (by omega)
      · refine ⟨q2, hq2, by simp (disch := omega) only [jup_o, jfill_o, jup_c, jfill_c, jcpy_o, va_o]; rw [va_up_ne _ _ e]; exact f24, by simp (disch := omega) only [jup_o, jfill_o, jup_c, jfill_c, jcpy_o, va_o]; rw [va_up_ne _ _ e]; exact f70, fun j hj9 => ?_⟩
        simp (disch := omega) only [jup_o, jfill_o, jup_c, jfill_c, jcpy_o, va_o]
        rw [va_up_ne _ _ (by omega), va_up_ne _ _ (by omega)]
        exact fj j hj9
  · exact Sim.ee (c_key_bad np mem o d w hb) (m_key_bad np _ o d w hb) rfl h.th
theorem sim_keyOn (np : Nat) (mem : jMem) (h : Inv np mem) (o d : Int32) : Sim yX10_keyOn cX10_keyOn 3 3 yX11_keyOn cX11_keyOn 3 3 [.int o, .int d] np mem := by
  by_cases hb : jin o 0 3 ∧ jin d 0 999
  · obtain ⟨ho, hd⟩ := hb
    obtain ⟨o, ho4, -, rfl⟩ := jin_n ho
    have ho4 : o < 4 := by omega
    obtain ⟨⟨q, hq, e24, e70, hj⟩, hb1, hb2⟩ := h.2.1 o ho4
    exact Sim.ee (c_keyOn np mem o q d ho4 hd hq e24 (fun j hj9 => (hj j hj9).2.2)) (m_keyOn np _ o q d ho4 hd hq e70) (jKey_c (fun j hj9 => ⟨(hj j hj9).1.symm, (hj j hj9).2.1.symm⟩)) h.th
  · exact Sim.ee (c_keyOn_bad np mem o d hb) (m_keyOn_bad np _ o d hb) rfl h.th
theorem sim_close (np : Nat) (mem : jMem) (h : Inv np mem) (o w d : Int32) : Sim yX10_close cX10_close 5 3 yX11_close cX11_close 4 3 [.int o, .int w, .int d] np mem := by
  by_cases hb : jin o 0 3 ∧ jin w 0 1 ∧ jin d 0 999
  · obtain ⟨ho, hw, hd⟩ := hb
    obtain ⟨o, ho4, -, rfl⟩ := jin_n ho
    obtain ⟨w, hw1, -, rfl⟩ := jin_n hw
    have ho4 : o < 4 := by omega
    obtain ⟨-, hb1, hb2⟩ := h.2.1 o ho4
    rcases (show w = 0 ∨ w = 1 by omega) with hw0 | hw1
    · subst hw0
      rcases hb1 with ⟨e1, e2⟩ | ⟨e1, e2⟩
      · refine Sim.ee (c_close0 np mem o d ho4 hd e1) (m_close np _ o 0 d ho4 (by omega) hd (by show mem 73 _ = _; exact e2)) rfl ?_
        refine h.c2 (((jch.rf.up rfl).up rfl).up rfl) (fun o2 ho2 => ?_)
        obtain ⟨⟨q2, hq2, f24, f70, fj⟩, fb1, fb2⟩ := h.2.1 o2 ho2
        refine ⟨⟨q2, hq2, f24, f70, fun j hj9 => ?_⟩, ?_, ?_⟩
        · simp (disch := omega) only [jup_o, jfill_o, jup_c, jfill_c, jcpy_o, va_o]
          exact fj j hj9
        · simp (disch := omega) only [jup_o, jfill_o, jup_c, jfill_c, jcpy_o, va_o]
          by_cases e : o2 = o
          · subst e
            rw [va_up_self, Nat.add_zero, va_up_self]; exact Or.inr ⟨rfl, hd⟩
          · rw [va_up_ne _ _ e, va_up_ne _ _ (by omega)]; exact fb1
        · simp (disch := omega) only [jup_o, jfill_o, jup_c, jfill_c, jcpy_o, va_o]
          by_cases e : o2 = o
          · subst e
            rw [va_up_ne _ _ (by omega)]; exact fb2
          · rw [va_up_ne _ _ (by omega)]; exact fb2
      · exact Sim.ee (c_close0_state np mem o d ho4 hd (by intro e9; rw [e9] at e2; exact absurd e2.2 (by decide))) (m_close_state np _ o 0 d ho4 (by omega) hd (by show ¬ mem 73 (2 * o) = _; rw [← e1]; intro e9; rw [e9] at e2; exact absurd e2.1 (by decide))) rfl h.th
    · subst hw1
      rcases hb2 with ⟨e1, e2⟩ | ⟨e1, e2⟩
      · refine Sim.ee (c_close1 np mem o d ho4 hd e1) (m_close np _ o 1 d ho4 (by omega) hd (by show mem 73 _ = _; exact e2)) rfl ?_
        refine h.c2 (((jch.rf.up rfl).up rfl).up rfl) (fun o2 ho2 => ?_)
        obtain ⟨⟨q2, hq2, f24, f70, fj⟩, fb1, fb2⟩ := h.2.1 o2 ho2
        refine ⟨⟨q2, hq2, f24, f70, fun j hj9 => ?_⟩, ?_, ?_⟩
        · simp (disch := omega) only [jup_o, jfill_o, jup_c, jfill_c, jcpy_o, va_o]
          exact fj j hj9
        · simp (disch := omega) only [jup_o, jfill_o, jup_c, jfill_c, jcpy_o, va_o]
          by_cases e : o2 = o
          · subst e
            rw [va_up_ne _ _ (by omega)]; exact fb1
          · rw [va_up_ne _ _ (by omega)]; exact fb1
        · simp (disch := omega) only [jup_o, jfill_o, jup_c, jfill_c, jcpy_o, va_o]
          by_cases e : o2 = o
          · subst e
            rw [va_up_self, va_up_self]; exact Or.inr ⟨rfl, hd⟩
          · rw [va_up_ne _ _ e, va_up_ne _ _ (by omega)]; exact fb2
      · exact Sim.ee (c_close1_state np mem o d ho4 hd (by intro e9; rw [e9] at e2; exact absurd e2.2 (by decide))) (m_close_state np _ o 1 d ho4 (by omega) hd (by show ¬ mem 73 (2 * o + 1) = _; rw [← e1]; intro e9; rw [e9] at e2; exact absurd e2.1 (by decide))) rfl h.th
  · exact Sim.ee (c_close_bad np mem o w d hb) (m_close_bad np _ o w d hb) rfl h.th
