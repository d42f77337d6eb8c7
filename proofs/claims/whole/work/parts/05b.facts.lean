/-- x lies from a to b -/
abbrev jin (x : Int32) (a b : Int) : Prop := a ≤ x.toInt ∧ x.toInt ≤ b
theorem jin_l {x : Int32} {a b : Int64} : (a ≤ x.toInt64 ∧ x.toInt64 ≤ b) ↔ jin x a.toInt b.toInt := by
  rw [Int64.le_iff_toInt_le, Int64.le_iff_toInt_le, Int32.toInt_toInt64]
theorem jin_n {x : Int32} {c : Int} (h : jin x 0 c) : ∃ n : Nat, (n : Int) ≤ c ∧ n < 2 ^ 31 ∧ x = nI n := by
  obtain ⟨n, hn, rfl⟩ := nI_of (x := x) (by rw [Int32.lt_iff_toInt_lt]; have := h.1; show ¬ x.toInt < 0; omega)
  exact ⟨n, by have := h.2; rw [nI_toInt hn] at this; exact this, hn, rfl⟩
theorem fa_litL (n : Nat) : (OfNat.ofNat n : Int64) = lN (OfNat.ofNat n) := rfl
theorem fa_eq (a b : Int32) : a = b ↔ a.toInt = b.toInt := Int32.toInt_inj.symm
theorem fa_lit (n : Nat) : (OfNat.ofNat n : Int32) = nI (OfNat.ofNat n) := rfl
def jlv (l : List (Option Value)) : Nat → Option Value := fun i => (l[i]?).join
def jall (lv : Nat → Option Value) : List (Option Value) → Nat → Prop
  | [], _ => True
  | none :: l, k => jall lv l (k + 1)
  | some v :: l, k => lv k = some v ∧ jall lv l (k + 1)
theorem jall_at {lv : Nat → Option Value} : ∀ (l : List (Option Value)) (k : Nat), jall lv l k → ∀ (i : Nat) (v : Value), l[i]? = some (some v) → lv (k + i) = some v
  | [], _, _, i, v, h => by simp at h
  | none :: l, k, hl, 0, v, h => by simp at h
  | none :: l, k, hl, i + 1, v, h => by
    have := jall_at l (k + 1) hl i v (by simpa using h)
    rw [show k + (i + 1) = k + 1 + i by omega]
    exact this
  | some w :: l, k, hl, 0, v, h => by
    simp at h
    rw [← h]
    exact hl.1
  | some w :: l, k, hl, i + 1, v, h => by
    have := jall_at l (k + 1) hl.2 i v (by simpa using h)
    rw [show k + (i + 1) = k + 1 + i by omega]
    exact this
/-- the places a to b - 1 of cell o hold v -/
def jfill (mem : jMem) (o a b : Nat) (v : Int32) : jMem := va_up mem o (fun j => if a ≤ j ∧ j < b then v else mem o j)
theorem jfill_0 (mem : jMem) (o a : Nat) (v : Int32) : jfill mem o a a v = mem := by
  funext i j
  unfold jfill va_up
  by_cases h : i = o
  · rw [if_pos h, if_neg (by omega), h]
  · rw [if_neg h]
theorem jfill_s {mem : jMem} {o a b : Nat} {v : Int32} (h : a ≤ b) : jup (jfill mem o a b v) o b v = jfill mem o a (b + 1) v := by
  funext i j
  unfold jup jfill va_up
  by_cases h1 : i = o
  · simp only [if_pos h1, if_true]
    by_cases h2 : j = b
    · rw [if_pos h2, if_pos (by omega)]
    · rw [if_neg h2]
      by_cases h3 : a ≤ j ∧ j < b
      · rw [if_pos h3, if_pos (by omega)]
      · rw [if_neg h3, if_neg (by omega)]
  · rw [if_neg h1, if_neg h1, if_neg h1]
theorem jnoneT : (-1000000 : Int32).toInt = -1000000 := by decide
theorem jm1_lt {r : Nat} (h : r < 2 ^ 31) : nI r - 1 < 0 ↔ r = 0 := by
  cases r with
  | zero => exact ⟨fun _ => rfl, fun _ => by decide⟩
  | succ r => rw [nI_pred]; exact ⟨fun q => absurd q (nI_pos (by omega)), fun q => by omega⟩
theorem jm1_step {x r : Nat} (h : x = r + 1) : nI x - 1 + (-1) = nI r - 1 := by
  rw [h, nI_pred, Int32.sub_eq_add_neg]
theorem jadd64 (x y : Int32) : (x.toInt64 + y.toInt64).toInt = x.toInt + y.toInt := by
  rw [Int64.toInt_add, Int32.toInt_toInt64, Int32.toInt_toInt64]
  have h1 := Int32.le_toInt x
  have h2 := Int32.toInt_lt x
  have h3 := Int32.le_toInt y
  have h4 := Int32.toInt_lt y
  rw [Int.bmod_eq_of_le] <;> simp at h1 h2 h3 h4 ⊢ <;> omega
section JN
variable {G : jG} {own : String} {cc : ByteArray} {nL u us pc : Nat} {lv : Nat → Option Value} {st : List Value} {sh : jSh} {mem : jMem}
theorem j_lv (l : List (Option Value)) (h : jall lv l 0) (k : J G own cc nL u us pc (jlv l) st sh mem) : J G own cc nL u us pc lv st sh mem := j_less (jlv l) (fun i v hv => by
  have h2 : l[i]? = some (some v) := by
    unfold jlv at hv
    cases hi : l[i]? with
    | none => rw [hi] at hv; cases hv
    | some w => rw [hi] at hv; exact congrArg some hv
  have := jall_at l 0 h i v h2
  rw [Nat.zero_add] at this
  exact this) k
theorem j_mem (mem2 : jMem) (h : mem = mem2) (k : J G own cc nL u us pc lv st sh mem2) : J G own cc nL u us pc lv st sh mem := by rw [h]; exact k
theorem j_nrm {x : Int32} (y : Int32) (h : x = y) (k : J G own cc nL u us pc lv (.int y :: st) sh mem) : J G own cc nL u us pc lv (.int x :: st) sh mem := by rw [h]; exact k
theorem j_nrm2 {x : Int32} {v : Value} (y : Int32) (h : x = y) (k : J G own cc nL u us pc lv (v :: .int y :: st) sh mem) : J G own cc nL u us pc lv (v :: .int x :: st) sh mem := by rw [h]; exact k
theorem j_ialdN (X : jOk G own cc nL) {o n : Nat} (ho : o < sh.1) (hkd : sh.2.1 o = 13) (hn : n < sh.2.2.1 o) (hb : sh.2.2.1 o < 2 ^ 31) (f : Nat → Int32) (hf : mem o = f) (hd : decode cc pc = .ok (.iaload, 1)) (kk : J G own cc nL u us (pc + 1) lv (.int (f n) :: st) sh mem) : J G own cc nL u us pc lv (.int (nI n) :: .ref o :: st) sh mem := by
  refine j_iald X ho hkd (vp_in_nI hn hb) hd ?_
  rw [nI_clamp (by omega), hf]
  exact kk
theorem j_baldN (X : jOk G own cc nL) {o n : Nat} (ho : o < sh.1) (hkd : sh.2.1 o = 12) (hn : n < sh.2.2.1 o) (hb : sh.2.2.1 o < 2 ^ 31) (f : Nat → Int32) (hf : mem o = f) (hd : decode cc pc = .ok (.baload, 1)) (kk : J G own cc nL u us (pc + 1) lv (.int (f n) :: st) sh mem) : J G own cc nL u us pc lv (.int (nI n) :: .ref o :: st) sh mem := by
  refine j_bald X ho hkd (vp_in_nI hn hb) hd ?_
  rw [nI_clamp (by omega), hf]
  exact kk
theorem j_iastN (X : jOk G own cc nL) {o n : Nat} {v : Int32} (ho : o < sh.1) (hkd : sh.2.1 o = 13) (hn : n < sh.2.2.1 o) (hb : sh.2.2.1 o < 2 ^ 31) (hd : decode cc pc = .ok (.iastore, 1)) (kk : J G own cc nL u us (pc + 1) lv st sh (jup mem o n v)) : J G own cc nL u us pc lv (.int v :: .int (nI n) :: .ref o :: st) sh mem := by
  refine j_iast X ho hkd (vp_in_nI hn hb) hd ?_
  rw [nI_clamp (by omega)]
  exact kk
theorem j_bastN (X : jOk G own cc nL) {o n : Nat} {v : Int32} (ho : o < sh.1) (hkd : sh.2.1 o = 12) (hn : n < sh.2.2.1 o) (hb : sh.2.2.1 o < 2 ^ 31) (hd : decode cc pc = .ok (.bastore, 1)) (kk : J G own cc nL u us (pc + 1) lv st sh (jup mem o n (vp_nar .byte v))) : J G own cc nL u us pc lv (.int v :: .int (nI n) :: .ref o :: st) sh mem := by
  refine j_bast X ho hkd (vp_in_nI hn hb) hd ?_
  rw [nI_clamp (by omega)]
  exact kk
theorem j_aaldPN (X : jOk G own cc nL) {o n t : Nat} (ho : o < sh.1) (hkd : sh.2.1 o = 14) (hn : n < sh.2.2.1 o) (hb : sh.2.2.1 o < 2 ^ 31) (ht : sh.2.2.2 o n = some t) (hd : decode cc pc = .ok (.aaload, 1)) (kk : J G own cc nL u us (pc + 1) lv (.ref t :: st) sh mem) : J G own cc nL u us pc lv (.int (nI n) :: .ref o :: st) sh mem := j_aaldP X t ho hkd (vp_in_nI hn hb) (by rw [nI_clamp (by omega)]; exact ht) hd kk
theorem j_aaldIN (X : jOk G own cc nL) {o n t : Nat} (ho : o < sh.1) (hkd : sh.2.1 o = 15) (hn : n < sh.2.2.1 o) (hb : sh.2.2.1 o < 2 ^ 31) (ht : sh.2.2.2 o n = some t) (hd : decode cc pc = .ok (.aaload, 1)) (kk : J G own cc nL u us (pc + 1) lv (.ref t :: st) sh mem) : J G own cc nL u us pc lv (.int (nI n) :: .ref o :: st) sh mem := j_aaldI X t ho hkd (vp_in_nI hn hb) (by rw [nI_clamp (by omega)]; exact ht) hd kk
theorem j_getF (X : jOk G own cc nL) {o idx : Nat} (ci k : Nat) (hci : ci < 12) (hk : k < jN ci) (hr : jR ci k = false) (hlk : Cond.fieldLink own idx (jT ci k).1 (jT ci k).2.1 (jT ci k).2.2.1 ∈ jW) (ho : o < sh.1) (hkd : sh.2.1 o = ci) (f : Nat → Int32) (hf : mem o = f) (hd : decode cc pc = .ok (.getfield idx, 3)) (kk : J G own cc nL u us (pc + 3) lv (.int (f k) :: st) sh mem) : J G own cc nL u us pc lv (.ref o :: st) sh mem := by
  refine j_getI X ci k hci hk hr hlk ho hkd hd ?_
  rw [hf]
  exact kk
theorem j_limits (X : jOk G RX6 cc nL) (hd : decode cc pc = .ok (.getstatic 43, 3)) (kk : J G RX6 cc nL u us (pc + 3) lv (.ref (jB + 5) :: st) sh mem) : J G RX6 cc nL u us pc lv st sh mem := by
  obtain ⟨⟨p, l, e, R, s, m, args, below, meth, c, Q⟩, dC, dI, A, n0, ad0⟩ := G
  intro H locs ls ad cy hw hl
  have e9 : ad (jB + 5) = ad0 (jB + 5) := hw.2.2.2.2.1.1 _ (Or.inr (by omega))
  refine va_gets (C := RX6) (n := "LIMITS") (d := "[I") (ref := RX6) X.1 X.2.1 X.2.2.2.2.2.2.2.1.2.2.2.1 hw.2.2.1 X.2.2.2.1 (X.2.2.2.2.1 _ u382) (fun _ h9 => h9) hd ?_
  rw [← e9]
  exact kk H locs ls ad cy hw hl
theorem j_lim (X : jOk G own cc nL) {n : Nat} (hn : n < 9) (hd : decode cc pc = .ok (.iaload, 1)) (kk : J G own cc nL u us (pc + 1) lv (.int (jLim n) :: st) sh mem) : J G own cc nL u us pc lv (.int (nI n) :: .ref (jB + 5) :: st) sh mem := by
  obtain ⟨⟨p, l, e, R, s, m, args, below, meth, c, Q⟩, dC, dI, A, n0, ad0⟩ := G
  intro H locs ls ad cy hw hl
  have e9 : ad (jB + 5) = ad0 (jB + 5) := hw.2.2.2.2.1.1 _ (Or.inr (by omega))
  have hT := X.2.2.2.2.2.2.2.1.2.2.2.2.1
  rw [← e9] at hT
  exact va_ti X.1 X.2.1 hT hw.2.2.1 (vp_in_nI hn (by decide)) (by rw [nI_clamp (by omega)]; rfl) hd (kk H locs ls ad cy hw hl)
theorem j_mmax (X : jOk G own cc nL) {dd RC RS idx : Nat} {x y : Int32} (hR : jRm G dd RC RS) (hdd : 1 ≤ dd) (hlk : Cond.methodLink own idx yJ9_max_7cf53 ∈ jW) (hW : (st.map fun v => v.category).sum ≤ 8) (hu : u ≤ RC ∧ us ≤ RS) (hd : decode cc pc = .ok (.invokestatic idx, 3)) (kk : J G own cc nL u us (pc + 3) lv (.int (if x < y then y else x) :: st) sh mem) : J G own cc nL u us pc lv (.int y :: .int x :: st) sh mem := by
  obtain ⟨⟨p, l, e, R, s, m, args, below, meth, c, Q⟩, dC, dI, A, n0, ad0⟩ := G
  intro H locs ls ad cy hw hl
  have h1 := hR.1
  have h2 := hR.2.1
  exact va_mmax X.1 X.2.1 (X.2.2.1.trans hl.1.symm) X.2.2.2.1 (X.2.2.2.2.1 _ hlk) (X.2.2.2.2.1 _ u844) (X.2.2.2.2.1 _ u15) (X.2.2.2.2.1 _ u845) (by omega) (by rw [j_cat_sum]; omega) (Nat.le_trans hu.1 hR.2.2.1) (Nat.le_trans hu.2 hR.2.2.2) hd (kk H locs ls ad cy hw hl)
theorem j_mmin (X : jOk G own cc nL) {dd RC RS idx : Nat} {x y : Int32} (hR : jRm G dd RC RS) (hdd : 1 ≤ dd) (hlk : Cond.methodLink own idx yJ9_min_7cf53 ∈ jW) (hW : (st.map fun v => v.category).sum ≤ 8) (hu : u ≤ RC ∧ us ≤ RS) (hd : decode cc pc = .ok (.invokestatic idx, 3)) (kk : J G own cc nL u us (pc + 3) lv (.int (if y < x then y else x) :: st) sh mem) : J G own cc nL u us pc lv (.int y :: .int x :: st) sh mem := by
  obtain ⟨⟨p, l, e, R, s, m, args, below, meth, c, Q⟩, dC, dI, A, n0, ad0⟩ := G
  intro H locs ls ad cy hw hl
  have h1 := hR.1
  have h2 := hR.2.1
  exact va_mmin X.1 X.2.1 (X.2.2.1.trans hl.1.symm) X.2.2.2.1 (X.2.2.2.2.1 _ hlk) (X.2.2.2.2.1 _ u626) (X.2.2.2.2.1 _ u15) (X.2.2.2.2.1 _ u627) (by omega) (by rw [j_cat_sum]; omega) (Nat.le_trans hu.1 hR.2.2.1) (Nat.le_trans hu.2 hR.2.2.2) hd (kk H locs ls ad cy hw hl)
end JN

theorem hyJ0_charAt_5068e : yJ0_charAt_5068e.cls ≠ "java/lang/invoke/MethodHandle" ∧ yJ0_charAt_5068e.cls ≠ "java/lang/invoke/VarHandle" ∧ (parseMethodDescriptor yJ0_charAt_5068e.desc).map (fun d => d.parameters.length) = some 1 := by decide +kernel
theorem hyJ0_checkIndex_df160 : yJ0_checkIndex_df160.cls ≠ "java/lang/invoke/MethodHandle" ∧ yJ0_checkIndex_df160.cls ≠ "java/lang/invoke/VarHandle" ∧ (parseMethodDescriptor yJ0_checkIndex_df160.desc).map (fun d => d.parameters.length) = some 2 := by decide +kernel
theorem hyJ0_coder_7d493 : yJ0_coder_7d493.cls ≠ "java/lang/invoke/MethodHandle" ∧ yJ0_coder_7d493.cls ≠ "java/lang/invoke/VarHandle" ∧ (parseMethodDescriptor yJ0_coder_7d493.desc).map (fun d => d.parameters.length) = some 0 := by decide +kernel
theorem hyJ0_isLatin1_aae02 : yJ0_isLatin1_aae02.cls ≠ "java/lang/invoke/MethodHandle" ∧ yJ0_isLatin1_aae02.cls ≠ "java/lang/invoke/VarHandle" ∧ (parseMethodDescriptor yJ0_isLatin1_aae02.desc).map (fun d => d.parameters.length) = some 0 := by decide +kernel
theorem hyJ0_length_8abf5 : yJ0_length_8abf5.cls ≠ "java/lang/invoke/MethodHandle" ∧ yJ0_length_8abf5.cls ≠ "java/lang/invoke/VarHandle" ∧ (parseMethodDescriptor yJ0_length_8abf5.desc).map (fun d => d.parameters.length) = some 0 := by decide +kernel
theorem hyJ1_charAt_3b067 : yJ1_charAt_3b067.cls ≠ "java/lang/invoke/MethodHandle" ∧ yJ1_charAt_3b067.cls ≠ "java/lang/invoke/VarHandle" ∧ (parseMethodDescriptor yJ1_charAt_3b067.desc).map (fun d => d.parameters.length) = some 2 := by decide +kernel
theorem hyJ2_charAt_3b067 : yJ2_charAt_3b067.cls ≠ "java/lang/invoke/MethodHandle" ∧ yJ2_charAt_3b067.cls ≠ "java/lang/invoke/VarHandle" ∧ (parseMethodDescriptor yJ2_charAt_3b067.desc).map (fun d => d.parameters.length) = some 2 := by decide +kernel
theorem hyJ2_checkIndex_2214a : yJ2_checkIndex_2214a.cls ≠ "java/lang/invoke/MethodHandle" ∧ yJ2_checkIndex_2214a.cls ≠ "java/lang/invoke/VarHandle" ∧ (parseMethodDescriptor yJ2_checkIndex_2214a.desc).map (fun d => d.parameters.length) = some 2 := by decide +kernel
theorem hyJ2_getChar_3b067 : yJ2_getChar_3b067.cls ≠ "java/lang/invoke/MethodHandle" ∧ yJ2_getChar_3b067.cls ≠ "java/lang/invoke/VarHandle" ∧ (parseMethodDescriptor yJ2_getChar_3b067.desc).map (fun d => d.parameters.length) = some 2 := by decide +kernel
theorem hyJ2_length_9d52b : yJ2_length_9d52b.cls ≠ "java/lang/invoke/MethodHandle" ∧ yJ2_length_9d52b.cls ≠ "java/lang/invoke/VarHandle" ∧ (parseMethodDescriptor yJ2_length_9d52b.desc).map (fun d => d.parameters.length) = some 1 := by decide +kernel
theorem hyJ3_checkIndex_8e157 : yJ3_checkIndex_8e157.cls ≠ "java/lang/invoke/MethodHandle" ∧ yJ3_checkIndex_8e157.cls ≠ "java/lang/invoke/VarHandle" ∧ (parseMethodDescriptor yJ3_checkIndex_8e157.desc).map (fun d => d.parameters.length) = some 3 := by decide +kernel
theorem hyJ6_bitCount_0f7a4 : yJ6_bitCount_0f7a4.cls ≠ "java/lang/invoke/MethodHandle" ∧ yJ6_bitCount_0f7a4.cls ≠ "java/lang/invoke/VarHandle" ∧ (parseMethodDescriptor yJ6_bitCount_0f7a4.desc).map (fun d => d.parameters.length) = some 1 := by decide +kernel
theorem hyJ7_fill_53178 : yJ7_fill_53178.cls ≠ "java/lang/invoke/MethodHandle" ∧ yJ7_fill_53178.cls ≠ "java/lang/invoke/VarHandle" ∧ (parseMethodDescriptor yJ7_fill_53178.desc).map (fun d => d.parameters.length) = some 2 := by decide +kernel
theorem hyJ9_floorMod_7cf53 : yJ9_floorMod_7cf53.cls ≠ "java/lang/invoke/MethodHandle" ∧ yJ9_floorMod_7cf53.cls ≠ "java/lang/invoke/VarHandle" ∧ (parseMethodDescriptor yJ9_floorMod_7cf53.desc).map (fun d => d.parameters.length) = some 2 := by decide +kernel
theorem hyJ9_max_7cf53 : yJ9_max_7cf53.cls ≠ "java/lang/invoke/MethodHandle" ∧ yJ9_max_7cf53.cls ≠ "java/lang/invoke/VarHandle" ∧ (parseMethodDescriptor yJ9_max_7cf53.desc).map (fun d => d.parameters.length) = some 2 := by decide +kernel
theorem hyJ9_min_7cf53 : yJ9_min_7cf53.cls ≠ "java/lang/invoke/MethodHandle" ∧ yJ9_min_7cf53.cls ≠ "java/lang/invoke/VarHandle" ∧ (parseMethodDescriptor yJ9_min_7cf53.desc).map (fun d => d.parameters.length) = some 2 := by decide +kernel
theorem hyX0_begin : yX0_begin.cls ≠ "java/lang/invoke/MethodHandle" ∧ yX0_begin.cls ≠ "java/lang/invoke/VarHandle" ∧ (parseMethodDescriptor yX0_begin.desc).map (fun d => d.parameters.length) = some 1 := by decide +kernel
theorem hyX0_goneSize : yX0_goneSize.cls ≠ "java/lang/invoke/MethodHandle" ∧ yX0_goneSize.cls ≠ "java/lang/invoke/VarHandle" ∧ (parseMethodDescriptor yX0_goneSize.desc).map (fun d => d.parameters.length) = some 1 := by decide +kernel
theorem hyX0_gradeMark : yX0_gradeMark.cls ≠ "java/lang/invoke/MethodHandle" ∧ yX0_gradeMark.cls ≠ "java/lang/invoke/VarHandle" ∧ (parseMethodDescriptor yX0_gradeMark.desc).map (fun d => d.parameters.length) = some 1 := by decide +kernel
theorem hyX0_gradeSize : yX0_gradeSize.cls ≠ "java/lang/invoke/MethodHandle" ∧ yX0_gradeSize.cls ≠ "java/lang/invoke/VarHandle" ∧ (parseMethodDescriptor yX0_gradeSize.desc).map (fun d => d.parameters.length) = some 1 := by decide +kernel
theorem hyX0_init : yX0_init.cls ≠ "java/lang/invoke/MethodHandle" ∧ yX0_init.cls ≠ "java/lang/invoke/VarHandle" ∧ (parseMethodDescriptor yX0_init.desc).map (fun d => d.parameters.length) = some 0 := by decide +kernel
theorem hyX0_lentMark : yX0_lentMark.cls ≠ "java/lang/invoke/MethodHandle" ∧ yX0_lentMark.cls ≠ "java/lang/invoke/VarHandle" ∧ (parseMethodDescriptor yX0_lentMark.desc).map (fun d => d.parameters.length) = some 1 := by decide +kernel
theorem hyX0_lentOnesMark : yX0_lentOnesMark.cls ≠ "java/lang/invoke/MethodHandle" ∧ yX0_lentOnesMark.cls ≠ "java/lang/invoke/VarHandle" ∧ (parseMethodDescriptor yX0_lentOnesMark.desc).map (fun d => d.parameters.length) = some 1 := by decide +kernel
theorem hyX0_lentSize : yX0_lentSize.cls ≠ "java/lang/invoke/MethodHandle" ∧ yX0_lentSize.cls ≠ "java/lang/invoke/VarHandle" ∧ (parseMethodDescriptor yX0_lentSize.desc).map (fun d => d.parameters.length) = some 1 := by decide +kernel
theorem hyX0_markOf : yX0_markOf.cls ≠ "java/lang/invoke/MethodHandle" ∧ yX0_markOf.cls ≠ "java/lang/invoke/VarHandle" ∧ (parseMethodDescriptor yX0_markOf.desc).map (fun d => d.parameters.length) = some 2 := by decide +kernel
theorem hyX0_shortMark : yX0_shortMark.cls ≠ "java/lang/invoke/MethodHandle" ∧ yX0_shortMark.cls ≠ "java/lang/invoke/VarHandle" ∧ (parseMethodDescriptor yX0_shortMark.desc).map (fun d => d.parameters.length) = some 1 := by decide +kernel
theorem hyX0_shortSize : yX0_shortSize.cls ≠ "java/lang/invoke/MethodHandle" ∧ yX0_shortSize.cls ≠ "java/lang/invoke/VarHandle" ∧ (parseMethodDescriptor yX0_shortSize.desc).map (fun d => d.parameters.length) = some 1 := by decide +kernel
theorem hyX0_sizeOf : yX0_sizeOf.cls ≠ "java/lang/invoke/MethodHandle" ∧ yX0_sizeOf.cls ≠ "java/lang/invoke/VarHandle" ∧ (parseMethodDescriptor yX0_sizeOf.desc).map (fun d => d.parameters.length) = some 2 := by decide +kernel
theorem hyX0_stampSize : yX0_stampSize.cls ≠ "java/lang/invoke/MethodHandle" ∧ yX0_stampSize.cls ≠ "java/lang/invoke/VarHandle" ∧ (parseMethodDescriptor yX0_stampSize.desc).map (fun d => d.parameters.length) = some 1 := by decide +kernel
theorem hyX10_answer : yX10_answer.cls ≠ "java/lang/invoke/MethodHandle" ∧ yX10_answer.cls ≠ "java/lang/invoke/VarHandle" ∧ (parseMethodDescriptor yX10_answer.desc).map (fun d => d.parameters.length) = some 4 := by decide +kernel
theorem hyX10_as : yX10_as.cls ≠ "java/lang/invoke/MethodHandle" ∧ yX10_as.cls ≠ "java/lang/invoke/VarHandle" ∧ (parseMethodDescriptor yX10_as.desc).map (fun d => d.parameters.length) = some 2 := by decide +kernel
theorem hyX10_ask : yX10_ask.cls ≠ "java/lang/invoke/MethodHandle" ∧ yX10_ask.cls ≠ "java/lang/invoke/VarHandle" ∧ (parseMethodDescriptor yX10_ask.desc).map (fun d => d.parameters.length) = some 2 := by decide +kernel
theorem hyX10_book : yX10_book.cls ≠ "java/lang/invoke/MethodHandle" ∧ yX10_book.cls ≠ "java/lang/invoke/VarHandle" ∧ (parseMethodDescriptor yX10_book.desc).map (fun d => d.parameters.length) = some 2 := by decide +kernel
theorem hyX10_check : yX10_check.cls ≠ "java/lang/invoke/MethodHandle" ∧ yX10_check.cls ≠ "java/lang/invoke/VarHandle" ∧ (parseMethodDescriptor yX10_check.desc).map (fun d => d.parameters.length) = some 5 := by decide +kernel
theorem hyX10_close : yX10_close.cls ≠ "java/lang/invoke/MethodHandle" ∧ yX10_close.cls ≠ "java/lang/invoke/VarHandle" ∧ (parseMethodDescriptor yX10_close.desc).map (fun d => d.parameters.length) = some 3 := by decide +kernel
theorem hyX10_copy : yX10_copy.cls ≠ "java/lang/invoke/MethodHandle" ∧ yX10_copy.cls ≠ "java/lang/invoke/VarHandle" ∧ (parseMethodDescriptor yX10_copy.desc).map (fun d => d.parameters.length) = some 5 := by decide +kernel
theorem hyX10_couldHaveMade : yX10_couldHaveMade.cls ≠ "java/lang/invoke/MethodHandle" ∧ yX10_couldHaveMade.cls ≠ "java/lang/invoke/VarHandle" ∧ (parseMethodDescriptor yX10_couldHaveMade.desc).map (fun d => d.parameters.length) = some 2 := by decide +kernel
theorem hyX10_count : yX10_count.cls ≠ "java/lang/invoke/MethodHandle" ∧ yX10_count.cls ≠ "java/lang/invoke/VarHandle" ∧ (parseMethodDescriptor yX10_count.desc).map (fun d => d.parameters.length) = some 1 := by decide +kernel
theorem hyX10_day : yX10_day.cls ≠ "java/lang/invoke/MethodHandle" ∧ yX10_day.cls ≠ "java/lang/invoke/VarHandle" ∧ (parseMethodDescriptor yX10_day.desc).map (fun d => d.parameters.length) = some 1 := by decide +kernel
theorem hyX10_door : yX10_door.cls ≠ "java/lang/invoke/MethodHandle" ∧ yX10_door.cls ≠ "java/lang/invoke/VarHandle" ∧ (parseMethodDescriptor yX10_door.desc).map (fun d => d.parameters.length) = some 2 := by decide +kernel
theorem hyX10_doors : yX10_doors.cls ≠ "java/lang/invoke/MethodHandle" ∧ yX10_doors.cls ≠ "java/lang/invoke/VarHandle" ∧ (parseMethodDescriptor yX10_doors.desc).map (fun d => d.parameters.length) = some 0 := by decide +kernel
theorem hyX10_drop : yX10_drop.cls ≠ "java/lang/invoke/MethodHandle" ∧ yX10_drop.cls ≠ "java/lang/invoke/VarHandle" ∧ (parseMethodDescriptor yX10_drop.desc).map (fun d => d.parameters.length) = some 1 := by decide +kernel
theorem hyX10_fault : yX10_fault.cls ≠ "java/lang/invoke/MethodHandle" ∧ yX10_fault.cls ≠ "java/lang/invoke/VarHandle" ∧ (parseMethodDescriptor yX10_fault.desc).map (fun d => d.parameters.length) = some 0 := by decide +kernel
theorem hyX10_feed : yX10_feed.cls ≠ "java/lang/invoke/MethodHandle" ∧ yX10_feed.cls ≠ "java/lang/invoke/VarHandle" ∧ (parseMethodDescriptor yX10_feed.desc).map (fun d => d.parameters.length) = some 2 := by decide +kernel
theorem hyX10_finding : yX10_finding.cls ≠ "java/lang/invoke/MethodHandle" ∧ yX10_finding.cls ≠ "java/lang/invoke/VarHandle" ∧ (parseMethodDescriptor yX10_finding.desc).map (fun d => d.parameters.length) = some 1 := by decide +kernel
theorem hyX10_found : yX10_found.cls ≠ "java/lang/invoke/MethodHandle" ∧ yX10_found.cls ≠ "java/lang/invoke/VarHandle" ∧ (parseMethodDescriptor yX10_found.desc).map (fun d => d.parameters.length) = some 1 := by decide +kernel
theorem hyX10_friends : yX10_friends.cls ≠ "java/lang/invoke/MethodHandle" ∧ yX10_friends.cls ≠ "java/lang/invoke/VarHandle" ∧ (parseMethodDescriptor yX10_friends.desc).map (fun d => d.parameters.length) = some 4 := by decide +kernel
theorem hyX10_goneCount : yX10_goneCount.cls ≠ "java/lang/invoke/MethodHandle" ∧ yX10_goneCount.cls ≠ "java/lang/invoke/VarHandle" ∧ (parseMethodDescriptor yX10_goneCount.desc).map (fun d => d.parameters.length) = some 0 := by decide +kernel
theorem hyX10_hasBit : yX10_hasBit.cls ≠ "java/lang/invoke/MethodHandle" ∧ yX10_hasBit.cls ≠ "java/lang/invoke/VarHandle" ∧ (parseMethodDescriptor yX10_hasBit.desc).map (fun d => d.parameters.length) = some 2 := by decide +kernel
theorem hyX10_holds : yX10_holds.cls ≠ "java/lang/invoke/MethodHandle" ∧ yX10_holds.cls ≠ "java/lang/invoke/VarHandle" ∧ (parseMethodDescriptor yX10_holds.desc).map (fun d => d.parameters.length) = some 3 := by decide +kernel
theorem hyX10_init : yX10_init.cls ≠ "java/lang/invoke/MethodHandle" ∧ yX10_init.cls ≠ "java/lang/invoke/VarHandle" ∧ (parseMethodDescriptor yX10_init.desc).map (fun d => d.parameters.length) = some 0 := by decide +kernel
theorem hyX10_isBearer : yX10_isBearer.cls ≠ "java/lang/invoke/MethodHandle" ∧ yX10_isBearer.cls ≠ "java/lang/invoke/VarHandle" ∧ (parseMethodDescriptor yX10_isBearer.desc).map (fun d => d.parameters.length) = some 1 := by decide +kernel
theorem hyX10_isDay : yX10_isDay.cls ≠ "java/lang/invoke/MethodHandle" ∧ yX10_isDay.cls ≠ "java/lang/invoke/VarHandle" ∧ (parseMethodDescriptor yX10_isDay.desc).map (fun d => d.parameters.length) = some 1 := by decide +kernel
theorem hyX10_isDoor : yX10_isDoor.cls ≠ "java/lang/invoke/MethodHandle" ∧ yX10_isDoor.cls ≠ "java/lang/invoke/VarHandle" ∧ (parseMethodDescriptor yX10_isDoor.desc).map (fun d => d.parameters.length) = some 1 := by decide +kernel
theorem hyX10_isField : yX10_isField.cls ≠ "java/lang/invoke/MethodHandle" ∧ yX10_isField.cls ≠ "java/lang/invoke/VarHandle" ∧ (parseMethodDescriptor yX10_isField.desc).map (fun d => d.parameters.length) = some 1 := by decide +kernel
theorem hyX10_isOffice : yX10_isOffice.cls ≠ "java/lang/invoke/MethodHandle" ∧ yX10_isOffice.cls ≠ "java/lang/invoke/VarHandle" ∧ (parseMethodDescriptor yX10_isOffice.desc).map (fun d => d.parameters.length) = some 1 := by decide +kernel
theorem hyX10_isOver : yX10_isOver.cls ≠ "java/lang/invoke/MethodHandle" ∧ yX10_isOver.cls ≠ "java/lang/invoke/VarHandle" ∧ (parseMethodDescriptor yX10_isOver.desc).map (fun d => d.parameters.length) = some 4 := by decide +kernel
theorem hyX10_isSet : yX10_isSet.cls ≠ "java/lang/invoke/MethodHandle" ∧ yX10_isSet.cls ≠ "java/lang/invoke/VarHandle" ∧ (parseMethodDescriptor yX10_isSet.desc).map (fun d => d.parameters.length) = some 1 := by decide +kernel
theorem hyX10_isTaken : yX10_isTaken.cls ≠ "java/lang/invoke/MethodHandle" ∧ yX10_isTaken.cls ≠ "java/lang/invoke/VarHandle" ∧ (parseMethodDescriptor yX10_isTaken.desc).map (fun d => d.parameters.length) = some 4 := by decide +kernel
theorem hyX10_join : yX10_join.cls ≠ "java/lang/invoke/MethodHandle" ∧ yX10_join.cls ≠ "java/lang/invoke/VarHandle" ∧ (parseMethodDescriptor yX10_join.desc).map (fun d => d.parameters.length) = some 2 := by decide +kernel
theorem hyX10_key : yX10_key.cls ≠ "java/lang/invoke/MethodHandle" ∧ yX10_key.cls ≠ "java/lang/invoke/VarHandle" ∧ (parseMethodDescriptor yX10_key.desc).map (fun d => d.parameters.length) = some 3 := by decide +kernel
theorem hyX10_keyOf : yX10_keyOf.cls ≠ "java/lang/invoke/MethodHandle" ∧ yX10_keyOf.cls ≠ "java/lang/invoke/VarHandle" ∧ (parseMethodDescriptor yX10_keyOf.desc).map (fun d => d.parameters.length) = some 1 := by decide +kernel
theorem hyX10_keyOn : yX10_keyOn.cls ≠ "java/lang/invoke/MethodHandle" ∧ yX10_keyOn.cls ≠ "java/lang/invoke/VarHandle" ∧ (parseMethodDescriptor yX10_keyOn.desc).map (fun d => d.parameters.length) = some 2 := by decide +kernel
theorem hyX10_kind : yX10_kind.cls ≠ "java/lang/invoke/MethodHandle" ∧ yX10_kind.cls ≠ "java/lang/invoke/VarHandle" ∧ (parseMethodDescriptor yX10_kind.desc).map (fun d => d.parameters.length) = some 1 := by decide +kernel
theorem hyX10_least : yX10_least.cls ≠ "java/lang/invoke/MethodHandle" ∧ yX10_least.cls ≠ "java/lang/invoke/VarHandle" ∧ (parseMethodDescriptor yX10_least.desc).map (fun d => d.parameters.length) = some 4 := by decide +kernel
theorem hyX10_lies : yX10_lies.cls ≠ "java/lang/invoke/MethodHandle" ∧ yX10_lies.cls ≠ "java/lang/invoke/VarHandle" ∧ (parseMethodDescriptor yX10_lies.desc).map (fun d => d.parameters.length) = some 2 := by decide +kernel
theorem hyX10_lightest : yX10_lightest.cls ≠ "java/lang/invoke/MethodHandle" ∧ yX10_lightest.cls ≠ "java/lang/invoke/VarHandle" ∧ (parseMethodDescriptor yX10_lightest.desc).map (fun d => d.parameters.length) = some 3 := by decide +kernel
theorem hyX10_odds : yX10_odds.cls ≠ "java/lang/invoke/MethodHandle" ∧ yX10_odds.cls ≠ "java/lang/invoke/VarHandle" ∧ (parseMethodDescriptor yX10_odds.desc).map (fun d => d.parameters.length) = some 3 := by decide +kernel
theorem hyX10_over : yX10_over.cls ≠ "java/lang/invoke/MethodHandle" ∧ yX10_over.cls ≠ "java/lang/invoke/VarHandle" ∧ (parseMethodDescriptor yX10_over.desc).map (fun d => d.parameters.length) = some 3 := by decide +kernel
theorem hyX10_paper : yX10_paper.cls ≠ "java/lang/invoke/MethodHandle" ∧ yX10_paper.cls ≠ "java/lang/invoke/VarHandle" ∧ (parseMethodDescriptor yX10_paper.desc).map (fun d => d.parameters.length) = some 2 := by decide +kernel
theorem hyX10_paperAt : yX10_paperAt.cls ≠ "java/lang/invoke/MethodHandle" ∧ yX10_paperAt.cls ≠ "java/lang/invoke/VarHandle" ∧ (parseMethodDescriptor yX10_paperAt.desc).map (fun d => d.parameters.length) = some 1 := by decide +kernel
theorem hyX10_part : yX10_part.cls ≠ "java/lang/invoke/MethodHandle" ∧ yX10_part.cls ≠ "java/lang/invoke/VarHandle" ∧ (parseMethodDescriptor yX10_part.desc).map (fun d => d.parameters.length) = some 3 := by decide +kernel
theorem hyX10_power : yX10_power.cls ≠ "java/lang/invoke/MethodHandle" ∧ yX10_power.cls ≠ "java/lang/invoke/VarHandle" ∧ (parseMethodDescriptor yX10_power.desc).map (fun d => d.parameters.length) = some 2 := by decide +kernel
theorem hyX10_queue : yX10_queue.cls ≠ "java/lang/invoke/MethodHandle" ∧ yX10_queue.cls ≠ "java/lang/invoke/VarHandle" ∧ (parseMethodDescriptor yX10_queue.desc).map (fun d => d.parameters.length) = some 4 := by decide +kernel
theorem hyX10_revoke : yX10_revoke.cls ≠ "java/lang/invoke/MethodHandle" ∧ yX10_revoke.cls ≠ "java/lang/invoke/VarHandle" ∧ (parseMethodDescriptor yX10_revoke.desc).map (fun d => d.parameters.length) = some 2 := by decide +kernel
theorem hyX10_seal : yX10_seal.cls ≠ "java/lang/invoke/MethodHandle" ∧ yX10_seal.cls ≠ "java/lang/invoke/VarHandle" ∧ (parseMethodDescriptor yX10_seal.desc).map (fun d => d.parameters.length) = some 2 := by decide +kernel
theorem hyX10_secret : yX10_secret.cls ≠ "java/lang/invoke/MethodHandle" ∧ yX10_secret.cls ≠ "java/lang/invoke/VarHandle" ∧ (parseMethodDescriptor yX10_secret.desc).map (fun d => d.parameters.length) = some 2 := by decide +kernel
theorem hyX10_seen : yX10_seen.cls ≠ "java/lang/invoke/MethodHandle" ∧ yX10_seen.cls ≠ "java/lang/invoke/VarHandle" ∧ (parseMethodDescriptor yX10_seen.desc).map (fun d => d.parameters.length) = some 3 := by decide +kernel
theorem hyX10_set : yX10_set.cls ≠ "java/lang/invoke/MethodHandle" ∧ yX10_set.cls ≠ "java/lang/invoke/VarHandle" ∧ (parseMethodDescriptor yX10_set.desc).map (fun d => d.parameters.length) = some 3 := by decide +kernel
theorem hyX10_sheet : yX10_sheet.cls ≠ "java/lang/invoke/MethodHandle" ∧ yX10_sheet.cls ≠ "java/lang/invoke/VarHandle" ∧ (parseMethodDescriptor yX10_sheet.desc).map (fun d => d.parameters.length) = some 3 := by decide +kernel
theorem hyX10_show : yX10_show.cls ≠ "java/lang/invoke/MethodHandle" ∧ yX10_show.cls ≠ "java/lang/invoke/VarHandle" ∧ (parseMethodDescriptor yX10_show.desc).map (fun d => d.parameters.length) = some 3 := by decide +kernel
theorem hyX10_signOf : yX10_signOf.cls ≠ "java/lang/invoke/MethodHandle" ∧ yX10_signOf.cls ≠ "java/lang/invoke/VarHandle" ∧ (parseMethodDescriptor yX10_signOf.desc).map (fun d => d.parameters.length) = some 1 := by decide +kernel
theorem hyX10_status : yX10_status.cls ≠ "java/lang/invoke/MethodHandle" ∧ yX10_status.cls ≠ "java/lang/invoke/VarHandle" ∧ (parseMethodDescriptor yX10_status.desc).map (fun d => d.parameters.length) = some 0 := by decide +kernel
theorem hyX10_steps : yX10_steps.cls ≠ "java/lang/invoke/MethodHandle" ∧ yX10_steps.cls ≠ "java/lang/invoke/VarHandle" ∧ (parseMethodDescriptor yX10_steps.desc).map (fun d => d.parameters.length) = some 2 := by decide +kernel
theorem hyX10_taken : yX10_taken.cls ≠ "java/lang/invoke/MethodHandle" ∧ yX10_taken.cls ≠ "java/lang/invoke/VarHandle" ∧ (parseMethodDescriptor yX10_taken.desc).map (fun d => d.parameters.length) = some 4 := by decide +kernel
theorem hyX10_together : yX10_together.cls ≠ "java/lang/invoke/MethodHandle" ∧ yX10_together.cls ≠ "java/lang/invoke/VarHandle" ∧ (parseMethodDescriptor yX10_together.desc).map (fun d => d.parameters.length) = some 1 := by decide +kernel
theorem hyX10_told : yX10_told.cls ≠ "java/lang/invoke/MethodHandle" ∧ yX10_told.cls ≠ "java/lang/invoke/VarHandle" ∧ (parseMethodDescriptor yX10_told.desc).map (fun d => d.parameters.length) = some 2 := by decide +kernel
theorem hyX10_trace : yX10_trace.cls ≠ "java/lang/invoke/MethodHandle" ∧ yX10_trace.cls ≠ "java/lang/invoke/VarHandle" ∧ (parseMethodDescriptor yX10_trace.desc).map (fun d => d.parameters.length) = some 1 := by decide +kernel
theorem hyX10_whyNot : yX10_whyNot.cls ≠ "java/lang/invoke/MethodHandle" ∧ yX10_whyNot.cls ≠ "java/lang/invoke/VarHandle" ∧ (parseMethodDescriptor yX10_whyNot.desc).map (fun d => d.parameters.length) = some 3 := by decide +kernel
theorem hyX10_within : yX10_within.cls ≠ "java/lang/invoke/MethodHandle" ∧ yX10_within.cls ≠ "java/lang/invoke/VarHandle" ∧ (parseMethodDescriptor yX10_within.desc).map (fun d => d.parameters.length) = some 3 := by decide +kernel
theorem hyX11_answer : yX11_answer.cls ≠ "java/lang/invoke/MethodHandle" ∧ yX11_answer.cls ≠ "java/lang/invoke/VarHandle" ∧ (parseMethodDescriptor yX11_answer.desc).map (fun d => d.parameters.length) = some 4 := by decide +kernel
theorem hyX11_as : yX11_as.cls ≠ "java/lang/invoke/MethodHandle" ∧ yX11_as.cls ≠ "java/lang/invoke/VarHandle" ∧ (parseMethodDescriptor yX11_as.desc).map (fun d => d.parameters.length) = some 2 := by decide +kernel
theorem hyX11_ask : yX11_ask.cls ≠ "java/lang/invoke/MethodHandle" ∧ yX11_ask.cls ≠ "java/lang/invoke/VarHandle" ∧ (parseMethodDescriptor yX11_ask.desc).map (fun d => d.parameters.length) = some 2 := by decide +kernel
theorem hyX11_askOfWord : yX11_askOfWord.cls ≠ "java/lang/invoke/MethodHandle" ∧ yX11_askOfWord.cls ≠ "java/lang/invoke/VarHandle" ∧ (parseMethodDescriptor yX11_askOfWord.desc).map (fun d => d.parameters.length) = some 0 := by decide +kernel
theorem hyX11_asksTooMuch : yX11_asksTooMuch.cls ≠ "java/lang/invoke/MethodHandle" ∧ yX11_asksTooMuch.cls ≠ "java/lang/invoke/VarHandle" ∧ (parseMethodDescriptor yX11_asksTooMuch.desc).map (fun d => d.parameters.length) = some 1 := by decide +kernel
theorem hyX11_bad : yX11_bad.cls ≠ "java/lang/invoke/MethodHandle" ∧ yX11_bad.cls ≠ "java/lang/invoke/VarHandle" ∧ (parseMethodDescriptor yX11_bad.desc).map (fun d => d.parameters.length) = some 1 := by decide +kernel
theorem hyX11_began : yX11_began.cls ≠ "java/lang/invoke/MethodHandle" ∧ yX11_began.cls ≠ "java/lang/invoke/VarHandle" ∧ (parseMethodDescriptor yX11_began.desc).map (fun d => d.parameters.length) = some 1 := by decide +kernel
theorem hyX11_beginning : yX11_beginning.cls ≠ "java/lang/invoke/MethodHandle" ∧ yX11_beginning.cls ≠ "java/lang/invoke/VarHandle" ∧ (parseMethodDescriptor yX11_beginning.desc).map (fun d => d.parameters.length) = some 2 := by decide +kernel
theorem hyX11_bits : yX11_bits.cls ≠ "java/lang/invoke/MethodHandle" ∧ yX11_bits.cls ≠ "java/lang/invoke/VarHandle" ∧ (parseMethodDescriptor yX11_bits.desc).map (fun d => d.parameters.length) = some 1 := by decide +kernel
theorem hyX11_book : yX11_book.cls ≠ "java/lang/invoke/MethodHandle" ∧ yX11_book.cls ≠ "java/lang/invoke/VarHandle" ∧ (parseMethodDescriptor yX11_book.desc).map (fun d => d.parameters.length) = some 2 := by decide +kernel
theorem hyX11_byteAt : yX11_byteAt.cls ≠ "java/lang/invoke/MethodHandle" ∧ yX11_byteAt.cls ≠ "java/lang/invoke/VarHandle" ∧ (parseMethodDescriptor yX11_byteAt.desc).map (fun d => d.parameters.length) = some 1 := by decide +kernel
theorem hyX11_check : yX11_check.cls ≠ "java/lang/invoke/MethodHandle" ∧ yX11_check.cls ≠ "java/lang/invoke/VarHandle" ∧ (parseMethodDescriptor yX11_check.desc).map (fun d => d.parameters.length) = some 5 := by decide +kernel
theorem hyX11_close : yX11_close.cls ≠ "java/lang/invoke/MethodHandle" ∧ yX11_close.cls ≠ "java/lang/invoke/VarHandle" ∧ (parseMethodDescriptor yX11_close.desc).map (fun d => d.parameters.length) = some 3 := by decide +kernel
theorem hyX11_copy : yX11_copy.cls ≠ "java/lang/invoke/MethodHandle" ∧ yX11_copy.cls ≠ "java/lang/invoke/VarHandle" ∧ (parseMethodDescriptor yX11_copy.desc).map (fun d => d.parameters.length) = some 5 := by decide +kernel
theorem hyX11_couldOf : yX11_couldOf.cls ≠ "java/lang/invoke/MethodHandle" ∧ yX11_couldOf.cls ≠ "java/lang/invoke/VarHandle" ∧ (parseMethodDescriptor yX11_couldOf.desc).map (fun d => d.parameters.length) = some 1 := by decide +kernel
theorem hyX11_count : yX11_count.cls ≠ "java/lang/invoke/MethodHandle" ∧ yX11_count.cls ≠ "java/lang/invoke/VarHandle" ∧ (parseMethodDescriptor yX11_count.desc).map (fun d => d.parameters.length) = some 1 := by decide +kernel
theorem hyX11_day : yX11_day.cls ≠ "java/lang/invoke/MethodHandle" ∧ yX11_day.cls ≠ "java/lang/invoke/VarHandle" ∧ (parseMethodDescriptor yX11_day.desc).map (fun d => d.parameters.length) = some 1 := by decide +kernel
theorem hyX11_daysOf : yX11_daysOf.cls ≠ "java/lang/invoke/MethodHandle" ∧ yX11_daysOf.cls ≠ "java/lang/invoke/VarHandle" ∧ (parseMethodDescriptor yX11_daysOf.desc).map (fun d => d.parameters.length) = some 1 := by decide +kernel
theorem hyX11_door : yX11_door.cls ≠ "java/lang/invoke/MethodHandle" ∧ yX11_door.cls ≠ "java/lang/invoke/VarHandle" ∧ (parseMethodDescriptor yX11_door.desc).map (fun d => d.parameters.length) = some 2 := by decide +kernel
theorem hyX11_doors : yX11_doors.cls ≠ "java/lang/invoke/MethodHandle" ∧ yX11_doors.cls ≠ "java/lang/invoke/VarHandle" ∧ (parseMethodDescriptor yX11_doors.desc).map (fun d => d.parameters.length) = some 0 := by decide +kernel
theorem hyX11_drop : yX11_drop.cls ≠ "java/lang/invoke/MethodHandle" ∧ yX11_drop.cls ≠ "java/lang/invoke/VarHandle" ∧ (parseMethodDescriptor yX11_drop.desc).map (fun d => d.parameters.length) = some 1 := by decide +kernel
theorem hyX11_endOf : yX11_endOf.cls ≠ "java/lang/invoke/MethodHandle" ∧ yX11_endOf.cls ≠ "java/lang/invoke/VarHandle" ∧ (parseMethodDescriptor yX11_endOf.desc).map (fun d => d.parameters.length) = some 2 := by decide +kernel
theorem hyX11_fault : yX11_fault.cls ≠ "java/lang/invoke/MethodHandle" ∧ yX11_fault.cls ≠ "java/lang/invoke/VarHandle" ∧ (parseMethodDescriptor yX11_fault.desc).map (fun d => d.parameters.length) = some 0 := by decide +kernel
theorem hyX11_feed : yX11_feed.cls ≠ "java/lang/invoke/MethodHandle" ∧ yX11_feed.cls ≠ "java/lang/invoke/VarHandle" ∧ (parseMethodDescriptor yX11_feed.desc).map (fun d => d.parameters.length) = some 2 := by decide +kernel
theorem hyX11_field : yX11_field.cls ≠ "java/lang/invoke/MethodHandle" ∧ yX11_field.cls ≠ "java/lang/invoke/VarHandle" ∧ (parseMethodDescriptor yX11_field.desc).map (fun d => d.parameters.length) = some 2 := by decide +kernel
theorem hyX11_finding : yX11_finding.cls ≠ "java/lang/invoke/MethodHandle" ∧ yX11_finding.cls ≠ "java/lang/invoke/VarHandle" ∧ (parseMethodDescriptor yX11_finding.desc).map (fun d => d.parameters.length) = some 1 := by decide +kernel
theorem hyX11_fitsOf : yX11_fitsOf.cls ≠ "java/lang/invoke/MethodHandle" ∧ yX11_fitsOf.cls ≠ "java/lang/invoke/VarHandle" ∧ (parseMethodDescriptor yX11_fitsOf.desc).map (fun d => d.parameters.length) = some 2 := by decide +kernel
theorem hyX11_friends : yX11_friends.cls ≠ "java/lang/invoke/MethodHandle" ∧ yX11_friends.cls ≠ "java/lang/invoke/VarHandle" ∧ (parseMethodDescriptor yX11_friends.desc).map (fun d => d.parameters.length) = some 4 := by decide +kernel
theorem hyX11_halfOf : yX11_halfOf.cls ≠ "java/lang/invoke/MethodHandle" ∧ yX11_halfOf.cls ≠ "java/lang/invoke/VarHandle" ∧ (parseMethodDescriptor yX11_halfOf.desc).map (fun d => d.parameters.length) = some 2 := by decide +kernel
theorem hyX11_holds : yX11_holds.cls ≠ "java/lang/invoke/MethodHandle" ∧ yX11_holds.cls ≠ "java/lang/invoke/VarHandle" ∧ (parseMethodDescriptor yX11_holds.desc).map (fun d => d.parameters.length) = some 3 := by decide +kernel
theorem hyX11_holdsAt : yX11_holdsAt.cls ≠ "java/lang/invoke/MethodHandle" ∧ yX11_holdsAt.cls ≠ "java/lang/invoke/VarHandle" ∧ (parseMethodDescriptor yX11_holdsAt.desc).map (fun d => d.parameters.length) = some 3 := by decide +kernel
theorem hyX11_in : yX11_in.cls ≠ "java/lang/invoke/MethodHandle" ∧ yX11_in.cls ≠ "java/lang/invoke/VarHandle" ∧ (parseMethodDescriptor yX11_in.desc).map (fun d => d.parameters.length) = some 3 := by decide +kernel
theorem hyX11_init : yX11_init.cls ≠ "java/lang/invoke/MethodHandle" ∧ yX11_init.cls ≠ "java/lang/invoke/VarHandle" ∧ (parseMethodDescriptor yX11_init.desc).map (fun d => d.parameters.length) = some 0 := by decide +kernel
theorem hyX11_isBearer : yX11_isBearer.cls ≠ "java/lang/invoke/MethodHandle" ∧ yX11_isBearer.cls ≠ "java/lang/invoke/VarHandle" ∧ (parseMethodDescriptor yX11_isBearer.desc).map (fun d => d.parameters.length) = some 1 := by decide +kernel
theorem hyX11_isDay : yX11_isDay.cls ≠ "java/lang/invoke/MethodHandle" ∧ yX11_isDay.cls ≠ "java/lang/invoke/VarHandle" ∧ (parseMethodDescriptor yX11_isDay.desc).map (fun d => d.parameters.length) = some 1 := by decide +kernel
theorem hyX11_isDoor : yX11_isDoor.cls ≠ "java/lang/invoke/MethodHandle" ∧ yX11_isDoor.cls ≠ "java/lang/invoke/VarHandle" ∧ (parseMethodDescriptor yX11_isDoor.desc).map (fun d => d.parameters.length) = some 1 := by decide +kernel
theorem hyX11_isFigure : yX11_isFigure.cls ≠ "java/lang/invoke/MethodHandle" ∧ yX11_isFigure.cls ≠ "java/lang/invoke/VarHandle" ∧ (parseMethodDescriptor yX11_isFigure.desc).map (fun d => d.parameters.length) = some 1 := by decide +kernel
theorem hyX11_isKnown : yX11_isKnown.cls ≠ "java/lang/invoke/MethodHandle" ∧ yX11_isKnown.cls ≠ "java/lang/invoke/VarHandle" ∧ (parseMethodDescriptor yX11_isKnown.desc).map (fun d => d.parameters.length) = some 2 := by decide +kernel
theorem hyX11_isLetter : yX11_isLetter.cls ≠ "java/lang/invoke/MethodHandle" ∧ yX11_isLetter.cls ≠ "java/lang/invoke/VarHandle" ∧ (parseMethodDescriptor yX11_isLetter.desc).map (fun d => d.parameters.length) = some 1 := by decide +kernel
theorem hyX11_isOf : yX11_isOf.cls ≠ "java/lang/invoke/MethodHandle" ∧ yX11_isOf.cls ≠ "java/lang/invoke/VarHandle" ∧ (parseMethodDescriptor yX11_isOf.desc).map (fun d => d.parameters.length) = some 2 := by decide +kernel
theorem hyX11_isOffice : yX11_isOffice.cls ≠ "java/lang/invoke/MethodHandle" ∧ yX11_isOffice.cls ≠ "java/lang/invoke/VarHandle" ∧ (parseMethodDescriptor yX11_isOffice.desc).map (fun d => d.parameters.length) = some 1 := by decide +kernel
theorem hyX11_isOver : yX11_isOver.cls ≠ "java/lang/invoke/MethodHandle" ∧ yX11_isOver.cls ≠ "java/lang/invoke/VarHandle" ∧ (parseMethodDescriptor yX11_isOver.desc).map (fun d => d.parameters.length) = some 4 := by decide +kernel
theorem hyX11_isPaper : yX11_isPaper.cls ≠ "java/lang/invoke/MethodHandle" ∧ yX11_isPaper.cls ≠ "java/lang/invoke/VarHandle" ∧ (parseMethodDescriptor yX11_isPaper.desc).map (fun d => d.parameters.length) = some 1 := by decide +kernel
theorem hyX11_isSheet : yX11_isSheet.cls ≠ "java/lang/invoke/MethodHandle" ∧ yX11_isSheet.cls ≠ "java/lang/invoke/VarHandle" ∧ (parseMethodDescriptor yX11_isSheet.desc).map (fun d => d.parameters.length) = some 1 := by decide +kernel
theorem hyX11_isTaken : yX11_isTaken.cls ≠ "java/lang/invoke/MethodHandle" ∧ yX11_isTaken.cls ≠ "java/lang/invoke/VarHandle" ∧ (parseMethodDescriptor yX11_isTaken.desc).map (fun d => d.parameters.length) = some 4 := by decide +kernel
theorem hyX11_join : yX11_join.cls ≠ "java/lang/invoke/MethodHandle" ∧ yX11_join.cls ≠ "java/lang/invoke/VarHandle" ∧ (parseMethodDescriptor yX11_join.desc).map (fun d => d.parameters.length) = some 2 := by decide +kernel
theorem hyX11_key : yX11_key.cls ≠ "java/lang/invoke/MethodHandle" ∧ yX11_key.cls ≠ "java/lang/invoke/VarHandle" ∧ (parseMethodDescriptor yX11_key.desc).map (fun d => d.parameters.length) = some 3 := by decide +kernel
theorem hyX11_keyFor : yX11_keyFor.cls ≠ "java/lang/invoke/MethodHandle" ∧ yX11_keyFor.cls ≠ "java/lang/invoke/VarHandle" ∧ (parseMethodDescriptor yX11_keyFor.desc).map (fun d => d.parameters.length) = some 2 := by decide +kernel
theorem hyX11_keyOn : yX11_keyOn.cls ≠ "java/lang/invoke/MethodHandle" ∧ yX11_keyOn.cls ≠ "java/lang/invoke/VarHandle" ∧ (parseMethodDescriptor yX11_keyOn.desc).map (fun d => d.parameters.length) = some 2 := by decide +kernel
theorem hyX11_kind : yX11_kind.cls ≠ "java/lang/invoke/MethodHandle" ∧ yX11_kind.cls ≠ "java/lang/invoke/VarHandle" ∧ (parseMethodDescriptor yX11_kind.desc).map (fun d => d.parameters.length) = some 1 := by decide +kernel
theorem hyX11_kindOf : yX11_kindOf.cls ≠ "java/lang/invoke/MethodHandle" ∧ yX11_kindOf.cls ≠ "java/lang/invoke/VarHandle" ∧ (parseMethodDescriptor yX11_kindOf.desc).map (fun d => d.parameters.length) = some 1 := by decide +kernel
theorem hyX11_leaf : yX11_leaf.cls ≠ "java/lang/invoke/MethodHandle" ∧ yX11_leaf.cls ≠ "java/lang/invoke/VarHandle" ∧ (parseMethodDescriptor yX11_leaf.desc).map (fun d => d.parameters.length) = some 3 := by decide +kernel
theorem hyX11_least : yX11_least.cls ≠ "java/lang/invoke/MethodHandle" ∧ yX11_least.cls ≠ "java/lang/invoke/VarHandle" ∧ (parseMethodDescriptor yX11_least.desc).map (fun d => d.parameters.length) = some 4 := by decide +kernel
theorem hyX11_lies : yX11_lies.cls ≠ "java/lang/invoke/MethodHandle" ∧ yX11_lies.cls ≠ "java/lang/invoke/VarHandle" ∧ (parseMethodDescriptor yX11_lies.desc).map (fun d => d.parameters.length) = some 2 := by decide +kernel
theorem hyX11_lookItems : yX11_lookItems.cls ≠ "java/lang/invoke/MethodHandle" ∧ yX11_lookItems.cls ≠ "java/lang/invoke/VarHandle" ∧ (parseMethodDescriptor yX11_lookItems.desc).map (fun d => d.parameters.length) = some 3 := by decide +kernel
theorem hyX11_markOf : yX11_markOf.cls ≠ "java/lang/invoke/MethodHandle" ∧ yX11_markOf.cls ≠ "java/lang/invoke/VarHandle" ∧ (parseMethodDescriptor yX11_markOf.desc).map (fun d => d.parameters.length) = some 2 := by decide +kernel
theorem hyX11_must : yX11_must.cls ≠ "java/lang/invoke/MethodHandle" ∧ yX11_must.cls ≠ "java/lang/invoke/VarHandle" ∧ (parseMethodDescriptor yX11_must.desc).map (fun d => d.parameters.length) = some 1 := by decide +kernel
theorem hyX11_nextOrder : yX11_nextOrder.cls ≠ "java/lang/invoke/MethodHandle" ∧ yX11_nextOrder.cls ≠ "java/lang/invoke/VarHandle" ∧ (parseMethodDescriptor yX11_nextOrder.desc).map (fun d => d.parameters.length) = some 1 := by decide +kernel
theorem hyX11_numberTo : yX11_numberTo.cls ≠ "java/lang/invoke/MethodHandle" ∧ yX11_numberTo.cls ≠ "java/lang/invoke/VarHandle" ∧ (parseMethodDescriptor yX11_numberTo.desc).map (fun d => d.parameters.length) = some 1 := by decide +kernel
theorem hyX11_odds : yX11_odds.cls ≠ "java/lang/invoke/MethodHandle" ∧ yX11_odds.cls ≠ "java/lang/invoke/VarHandle" ∧ (parseMethodDescriptor yX11_odds.desc).map (fun d => d.parameters.length) = some 3 := by decide +kernel
theorem hyX11_of : yX11_of.cls ≠ "java/lang/invoke/MethodHandle" ∧ yX11_of.cls ≠ "java/lang/invoke/VarHandle" ∧ (parseMethodDescriptor yX11_of.desc).map (fun d => d.parameters.length) = some 2 := by decide +kernel
theorem hyX11_over : yX11_over.cls ≠ "java/lang/invoke/MethodHandle" ∧ yX11_over.cls ≠ "java/lang/invoke/VarHandle" ∧ (parseMethodDescriptor yX11_over.desc).map (fun d => d.parameters.length) = some 3 := by decide +kernel
theorem hyX11_paper : yX11_paper.cls ≠ "java/lang/invoke/MethodHandle" ∧ yX11_paper.cls ≠ "java/lang/invoke/VarHandle" ∧ (parseMethodDescriptor yX11_paper.desc).map (fun d => d.parameters.length) = some 2 := by decide +kernel
theorem hyX11_part : yX11_part.cls ≠ "java/lang/invoke/MethodHandle" ∧ yX11_part.cls ≠ "java/lang/invoke/VarHandle" ∧ (parseMethodDescriptor yX11_part.desc).map (fun d => d.parameters.length) = some 3 := by decide +kernel
theorem hyX11_partOf : yX11_partOf.cls ≠ "java/lang/invoke/MethodHandle" ∧ yX11_partOf.cls ≠ "java/lang/invoke/VarHandle" ∧ (parseMethodDescriptor yX11_partOf.desc).map (fun d => d.parameters.length) = some 3 := by decide +kernel
theorem hyX11_power : yX11_power.cls ≠ "java/lang/invoke/MethodHandle" ∧ yX11_power.cls ≠ "java/lang/invoke/VarHandle" ∧ (parseMethodDescriptor yX11_power.desc).map (fun d => d.parameters.length) = some 2 := by decide +kernel
theorem hyX11_queue : yX11_queue.cls ≠ "java/lang/invoke/MethodHandle" ∧ yX11_queue.cls ≠ "java/lang/invoke/VarHandle" ∧ (parseMethodDescriptor yX11_queue.desc).map (fun d => d.parameters.length) = some 4 := by decide +kernel
theorem hyX11_readAll : yX11_readAll.cls ≠ "java/lang/invoke/MethodHandle" ∧ yX11_readAll.cls ≠ "java/lang/invoke/VarHandle" ∧ (parseMethodDescriptor yX11_readAll.desc).map (fun d => d.parameters.length) = some 0 := by decide +kernel
theorem hyX11_readDoor : yX11_readDoor.cls ≠ "java/lang/invoke/MethodHandle" ∧ yX11_readDoor.cls ≠ "java/lang/invoke/VarHandle" ∧ (parseMethodDescriptor yX11_readDoor.desc).map (fun d => d.parameters.length) = some 0 := by decide +kernel
theorem hyX11_readRight : yX11_readRight.cls ≠ "java/lang/invoke/MethodHandle" ∧ yX11_readRight.cls ≠ "java/lang/invoke/VarHandle" ∧ (parseMethodDescriptor yX11_readRight.desc).map (fun d => d.parameters.length) = some 0 := by decide +kernel
theorem hyX11_revoke : yX11_revoke.cls ≠ "java/lang/invoke/MethodHandle" ∧ yX11_revoke.cls ≠ "java/lang/invoke/VarHandle" ∧ (parseMethodDescriptor yX11_revoke.desc).map (fun d => d.parameters.length) = some 2 := by decide +kernel
theorem hyX11_rootOf : yX11_rootOf.cls ≠ "java/lang/invoke/MethodHandle" ∧ yX11_rootOf.cls ≠ "java/lang/invoke/VarHandle" ∧ (parseMethodDescriptor yX11_rootOf.desc).map (fun d => d.parameters.length) = some 1 := by decide +kernel
theorem hyX11_sealOf : yX11_sealOf.cls ≠ "java/lang/invoke/MethodHandle" ∧ yX11_sealOf.cls ≠ "java/lang/invoke/VarHandle" ∧ (parseMethodDescriptor yX11_sealOf.desc).map (fun d => d.parameters.length) = some 2 := by decide +kernel
theorem hyX11_secret : yX11_secret.cls ≠ "java/lang/invoke/MethodHandle" ∧ yX11_secret.cls ≠ "java/lang/invoke/VarHandle" ∧ (parseMethodDescriptor yX11_secret.desc).map (fun d => d.parameters.length) = some 2 := by decide +kernel
theorem hyX11_seen : yX11_seen.cls ≠ "java/lang/invoke/MethodHandle" ∧ yX11_seen.cls ≠ "java/lang/invoke/VarHandle" ∧ (parseMethodDescriptor yX11_seen.desc).map (fun d => d.parameters.length) = some 3 := by decide +kernel
theorem hyX11_set : yX11_set.cls ≠ "java/lang/invoke/MethodHandle" ∧ yX11_set.cls ≠ "java/lang/invoke/VarHandle" ∧ (parseMethodDescriptor yX11_set.desc).map (fun d => d.parameters.length) = some 3 := by decide +kernel
theorem hyX11_sheet : yX11_sheet.cls ≠ "java/lang/invoke/MethodHandle" ∧ yX11_sheet.cls ≠ "java/lang/invoke/VarHandle" ∧ (parseMethodDescriptor yX11_sheet.desc).map (fun d => d.parameters.length) = some 3 := by decide +kernel
theorem hyX11_show : yX11_show.cls ≠ "java/lang/invoke/MethodHandle" ∧ yX11_show.cls ≠ "java/lang/invoke/VarHandle" ∧ (parseMethodDescriptor yX11_show.desc).map (fun d => d.parameters.length) = some 3 := by decide +kernel
theorem hyX11_showAll : yX11_showAll.cls ≠ "java/lang/invoke/MethodHandle" ∧ yX11_showAll.cls ≠ "java/lang/invoke/VarHandle" ∧ (parseMethodDescriptor yX11_showAll.desc).map (fun d => d.parameters.length) = some 2 := by decide +kernel
theorem hyX11_sizeOf : yX11_sizeOf.cls ≠ "java/lang/invoke/MethodHandle" ∧ yX11_sizeOf.cls ≠ "java/lang/invoke/VarHandle" ∧ (parseMethodDescriptor yX11_sizeOf.desc).map (fun d => d.parameters.length) = some 2 := by decide +kernel
theorem hyX11_stampSize : yX11_stampSize.cls ≠ "java/lang/invoke/MethodHandle" ∧ yX11_stampSize.cls ≠ "java/lang/invoke/VarHandle" ∧ (parseMethodDescriptor yX11_stampSize.desc).map (fun d => d.parameters.length) = some 2 := by decide +kernel
theorem hyX11_status : yX11_status.cls ≠ "java/lang/invoke/MethodHandle" ∧ yX11_status.cls ≠ "java/lang/invoke/VarHandle" ∧ (parseMethodDescriptor yX11_status.desc).map (fun d => d.parameters.length) = some 0 := by decide +kernel
theorem hyX11_step : yX11_step.cls ≠ "java/lang/invoke/MethodHandle" ∧ yX11_step.cls ≠ "java/lang/invoke/VarHandle" ∧ (parseMethodDescriptor yX11_step.desc).map (fun d => d.parameters.length) = some 0 := by decide +kernel
theorem hyX11_steps : yX11_steps.cls ≠ "java/lang/invoke/MethodHandle" ∧ yX11_steps.cls ≠ "java/lang/invoke/VarHandle" ∧ (parseMethodDescriptor yX11_steps.desc).map (fun d => d.parameters.length) = some 2 := by decide +kernel
theorem hyX11_taken : yX11_taken.cls ≠ "java/lang/invoke/MethodHandle" ∧ yX11_taken.cls ≠ "java/lang/invoke/VarHandle" ∧ (parseMethodDescriptor yX11_taken.desc).map (fun d => d.parameters.length) = some 4 := by decide +kernel
theorem hyX11_together : yX11_together.cls ≠ "java/lang/invoke/MethodHandle" ∧ yX11_together.cls ≠ "java/lang/invoke/VarHandle" ∧ (parseMethodDescriptor yX11_together.desc).map (fun d => d.parameters.length) = some 1 := by decide +kernel
theorem hyX11_told : yX11_told.cls ≠ "java/lang/invoke/MethodHandle" ∧ yX11_told.cls ≠ "java/lang/invoke/VarHandle" ∧ (parseMethodDescriptor yX11_told.desc).map (fun d => d.parameters.length) = some 2 := by decide +kernel
theorem hyX11_trace : yX11_trace.cls ≠ "java/lang/invoke/MethodHandle" ∧ yX11_trace.cls ≠ "java/lang/invoke/VarHandle" ∧ (parseMethodDescriptor yX11_trace.desc).map (fun d => d.parameters.length) = some 1 := by decide +kernel
theorem hyX11_turned : yX11_turned.cls ≠ "java/lang/invoke/MethodHandle" ∧ yX11_turned.cls ≠ "java/lang/invoke/VarHandle" ∧ (parseMethodDescriptor yX11_turned.desc).map (fun d => d.parameters.length) = some 1 := by decide +kernel
theorem hyX11_valueAt : yX11_valueAt.cls ≠ "java/lang/invoke/MethodHandle" ∧ yX11_valueAt.cls ≠ "java/lang/invoke/VarHandle" ∧ (parseMethodDescriptor yX11_valueAt.desc).map (fun d => d.parameters.length) = some 3 := by decide +kernel
theorem hyX11_waitsOf : yX11_waitsOf.cls ≠ "java/lang/invoke/MethodHandle" ∧ yX11_waitsOf.cls ≠ "java/lang/invoke/VarHandle" ∧ (parseMethodDescriptor yX11_waitsOf.desc).map (fun d => d.parameters.length) = some 2 := by decide +kernel
theorem hyX11_word : yX11_word.cls ≠ "java/lang/invoke/MethodHandle" ∧ yX11_word.cls ≠ "java/lang/invoke/VarHandle" ∧ (parseMethodDescriptor yX11_word.desc).map (fun d => d.parameters.length) = some 0 := by decide +kernel
theorem hyX1_begin : yX1_begin.cls ≠ "java/lang/invoke/MethodHandle" ∧ yX1_begin.cls ≠ "java/lang/invoke/VarHandle" ∧ (parseMethodDescriptor yX1_begin.desc).map (fun d => d.parameters.length) = some 1 := by decide +kernel
theorem hyX1_best : yX1_best.cls ≠ "java/lang/invoke/MethodHandle" ∧ yX1_best.cls ≠ "java/lang/invoke/VarHandle" ∧ (parseMethodDescriptor yX1_best.desc).map (fun d => d.parameters.length) = some 0 := by decide +kernel
theorem hyX1_init : yX1_init.cls ≠ "java/lang/invoke/MethodHandle" ∧ yX1_init.cls ≠ "java/lang/invoke/VarHandle" ∧ (parseMethodDescriptor yX1_init.desc).map (fun d => d.parameters.length) = some 0 := by decide +kernel
theorem hyX1_offer : yX1_offer.cls ≠ "java/lang/invoke/MethodHandle" ∧ yX1_offer.cls ≠ "java/lang/invoke/VarHandle" ∧ (parseMethodDescriptor yX1_offer.desc).map (fun d => d.parameters.length) = some 2 := by decide +kernel
theorem hyX2_init : yX2_init.cls ≠ "java/lang/invoke/MethodHandle" ∧ yX2_init.cls ≠ "java/lang/invoke/VarHandle" ∧ (parseMethodDescriptor yX2_init.desc).map (fun d => d.parameters.length) = some 0 := by decide +kernel
theorem hyX2_inverse : yX2_inverse.cls ≠ "java/lang/invoke/MethodHandle" ∧ yX2_inverse.cls ≠ "java/lang/invoke/VarHandle" ∧ (parseMethodDescriptor yX2_inverse.desc).map (fun d => d.parameters.length) = some 1 := by decide +kernel
theorem hyX2_partOf : yX2_partOf.cls ≠ "java/lang/invoke/MethodHandle" ∧ yX2_partOf.cls ≠ "java/lang/invoke/VarHandle" ∧ (parseMethodDescriptor yX2_partOf.desc).map (fun d => d.parameters.length) = some 3 := by decide +kernel
theorem hyX2_possible : yX2_possible.cls ≠ "java/lang/invoke/MethodHandle" ∧ yX2_possible.cls ≠ "java/lang/invoke/VarHandle" ∧ (parseMethodDescriptor yX2_possible.desc).map (fun d => d.parameters.length) = some 2 := by decide +kernel
theorem hyX2_sumAt : yX2_sumAt.cls ≠ "java/lang/invoke/MethodHandle" ∧ yX2_sumAt.cls ≠ "java/lang/invoke/VarHandle" ∧ (parseMethodDescriptor yX2_sumAt.desc).map (fun d => d.parameters.length) = some 2 := by decide +kernel
theorem hyX2_take : yX2_take.cls ≠ "java/lang/invoke/MethodHandle" ∧ yX2_take.cls ≠ "java/lang/invoke/VarHandle" ∧ (parseMethodDescriptor yX2_take.desc).map (fun d => d.parameters.length) = some 3 := by decide +kernel
theorem hyX3_addAsk : yX3_addAsk.cls ≠ "java/lang/invoke/MethodHandle" ∧ yX3_addAsk.cls ≠ "java/lang/invoke/VarHandle" ∧ (parseMethodDescriptor yX3_addAsk.desc).map (fun d => d.parameters.length) = some 4 := by decide +kernel
theorem hyX3_asksTooMuch : yX3_asksTooMuch.cls ≠ "java/lang/invoke/MethodHandle" ∧ yX3_asksTooMuch.cls ≠ "java/lang/invoke/VarHandle" ∧ (parseMethodDescriptor yX3_asksTooMuch.desc).map (fun d => d.parameters.length) = some 1 := by decide +kernel
theorem hyX3_fittedBy : yX3_fittedBy.cls ≠ "java/lang/invoke/MethodHandle" ∧ yX3_fittedBy.cls ≠ "java/lang/invoke/VarHandle" ∧ (parseMethodDescriptor yX3_fittedBy.desc).map (fun d => d.parameters.length) = some 2 := by decide +kernel
theorem hyX3_init : yX3_init.cls ≠ "java/lang/invoke/MethodHandle" ∧ yX3_init.cls ≠ "java/lang/invoke/VarHandle" ∧ (parseMethodDescriptor yX3_init.desc).map (fun d => d.parameters.length) = some 0 := by decide +kernel
theorem hyX3_isFitted : yX3_isFitted.cls ≠ "java/lang/invoke/MethodHandle" ∧ yX3_isFitted.cls ≠ "java/lang/invoke/VarHandle" ∧ (parseMethodDescriptor yX3_isFitted.desc).map (fun d => d.parameters.length) = some 4 := by decide +kernel
theorem hyX4_extend : yX4_extend.cls ≠ "java/lang/invoke/MethodHandle" ∧ yX4_extend.cls ≠ "java/lang/invoke/VarHandle" ∧ (parseMethodDescriptor yX4_extend.desc).map (fun d => d.parameters.length) = some 4 := by decide +kernel
theorem hyX4_findBest : yX4_findBest.cls ≠ "java/lang/invoke/MethodHandle" ∧ yX4_findBest.cls ≠ "java/lang/invoke/VarHandle" ∧ (parseMethodDescriptor yX4_findBest.desc).map (fun d => d.parameters.length) = some 0 := by decide +kernel
theorem hyX4_init : yX4_init.cls ≠ "java/lang/invoke/MethodHandle" ∧ yX4_init.cls ≠ "java/lang/invoke/VarHandle" ∧ (parseMethodDescriptor yX4_init.desc).map (fun d => d.parameters.length) = some 0 := by decide +kernel
theorem hyX4_take : yX4_take.cls ≠ "java/lang/invoke/MethodHandle" ∧ yX4_take.cls ≠ "java/lang/invoke/VarHandle" ∧ (parseMethodDescriptor yX4_take.desc).map (fun d => d.parameters.length) = some 3 := by decide +kernel
theorem hyX4_waitedAt : yX4_waitedAt.cls ≠ "java/lang/invoke/MethodHandle" ∧ yX4_waitedAt.cls ≠ "java/lang/invoke/VarHandle" ∧ (parseMethodDescriptor yX4_waitedAt.desc).map (fun d => d.parameters.length) = some 2 := by decide +kernel
theorem hyX5_addKey : yX5_addKey.cls ≠ "java/lang/invoke/MethodHandle" ∧ yX5_addKey.cls ≠ "java/lang/invoke/VarHandle" ∧ (parseMethodDescriptor yX5_addKey.desc).map (fun d => d.parameters.length) = some 3 := by decide +kernel
theorem hyX5_allKeys : yX5_allKeys.cls ≠ "java/lang/invoke/MethodHandle" ∧ yX5_allKeys.cls ≠ "java/lang/invoke/VarHandle" ∧ (parseMethodDescriptor yX5_allKeys.desc).map (fun d => d.parameters.length) = some 0 := by decide +kernel
theorem hyX5_init : yX5_init.cls ≠ "java/lang/invoke/MethodHandle" ∧ yX5_init.cls ≠ "java/lang/invoke/VarHandle" ∧ (parseMethodDescriptor yX5_init.desc).map (fun d => d.parameters.length) = some 0 := by decide +kernel
theorem hyX5_keyAt : yX5_keyAt.cls ≠ "java/lang/invoke/MethodHandle" ∧ yX5_keyAt.cls ≠ "java/lang/invoke/VarHandle" ∧ (parseMethodDescriptor yX5_keyAt.desc).map (fun d => d.parameters.length) = some 2 := by decide +kernel
theorem hyX6_chainBeginning : yX6_chainBeginning.cls ≠ "java/lang/invoke/MethodHandle" ∧ yX6_chainBeginning.cls ≠ "java/lang/invoke/VarHandle" ∧ (parseMethodDescriptor yX6_chainBeginning.desc).map (fun d => d.parameters.length) = some 1 := by decide +kernel
theorem hyX6_chainEnd : yX6_chainEnd.cls ≠ "java/lang/invoke/MethodHandle" ∧ yX6_chainEnd.cls ≠ "java/lang/invoke/VarHandle" ∧ (parseMethodDescriptor yX6_chainEnd.desc).map (fun d => d.parameters.length) = some 1 := by decide +kernel
theorem hyX6_fillShowing : yX6_fillShowing.cls ≠ "java/lang/invoke/MethodHandle" ∧ yX6_fillShowing.cls ≠ "java/lang/invoke/VarHandle" ∧ (parseMethodDescriptor yX6_fillShowing.desc).map (fun d => d.parameters.length) = some 2 := by decide +kernel
theorem hyX6_half : yX6_half.cls ≠ "java/lang/invoke/MethodHandle" ∧ yX6_half.cls ≠ "java/lang/invoke/VarHandle" ∧ (parseMethodDescriptor yX6_half.desc).map (fun d => d.parameters.length) = some 1 := by decide +kernel
theorem hyX6_halfOfShowing : yX6_halfOfShowing.cls ≠ "java/lang/invoke/MethodHandle" ∧ yX6_halfOfShowing.cls ≠ "java/lang/invoke/VarHandle" ∧ (parseMethodDescriptor yX6_halfOfShowing.desc).map (fun d => d.parameters.length) = some 4 := by decide +kernel
theorem hyX6_halfSize : yX6_halfSize.cls ≠ "java/lang/invoke/MethodHandle" ∧ yX6_halfSize.cls ≠ "java/lang/invoke/VarHandle" ∧ (parseMethodDescriptor yX6_halfSize.desc).map (fun d => d.parameters.length) = some 2 := by decide +kernel
theorem hyX6_init : yX6_init.cls ≠ "java/lang/invoke/MethodHandle" ∧ yX6_init.cls ≠ "java/lang/invoke/VarHandle" ∧ (parseMethodDescriptor yX6_init.desc).map (fun d => d.parameters.length) = some 3 := by decide +kernel
theorem hyX6_isTold : yX6_isTold.cls ≠ "java/lang/invoke/MethodHandle" ∧ yX6_isTold.cls ≠ "java/lang/invoke/VarHandle" ∧ (parseMethodDescriptor yX6_isTold.desc).map (fun d => d.parameters.length) = some 2 := by decide +kernel
theorem hyX6_kindOn : yX6_kindOn.cls ≠ "java/lang/invoke/MethodHandle" ∧ yX6_kindOn.cls ≠ "java/lang/invoke/VarHandle" ∧ (parseMethodDescriptor yX6_kindOn.desc).map (fun d => d.parameters.length) = some 1 := by decide +kernel
theorem hyX6_leaf : yX6_leaf.cls ≠ "java/lang/invoke/MethodHandle" ∧ yX6_leaf.cls ≠ "java/lang/invoke/VarHandle" ∧ (parseMethodDescriptor yX6_leaf.desc).map (fun d => d.parameters.length) = some 1 := by decide +kernel
theorem hyX6_leafOfShown : yX6_leafOfShown.cls ≠ "java/lang/invoke/MethodHandle" ∧ yX6_leafOfShown.cls ≠ "java/lang/invoke/VarHandle" ∧ (parseMethodDescriptor yX6_leafOfShown.desc).map (fun d => d.parameters.length) = some 3 := by decide +kernel
theorem hyX6_leafWith : yX6_leafWith.cls ≠ "java/lang/invoke/MethodHandle" ∧ yX6_leafWith.cls ≠ "java/lang/invoke/VarHandle" ∧ (parseMethodDescriptor yX6_leafWith.desc).map (fun d => d.parameters.length) = some 2 := by decide +kernel
theorem hyX6_looksLike : yX6_looksLike.cls ≠ "java/lang/invoke/MethodHandle" ∧ yX6_looksLike.cls ≠ "java/lang/invoke/VarHandle" ∧ (parseMethodDescriptor yX6_looksLike.desc).map (fun d => d.parameters.length) = some 2 := by decide +kernel
theorem hyX6_root : yX6_root.cls ≠ "java/lang/invoke/MethodHandle" ∧ yX6_root.cls ≠ "java/lang/invoke/VarHandle" ∧ (parseMethodDescriptor yX6_root.desc).map (fun d => d.parameters.length) = some 0 := by decide +kernel
theorem hyX6_rootOfShowing : yX6_rootOfShowing.cls ≠ "java/lang/invoke/MethodHandle" ∧ yX6_rootOfShowing.cls ≠ "java/lang/invoke/VarHandle" ∧ (parseMethodDescriptor yX6_rootOfShowing.desc).map (fun d => d.parameters.length) = some 3 := by decide +kernel
theorem hyX6_rootWith : yX6_rootWith.cls ≠ "java/lang/invoke/MethodHandle" ∧ yX6_rootWith.cls ≠ "java/lang/invoke/VarHandle" ∧ (parseMethodDescriptor yX6_rootWith.desc).map (fun d => d.parameters.length) = some 2 := by decide +kernel
theorem hyX6_showingSize : yX6_showingSize.cls ≠ "java/lang/invoke/MethodHandle" ∧ yX6_showingSize.cls ≠ "java/lang/invoke/VarHandle" ∧ (parseMethodDescriptor yX6_showingSize.desc).map (fun d => d.parameters.length) = some 1 := by decide +kernel
theorem hyX6_shownOf : yX6_shownOf.cls ≠ "java/lang/invoke/MethodHandle" ∧ yX6_shownOf.cls ≠ "java/lang/invoke/VarHandle" ∧ (parseMethodDescriptor yX6_shownOf.desc).map (fun d => d.parameters.length) = some 2 := by decide +kernel
theorem hyX6_showsOfHalf : yX6_showsOfHalf.cls ≠ "java/lang/invoke/MethodHandle" ∧ yX6_showsOfHalf.cls ≠ "java/lang/invoke/VarHandle" ∧ (parseMethodDescriptor yX6_showsOfHalf.desc).map (fun d => d.parameters.length) = some 2 := by decide +kernel
theorem hyX7_forget : yX7_forget.cls ≠ "java/lang/invoke/MethodHandle" ∧ yX7_forget.cls ≠ "java/lang/invoke/VarHandle" ∧ (parseMethodDescriptor yX7_forget.desc).map (fun d => d.parameters.length) = some 1 := by decide +kernel
theorem hyX7_init : yX7_init.cls ≠ "java/lang/invoke/MethodHandle" ∧ yX7_init.cls ≠ "java/lang/invoke/VarHandle" ∧ (parseMethodDescriptor yX7_init.desc).map (fun d => d.parameters.length) = some 0 := by decide +kernel
theorem hyX7_isMissing : yX7_isMissing.cls ≠ "java/lang/invoke/MethodHandle" ∧ yX7_isMissing.cls ≠ "java/lang/invoke/VarHandle" ∧ (parseMethodDescriptor yX7_isMissing.desc).map (fun d => d.parameters.length) = some 1 := by decide +kernel
theorem hyX7_isNumber : yX7_isNumber.cls ≠ "java/lang/invoke/MethodHandle" ∧ yX7_isNumber.cls ≠ "java/lang/invoke/VarHandle" ∧ (parseMethodDescriptor yX7_isNumber.desc).map (fun d => d.parameters.length) = some 1 := by decide +kernel
theorem hyX7_make : yX7_make.cls ≠ "java/lang/invoke/MethodHandle" ∧ yX7_make.cls ≠ "java/lang/invoke/VarHandle" ∧ (parseMethodDescriptor yX7_make.desc).map (fun d => d.parameters.length) = some 3 := by decide +kernel
theorem hyX7_present : yX7_present.cls ≠ "java/lang/invoke/MethodHandle" ∧ yX7_present.cls ≠ "java/lang/invoke/VarHandle" ∧ (parseMethodDescriptor yX7_present.desc).map (fun d => d.parameters.length) = some 0 := by decide +kernel
theorem hyX7_put : yX7_put.cls ≠ "java/lang/invoke/MethodHandle" ∧ yX7_put.cls ≠ "java/lang/invoke/VarHandle" ∧ (parseMethodDescriptor yX7_put.desc).map (fun d => d.parameters.length) = some 3 := by decide +kernel
theorem hyX7_reaches : yX7_reaches.cls ≠ "java/lang/invoke/MethodHandle" ∧ yX7_reaches.cls ≠ "java/lang/invoke/VarHandle" ∧ (parseMethodDescriptor yX7_reaches.desc).map (fun d => d.parameters.length) = some 3 := by decide +kernel
theorem hyX7_troubleAt : yX7_troubleAt.cls ≠ "java/lang/invoke/MethodHandle" ∧ yX7_troubleAt.cls ≠ "java/lang/invoke/VarHandle" ∧ (parseMethodDescriptor yX7_troubleAt.desc).map (fun d => d.parameters.length) = some 3 := by decide +kernel
theorem hyX8_add : yX8_add.cls ≠ "java/lang/invoke/MethodHandle" ∧ yX8_add.cls ≠ "java/lang/invoke/VarHandle" ∧ (parseMethodDescriptor yX8_add.desc).map (fun d => d.parameters.length) = some 2 := by decide +kernel
theorem hyX8_init : yX8_init.cls ≠ "java/lang/invoke/MethodHandle" ∧ yX8_init.cls ≠ "java/lang/invoke/VarHandle" ∧ (parseMethodDescriptor yX8_init.desc).map (fun d => d.parameters.length) = some 0 := by decide +kernel
theorem hyX9_advance : yX9_advance.cls ≠ "java/lang/invoke/MethodHandle" ∧ yX9_advance.cls ≠ "java/lang/invoke/VarHandle" ∧ (parseMethodDescriptor yX9_advance.desc).map (fun d => d.parameters.length) = some 0 := by decide +kernel
theorem hyX9_append : yX9_append.cls ≠ "java/lang/invoke/MethodHandle" ∧ yX9_append.cls ≠ "java/lang/invoke/VarHandle" ∧ (parseMethodDescriptor yX9_append.desc).map (fun d => d.parameters.length) = some 2 := by decide +kernel
theorem hyX9_expectNumber : yX9_expectNumber.cls ≠ "java/lang/invoke/MethodHandle" ∧ yX9_expectNumber.cls ≠ "java/lang/invoke/VarHandle" ∧ (parseMethodDescriptor yX9_expectNumber.desc).map (fun d => d.parameters.length) = some 1 := by decide +kernel
theorem hyX9_expectStop : yX9_expectStop.cls ≠ "java/lang/invoke/MethodHandle" ∧ yX9_expectStop.cls ≠ "java/lang/invoke/VarHandle" ∧ (parseMethodDescriptor yX9_expectStop.desc).map (fun d => d.parameters.length) = some 0 := by decide +kernel
theorem hyX9_fail : yX9_fail.cls ≠ "java/lang/invoke/MethodHandle" ∧ yX9_fail.cls ≠ "java/lang/invoke/VarHandle" ∧ (parseMethodDescriptor yX9_fail.desc).map (fun d => d.parameters.length) = some 1 := by decide +kernel
theorem hyX9_init : yX9_init.cls ≠ "java/lang/invoke/MethodHandle" ∧ yX9_init.cls ≠ "java/lang/invoke/VarHandle" ∧ (parseMethodDescriptor yX9_init.desc).map (fun d => d.parameters.length) = some 0 := by decide +kernel
theorem hyX9_isFigure : yX9_isFigure.cls ≠ "java/lang/invoke/MethodHandle" ∧ yX9_isFigure.cls ≠ "java/lang/invoke/VarHandle" ∧ (parseMethodDescriptor yX9_isFigure.desc).map (fun d => d.parameters.length) = some 1 := by decide +kernel
theorem hyX9_isLetter : yX9_isLetter.cls ≠ "java/lang/invoke/MethodHandle" ∧ yX9_isLetter.cls ≠ "java/lang/invoke/VarHandle" ∧ (parseMethodDescriptor yX9_isLetter.desc).map (fun d => d.parameters.length) = some 1 := by decide +kernel
theorem hyX9_isWord : yX9_isWord.cls ≠ "java/lang/invoke/MethodHandle" ∧ yX9_isWord.cls ≠ "java/lang/invoke/VarHandle" ∧ (parseMethodDescriptor yX9_isWord.desc).map (fun d => d.parameters.length) = some 1 := by decide +kernel
theorem hyX9_readAll : yX9_readAll.cls ≠ "java/lang/invoke/MethodHandle" ∧ yX9_readAll.cls ≠ "java/lang/invoke/VarHandle" ∧ (parseMethodDescriptor yX9_readAll.desc).map (fun d => d.parameters.length) = some 1 := by decide +kernel
theorem hyX9_readAsk : yX9_readAsk.cls ≠ "java/lang/invoke/MethodHandle" ∧ yX9_readAsk.cls ≠ "java/lang/invoke/VarHandle" ∧ (parseMethodDescriptor yX9_readAsk.desc).map (fun d => d.parameters.length) = some 3 := by decide +kernel
theorem hyX9_readDoor : yX9_readDoor.cls ≠ "java/lang/invoke/MethodHandle" ∧ yX9_readDoor.cls ≠ "java/lang/invoke/VarHandle" ∧ (parseMethodDescriptor yX9_readDoor.desc).map (fun d => d.parameters.length) = some 1 := by decide +kernel
theorem hyX9_readFigures : yX9_readFigures.cls ≠ "java/lang/invoke/MethodHandle" ∧ yX9_readFigures.cls ≠ "java/lang/invoke/VarHandle" ∧ (parseMethodDescriptor yX9_readFigures.desc).map (fun d => d.parameters.length) = some 0 := by decide +kernel
theorem hyX9_readName : yX9_readName.cls ≠ "java/lang/invoke/MethodHandle" ∧ yX9_readName.cls ≠ "java/lang/invoke/VarHandle" ∧ (parseMethodDescriptor yX9_readName.desc).map (fun d => d.parameters.length) = some 0 := by decide +kernel
theorem hyX9_readRight : yX9_readRight.cls ≠ "java/lang/invoke/MethodHandle" ∧ yX9_readRight.cls ≠ "java/lang/invoke/VarHandle" ∧ (parseMethodDescriptor yX9_readRight.desc).map (fun d => d.parameters.length) = some 1 := by decide +kernel
theorem hyX9_readTexts : yX9_readTexts.cls ≠ "java/lang/invoke/MethodHandle" ∧ yX9_readTexts.cls ≠ "java/lang/invoke/VarHandle" ∧ (parseMethodDescriptor yX9_readTexts.desc).map (fun d => d.parameters.length) = some 1 := by decide +kernel
theorem qp0 : Cond.selects yX10_finding.cls yX10_finding yX10_finding ∈ jW := jW_p (i := 0) (n := 15) rfl
theorem qp1 : Cond.selects yX10_found.cls yX10_found yX10_found ∈ jW := jW_p (i := 1) (n := 15) rfl
theorem qp2 : Cond.selects yX10_paperAt.cls yX10_paperAt yX10_paperAt ∈ jW := jW_p (i := 2) (n := 15) rfl
theorem qp3 : Cond.selects yX10_keyOf.cls yX10_keyOf yX10_keyOf ∈ jW := jW_p (i := 3) (n := 15) rfl
theorem qp4 : Cond.selects yX6_shownOf.cls yX6_shownOf yX6_shownOf ∈ jW := jW_p (i := 4) (n := 8) rfl
theorem qp5 : Cond.selects yX6_halfOfShowing.cls yX6_halfOfShowing yX6_halfOfShowing ∈ jW := jW_p (i := 5) (n := 8) rfl
theorem qp6 : Cond.selects yX6_leafOfShown.cls yX6_leafOfShown yX6_leafOfShown ∈ jW := jW_p (i := 6) (n := 8) rfl
theorem qp7 : Cond.selects yX10_signOf.cls yX10_signOf yX10_signOf ∈ jW := jW_p (i := 7) (n := 15) rfl
theorem qp8 : Cond.selects yX10_isTaken.cls yX10_isTaken yX10_isTaken ∈ jW := jW_p (i := 8) (n := 15) rfl
theorem qp9 : Cond.selects yX10_whyNot.cls yX10_whyNot yX10_whyNot ∈ jW := jW_p (i := 9) (n := 15) rfl
theorem qp10 : Cond.selects yX9_readTexts.cls yX9_readTexts yX9_readTexts ∈ jW := jW_p (i := 10) (n := 9) rfl
theorem qp11 : Cond.selects yX9_advance.cls yX9_advance yX9_advance ∈ jW := jW_p (i := 11) (n := 9) rfl
theorem qp12 : Cond.selects yX9_readName.cls yX9_readName yX9_readName ∈ jW := jW_p (i := 12) (n := 9) rfl
theorem qp13 : Cond.selects yX9_readFigures.cls yX9_readFigures yX9_readFigures ∈ jW := jW_p (i := 13) (n := 9) rfl
theorem qp14 : Cond.selects yX9_isWord.cls yX9_isWord yX9_isWord ∈ jW := jW_p (i := 14) (n := 9) rfl
theorem qp15 : Cond.selects yX9_readDoor.cls yX9_readDoor yX9_readDoor ∈ jW := jW_p (i := 15) (n := 9) rfl
theorem qp16 : Cond.selects yX9_expectNumber.cls yX9_expectNumber yX9_expectNumber ∈ jW := jW_p (i := 16) (n := 9) rfl
theorem qp17 : Cond.selects yX9_fail.cls yX9_fail yX9_fail ∈ jW := jW_p (i := 17) (n := 9) rfl
theorem qp18 : Cond.selects yX9_readAsk.cls yX9_readAsk yX9_readAsk ∈ jW := jW_p (i := 18) (n := 9) rfl
theorem qp19 : Cond.selects yX9_expectStop.cls yX9_expectStop yX9_expectStop ∈ jW := jW_p (i := 19) (n := 9) rfl
theorem qp20 : Cond.selects yX9_readRight.cls yX9_readRight yX9_readRight ∈ jW := jW_p (i := 20) (n := 9) rfl
theorem qp21 : Cond.selects yX10_lightest.cls yX10_lightest yX10_lightest ∈ jW := jW_p (i := 21) (n := 15) rfl
theorem qp22 : Cond.selects yX10_couldHaveMade.cls yX10_couldHaveMade yX10_couldHaveMade ∈ jW := jW_p (i := 22) (n := 15) rfl
theorem qp23 : Cond.selects yX4_extend.cls yX4_extend yX4_extend ∈ jW := jW_p (i := 23) (n := 6) rfl
theorem qp24 : Cond.selects yX4_waitedAt.cls yX4_waitedAt yX4_waitedAt ∈ jW := jW_p (i := 24) (n := 6) rfl
theorem qp25 : Cond.selects yX0_stampSize.cls yX0_stampSize yX0_stampSize ∈ jW := jW_p (i := 25) (n := 2) rfl
theorem qp26 : Cond.selects yX0_begin.cls yX0_begin yX0_begin ∈ jW := jW_p (i := 26) (n := 2) rfl
theorem qp27 : Cond.selects yX0_lentSize.cls yX0_lentSize yX0_lentSize ∈ jW := jW_p (i := 27) (n := 2) rfl
theorem qp28 : Cond.selects yX0_shortSize.cls yX0_shortSize yX0_shortSize ∈ jW := jW_p (i := 28) (n := 2) rfl
theorem qp29 : Cond.selects yX0_gradeSize.cls yX0_gradeSize yX0_gradeSize ∈ jW := jW_p (i := 29) (n := 2) rfl
theorem qp30 : Cond.selects yX0_gradeMark.cls yX0_gradeMark yX0_gradeMark ∈ jW := jW_p (i := 30) (n := 2) rfl
theorem qp31 : Cond.selects yX0_lentMark.cls yX0_lentMark yX0_lentMark ∈ jW := jW_p (i := 31) (n := 2) rfl
theorem qp32 : Cond.selects yX0_goneSize.cls yX0_goneSize yX0_goneSize ∈ jW := jW_p (i := 32) (n := 2) rfl
theorem qp33 : Cond.selects yX0_shortMark.cls yX0_shortMark yX0_shortMark ∈ jW := jW_p (i := 33) (n := 2) rfl
theorem qp34 : Cond.selects yX0_lentOnesMark.cls yX0_lentOnesMark yX0_lentOnesMark ∈ jW := jW_p (i := 34) (n := 2) rfl
theorem qp35 : Cond.selects yX10_goneCount.cls yX10_goneCount yX10_goneCount ∈ jW := jW_p (i := 35) (n := 15) rfl
theorem qp36 : Cond.selects yX11_finding.cls yX11_finding yX11_finding ∈ jW := jW_p (i := 36) (n := 42) rfl
theorem qp37 : Cond.selects yX11_keyFor.cls yX11_keyFor yX11_keyFor ∈ jW := jW_p (i := 37) (n := 42) rfl
theorem qp38 : Cond.selects yX11_lookItems.cls yX11_lookItems yX11_lookItems ∈ jW := jW_p (i := 38) (n := 42) rfl
theorem qp39 : Cond.selects yX11_isPaper.cls yX11_isPaper yX11_isPaper ∈ jW := jW_p (i := 39) (n := 42) rfl
theorem qp40 : Cond.selects yX11_halfOf.cls yX11_halfOf yX11_halfOf ∈ jW := jW_p (i := 40) (n := 42) rfl
theorem qp41 : Cond.selects yX11_field.cls yX11_field yX11_field ∈ jW := jW_p (i := 41) (n := 42) rfl
theorem qp42 : Cond.selects yX11_rootOf.cls yX11_rootOf yX11_rootOf ∈ jW := jW_p (i := 42) (n := 42) rfl
theorem qp43 : Cond.selects yX11_sealOf.cls yX11_sealOf yX11_sealOf ∈ jW := jW_p (i := 43) (n := 42) rfl
theorem qp44 : Cond.selects yX11_of.cls yX11_of yX11_of ∈ jW := jW_p (i := 44) (n := 42) rfl
theorem qp45 : Cond.selects yX11_endOf.cls yX11_endOf yX11_endOf ∈ jW := jW_p (i := 45) (n := 42) rfl
theorem qp46 : Cond.selects yX11_showAll.cls yX11_showAll yX11_showAll ∈ jW := jW_p (i := 46) (n := 42) rfl
theorem qp47 : Cond.selects yX11_isTaken.cls yX11_isTaken yX11_isTaken ∈ jW := jW_p (i := 47) (n := 42) rfl
theorem qp48 : Cond.selects yX11_valueAt.cls yX11_valueAt yX11_valueAt ∈ jW := jW_p (i := 48) (n := 42) rfl
theorem qp49 : Cond.selects yX11_holdsAt.cls yX11_holdsAt yX11_holdsAt ∈ jW := jW_p (i := 49) (n := 42) rfl
theorem qp50 : Cond.selects yX11_readAll.cls yX11_readAll yX11_readAll ∈ jW := jW_p (i := 50) (n := 42) rfl
theorem qp51 : Cond.selects yX11_step.cls yX11_step yX11_step ∈ jW := jW_p (i := 51) (n := 42) rfl
theorem qp52 : Cond.selects yX11_byteAt.cls yX11_byteAt yX11_byteAt ∈ jW := jW_p (i := 52) (n := 42) rfl
theorem qp53 : Cond.selects yX11_word.cls yX11_word yX11_word ∈ jW := jW_p (i := 53) (n := 42) rfl
theorem qp54 : Cond.selects yX11_must.cls yX11_must yX11_must ∈ jW := jW_p (i := 54) (n := 42) rfl
theorem qp55 : Cond.selects yX11_bad.cls yX11_bad yX11_bad ∈ jW := jW_p (i := 55) (n := 42) rfl
theorem qp56 : Cond.selects yX11_readDoor.cls yX11_readDoor yX11_readDoor ∈ jW := jW_p (i := 56) (n := 42) rfl
theorem qp57 : Cond.selects yX11_numberTo.cls yX11_numberTo yX11_numberTo ∈ jW := jW_p (i := 57) (n := 42) rfl
theorem qp58 : Cond.selects yX11_askOfWord.cls yX11_askOfWord yX11_askOfWord ∈ jW := jW_p (i := 58) (n := 42) rfl
theorem qp59 : Cond.selects yX11_readRight.cls yX11_readRight yX11_readRight ∈ jW := jW_p (i := 59) (n := 42) rfl
theorem qp60 : Cond.selects yX11_asksTooMuch.cls yX11_asksTooMuch yX11_asksTooMuch ∈ jW := jW_p (i := 60) (n := 42) rfl
theorem qp61 : Cond.selects yX11_fitsOf.cls yX11_fitsOf yX11_fitsOf ∈ jW := jW_p (i := 61) (n := 42) rfl
theorem qp62 : Cond.selects yX11_couldOf.cls yX11_couldOf yX11_couldOf ∈ jW := jW_p (i := 62) (n := 42) rfl
theorem qp63 : Cond.selects yX11_waitsOf.cls yX11_waitsOf yX11_waitsOf ∈ jW := jW_p (i := 63) (n := 42) rfl
theorem qp64 : Cond.selects yX11_nextOrder.cls yX11_nextOrder yX11_nextOrder ∈ jW := jW_p (i := 64) (n := 42) rfl
theorem qp65 : Cond.selects yX11_kindOf.cls yX11_kindOf yX11_kindOf ∈ jW := jW_p (i := 65) (n := 42) rfl
theorem qp66 : Cond.selects yX11_sizeOf.cls yX11_sizeOf yX11_sizeOf ∈ jW := jW_p (i := 66) (n := 42) rfl
theorem qp67 : Cond.selects yX11_stampSize.cls yX11_stampSize yX11_stampSize ∈ jW := jW_p (i := 67) (n := 42) rfl
theorem qp68 : Cond.selects yX11_began.cls yX11_began yX11_began ∈ jW := jW_p (i := 68) (n := 42) rfl
theorem qp69 : Cond.selects yX11_daysOf.cls yX11_daysOf yX11_daysOf ∈ jW := jW_p (i := 69) (n := 42) rfl
theorem qp70 : Cond.selects yX11_markOf.cls yX11_markOf yX11_markOf ∈ jW := jW_p (i := 70) (n := 42) rfl
