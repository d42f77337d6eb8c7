/-- an int of a cell is written -/
def jup (mem : jMem) (o k : Nat) (x : Int32) : jMem := va_up mem o (va_up (mem o) k x)
/-- a reference of a cell is written -/
def jupS (sh : jSh) (o k : Nat) (x : Option Nat) : jSh := (sh.1, sh.2.1, sh.2.2.1, va_up sh.2.2.2 o (va_up (sh.2.2.2 o) k x))
theorem jil {ci : Nat} (h : ci < 12) : ∀ w ∈ u_ws (jC ci) (jT ci) (jN ci), w ∈ jW := by
  rcases (show ci = 0 ∨ ci = 1 ∨ ci = 2 ∨ ci = 3 ∨ ci = 4 ∨ ci = 5 ∨ ci = 6 ∨ ci = 7 ∨ ci = 8 ∨ ci = 9 ∨ ci = 10 ∨ ci = 11 by omega) with rfl | rfl | rfl | rfl | rfl | rfl | rfl | rfl | rfl | rfl | rfl | rfl
  · exact ilX0
  · exact ilX1
  · exact ilX2
  · exact ilX3
  · exact ilX4
  · exact ilX5
  · exact ilX6
  · exact ilX7
  · exact ilX8
  · exact ilX9
  · exact ilX10
  · exact ilX11
theorem jty_ok {ci : Nat} (h : ci < 12) : ∀ k, k < jN ci → parseFieldDescriptor (jT ci k).2.2.1 = some (jTy ci k) := by
  rcases (show ci = 0 ∨ ci = 1 ∨ ci = 2 ∨ ci = 3 ∨ ci = 4 ∨ ci = 5 ∨ ci = 6 ∨ ci = 7 ∨ ci = 8 ∨ ci = 9 ∨ ci = 10 ∨ ci = 11 by omega) with rfl | rfl | rfl | rfl | rfl | rfl | rfl | rfl | rfl | rfl | rfl | rfl
  · exact tyX0_ok
  · exact tyX1_ok
  · exact tyX2_ok
  · exact tyX3_ok
  · exact tyX4_ok
  · exact tyX5_ok
  · exact tyX6_ok
  · exact tyX7_ok
  · exact tyX8_ok
  · exact tyX9_ok
  · exact tyX10_ok
  · exact tyX11_ok
theorem jnm {ci : Nat} (h : ci < 12) : ∀ a, a < jN ci → ∀ b, b < jN ci → a ≠ b → (jT ci a).2.1 ≠ (jT ci b).2.1 := by
  rcases (show ci = 0 ∨ ci = 1 ∨ ci = 2 ∨ ci = 3 ∨ ci = 4 ∨ ci = 5 ∨ ci = 6 ∨ ci = 7 ∨ ci = 8 ∨ ci = 9 ∨ ci = 10 ∨ ci = 11 by omega) with rfl | rfl | rfl | rfl | rfl | rfl | rfl | rfl | rfl | rfl | rfl | rfl
  · exact nmX0
  · exact nmX1
  · exact nmX2
  · exact nmX3
  · exact nmX4
  · exact nmX5
  · exact nmX6
  · exact nmX7
  · exact nmX8
  · exact nmX9
  · exact nmX10
  · exact nmX11
theorem jce_ne {ad : Nat → Nat} {cy : Nat → ClassId} {sh : jSh} {mem : jMem} {o k : Nat} {f : Nat → Int32} (h : k ≠ o) : jce ad cy sh (va_up mem o f) k = jce ad cy sh mem k := by
  unfold jce va_up
  rw [if_neg h]
theorem jce_neS {ad : Nat → Nat} {cy : Nat → ClassId} {sh : jSh} {mem : jMem} {o k : Nat} {f : Nat → Option Nat} (h : k ≠ o) : jce ad cy (sh.1, sh.2.1, sh.2.2.1, va_up sh.2.2.2 o f) mem k = jce ad cy sh mem k := by
  unfold jce
  dsimp only
  unfold va_up
  rw [if_neg h]
theorem jSok_up {sh : jSh} {o k t : Nat} (h : jSok sh) (ht : t < sh.1) : jSok (jupS sh o k (some t)) := by
  refine ⟨h.1, fun i j t' hi he => ?_⟩
  unfold jupS at he
  dsimp only at he
  unfold va_up at he
  by_cases e1 : i = o
  · rw [if_pos e1] at he
    by_cases e2 : j = k
    · rw [if_pos e2] at he
      cases he
      exact ht
    · rw [if_neg e2] at he
      subst e1
      exact h.2 i j t' hi he
  · rw [if_neg e1] at he
    exact h.2 i j t' hi he
theorem j_getI {G : jG} {own : String} {cc : ByteArray} {nL u us pc : Nat} {lv : Nat → Option Value} {st : List Value} {sh : jSh} {mem : jMem} (X : jOk G own cc nL) {o idx : Nat} (ci k : Nat) (hci : ci < 12) (hk : k < jN ci) (hr : jR ci k = false) (hlk : Cond.fieldLink own idx (jT ci k).1 (jT ci k).2.1 (jT ci k).2.2.1 ∈ jW) (ho : o < sh.1) (hkd : sh.2.1 o = ci) (hd : decode cc pc = .ok (.getfield idx, 3)) (kk : J G own cc nL u us (pc + 3) lv (.int (mem o k) :: st) sh mem) : J G own cc nL u us pc lv (.ref o :: st) sh mem := by
  obtain ⟨⟨p, l, e, R, s, m, args, below, meth, c, Q⟩, dC, dI, A, n0, ad0⟩ := G
  intro H locs ls ad cy hw hl
  exact va_get (ci := ci) (C := jC ci) (T := jT ci) (N := jN ci) X.1 X.2.1 X.2.2.2.2.1 (jil hci) X.2.2.2.1 X.2.2.2.2.2.2.1 hw.1 o (by rw [jws_get ho, jce_o hkd hci]) (jcl hci) k hk (X.2.2.2.2.1 _ hlk) (fun _ h9 => h9) (v := .int (mem o k)) (by rw [jfl_at hk, hr]; rfl) hd (kk H locs ls ad cy hw hl)
theorem j_getR {G : jG} {own : String} {cc : ByteArray} {nL u us pc : Nat} {lv : Nat → Option Value} {st : List Value} {sh : jSh} {mem : jMem} (X : jOk G own cc nL) {o idx : Nat} (ci k : Nat) (hci : ci < 12) (hk : k < jN ci) (hr : jR ci k = true) (hlk : Cond.fieldLink own idx (jT ci k).1 (jT ci k).2.1 (jT ci k).2.2.1 ∈ jW) (ho : o < sh.1) (hkd : sh.2.1 o = ci) (t : Nat) (ht : sh.2.2.2 o k = some t) (hd : decode cc pc = .ok (.getfield idx, 3)) (kk : J G own cc nL u us (pc + 3) lv (.ref t :: st) sh mem) : J G own cc nL u us pc lv (.ref o :: st) sh mem := by
  obtain ⟨⟨p, l, e, R, s, m, args, below, meth, c, Q⟩, dC, dI, A, n0, ad0⟩ := G
  intro H locs ls ad cy hw hl
  exact va_get (ci := ci) (C := jC ci) (T := jT ci) (N := jN ci) X.1 X.2.1 X.2.2.2.2.1 (jil hci) X.2.2.2.1 X.2.2.2.2.2.2.1 hw.1 o (by rw [jws_get ho, jce_o hkd hci]) (jcl hci) k hk (X.2.2.2.2.1 _ hlk) (fun _ h9 => h9) (v := .ref (ad t)) (by rw [jfl_at hk, hr, ht]; rfl) hd (kk H locs ls ad cy hw hl)
def jInit (G : jG) : Prop := match G with
  | ((p, l, e, R, s, m, args, below, meth, c, Q), dC, dI, A, n0, ad0) => meth.name = "<init>"
theorem j_putI {G : jG} {own : String} {cc : ByteArray} {nL u us pc : Nat} {lv : Nat → Option Value} {st : List Value} {sh : jSh} {mem : jMem} (X : jOk G own cc nL) {o idx : Nat} (ci k : Nat) (hci : ci < 12) (hk : k < jN ci) {x : Int32} (hr : jR ci k = false) (hn : narrow (jTy ci k) (.int x) = .int x) (hft : fits (jTy ci k) (.int x) = true) (hfin : (jT ci k).2.2.2 = false) (hlk : Cond.fieldLink own idx (jT ci k).1 (jT ci k).2.1 (jT ci k).2.2.1 ∈ jW) (ho : o < sh.1) (hkd : sh.2.1 o = ci) (hd : decode cc pc = .ok (.putfield idx, 3)) (kk : J G own cc nL u us (pc + 3) lv st sh (jup mem o k x)) : J G own cc nL u us pc lv (.int x :: .ref o :: st) sh mem := by
  obtain ⟨⟨p, l, e, R, s, m, args, below, meth, c, Q⟩, dC, dI, A, n0, ad0⟩ := G
  intro H locs ls ad cy hw hl
  have e9 : (jws ad cy sh mem).set o (ad o, .inr (ci, (jfl ad ci (sh.2.2.2 o) (mem o)).set k (.int x))) = jws ad cy sh (jup mem o k x) := jws_set rfl (by rw [jce_o hkd hci, jfl_setI hr]; unfold jup; simp [va_up]) (fun q hq => jce_ne hq)
  refine va_put (ci := ci) (C := jC ci) (T := jT ci) (N := jN ci) (ty := jTy ci k) (v := .int x) X.1 X.2.1 X.2.2.2.2.1 (jil hci) (jTy ci) (jty_ok hci) (jnm hci) X.2.2.2.1 X.2.2.2.2.2.2.1 hw.1 hw.2.1 hw.2.2.1 o (by rw [jws_get ho, jce_o hkd hci]) (jcl hci) k hk (X.2.2.2.2.1 _ hlk) (fun _ h9 => h9) hfin (jty_ok hci k hk) hn hft (by rw [jfl_len]; exact hk) hd (fun H1 locs1 hP1 hD1 hS1 => ?_)
  rw [e9] at hP1 hD1
  exact kk H1 locs1 ls ad cy ⟨hP1, hD1, hS1, hw.2.2.2.1, hw.2.2.2.2.1, hw.2.2.2.2.2⟩ hl
theorem j_putIF {G : jG} {own : String} {cc : ByteArray} {nL u us pc : Nat} {lv : Nat → Option Value} {st : List Value} {sh : jSh} {mem : jMem} (X : jOk G own cc nL) {o idx : Nat} (ci k : Nat) (hci : ci < 12) (hk : k < jN ci) (hin : jInit G) (hde : (jT ci k).1 = own) {x : Int32} (hr : jR ci k = false) (hn : narrow (jTy ci k) (.int x) = .int x) (hft : fits (jTy ci k) (.int x) = true) (hfin : (jT ci k).2.2.2 = true) (hlk : Cond.fieldLink own idx (jT ci k).1 (jT ci k).2.1 (jT ci k).2.2.1 ∈ jW) (ho : o < sh.1) (hkd : sh.2.1 o = ci) (hd : decode cc pc = .ok (.putfield idx, 3)) (kk : J G own cc nL u us (pc + 3) lv st sh (jup mem o k x)) : J G own cc nL u us pc lv (.int x :: .ref o :: st) sh mem := by
  obtain ⟨⟨p, l, e, R, s, m, args, below, meth, c, Q⟩, dC, dI, A, n0, ad0⟩ := G
  intro H locs ls ad cy hw hl
  have e9 : (jws ad cy sh mem).set o (ad o, .inr (ci, (jfl ad ci (sh.2.2.2 o) (mem o)).set k (.int x))) = jws ad cy sh (jup mem o k x) := jws_set rfl (by rw [jce_o hkd hci, jfl_setI hr]; unfold jup; simp [va_up]) (fun q hq => jce_ne hq)
  refine va_putF (ci := ci) (C := jC ci) (T := jT ci) (N := jN ci) (ty := jTy ci k) (v := .int x) X.1 X.2.1 X.2.2.2.2.1 (jil hci) (jTy ci) (jty_ok hci) (jnm hci) X.2.2.2.1 X.2.2.2.2.2.2.1 hw.1 hw.2.1 hw.2.2.1 o (by rw [jws_get ho, jce_o hkd hci]) (jcl hci) k hk (X.2.2.2.2.1 _ hlk) (fun _ h9 => h9) hfin hin hde (jty_ok hci k hk) hn hft (by rw [jfl_len]; exact hk) hd (fun H1 locs1 hP1 hD1 hS1 => ?_)
  rw [e9] at hP1 hD1
  exact kk H1 locs1 ls ad cy ⟨hP1, hD1, hS1, hw.2.2.2.1, hw.2.2.2.2.1, hw.2.2.2.2.2⟩ hl
theorem j_putRF {G : jG} {own : String} {cc : ByteArray} {nL u us pc : Nat} {lv : Nat → Option Value} {st : List Value} {sh : jSh} {mem : jMem} (X : jOk G own cc nL) {o idx : Nat} (ci k : Nat) (hci : ci < 12) (hk : k < jN ci) (hin : jInit G) (hde : (jT ci k).1 = own) (t : Nat) (ht : t < sh.1) (hr : jR ci k = true) (hn : narrow (jTy ci k) (.ref 0) = .ref 0) (hft : fits (jTy ci k) (.ref 0) = true) (hfin : (jT ci k).2.2.2 = true) (hlk : Cond.fieldLink own idx (jT ci k).1 (jT ci k).2.1 (jT ci k).2.2.1 ∈ jW) (ho : o < sh.1) (hkd : sh.2.1 o = ci) (hd : decode cc pc = .ok (.putfield idx, 3)) (kk : J G own cc nL u us (pc + 3) lv st (jupS sh o k (some t)) mem) : J G own cc nL u us pc lv (.ref t :: .ref o :: st) sh mem := by
  obtain ⟨⟨p, l, e, R, s, m, args, below, meth, c, Q⟩, dC, dI, A, n0, ad0⟩ := G
  intro H locs ls ad cy hw hl
  have e9 : (jws ad cy sh mem).set o (ad o, .inr (ci, (jfl ad ci (sh.2.2.2 o) (mem o)).set k (.ref (ad t)))) = jws ad cy (jupS sh o k (some t)) mem := jws_set rfl (by rw [jce_o (sh := jupS sh o k (some t)) (ci := ci) hkd hci]; unfold jupS; dsimp only; rw [show (Value.ref (ad t)) = va_rf ((some t).map ad) from rfl, jfl_setR hr]; simp [va_up]) (fun q hq => jce_neS hq)
  refine va_putF (ci := ci) (C := jC ci) (T := jT ci) (N := jN ci) (ty := jTy ci k) (v := .ref (ad t)) X.1 X.2.1 X.2.2.2.2.1 (jil hci) (jTy ci) (jty_ok hci) (jnm hci) X.2.2.2.1 X.2.2.2.2.2.2.1 hw.1 hw.2.1 hw.2.2.1 o (by rw [jws_get ho, jce_o hkd hci]) (jcl hci) k hk (X.2.2.2.2.1 _ hlk) (fun _ h9 => h9) hfin hin hde (jty_ok hci k hk) (by cases hty : jTy ci k <;> first | rfl | (rw [hty] at hn; cases hn; done) | (rw [hty] at hft; cases hft)) (by cases hty : jTy ci k <;> first | rfl | (rw [hty] at hft; cases hft)) (by rw [jfl_len]; exact hk) hd (fun H1 locs1 hP1 hD1 hS1 => ?_)
  rw [e9] at hP1 hD1
  exact kk H1 locs1 ls ad cy ⟨hP1, hD1, hS1, hw.2.2.2.1, hw.2.2.2.2.1, jSok_up hw.2.2.2.2.2 ht⟩ hl
theorem j_iald {G : jG} {own : String} {cc : ByteArray} {nL u us pc : Nat} {lv : Nat → Option Value} {st : List Value} {sh : jSh} {mem : jMem} (X : jOk G own cc nL) {o : Nat} {x : Int32} (ho : o < sh.1) (hkd : sh.2.1 o = 13) (hin : vp_in x (sh.2.2.1 o)) (hd : decode cc pc = .ok (.iaload, 1)) (kk : J G own cc nL u us (pc + 1) lv (.int (mem o x.toNatClampNeg) :: st) sh mem) : J G own cc nL u us pc lv (.int x :: .ref o :: st) sh mem := by
  obtain ⟨⟨p, l, e, R, s, m, args, below, meth, c, Q⟩, dC, dI, A, n0, ad0⟩ := G
  intro H locs ls ad cy hw hl
  exact va_iald X.1 X.2.1 (hw.2.2.2.1 o ho (by rw [hkd]; decide)) hw.1 o 0 (by rw [jws_get ho, jce_i hkd (by decide) (by decide)]) (by rw [hkd]; rfl) hin hd (kk H locs ls ad cy hw hl)
theorem j_bald {G : jG} {own : String} {cc : ByteArray} {nL u us pc : Nat} {lv : Nat → Option Value} {st : List Value} {sh : jSh} {mem : jMem} (X : jOk G own cc nL) {o : Nat} {x : Int32} (ho : o < sh.1) (hkd : sh.2.1 o = 12) (hin : vp_in x (sh.2.2.1 o)) (hd : decode cc pc = .ok (.baload, 1)) (kk : J G own cc nL u us (pc + 1) lv (.int (mem o x.toNatClampNeg) :: st) sh mem) : J G own cc nL u us pc lv (.int x :: .ref o :: st) sh mem := by
  obtain ⟨⟨p, l, e, R, s, m, args, below, meth, c, Q⟩, dC, dI, A, n0, ad0⟩ := G
  intro H locs ls ad cy hw hl
  exact va_bald X.1 X.2.1 (hw.2.2.2.1 o ho (by rw [hkd]; decide)) hw.1 o 0 (by rw [jws_get ho, jce_i hkd (by decide) (by decide)]) (by rw [hkd]; rfl) hin hd (kk H locs ls ad cy hw hl)
theorem j_iast {G : jG} {own : String} {cc : ByteArray} {nL u us pc : Nat} {lv : Nat → Option Value} {st : List Value} {sh : jSh} {mem : jMem} (X : jOk G own cc nL) {o : Nat} {x v : Int32} (ho : o < sh.1) (hkd : sh.2.1 o = 13) (hin : vp_in x (sh.2.2.1 o)) (hd : decode cc pc = .ok (.iastore, 1)) (kk : J G own cc nL u us (pc + 1) lv st sh (jup mem o x.toNatClampNeg v)) : J G own cc nL u us pc lv (.int v :: .int x :: .ref o :: st) sh mem := by
  obtain ⟨⟨p, l, e, R, s, m, args, below, meth, c, Q⟩, dC, dI, A, n0, ad0⟩ := G
  intro H locs ls ad cy hw hl
  have e9 : (jws ad cy sh mem).set o (ad o, .inl (cy o, sh.2.2.1 o, .inl (upd (mem o) x.toNatClampNeg v))) = jws ad cy sh (jup mem o x.toNatClampNeg v) := jws_set rfl (by rw [jce_i hkd (by decide) (by decide)]; unfold jup; rw [show va_up mem o (va_up (mem o) x.toNatClampNeg v) o = va_up (mem o) x.toNatClampNeg v from if_pos rfl]; rfl) (fun q hq => jce_ne hq)
  refine va_iast X.1 X.2.1 (hw.2.2.2.1 o ho (by rw [hkd]; decide)) hw.1 hw.2.1 hw.2.2.1 o 0 (by rw [jws_get ho, jce_i hkd (by decide) (by decide)]) (by rw [hkd]; rfl) hin hd (fun H1 locs1 hP1 hD1 hS1 => ?_)
  rw [e9] at hP1 hD1
  exact kk H1 locs1 ls ad cy ⟨hP1, hD1, hS1, hw.2.2.2⟩ hl
theorem j_bast {G : jG} {own : String} {cc : ByteArray} {nL u us pc : Nat} {lv : Nat → Option Value} {st : List Value} {sh : jSh} {mem : jMem} (X : jOk G own cc nL) {o : Nat} {x v : Int32} (ho : o < sh.1) (hkd : sh.2.1 o = 12) (hin : vp_in x (sh.2.2.1 o)) (hd : decode cc pc = .ok (.bastore, 1)) (kk : J G own cc nL u us (pc + 1) lv st sh (jup mem o x.toNatClampNeg (vp_nar .byte v))) : J G own cc nL u us pc lv (.int v :: .int x :: .ref o :: st) sh mem := by
  obtain ⟨⟨p, l, e, R, s, m, args, below, meth, c, Q⟩, dC, dI, A, n0, ad0⟩ := G
  intro H locs ls ad cy hw hl
  have e9 : (jws ad cy sh mem).set o (ad o, .inl (cy o, sh.2.2.1 o, .inl (upd (mem o) x.toNatClampNeg (vp_nar .byte v)))) = jws ad cy sh (jup mem o x.toNatClampNeg (vp_nar .byte v)) := jws_set rfl (by rw [jce_i hkd (by decide) (by decide)]; unfold jup; rw [show va_up mem o (va_up (mem o) x.toNatClampNeg (vp_nar .byte v)) o = va_up (mem o) x.toNatClampNeg (vp_nar .byte v) from if_pos rfl]; rfl) (fun q hq => jce_ne hq)
  refine va_bast X.1 X.2.1 (hw.2.2.2.1 o ho (by rw [hkd]; decide)) hw.1 hw.2.1 hw.2.2.1 o 0 (by rw [jws_get ho, jce_i hkd (by decide) (by decide)]) (by rw [hkd]; rfl) hin hd (fun H1 locs1 hP1 hD1 hS1 => ?_)
  rw [e9] at hP1 hD1
  exact kk H1 locs1 ls ad cy ⟨hP1, hD1, hS1, hw.2.2.2⟩ hl
theorem j_aaldP {G : jG} {own : String} {cc : ByteArray} {nL u us pc : Nat} {lv : Nat → Option Value} {st : List Value} {sh : jSh} {mem : jMem} (X : jOk G own cc nL) {o : Nat} {x : Int32} (t : Nat) (ho : o < sh.1) (hkd : sh.2.1 o = 14) (hin : vp_in x (sh.2.2.1 o)) (ht : sh.2.2.2 o x.toNatClampNeg = some t) (hd : decode cc pc = .ok (.aaload, 1)) (kk : J G own cc nL u us (pc + 1) lv (.ref t :: st) sh mem) : J G own cc nL u us pc lv (.int x :: .ref o :: st) sh mem := by
  obtain ⟨⟨p, l, e, R, s, m, args, below, meth, c, Q⟩, dC, dI, A, n0, ad0⟩ := G
  intro H locs ls ad cy hw hl
  refine va_aldq X.1 X.2.1 (hw.2.2.2.1 o ho (by rw [hkd]; decide)) hw.1 o 0 (C := RX6) (by rw [jws_get ho, jce_r hkd (by decide)]) (by rw [hkd]; rfl) hin hd ?_
  rw [ht]
  exact kk H locs ls ad cy hw hl
theorem j_aaldI {G : jG} {own : String} {cc : ByteArray} {nL u us pc : Nat} {lv : Nat → Option Value} {st : List Value} {sh : jSh} {mem : jMem} (X : jOk G own cc nL) {o : Nat} {x : Int32} (t : Nat) (ho : o < sh.1) (hkd : sh.2.1 o = 15) (hin : vp_in x (sh.2.2.1 o)) (ht : sh.2.2.2 o x.toNatClampNeg = some t) (hd : decode cc pc = .ok (.aaload, 1)) (kk : J G own cc nL u us (pc + 1) lv (.ref t :: st) sh mem) : J G own cc nL u us pc lv (.int x :: .ref o :: st) sh mem := by
  obtain ⟨⟨p, l, e, R, s, m, args, below, meth, c, Q⟩, dC, dI, A, n0, ad0⟩ := G
  intro H locs ls ad cy hw hl
  have hlt : x.toNatClampNeg < sh.2.2.1 o := Nat.not_le.mp fun q => hin (Or.inr q)
  have hc : va_at (dC, dI) vwCl (ad o, .inl (cy o, sh.2.2.1 o, .inr (.inr (.inr (.inr (fun j => (sh.2.2.2 o j).map ad)))))) H := hw.1 o _ (by rw [jws_get ho, jce_r hkd (by decide)])
  have hk := hw.2.2.2.1 o ho (by rw [hkd]; decide)
  rw [hkd] at hk
  exact W.aald (v := .ref (ad t)) (ty := .array .int) X.1 X.2.1 hc ((hk.2 0 _ rfl).1 (sh.2.2.1 o) (fun j => va_rf ((sh.2.2.2 o j).map ad))) rfl (fun q => by cases q) (by show ¬ (x < 0 ∨ (arrV _ _ _).slots.size ≤ _); rw [arrV_size]; exact hin) (by show (arrV _ _ _).slots[_]? = _; rw [arrV_read _ _ hlt]; dsimp only; rw [ht]; rfl) rfl rfl hd (kk H locs ls ad cy hw hl)
theorem j_aastP {G : jG} {own : String} {cc : ByteArray} {nL u us pc : Nat} {lv : Nat → Option Value} {st : List Value} {sh : jSh} {mem : jMem} (X : jOk G own cc nL) {o t : Nat} {x : Int32} (ho : o < sh.1) (hkd : sh.2.1 o = 14) (hin : vp_in x (sh.2.2.1 o)) (ht : t < sh.1) (hkt : sh.2.1 t = 6) (hd : decode cc pc = .ok (.aastore, 1)) (kk : J G own cc nL u us (pc + 1) lv st (jupS sh o x.toNatClampNeg (some t)) mem) : J G own cc nL u us pc lv (.ref t :: .int x :: .ref o :: st) sh mem := by
  obtain ⟨⟨p, l, e, R, s, m, args, below, meth, c, Q⟩, dC, dI, A, n0, ad0⟩ := G
  intro H locs ls ad cy hw hl
  have e9 : (jws ad cy sh mem).set o (ad o, .inl (cy o, sh.2.2.1 o, .inr (.inr (.inr (.inr (va_up (fun j => (sh.2.2.2 o j).map ad) x.toNatClampNeg (some (ad t)))))))) = jws ad cy (jupS sh o x.toNatClampNeg (some t)) mem := jws_set rfl (by
    rw [jce_r (sh := jupS sh o x.toNatClampNeg (some t)) (ci := 14) hkd (by decide)]
    unfold jupS
    dsimp only
    rw [show va_up sh.2.2.2 o (va_up (sh.2.2.2 o) x.toNatClampNeg (some t)) o = va_up (sh.2.2.2 o) x.toNatClampNeg (some t) from if_pos rfl]
    congr 7
    funext j
    unfold va_up
    by_cases e1 : j = x.toNatClampNeg
    · rw [if_pos e1, if_pos e1]; rfl
    · rw [if_neg e1, if_neg e1]) (fun q hq => jce_neS hq)
  refine va_astq X.1 X.2.1 (r := (jC 6, jT 6, jN 6)) (hw.2.2.2.1 o ho (by rw [hkd]; decide)) hw.1 hw.2.1 hw.2.2.1 o 0 t 6 (by rw [jws_get ho, jce_r hkd (by decide)]) (by rw [hkd]; rfl) (by rw [jws_get ht, jce_o hkt (by decide)]) rfl hin hd (fun H1 locs1 hP1 hD1 hS1 => ?_)
  rw [e9] at hP1 hD1
  exact kk H1 locs1 ls ad cy ⟨hP1, hD1, hS1, hw.2.2.2.1, hw.2.2.2.2.1, jSok_up hw.2.2.2.2.2 ht⟩ hl
theorem j_alen {G : jG} {own : String} {cc : ByteArray} {nL u us pc : Nat} {lv : Nat → Option Value} {st : List Value} {sh : jSh} {mem : jMem} (X : jOk G own cc nL) {o : Nat} (ho : o < sh.1) (hkd : sh.2.1 o = 13) (v : Int32) (hv : Int32.ofNat (sh.2.2.1 o) = v) (hd : decode cc pc = .ok (.arraylength, 1)) (kk : J G own cc nL u us (pc + 1) lv (.int v :: st) sh mem) : J G own cc nL u us pc lv (.ref o :: st) sh mem := by
  obtain ⟨⟨p, l, e, R, s, m, args, below, meth, c, Q⟩, dC, dI, A, n0, ad0⟩ := G
  intro H locs ls ad cy hw hl
  exact va_alen X.1 X.2.1 (hw.2.2.2.1 o ho (by rw [hkd]; decide)) hw.1 o 0 (by rw [jws_get ho, jce_i hkd (by decide) (by decide)]) rfl hv hd (kk H locs ls ad cy hw hl)
