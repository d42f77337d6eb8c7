theorem j_iadd {G : jG} {own : String} {cc : ByteArray} {nL u us pc : Nat} {lv : Nat → Option Value} {st : List Value} {sh : jSh} {mem : jMem} (X : jOk G own cc nL) {x y : Int32} (hd : decode cc pc = .ok (.iadd, 1)) (k : J G own cc nL u us (pc + 1) lv (.int (x + y) :: st) sh mem) : J G own cc nL u us pc lv (.int y :: .int x :: st) sh mem := by
  obtain ⟨⟨p, l, e, R, s, m, args, below, meth, c, Q⟩, dC, dI, A, n0, ad0⟩ := G
  intro H locs ls ad cy hw hl
  exact lv_iadd X.1 X.2.1 hd (k H locs ls ad cy hw hl)
theorem j_isub {G : jG} {own : String} {cc : ByteArray} {nL u us pc : Nat} {lv : Nat → Option Value} {st : List Value} {sh : jSh} {mem : jMem} (X : jOk G own cc nL) {x y : Int32} (hd : decode cc pc = .ok (.isub, 1)) (k : J G own cc nL u us (pc + 1) lv (.int (x - y) :: st) sh mem) : J G own cc nL u us pc lv (.int y :: .int x :: st) sh mem := by
  obtain ⟨⟨p, l, e, R, s, m, args, below, meth, c, Q⟩, dC, dI, A, n0, ad0⟩ := G
  intro H locs ls ad cy hw hl
  exact lv_isub X.1 X.2.1 hd (k H locs ls ad cy hw hl)
theorem j_imul {G : jG} {own : String} {cc : ByteArray} {nL u us pc : Nat} {lv : Nat → Option Value} {st : List Value} {sh : jSh} {mem : jMem} (X : jOk G own cc nL) {x y : Int32} (hd : decode cc pc = .ok (.imul, 1)) (k : J G own cc nL u us (pc + 1) lv (.int (x * y) :: st) sh mem) : J G own cc nL u us pc lv (.int y :: .int x :: st) sh mem := by
  obtain ⟨⟨p, l, e, R, s, m, args, below, meth, c, Q⟩, dC, dI, A, n0, ad0⟩ := G
  intro H locs ls ad cy hw hl
  exact lv_imul X.1 X.2.1 hd (k H locs ls ad cy hw hl)
theorem j_iand {G : jG} {own : String} {cc : ByteArray} {nL u us pc : Nat} {lv : Nat → Option Value} {st : List Value} {sh : jSh} {mem : jMem} (X : jOk G own cc nL) {x y : Int32} (hd : decode cc pc = .ok (.iand, 1)) (k : J G own cc nL u us (pc + 1) lv (.int (x &&& y) :: st) sh mem) : J G own cc nL u us pc lv (.int y :: .int x :: st) sh mem := by
  obtain ⟨⟨p, l, e, R, s, m, args, below, meth, c, Q⟩, dC, dI, A, n0, ad0⟩ := G
  intro H locs ls ad cy hw hl
  exact lv_iand X.1 X.2.1 hd (k H locs ls ad cy hw hl)
theorem j_ior {G : jG} {own : String} {cc : ByteArray} {nL u us pc : Nat} {lv : Nat → Option Value} {st : List Value} {sh : jSh} {mem : jMem} (X : jOk G own cc nL) {x y : Int32} (hd : decode cc pc = .ok (.ior, 1)) (k : J G own cc nL u us (pc + 1) lv (.int (x ||| y) :: st) sh mem) : J G own cc nL u us pc lv (.int y :: .int x :: st) sh mem := by
  obtain ⟨⟨p, l, e, R, s, m, args, below, meth, c, Q⟩, dC, dI, A, n0, ad0⟩ := G
  intro H locs ls ad cy hw hl
  exact lv_ior X.1 X.2.1 hd (k H locs ls ad cy hw hl)
theorem j_ixor {G : jG} {own : String} {cc : ByteArray} {nL u us pc : Nat} {lv : Nat → Option Value} {st : List Value} {sh : jSh} {mem : jMem} (X : jOk G own cc nL) {x y : Int32} (hd : decode cc pc = .ok (.ixor, 1)) (k : J G own cc nL u us (pc + 1) lv (.int (x ^^^ y) :: st) sh mem) : J G own cc nL u us pc lv (.int y :: .int x :: st) sh mem := by
  obtain ⟨⟨p, l, e, R, s, m, args, below, meth, c, Q⟩, dC, dI, A, n0, ad0⟩ := G
  intro H locs ls ad cy hw hl
  exact lv_ixor X.1 X.2.1 hd (k H locs ls ad cy hw hl)
theorem j_idiv {G : jG} {own : String} {cc : ByteArray} {nL u us pc : Nat} {lv : Nat → Option Value} {st : List Value} {sh : jSh} {mem : jMem} (X : jOk G own cc nL) {x y : Int32} (hd : decode cc pc = .ok (.idiv, 1)) (hne : ¬ y = 0) (k : J G own cc nL u us (pc + 1) lv (.int (x / y) :: st) sh mem) : J G own cc nL u us pc lv (.int y :: .int x :: st) sh mem := by
  obtain ⟨⟨p, l, e, R, s, m, args, below, meth, c, Q⟩, dC, dI, A, n0, ad0⟩ := G
  intro H locs ls ad cy hw hl
  exact lv_idiv X.1 X.2.1 hd hne (k H locs ls ad cy hw hl)
theorem j_irem {G : jG} {own : String} {cc : ByteArray} {nL u us pc : Nat} {lv : Nat → Option Value} {st : List Value} {sh : jSh} {mem : jMem} (X : jOk G own cc nL) {x y : Int32} (hd : decode cc pc = .ok (.irem, 1)) (hne : ¬ y = 0) (k : J G own cc nL u us (pc + 1) lv (.int (x - x / y * y) :: st) sh mem) : J G own cc nL u us pc lv (.int y :: .int x :: st) sh mem := by
  obtain ⟨⟨p, l, e, R, s, m, args, below, meth, c, Q⟩, dC, dI, A, n0, ad0⟩ := G
  intro H locs ls ad cy hw hl
  exact lv_irem X.1 X.2.1 hd hne (k H locs ls ad cy hw hl)
theorem j_ishl {G : jG} {own : String} {cc : ByteArray} {nL u us pc : Nat} {lv : Nat → Option Value} {st : List Value} {sh : jSh} {mem : jMem} (X : jOk G own cc nL) {x y : Int32} (hd : decode cc pc = .ok (.ishl, 1)) (k : J G own cc nL u us (pc + 1) lv (.int (x <<< (y &&& 31)) :: st) sh mem) : J G own cc nL u us pc lv (.int y :: .int x :: st) sh mem := by
  obtain ⟨⟨p, l, e, R, s, m, args, below, meth, c, Q⟩, dC, dI, A, n0, ad0⟩ := G
  intro H locs ls ad cy hw hl
  exact lv_ishl X.1 X.2.1 hd (k H locs ls ad cy hw hl)
theorem j_ishr {G : jG} {own : String} {cc : ByteArray} {nL u us pc : Nat} {lv : Nat → Option Value} {st : List Value} {sh : jSh} {mem : jMem} (X : jOk G own cc nL) {x y : Int32} (hd : decode cc pc = .ok (.ishr, 1)) (k : J G own cc nL u us (pc + 1) lv (.int (x >>> (y &&& 31)) :: st) sh mem) : J G own cc nL u us pc lv (.int y :: .int x :: st) sh mem := by
  obtain ⟨⟨p, l, e, R, s, m, args, below, meth, c, Q⟩, dC, dI, A, n0, ad0⟩ := G
  intro H locs ls ad cy hw hl
  exact lv_ishr X.1 X.2.1 hd (k H locs ls ad cy hw hl)
theorem j_ladd {G : jG} {own : String} {cc : ByteArray} {nL u us pc : Nat} {lv : Nat → Option Value} {st : List Value} {sh : jSh} {mem : jMem} (X : jOk G own cc nL) {x y : Int64} (hd : decode cc pc = .ok (.ladd, 1)) (k : J G own cc nL u us (pc + 1) lv (.long (x + y) :: st) sh mem) : J G own cc nL u us pc lv (.long y :: .long x :: st) sh mem := by
  obtain ⟨⟨p, l, e, R, s, m, args, below, meth, c, Q⟩, dC, dI, A, n0, ad0⟩ := G
  intro H locs ls ad cy hw hl
  exact lv_ladd X.1 X.2.1 hd (k H locs ls ad cy hw hl)
theorem j_lmul {G : jG} {own : String} {cc : ByteArray} {nL u us pc : Nat} {lv : Nat → Option Value} {st : List Value} {sh : jSh} {mem : jMem} (X : jOk G own cc nL) {x y : Int64} (hd : decode cc pc = .ok (.lmul, 1)) (k : J G own cc nL u us (pc + 1) lv (.long (x * y) :: st) sh mem) : J G own cc nL u us pc lv (.long y :: .long x :: st) sh mem := by
  obtain ⟨⟨p, l, e, R, s, m, args, below, meth, c, Q⟩, dC, dI, A, n0, ad0⟩ := G
  intro H locs ls ad cy hw hl
  exact lv_lmul X.1 X.2.1 hd (k H locs ls ad cy hw hl)
theorem j_land {G : jG} {own : String} {cc : ByteArray} {nL u us pc : Nat} {lv : Nat → Option Value} {st : List Value} {sh : jSh} {mem : jMem} (X : jOk G own cc nL) {x y : Int64} (hd : decode cc pc = .ok (.land, 1)) (k : J G own cc nL u us (pc + 1) lv (.long (x &&& y) :: st) sh mem) : J G own cc nL u us pc lv (.long y :: .long x :: st) sh mem := by
  obtain ⟨⟨p, l, e, R, s, m, args, below, meth, c, Q⟩, dC, dI, A, n0, ad0⟩ := G
  intro H locs ls ad cy hw hl
  exact lv_land X.1 X.2.1 hd (k H locs ls ad cy hw hl)
theorem j_lor {G : jG} {own : String} {cc : ByteArray} {nL u us pc : Nat} {lv : Nat → Option Value} {st : List Value} {sh : jSh} {mem : jMem} (X : jOk G own cc nL) {x y : Int64} (hd : decode cc pc = .ok (.lor, 1)) (k : J G own cc nL u us (pc + 1) lv (.long (x ||| y) :: st) sh mem) : J G own cc nL u us pc lv (.long y :: .long x :: st) sh mem := by
  obtain ⟨⟨p, l, e, R, s, m, args, below, meth, c, Q⟩, dC, dI, A, n0, ad0⟩ := G
  intro H locs ls ad cy hw hl
  exact lv_lor X.1 X.2.1 hd (k H locs ls ad cy hw hl)
theorem j_lrem {G : jG} {own : String} {cc : ByteArray} {nL u us pc : Nat} {lv : Nat → Option Value} {st : List Value} {sh : jSh} {mem : jMem} (X : jOk G own cc nL) {x y : Int64} (hd : decode cc pc = .ok (.lrem, 1)) (hne : ¬ y = 0) (k : J G own cc nL u us (pc + 1) lv (.long (x - x / y * y) :: st) sh mem) : J G own cc nL u us pc lv (.long y :: .long x :: st) sh mem := by
  obtain ⟨⟨p, l, e, R, s, m, args, below, meth, c, Q⟩, dC, dI, A, n0, ad0⟩ := G
  intro H locs ls ad cy hw hl
  exact lv_lrem X.1 X.2.1 hd hne (k H locs ls ad cy hw hl)
theorem j_iushr {G : jG} {own : String} {cc : ByteArray} {nL u us pc : Nat} {lv : Nat → Option Value} {st : List Value} {sh : jSh} {mem : jMem} (X : jOk G own cc nL) {x y : Int32} (hd : decode cc pc = .ok (.iushr, 1)) (k : J G own cc nL u us (pc + 1) lv (.int ((x.toUInt32 >>> (y.toUInt32 &&& Int32.toUInt32 31)).toInt32) :: st) sh mem) : J G own cc nL u us pc lv (.int y :: .int x :: st) sh mem := by
  obtain ⟨⟨p, l, e, R, s, m, args, below, meth, c, Q⟩, dC, dI, A, n0, ad0⟩ := G
  intro H locs ls ad cy hw hl
  exact lv_iushr X.1 X.2.1 hd rfl (k H locs ls ad cy hw hl)
theorem j_ineg {G : jG} {own : String} {cc : ByteArray} {nL u us pc : Nat} {lv : Nat → Option Value} {st : List Value} {sh : jSh} {mem : jMem} (X : jOk G own cc nL) {x : Int32} (hd : decode cc pc = .ok (.ineg, 1)) (k : J G own cc nL u us (pc + 1) lv (.int (-x) :: st) sh mem) : J G own cc nL u us pc lv (.int x :: st) sh mem := by
  obtain ⟨⟨p, l, e, R, s, m, args, below, meth, c, Q⟩, dC, dI, A, n0, ad0⟩ := G
  intro H locs ls ad cy hw hl
  exact lv_ineg X.1 X.2.1 hd (k H locs ls ad cy hw hl)
theorem j_i2l {G : jG} {own : String} {cc : ByteArray} {nL u us pc : Nat} {lv : Nat → Option Value} {st : List Value} {sh : jSh} {mem : jMem} (X : jOk G own cc nL) {x : Int32} (hd : decode cc pc = .ok (.i2l, 1)) (k : J G own cc nL u us (pc + 1) lv (.long x.toInt64 :: st) sh mem) : J G own cc nL u us pc lv (.int x :: st) sh mem := by
  obtain ⟨⟨p, l, e, R, s, m, args, below, meth, c, Q⟩, dC, dI, A, n0, ad0⟩ := G
  intro H locs ls ad cy hw hl
  exact lv_i2l X.1 X.2.1 hd rfl (k H locs ls ad cy hw hl)
theorem j_l2i {G : jG} {own : String} {cc : ByteArray} {nL u us pc : Nat} {lv : Nat → Option Value} {st : List Value} {sh : jSh} {mem : jMem} (X : jOk G own cc nL) {x : Int64} (hd : decode cc pc = .ok (.l2i, 1)) (k : J G own cc nL u us (pc + 1) lv (.int x.toInt32 :: st) sh mem) : J G own cc nL u us pc lv (.long x :: st) sh mem := by
  obtain ⟨⟨p, l, e, R, s, m, args, below, meth, c, Q⟩, dC, dI, A, n0, ad0⟩ := G
  intro H locs ls ad cy hw hl
  exact lv_l2i X.1 X.2.1 hd rfl (k H locs ls ad cy hw hl)
theorem j_i2b {G : jG} {own : String} {cc : ByteArray} {nL u us pc : Nat} {lv : Nat → Option Value} {st : List Value} {sh : jSh} {mem : jMem} (X : jOk G own cc nL) {x : Int32} (hd : decode cc pc = .ok (.i2b, 1)) (k : J G own cc nL u us (pc + 1) lv (.int x.toInt8.toInt32 :: st) sh mem) : J G own cc nL u us pc lv (.int x :: st) sh mem := by
  obtain ⟨⟨p, l, e, R, s, m, args, below, meth, c, Q⟩, dC, dI, A, n0, ad0⟩ := G
  intro H locs ls ad cy hw hl
  exact lv_i2b X.1 X.2.1 hd rfl (k H locs ls ad cy hw hl)
theorem j_i2s {G : jG} {own : String} {cc : ByteArray} {nL u us pc : Nat} {lv : Nat → Option Value} {st : List Value} {sh : jSh} {mem : jMem} (X : jOk G own cc nL) {x : Int32} (hd : decode cc pc = .ok (.i2s, 1)) (k : J G own cc nL u us (pc + 1) lv (.int x.toInt16.toInt32 :: st) sh mem) : J G own cc nL u us pc lv (.int x :: st) sh mem := by
  obtain ⟨⟨p, l, e, R, s, m, args, below, meth, c, Q⟩, dC, dI, A, n0, ad0⟩ := G
  intro H locs ls ad cy hw hl
  exact lv_i2s X.1 X.2.1 hd rfl (k H locs ls ad cy hw hl)
theorem j_lshl {G : jG} {own : String} {cc : ByteArray} {nL u us pc : Nat} {lv : Nat → Option Value} {st : List Value} {sh : jSh} {mem : jMem} (X : jOk G own cc nL) {x : Int64} {y : Int32} (hd : decode cc pc = .ok (.lshl, 1)) (k : J G own cc nL u us (pc + 1) lv (.long (x <<< (y.toInt64 &&& 63)) :: st) sh mem) : J G own cc nL u us pc lv (.int y :: .long x :: st) sh mem := by
  obtain ⟨⟨p, l, e, R, s, m, args, below, meth, c, Q⟩, dC, dI, A, n0, ad0⟩ := G
  intro H locs ls ad cy hw hl
  exact lv_lshl X.1 X.2.1 hd rfl (k H locs ls ad cy hw hl)
theorem j_lshr {G : jG} {own : String} {cc : ByteArray} {nL u us pc : Nat} {lv : Nat → Option Value} {st : List Value} {sh : jSh} {mem : jMem} (X : jOk G own cc nL) {x : Int64} {y : Int32} (hd : decode cc pc = .ok (.lshr, 1)) (k : J G own cc nL u us (pc + 1) lv (.long (x >>> (y.toInt64 &&& 63)) :: st) sh mem) : J G own cc nL u us pc lv (.int y :: .long x :: st) sh mem := by
  obtain ⟨⟨p, l, e, R, s, m, args, below, meth, c, Q⟩, dC, dI, A, n0, ad0⟩ := G
  intro H locs ls ad cy hw hl
  exact lv_lshr X.1 X.2.1 hd rfl (k H locs ls ad cy hw hl)
theorem j_lcmp {G : jG} {own : String} {cc : ByteArray} {nL u us pc : Nat} {lv : Nat → Option Value} {st : List Value} {sh : jSh} {mem : jMem} (X : jOk G own cc nL) {x y : Int64} (hd : decode cc pc = .ok (.lcmp, 1)) (k : J G own cc nL u us (pc + 1) lv (.int (lg_cmp x y) :: st) sh mem) : J G own cc nL u us pc lv (.long y :: .long x :: st) sh mem := by
  obtain ⟨⟨p, l, e, R, s, m, args, below, meth, c, Q⟩, dC, dI, A, n0, ad0⟩ := G
  intro H locs ls ad cy hw hl
  exact W.lcmp X.1 X.2.1 hd (k H locs ls ad cy hw hl)
theorem j_dup {G : jG} {own : String} {cc : ByteArray} {nL u us pc : Nat} {lv : Nat → Option Value} {st : List Value} {sh : jSh} {mem : jMem} (X : jOk G own cc nL) {v : Value} (hd : decode cc pc = .ok (.dup, 1)) (hv : v.category = 1) (k : J G own cc nL u us (pc + 1) lv (v :: v :: st) sh mem) : J G own cc nL u us pc lv (v :: st) sh mem := by
  obtain ⟨⟨p, l, e, R, s, m, args, below, meth, c, Q⟩, dC, dI, A, n0, ad0⟩ := G
  intro H locs ls ad cy hw hl
  exact lv_dup X.1 X.2.1 hd (by rw [jv_cat]; exact hv) (k H locs ls ad cy hw hl)
theorem j_dup2 {G : jG} {own : String} {cc : ByteArray} {nL u us pc : Nat} {lv : Nat → Option Value} {st : List Value} {sh : jSh} {mem : jMem} (X : jOk G own cc nL) {v w : Value} (hd : decode cc pc = .ok (.dup2, 1)) (hv : v.category = 1) (hv2 : w.category = 1) (k : J G own cc nL u us (pc + 1) lv (v :: w :: v :: w :: st) sh mem) : J G own cc nL u us pc lv (v :: w :: st) sh mem := by
  obtain ⟨⟨p, l, e, R, s, m, args, below, meth, c, Q⟩, dC, dI, A, n0, ad0⟩ := G
  intro H locs ls ad cy hw hl
  exact lv_dup2_11 X.1 X.2.1 hd (by rw [jv_cat]; exact hv) (by rw [jv_cat]; exact hv2) (k H locs ls ad cy hw hl)
theorem j_pop {G : jG} {own : String} {cc : ByteArray} {nL u us pc : Nat} {lv : Nat → Option Value} {st : List Value} {sh : jSh} {mem : jMem} (X : jOk G own cc nL) {v : Value} (hd : decode cc pc = .ok (.pop, 1)) (hv : v.category = 1) (k : J G own cc nL u us (pc + 1) lv (st) sh mem) : J G own cc nL u us pc lv (v :: st) sh mem := by
  obtain ⟨⟨p, l, e, R, s, m, args, below, meth, c, Q⟩, dC, dI, A, n0, ad0⟩ := G
  intro H locs ls ad cy hw hl
  exact lv_pop X.1 X.2.1 hd (by rw [jv_cat]; exact hv) (k H locs ls ad cy hw hl)
theorem j_iconst {G : jG} {own : String} {cc : ByteArray} {nL u us pc : Nat} {lv : Nat → Option Value} {st : List Value} {sh : jSh} {mem : jMem} (X : jOk G own cc nL) {n : Int} (hd : decode cc pc = .ok (.iconst n, 1)) (v : Int32) (hv : Int32.ofInt n = v) (k : J G own cc nL u us (pc + 1) lv (.int v :: st) sh mem) : J G own cc nL u us pc lv (st) sh mem := by
  obtain ⟨⟨p, l, e, R, s, m, args, below, meth, c, Q⟩, dC, dI, A, n0, ad0⟩ := G
  intro H locs ls ad cy hw hl
  exact lv_iconst X.1 X.2.1 hd hv (k H locs ls ad cy hw hl)
theorem j_bipush {G : jG} {own : String} {cc : ByteArray} {nL u us pc : Nat} {lv : Nat → Option Value} {st : List Value} {sh : jSh} {mem : jMem} (X : jOk G own cc nL) {n : Int} (hd : decode cc pc = .ok (.bipush n, 2)) (v : Int32) (hv : (Int8.ofInt n).toInt32 = v) (k : J G own cc nL u us (pc + 2) lv (.int v :: st) sh mem) : J G own cc nL u us pc lv (st) sh mem := by
  obtain ⟨⟨p, l, e, R, s, m, args, below, meth, c, Q⟩, dC, dI, A, n0, ad0⟩ := G
  intro H locs ls ad cy hw hl
  exact lv_bipush X.1 X.2.1 hd hv (k H locs ls ad cy hw hl)
theorem j_sipush {G : jG} {own : String} {cc : ByteArray} {nL u us pc : Nat} {lv : Nat → Option Value} {st : List Value} {sh : jSh} {mem : jMem} (X : jOk G own cc nL) {n : Int} (hd : decode cc pc = .ok (.sipush n, 3)) (v : Int32) (hv : (Int16.ofInt n).toInt32 = v) (k : J G own cc nL u us (pc + 3) lv (.int v :: st) sh mem) : J G own cc nL u us pc lv (st) sh mem := by
  obtain ⟨⟨p, l, e, R, s, m, args, below, meth, c, Q⟩, dC, dI, A, n0, ad0⟩ := G
  intro H locs ls ad cy hw hl
  exact lv_sipush X.1 X.2.1 hd hv (k H locs ls ad cy hw hl)
theorem j_lconst {G : jG} {own : String} {cc : ByteArray} {nL u us pc : Nat} {lv : Nat → Option Value} {st : List Value} {sh : jSh} {mem : jMem} (X : jOk G own cc nL) {n : Fin 2} (hd : decode cc pc = .ok (.lconst n, 1)) (v : Int64) (hv : Int64.ofNat (n : Nat) = v) (k : J G own cc nL u us (pc + 1) lv (.long v :: st) sh mem) : J G own cc nL u us pc lv (st) sh mem := by
  obtain ⟨⟨p, l, e, R, s, m, args, below, meth, c, Q⟩, dC, dI, A, n0, ad0⟩ := G
  intro H locs ls ad cy hw hl
  exact lv_lconst X.1 X.2.1 hd hv (k H locs ls ad cy hw hl)
theorem j_ldc {G : jG} {own : String} {cc : ByteArray} {nL u us pc : Nat} {lv : Nat → Option Value} {st : List Value} {sh : jSh} {mem : jMem} (X : jOk G own cc nL) {n : Nat} {v : Int32} (hd : decode cc pc = .ok (.ldc n, 2)) (hw : Cond.constant own n v ∈ jW) (k : J G own cc nL u us (pc + 2) lv (.int v :: st) sh mem) : J G own cc nL u us pc lv (st) sh mem := by
  obtain ⟨⟨p, l, e, R, s, m, args, below, meth, c, Q⟩, dC, dI, A, n0, ad0⟩ := G
  intro H locs ls ad cy hw1 hl
  exact lv_ldc X.1 X.2.1 X.2.2.2.1 (X.2.2.2.2.1 _ hw) hd (k H locs ls ad cy hw1 hl)
theorem j_ldcw {G : jG} {own : String} {cc : ByteArray} {nL u us pc : Nat} {lv : Nat → Option Value} {st : List Value} {sh : jSh} {mem : jMem} (X : jOk G own cc nL) {n : Nat} {v : Int32} (hd : decode cc pc = .ok (.ldc_w n, 3)) (hw : Cond.constant own n v ∈ jW) (k : J G own cc nL u us (pc + 3) lv (.int v :: st) sh mem) : J G own cc nL u us pc lv (st) sh mem := by
  obtain ⟨⟨p, l, e, R, s, m, args, below, meth, c, Q⟩, dC, dI, A, n0, ad0⟩ := G
  intro H locs ls ad cy hw1 hl
  exact lv_ldcw X.1 X.2.1 X.2.2.2.1 (X.2.2.2.2.1 _ hw) hd (k H locs ls ad cy hw1 hl)
theorem j_ldc2 {G : jG} {own : String} {cc : ByteArray} {nL u us pc : Nat} {lv : Nat → Option Value} {st : List Value} {sh : jSh} {mem : jMem} (X : jOk G own cc nL) {n : Nat} {v : Int64} (hd : decode cc pc = .ok (.ldc2_w n, 3)) (hw : Cond.constantLong own n v ∈ jW) (k : J G own cc nL u us (pc + 3) lv (.long v :: st) sh mem) : J G own cc nL u us pc lv (st) sh mem := by
  obtain ⟨⟨p, l, e, R, s, m, args, below, meth, c, Q⟩, dC, dI, A, n0, ad0⟩ := G
  intro H locs ls ad cy hw1 hl
  exact lv_ldc2 X.1 X.2.1 X.2.2.2.1 (X.2.2.2.2.1 _ hw) hd (k H locs ls ad cy hw1 hl)
theorem j_null {G : jG} {own : String} {cc : ByteArray} {nL u us pc : Nat} {lv : Nat → Option Value} {st : List Value} {sh : jSh} {mem : jMem} (X : jOk G own cc nL)  (hd : decode cc pc = .ok (.aconst_null, 1)) (k : J G own cc nL u us (pc + 1) lv (.null :: st) sh mem) : J G own cc nL u us pc lv (st) sh mem := by
  obtain ⟨⟨p, l, e, R, s, m, args, below, meth, c, Q⟩, dC, dI, A, n0, ad0⟩ := G
  intro H locs ls ad cy hw hl
  exact lv_null X.1 X.2.1 hd (k H locs ls ad cy hw hl)
theorem j_iload_n {G : jG} {own : String} {cc : ByteArray} {nL u us pc : Nat} {lv : Nat → Option Value} {st : List Value} {sh : jSh} {mem : jMem} (X : jOk G own cc nL) {i : Fin 4} {x : Int32} (hd : decode cc pc = .ok (.iload_n i, 1)) (hv : lv i = some (.int x)) (k : J G own cc nL u us (pc + 1) lv (.int x :: st) sh mem) : J G own cc nL u us pc lv (st) sh mem := by
  obtain ⟨⟨p, l, e, R, s, m, args, below, meth, c, Q⟩, dC, dI, A, n0, ad0⟩ := G
  intro H locs ls ad cy hw hl
  exact lv_iload_n X.1 X.2.1 hd rfl (jlo_at hl hv) (k H locs ls ad cy hw hl)
theorem j_iload {G : jG} {own : String} {cc : ByteArray} {nL u us pc : Nat} {lv : Nat → Option Value} {st : List Value} {sh : jSh} {mem : jMem} (X : jOk G own cc nL) {i : Nat} {x : Int32} (hd : decode cc pc = .ok (.iload i, 2)) (hv : lv i = some (.int x)) (k : J G own cc nL u us (pc + 2) lv (.int x :: st) sh mem) : J G own cc nL u us pc lv (st) sh mem := by
  obtain ⟨⟨p, l, e, R, s, m, args, below, meth, c, Q⟩, dC, dI, A, n0, ad0⟩ := G
  intro H locs ls ad cy hw hl
  exact lv_iload X.1 X.2.1 hd (jlo_at hl hv) (k H locs ls ad cy hw hl)
theorem j_lload_n {G : jG} {own : String} {cc : ByteArray} {nL u us pc : Nat} {lv : Nat → Option Value} {st : List Value} {sh : jSh} {mem : jMem} (X : jOk G own cc nL) {i : Fin 4} {x : Int64} (hd : decode cc pc = .ok (.lload_n i, 1)) (hv : lv i = some (.long x)) (k : J G own cc nL u us (pc + 1) lv (.long x :: st) sh mem) : J G own cc nL u us pc lv (st) sh mem := by
  obtain ⟨⟨p, l, e, R, s, m, args, below, meth, c, Q⟩, dC, dI, A, n0, ad0⟩ := G
  intro H locs ls ad cy hw hl
  exact lv_lload_n X.1 X.2.1 hd rfl (jlo_at hl hv) (k H locs ls ad cy hw hl)
theorem j_lload {G : jG} {own : String} {cc : ByteArray} {nL u us pc : Nat} {lv : Nat → Option Value} {st : List Value} {sh : jSh} {mem : jMem} (X : jOk G own cc nL) {i : Nat} {x : Int64} (hd : decode cc pc = .ok (.lload i, 2)) (hv : lv i = some (.long x)) (k : J G own cc nL u us (pc + 2) lv (.long x :: st) sh mem) : J G own cc nL u us pc lv (st) sh mem := by
  obtain ⟨⟨p, l, e, R, s, m, args, below, meth, c, Q⟩, dC, dI, A, n0, ad0⟩ := G
  intro H locs ls ad cy hw hl
  exact lv_lload X.1 X.2.1 hd (jlo_at hl hv) (k H locs ls ad cy hw hl)
theorem j_aload_n {G : jG} {own : String} {cc : ByteArray} {nL u us pc : Nat} {lv : Nat → Option Value} {st : List Value} {sh : jSh} {mem : jMem} (X : jOk G own cc nL) {i : Fin 4} {x : Nat} (hd : decode cc pc = .ok (.aload_n i, 1)) (hv : lv i = some (.ref x)) (k : J G own cc nL u us (pc + 1) lv (.ref x :: st) sh mem) : J G own cc nL u us pc lv (st) sh mem := by
  obtain ⟨⟨p, l, e, R, s, m, args, below, meth, c, Q⟩, dC, dI, A, n0, ad0⟩ := G
  intro H locs ls ad cy hw hl
  exact lv_aload_n X.1 X.2.1 hd rfl (jlo_at hl hv) (k H locs ls ad cy hw hl)
theorem j_aload {G : jG} {own : String} {cc : ByteArray} {nL u us pc : Nat} {lv : Nat → Option Value} {st : List Value} {sh : jSh} {mem : jMem} (X : jOk G own cc nL) {i : Nat} {x : Nat} (hd : decode cc pc = .ok (.aload i, 2)) (hv : lv i = some (.ref x)) (k : J G own cc nL u us (pc + 2) lv (.ref x :: st) sh mem) : J G own cc nL u us pc lv (st) sh mem := by
  obtain ⟨⟨p, l, e, R, s, m, args, below, meth, c, Q⟩, dC, dI, A, n0, ad0⟩ := G
  intro H locs ls ad cy hw hl
  exact lv_aload X.1 X.2.1 hd (jlo_at hl hv) (k H locs ls ad cy hw hl)
theorem j_aload_nN {G : jG} {own : String} {cc : ByteArray} {nL u us pc : Nat} {lv : Nat → Option Value} {st : List Value} {sh : jSh} {mem : jMem} (X : jOk G own cc nL) {i : Fin 4} (hd : decode cc pc = .ok (.aload_n i, 1)) (hv : lv i = some .null) (k : J G own cc nL u us (pc + 1) lv (.null :: st) sh mem) : J G own cc nL u us pc lv (st) sh mem := by
  obtain ⟨⟨p, l, e, R, s, m, args, below, meth, c, Q⟩, dC, dI, A, n0, ad0⟩ := G
  intro H locs ls ad cy hw hl
  exact lv_aload_nN X.1 X.2.1 hd rfl (jlo_at hl hv) (k H locs ls ad cy hw hl)
theorem j_aloadN {G : jG} {own : String} {cc : ByteArray} {nL u us pc : Nat} {lv : Nat → Option Value} {st : List Value} {sh : jSh} {mem : jMem} (X : jOk G own cc nL) {i : Nat} (hd : decode cc pc = .ok (.aload i, 2)) (hv : lv i = some .null) (k : J G own cc nL u us (pc + 2) lv (.null :: st) sh mem) : J G own cc nL u us pc lv (st) sh mem := by
  obtain ⟨⟨p, l, e, R, s, m, args, below, meth, c, Q⟩, dC, dI, A, n0, ad0⟩ := G
  intro H locs ls ad cy hw hl
  exact lv_aloadN X.1 X.2.1 hd (jlo_at hl hv) (k H locs ls ad cy hw hl)
theorem j_istore_n {G : jG} {own : String} {cc : ByteArray} {nL u us pc : Nat} {lv : Nat → Option Value} {st : List Value} {sh : jSh} {mem : jMem} (X : jOk G own cc nL) {i : Fin 4} {x : Int32} (hd : decode cc pc = .ok (.istore_n i, 1)) (hn : (i : Nat) < nL) (k : J G own cc nL u us (pc + 1) (jst lv i (.int x)) (st) sh mem) : J G own cc nL u us pc lv (.int x :: st) sh mem := by
  obtain ⟨⟨p, l, e, R, s, m, args, below, meth, c, Q⟩, dC, dI, A, n0, ad0⟩ := G
  intro H locs ls ad cy hw hl
  exact lv_istore_n X.1 X.2.1 hd rfl (jlo_has hl) hn rfl (fun ls2 hl2 => k H locs ls2 ad cy hw (jlo_st (v := .int x) hl hl2))
theorem j_istore {G : jG} {own : String} {cc : ByteArray} {nL u us pc : Nat} {lv : Nat → Option Value} {st : List Value} {sh : jSh} {mem : jMem} (X : jOk G own cc nL) {i : Nat} {x : Int32} (hd : decode cc pc = .ok (.istore i, 2)) (hn : i < nL) (k : J G own cc nL u us (pc + 2) (jst lv i (.int x)) (st) sh mem) : J G own cc nL u us pc lv (.int x :: st) sh mem := by
  obtain ⟨⟨p, l, e, R, s, m, args, below, meth, c, Q⟩, dC, dI, A, n0, ad0⟩ := G
  intro H locs ls ad cy hw hl
  exact lv_istore X.1 X.2.1 hd (jlo_has hl) hn rfl (fun ls2 hl2 => k H locs ls2 ad cy hw (jlo_st (v := .int x) hl hl2))
theorem j_astore_n {G : jG} {own : String} {cc : ByteArray} {nL u us pc : Nat} {lv : Nat → Option Value} {st : List Value} {sh : jSh} {mem : jMem} (X : jOk G own cc nL) {i : Fin 4} {x : Nat} (hd : decode cc pc = .ok (.astore_n i, 1)) (hn : (i : Nat) < nL) (k : J G own cc nL u us (pc + 1) (jst lv i (.ref x)) (st) sh mem) : J G own cc nL u us pc lv (.ref x :: st) sh mem := by
  obtain ⟨⟨p, l, e, R, s, m, args, below, meth, c, Q⟩, dC, dI, A, n0, ad0⟩ := G
  intro H locs ls ad cy hw hl
  exact lv_astore_n X.1 X.2.1 hd rfl (jlo_has hl) hn rfl (fun ls2 hl2 => k H locs ls2 ad cy hw (jlo_st (v := .ref x) hl hl2))
theorem j_astore {G : jG} {own : String} {cc : ByteArray} {nL u us pc : Nat} {lv : Nat → Option Value} {st : List Value} {sh : jSh} {mem : jMem} (X : jOk G own cc nL) {i : Nat} {x : Nat} (hd : decode cc pc = .ok (.astore i, 2)) (hn : i < nL) (k : J G own cc nL u us (pc + 2) (jst lv i (.ref x)) (st) sh mem) : J G own cc nL u us pc lv (.ref x :: st) sh mem := by
  obtain ⟨⟨p, l, e, R, s, m, args, below, meth, c, Q⟩, dC, dI, A, n0, ad0⟩ := G
  intro H locs ls ad cy hw hl
  exact lv_astore X.1 X.2.1 hd (jlo_has hl) hn rfl (fun ls2 hl2 => k H locs ls2 ad cy hw (jlo_st (v := .ref x) hl hl2))
theorem j_astore_nN {G : jG} {own : String} {cc : ByteArray} {nL u us pc : Nat} {lv : Nat → Option Value} {st : List Value} {sh : jSh} {mem : jMem} (X : jOk G own cc nL) {i : Fin 4} (hd : decode cc pc = .ok (.astore_n i, 1)) (hn : (i : Nat) < nL) (k : J G own cc nL u us (pc + 1) (jst lv i .null) (st) sh mem) : J G own cc nL u us pc lv (.null :: st) sh mem := by
  obtain ⟨⟨p, l, e, R, s, m, args, below, meth, c, Q⟩, dC, dI, A, n0, ad0⟩ := G
  intro H locs ls ad cy hw hl
  exact lv_astore_nN X.1 X.2.1 hd rfl (jlo_has hl) hn rfl (fun ls2 hl2 => k H locs ls2 ad cy hw (jlo_st (v := .null) hl hl2))
theorem j_astoreN {G : jG} {own : String} {cc : ByteArray} {nL u us pc : Nat} {lv : Nat → Option Value} {st : List Value} {sh : jSh} {mem : jMem} (X : jOk G own cc nL) {i : Nat} (hd : decode cc pc = .ok (.astore i, 2)) (hn : i < nL) (k : J G own cc nL u us (pc + 2) (jst lv i .null) (st) sh mem) : J G own cc nL u us pc lv (.null :: st) sh mem := by
  obtain ⟨⟨p, l, e, R, s, m, args, below, meth, c, Q⟩, dC, dI, A, n0, ad0⟩ := G
  intro H locs ls ad cy hw hl
  exact lv_astoreN X.1 X.2.1 hd (jlo_has hl) hn rfl (fun ls2 hl2 => k H locs ls2 ad cy hw (jlo_st (v := .null) hl hl2))
theorem j_lstore_n {G : jG} {own : String} {cc : ByteArray} {nL u us pc : Nat} {lv : Nat → Option Value} {st : List Value} {sh : jSh} {mem : jMem} (X : jOk G own cc nL) {i : Fin 4} {x : Int64} (hd : decode cc pc = .ok (.lstore_n i, 1)) (hn : (i : Nat) + 1 < nL) (k : J G own cc nL u us (pc + 1) (jst2 lv i (.long x)) (st) sh mem) : J G own cc nL u us pc lv (.long x :: st) sh mem := by
  obtain ⟨⟨p, l, e, R, s, m, args, below, meth, c, Q⟩, dC, dI, A, n0, ad0⟩ := G
  intro H locs ls ad cy hw hl
  exact lv_lstore_n X.1 X.2.1 hd rfl (jlo_has hl) hn rfl (fun ls2 hl2 => k H locs ls2 ad cy hw (jlo_st2 (v := .long x) hl hl2))
theorem j_iinc {G : jG} {own : String} {cc : ByteArray} {nL u us pc : Nat} {lv : Nat → Option Value} {st : List Value} {sh : jSh} {mem : jMem} (X : jOk G own cc nL) {i : Nat} {n : Int} {x : Int32} (hd : decode cc pc = .ok (.iinc i n, 3)) (hv : lv i = some (.int x)) (y : Int32) (hy : Int32.ofInt n = y) (k : J G own cc nL u us (pc + 3) (jst lv i (.int (x + y))) st sh mem) : J G own cc nL u us pc lv st sh mem := by
  subst hy
  obtain ⟨⟨p, l, e, R, s, m, args, below, meth, c, Q⟩, dC, dI, A, n0, ad0⟩ := G
  intro H locs ls ad cy hw hl
  obtain ⟨q, hq⟩ := List.getElem?_of_mem (jls_mem.mpr ⟨jlo_lt hl hv, _, hv, rfl⟩ : (i, Value.int x) ∈ jls nL ad lv)
  exact lv_iinc X.1 X.2.1 hd (jlo_has hl) hq rfl (jlo_lt hl hv) rfl (fun ls2 hl2 => k H locs ls2 ad cy hw (jlo_st (v := .int (x + Int32.ofInt n)) hl hl2))
theorem j_if_eq {G : jG} {own : String} {cc : ByteArray} {nL u us pc : Nat} {lv : Nat → Option Value} {st : List Value} {sh : jSh} {mem : jMem} (X : jOk G own cc nL) {x : Int32} {off : Int} (tgt : Nat) (hd : decode cc pc = .ok (.ifCond .eq off, 3)) (ht : (pc : Int) + off = (tgt : Int)) (kt : x = 0 → J G own cc nL u us tgt lv st sh mem) (kf : ¬ x = 0 → J G own cc nL u us (pc + 3) lv st sh mem) : J G own cc nL u us pc lv (.int x :: st) sh mem := by
  obtain ⟨⟨p, l, e, R, s, m, args, below, meth, c, Q⟩, dC, dI, A, n0, ad0⟩ := G
  intro H locs ls ad cy hw hl
  exact lv_if_eq X.1 X.2.1 hd ht (fun q => kt q H locs ls ad cy hw hl) (fun q => kf q H locs ls ad cy hw hl)
theorem j_icmp_eq {G : jG} {own : String} {cc : ByteArray} {nL u us pc : Nat} {lv : Nat → Option Value} {st : List Value} {sh : jSh} {mem : jMem} (X : jOk G own cc nL) {x y : Int32} {off : Int} (tgt : Nat) (hd : decode cc pc = .ok (.if_icmp .eq off, 3)) (ht : (pc : Int) + off = (tgt : Int)) (kt : x = y → J G own cc nL u us tgt lv st sh mem) (kf : ¬ x = y → J G own cc nL u us (pc + 3) lv st sh mem) : J G own cc nL u us pc lv (.int y :: .int x :: st) sh mem := by
  obtain ⟨⟨p, l, e, R, s, m, args, below, meth, c, Q⟩, dC, dI, A, n0, ad0⟩ := G
  intro H locs ls ad cy hw hl
  exact lv_icmp_eq X.1 X.2.1 hd ht (fun q => kt q H locs ls ad cy hw hl) (fun q => kf q H locs ls ad cy hw hl)
theorem j_if_ne {G : jG} {own : String} {cc : ByteArray} {nL u us pc : Nat} {lv : Nat → Option Value} {st : List Value} {sh : jSh} {mem : jMem} (X : jOk G own cc nL) {x : Int32} {off : Int} (tgt : Nat) (hd : decode cc pc = .ok (.ifCond .ne off, 3)) (ht : (pc : Int) + off = (tgt : Int)) (kt : ¬ x = 0 → J G own cc nL u us tgt lv st sh mem) (kf : x = 0 → J G own cc nL u us (pc + 3) lv st sh mem) : J G own cc nL u us pc lv (.int x :: st) sh mem := by
  obtain ⟨⟨p, l, e, R, s, m, args, below, meth, c, Q⟩, dC, dI, A, n0, ad0⟩ := G
  intro H locs ls ad cy hw hl
  exact lv_if_ne X.1 X.2.1 hd ht (fun q => kt q H locs ls ad cy hw hl) (fun q => kf q H locs ls ad cy hw hl)
theorem j_icmp_ne {G : jG} {own : String} {cc : ByteArray} {nL u us pc : Nat} {lv : Nat → Option Value} {st : List Value} {sh : jSh} {mem : jMem} (X : jOk G own cc nL) {x y : Int32} {off : Int} (tgt : Nat) (hd : decode cc pc = .ok (.if_icmp .ne off, 3)) (ht : (pc : Int) + off = (tgt : Int)) (kt : ¬ x = y → J G own cc nL u us tgt lv st sh mem) (kf : x = y → J G own cc nL u us (pc + 3) lv st sh mem) : J G own cc nL u us pc lv (.int y :: .int x :: st) sh mem := by
  obtain ⟨⟨p, l, e, R, s, m, args, below, meth, c, Q⟩, dC, dI, A, n0, ad0⟩ := G
  intro H locs ls ad cy hw hl
  exact lv_icmp_ne X.1 X.2.1 hd ht (fun q => kt q H locs ls ad cy hw hl) (fun q => kf q H locs ls ad cy hw hl)
theorem j_if_lt {G : jG} {own : String} {cc : ByteArray} {nL u us pc : Nat} {lv : Nat → Option Value} {st : List Value} {sh : jSh} {mem : jMem} (X : jOk G own cc nL) {x : Int32} {off : Int} (tgt : Nat) (hd : decode cc pc = .ok (.ifCond .lt off, 3)) (ht : (pc : Int) + off = (tgt : Int)) (kt : x < 0 → J G own cc nL u us tgt lv st sh mem) (kf : ¬ x < 0 → J G own cc nL u us (pc + 3) lv st sh mem) : J G own cc nL u us pc lv (.int x :: st) sh mem := by
  obtain ⟨⟨p, l, e, R, s, m, args, below, meth, c, Q⟩, dC, dI, A, n0, ad0⟩ := G
  intro H locs ls ad cy hw hl
  exact lv_if_lt X.1 X.2.1 hd ht (fun q => kt q H locs ls ad cy hw hl) (fun q => kf q H locs ls ad cy hw hl)
theorem j_icmp_lt {G : jG} {own : String} {cc : ByteArray} {nL u us pc : Nat} {lv : Nat → Option Value} {st : List Value} {sh : jSh} {mem : jMem} (X : jOk G own cc nL) {x y : Int32} {off : Int} (tgt : Nat) (hd : decode cc pc = .ok (.if_icmp .lt off, 3)) (ht : (pc : Int) + off = (tgt : Int)) (kt : x < y → J G own cc nL u us tgt lv st sh mem) (kf : ¬ x < y → J G own cc nL u us (pc + 3) lv st sh mem) : J G own cc nL u us pc lv (.int y :: .int x :: st) sh mem := by
  obtain ⟨⟨p, l, e, R, s, m, args, below, meth, c, Q⟩, dC, dI, A, n0, ad0⟩ := G
  intro H locs ls ad cy hw hl
  exact lv_icmp_lt X.1 X.2.1 hd ht (fun q => kt q H locs ls ad cy hw hl) (fun q => kf q H locs ls ad cy hw hl)
theorem j_if_ge {G : jG} {own : String} {cc : ByteArray} {nL u us pc : Nat} {lv : Nat → Option Value} {st : List Value} {sh : jSh} {mem : jMem} (X : jOk G own cc nL) {x : Int32} {off : Int} (tgt : Nat) (hd : decode cc pc = .ok (.ifCond .ge off, 3)) (ht : (pc : Int) + off = (tgt : Int)) (kt : 0 ≤ x → J G own cc nL u us tgt lv st sh mem) (kf : ¬ 0 ≤ x → J G own cc nL u us (pc + 3) lv st sh mem) : J G own cc nL u us pc lv (.int x :: st) sh mem := by
  obtain ⟨⟨p, l, e, R, s, m, args, below, meth, c, Q⟩, dC, dI, A, n0, ad0⟩ := G
  intro H locs ls ad cy hw hl
  exact lv_if_ge X.1 X.2.1 hd ht (fun q => kt q H locs ls ad cy hw hl) (fun q => kf q H locs ls ad cy hw hl)
theorem j_icmp_ge {G : jG} {own : String} {cc : ByteArray} {nL u us pc : Nat} {lv : Nat → Option Value} {st : List Value} {sh : jSh} {mem : jMem} (X : jOk G own cc nL) {x y : Int32} {off : Int} (tgt : Nat) (hd : decode cc pc = .ok (.if_icmp .ge off, 3)) (ht : (pc : Int) + off = (tgt : Int)) (kt : y ≤ x → J G own cc nL u us tgt lv st sh mem) (kf : ¬ y ≤ x → J G own cc nL u us (pc + 3) lv st sh mem) : J G own cc nL u us pc lv (.int y :: .int x :: st) sh mem := by
  obtain ⟨⟨p, l, e, R, s, m, args, below, meth, c, Q⟩, dC, dI, A, n0, ad0⟩ := G
  intro H locs ls ad cy hw hl
  exact lv_icmp_ge X.1 X.2.1 hd ht (fun q => kt q H locs ls ad cy hw hl) (fun q => kf q H locs ls ad cy hw hl)
theorem j_if_gt {G : jG} {own : String} {cc : ByteArray} {nL u us pc : Nat} {lv : Nat → Option Value} {st : List Value} {sh : jSh} {mem : jMem} (X : jOk G own cc nL) {x : Int32} {off : Int} (tgt : Nat) (hd : decode cc pc = .ok (.ifCond .gt off, 3)) (ht : (pc : Int) + off = (tgt : Int)) (kt : 0 < x → J G own cc nL u us tgt lv st sh mem) (kf : ¬ 0 < x → J G own cc nL u us (pc + 3) lv st sh mem) : J G own cc nL u us pc lv (.int x :: st) sh mem := by
  obtain ⟨⟨p, l, e, R, s, m, args, below, meth, c, Q⟩, dC, dI, A, n0, ad0⟩ := G
  intro H locs ls ad cy hw hl
  exact lv_if_gt X.1 X.2.1 hd ht (fun q => kt q H locs ls ad cy hw hl) (fun q => kf q H locs ls ad cy hw hl)
theorem j_icmp_gt {G : jG} {own : String} {cc : ByteArray} {nL u us pc : Nat} {lv : Nat → Option Value} {st : List Value} {sh : jSh} {mem : jMem} (X : jOk G own cc nL) {x y : Int32} {off : Int} (tgt : Nat) (hd : decode cc pc = .ok (.if_icmp .gt off, 3)) (ht : (pc : Int) + off = (tgt : Int)) (kt : y < x → J G own cc nL u us tgt lv st sh mem) (kf : ¬ y < x → J G own cc nL u us (pc + 3) lv st sh mem) : J G own cc nL u us pc lv (.int y :: .int x :: st) sh mem := by
  obtain ⟨⟨p, l, e, R, s, m, args, below, meth, c, Q⟩, dC, dI, A, n0, ad0⟩ := G
  intro H locs ls ad cy hw hl
  exact lv_icmp_gt X.1 X.2.1 hd ht (fun q => kt q H locs ls ad cy hw hl) (fun q => kf q H locs ls ad cy hw hl)
theorem j_if_le {G : jG} {own : String} {cc : ByteArray} {nL u us pc : Nat} {lv : Nat → Option Value} {st : List Value} {sh : jSh} {mem : jMem} (X : jOk G own cc nL) {x : Int32} {off : Int} (tgt : Nat) (hd : decode cc pc = .ok (.ifCond .le off, 3)) (ht : (pc : Int) + off = (tgt : Int)) (kt : x ≤ 0 → J G own cc nL u us tgt lv st sh mem) (kf : ¬ x ≤ 0 → J G own cc nL u us (pc + 3) lv st sh mem) : J G own cc nL u us pc lv (.int x :: st) sh mem := by
  obtain ⟨⟨p, l, e, R, s, m, args, below, meth, c, Q⟩, dC, dI, A, n0, ad0⟩ := G
  intro H locs ls ad cy hw hl
  exact lv_if_le X.1 X.2.1 hd ht (fun q => kt q H locs ls ad cy hw hl) (fun q => kf q H locs ls ad cy hw hl)
theorem j_icmp_le {G : jG} {own : String} {cc : ByteArray} {nL u us pc : Nat} {lv : Nat → Option Value} {st : List Value} {sh : jSh} {mem : jMem} (X : jOk G own cc nL) {x y : Int32} {off : Int} (tgt : Nat) (hd : decode cc pc = .ok (.if_icmp .le off, 3)) (ht : (pc : Int) + off = (tgt : Int)) (kt : x ≤ y → J G own cc nL u us tgt lv st sh mem) (kf : ¬ x ≤ y → J G own cc nL u us (pc + 3) lv st sh mem) : J G own cc nL u us pc lv (.int y :: .int x :: st) sh mem := by
  obtain ⟨⟨p, l, e, R, s, m, args, below, meth, c, Q⟩, dC, dI, A, n0, ad0⟩ := G
  intro H locs ls ad cy hw hl
  exact lv_icmp_le X.1 X.2.1 hd ht (fun q => kt q H locs ls ad cy hw hl) (fun q => kf q H locs ls ad cy hw hl)
theorem j_goto {G : jG} {own : String} {cc : ByteArray} {nL u us pc : Nat} {lv : Nat → Option Value} {st : List Value} {sh : jSh} {mem : jMem} (X : jOk G own cc nL)  {off : Int} (tgt : Nat) (hd : decode cc pc = .ok (.goto off, 3)) (ht : (pc : Int) + off = (tgt : Int)) (k : J G own cc nL u us tgt lv st sh mem) : J G own cc nL u us pc lv (st) sh mem := by
  obtain ⟨⟨p, l, e, R, s, m, args, below, meth, c, Q⟩, dC, dI, A, n0, ad0⟩ := G
  intro H locs ls ad cy hw hl
  exact lv_goto X.1 X.2.1 hd ht (k H locs ls ad cy hw hl)
theorem j_ifnullR {G : jG} {own : String} {cc : ByteArray} {nL u us pc : Nat} {lv : Nat → Option Value} {st : List Value} {sh : jSh} {mem : jMem} (X : jOk G own cc nL) {x : Nat} {off : Int} (tgt : Nat) (hd : decode cc pc = .ok (.ifnull off, 3)) (ht : (pc : Int) + off = (tgt : Int)) (k : J G own cc nL u us (pc + 3) lv st sh mem) : J G own cc nL u us pc lv (.ref x :: st) sh mem := by
  obtain ⟨⟨p, l, e, R, s, m, args, below, meth, c, Q⟩, dC, dI, A, n0, ad0⟩ := G
  intro H locs ls ad cy hw hl
  exact lv_ifnull X.1 X.2.1 hd (k H locs ls ad cy hw hl)
theorem j_ifnullN {G : jG} {own : String} {cc : ByteArray} {nL u us pc : Nat} {lv : Nat → Option Value} {st : List Value} {sh : jSh} {mem : jMem} (X : jOk G own cc nL)  {off : Int} (tgt : Nat) (hd : decode cc pc = .ok (.ifnull off, 3)) (ht : (pc : Int) + off = (tgt : Int)) (k : J G own cc nL u us tgt lv st sh mem) : J G own cc nL u us pc lv (.null :: st) sh mem := by
  obtain ⟨⟨p, l, e, R, s, m, args, below, meth, c, Q⟩, dC, dI, A, n0, ad0⟩ := G
  intro H locs ls ad cy hw hl
  exact lv_ifnullN X.1 X.2.1 hd ht (k H locs ls ad cy hw hl)
theorem j_ifnonnullR {G : jG} {own : String} {cc : ByteArray} {nL u us pc : Nat} {lv : Nat → Option Value} {st : List Value} {sh : jSh} {mem : jMem} (X : jOk G own cc nL) {x : Nat} {off : Int} (tgt : Nat) (hd : decode cc pc = .ok (.ifnonnull off, 3)) (ht : (pc : Int) + off = (tgt : Int)) (k : J G own cc nL u us tgt lv st sh mem) : J G own cc nL u us pc lv (.ref x :: st) sh mem := by
  obtain ⟨⟨p, l, e, R, s, m, args, below, meth, c, Q⟩, dC, dI, A, n0, ad0⟩ := G
  intro H locs ls ad cy hw hl
  exact lv_ifnonnull X.1 X.2.1 hd ht (k H locs ls ad cy hw hl)
theorem j_ifnonnullN {G : jG} {own : String} {cc : ByteArray} {nL u us pc : Nat} {lv : Nat → Option Value} {st : List Value} {sh : jSh} {mem : jMem} (X : jOk G own cc nL)  {off : Int} (tgt : Nat) (hd : decode cc pc = .ok (.ifnonnull off, 3)) (ht : (pc : Int) + off = (tgt : Int)) (k : J G own cc nL u us (pc + 3) lv st sh mem) : J G own cc nL u us pc lv (.null :: st) sh mem := by
  obtain ⟨⟨p, l, e, R, s, m, args, below, meth, c, Q⟩, dC, dI, A, n0, ad0⟩ := G
  intro H locs ls ad cy hw hl
  exact lv_ifnonnullN X.1 X.2.1 hd (k H locs ls ad cy hw hl)
theorem j_tabIn {G : jG} {own : String} {cc : ByteArray} {nL u us pc : Nat} {lv : Nat → Option Value} {st : List Value} {sh : jSh} {mem : jMem} (X : jOk G own cc nL) {dflt lo hi : Int} {offs : Array Int} {len : Nat} {x : Int32} {off : Int} (tgt : Nat) (hd : decode cc pc = .ok (.tableswitch dflt lo hi offs, len)) (h1 : ¬ x.toInt < lo) (h2 : ¬ hi < x.toInt) (ho : offs[(x.toInt - lo).toNat]? = some off) (ht : (pc : Int) + off = (tgt : Int)) (k : J G own cc nL u us tgt lv st sh mem) : J G own cc nL u us pc lv (.int x :: st) sh mem := by
  obtain ⟨⟨p, l, e, R, s, m, args, below, meth, c, Q⟩, dC, dI, A, n0, ad0⟩ := G
  intro H locs ls ad cy hw hl
  exact lv_tableIn X.1 X.2.1 hd h1 h2 ho ht (k H locs ls ad cy hw hl)
theorem j_tabOut {G : jG} {own : String} {cc : ByteArray} {nL u us pc : Nat} {lv : Nat → Option Value} {st : List Value} {sh : jSh} {mem : jMem} (X : jOk G own cc nL) {dflt lo hi : Int} {offs : Array Int} {len : Nat} {x : Int32} (tgt : Nat) (hd : decode cc pc = .ok (.tableswitch dflt lo hi offs, len)) (h : x.toInt < lo ∨ hi < x.toInt) (ht : (pc : Int) + dflt = (tgt : Int)) (k : J G own cc nL u us tgt lv st sh mem) : J G own cc nL u us pc lv (.int x :: st) sh mem := by
  obtain ⟨⟨p, l, e, R, s, m, args, below, meth, c, Q⟩, dC, dI, A, n0, ad0⟩ := G
  intro H locs ls ad cy hw hl
  exact lv_tableOut X.1 X.2.1 hd h ht (k H locs ls ad cy hw hl)
theorem j_less {G : jG} {own : String} {cc : ByteArray} {nL u us pc : Nat} {lv : Nat → Option Value} {st : List Value} {sh : jSh} {mem : jMem} (lv2 : Nat → Option Value) (h : ∀ i v, lv2 i = some v → lv i = some v) (k : J G own cc nL u us pc lv2 st sh mem) : J G own cc nL u us pc lv st sh mem := by
  obtain ⟨⟨p, l, e, R, s, m, args, below, meth, c, Q⟩, dC, dI, A, n0, ad0⟩ := G
  intro H locs ls ad cy hw hl
  exact k H locs ls ad cy hw (jlo_less hl h)
