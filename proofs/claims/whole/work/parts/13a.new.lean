/-! NEW CELLS: the picture grows at its end -/
theorem jws_extK {ad ad' : Nat → Nat} {cy cy' : Nat → ClassId} {sh : jSh} {mem : jMem} {k : Nat} (ha : ∀ i, i < sh.1 → ad' i = ad i) (hc : ∀ i, i < sh.1 → cy' i = cy i) (hs : jSok sh) : jws ad' cy' (sh.1 + k, sh.2) mem = jws ad cy sh mem ++ (List.range k).map (fun j => (ad' (sh.1 + j), jce ad' cy' sh mem (sh.1 + j))) := by
  unfold jws
  show (List.range (sh.1 + k)).map (fun i => (ad' i, jce ad' cy' (sh.1 + k, sh.2) mem i)) = _
  rw [List.range_add, List.map_append, List.map_map]
  have e1 : (List.range sh.1).map (fun i => (ad' i, jce ad' cy' (sh.1 + k, sh.2) mem i)) = (List.range sh.1).map (fun i => (ad i, jce ad cy sh mem i)) := by
    refine List.map_congr_left fun i hi => ?_
    have hi := List.mem_range.mp hi
    have hp : ∀ j, (sh.2.2.2 i j).map ad' = (sh.2.2.2 i j).map ad := fun j => by
      cases hq : sh.2.2.2 i j with
      | none => rfl
      | some t => exact congrArg some (ha t (hs.2 i j t hi hq))
    have he : jce ad' cy' (sh.1 + k, sh.2) mem i = jce ad cy sh mem i := by
      unfold jce jfl
      simp only [hp, hc i hi]
    rw [ha i hi, he]
  rw [e1]
  rfl
theorem jAg_new {n k : Nat} {ad ad' : Nat → Nat} (h : ∀ i, i < n ∨ jB ≤ i → ad' i = ad i) (hk : 0 < k) : jAg n (n + k) ad ad' := ⟨h, by omega, fun e => absurd e (by omega)⟩
theorem jHp_grow {s : State} {dC : Nat → ClassId} {dI : Nat → Nat → Nat} {A : Nat → Prop} {n0 : Nat} {ad0 : Nat → Nat} {sh : jSh} {mem : jMem} {H H1 : Heap} {locs locs1 : List Loc} {ad ad' : Nat → Nat} {cy cy' : Nat → ClassId} {k : Nat} (hw : jHp s dC dI A n0 ad0 sh mem H locs ad cy) (hk : 0 < k) (hB : sh.1 + k ≤ jB) (ha : ∀ i, i < sh.1 ∨ jB ≤ i → ad' i = ad i) (hc : ∀ i, i < sh.1 → cy' i = cy i) (hpt : ∀ i j t, sh.1 ≤ i → i < sh.1 + k → sh.2.2.2 i j = some t → t < sh.1 + k)
    (hP : va_P (dC, dI) vwCl (jws ad' cy' (sh.1 + k, sh.2) mem) H1) (hD : va_D A (jws ad' cy' (sh.1 + k, sh.2) mem)) (hS : va_S A s.heap H1 locs1) (hK : ∀ i, sh.1 ≤ i → i < sh.1 + k → 12 ≤ sh.2.1 i → va_K (dC, dI) vwCl [(cy' i, jty (sh.2.1 i))] s) : jHp s dC dI A n0 ad0 (sh.1 + k, sh.2) mem H1 locs1 ad' cy' := by
  refine ⟨hP, hD, hS, fun i hi h12 => ?_, hw.2.2.2.2.1.tr (jAg_new ha hk), hB, fun i j t hi ht => ?_⟩
  · rcases Nat.lt_or_ge i sh.1 with q | q
    · rw [hc i q]; exact hw.2.2.2.1 i q h12
    · exact hK i q hi h12
  · rcases Nat.lt_or_ge i sh.1 with q | q
    · have := hw.2.2.2.2.2.2 i j t q ht
      show t < sh.1 + k
      omega
    · exact hpt i j t q hi ht
def jok (n : Nat) (v : Value) : Prop := ∀ t, v = .ref t → t < n ∨ jB ≤ t
theorem jvo_l {n : Nat} {l : List (Option Value)} {st : List Value} (h : ∀ v, some v ∈ l → jok n v) (h2 : ∀ v ∈ st, jok n v) : jvo n (jlv l) st := by
  refine ⟨fun i t hv => ?_, fun t ht => h2 _ ht t rfl⟩
  unfold jlv at hv
  cases hq : l[i]? with
  | none => rw [hq] at hv; cases hv
  | some o =>
    rw [hq] at hv
    have e : o = some (.ref t) := hv
    rw [e] at hq
    exact h _ (List.mem_of_getElem? hq) t rfl
theorem jok_i {n : Nat} {x : Int32} : jok n (.int x) := fun _ h => by cases h
theorem jok_r {n t : Nat} (h : t < n ∨ jB ≤ t) : jok n (.ref t) := fun _ e => by cases e; exact h
def jokB (n : Nat) : Value → Bool
  | .ref t => decide (t < n ∨ jB ≤ t)
  | _ => true
theorem jokB_ok {n : Nat} {v : Value} (h : jokB n v = true) : jok n v := fun t e => by
  subst e
  exact of_decide_eq_true h
theorem jvo_b {n : Nat} {l : List (Option Value)} {st : List Value} (h : l.all (fun o => match o with | some v => jokB n v | none => true) = true) (h2 : st.all (jokB n) = true) : jvo n (jlv l) st := by
  refine jvo_l (fun v hv => jokB_ok ?_) (fun v hv => jokB_ok (List.all_eq_true.mp h2 v hv))
  have := List.all_eq_true.mp h (some v) hv
  exact this
section JNEW
variable {G : jG} {own : String} {cc : ByteArray} {nL u us pc : Nat} {lv : Nat → Option Value} {st : List Value} {sh : jSh} {mem : jMem} {dd RC RS idx N : Nat}
theorem j_widen {u' us' : Nat} (hu : u ≤ u') (hus : us ≤ us') (k : J G own cc nL u' us' pc lv st sh mem) : J G own cc nL u us pc lv st sh mem := by
  obtain ⟨⟨p, l, e, R, s, m, args, below, meth, c, Q⟩, dC, dI, A, n0, ad0⟩ := G
  intro H locs ls ad cy hw hl
  exact W.widen hu hus (k H locs ls ad cy hw hl)
/-- another picture of the same cells -/
theorem j_shape (sh2 : jSh) (mem2 : jMem) (h1 : sh2.1 = sh.1) (h2 : ∀ i, i < sh.1 → sh2.2.1 i = sh.2.1 i ∧ sh2.2.2.1 i = sh.2.2.1 i ∧ (∀ j, sh2.2.2.2 i j = sh.2.2.2 i j) ∧ mem2 i = mem i) (k : J G own cc nL u us pc lv st sh2 mem2) : J G own cc nL u us pc lv st sh mem := by
  obtain ⟨⟨p, l, e, R, s, m, args, below, meth, c, Q⟩, dC, dI, A, n0, ad0⟩ := G
  intro H locs ls ad cy hw hl
  have ew : jws ad cy sh2 mem2 = jws ad cy sh mem := by
    unfold jws
    rw [h1]
    refine List.map_congr_left fun i hi => ?_
    obtain ⟨a1, a2, a3, a4⟩ := h2 i (List.mem_range.mp hi)
    have he : jce ad cy sh2 mem2 i = jce ad cy sh mem i := by
      unfold jce jfl
      simp only [a1, a2, a3, a4]
    rw [he]
  obtain ⟨b1, b2, b3, b4, b5, b6⟩ := hw
  refine k H locs ls ad cy ⟨by rw [ew]; exact b1, by rw [ew]; exact b2, b3, fun i hi h12 => ?_, by rw [h1]; exact b5, by rw [h1]; exact b6.1, fun i j t hi ht => ?_⟩ hl
  · rw [h1] at hi
    rw [(h2 i hi).1] at h12 ⊢
    exact b4 i hi h12
  · rw [h1] at hi ⊢
    rw [(h2 i hi).2.2.1] at ht
    exact b6.2 i j t hi ht
theorem j_new1 {s : State} {dC : Nat → ClassId} {dI : Nat → Nat → Nat} {A : Nat → Prop} {n0 : Nat} {ad0 : Nat → Nat} {H H1 : Heap} {locs : List Loc} {ad : Nat → Nat} {cy : Nat → ClassId} {q : Nat} {cA : ClassId} {el : va_E} (hw : jHp s dC dI A n0 ad0 sh mem H locs ad cy) (hB : sh.1 + 1 ≤ jB) (hp : sh.2.2.2 sh.1 = fun _ => none)
    (hel : jce (va_up ad sh.1 q) (va_up cy sh.1 cA) sh mem sh.1 = el) (hP : va_P (dC, dI) vwCl (jws ad cy sh mem ++ [(q, el)]) H1) (hD : va_D A (jws ad cy sh mem ++ [(q, el)])) (hS : va_S A s.heap H1 locs) (hK : 12 ≤ sh.2.1 sh.1 → va_K (dC, dI) vwCl [(cA, jty (sh.2.1 sh.1))] s) : jHp s dC dI A n0 ad0 (sh.1 + 1, sh.2) mem H1 locs (va_up ad sh.1 q) (va_up cy sh.1 cA) := by
  have hjB : jB = 1000000 := rfl
  have ha : ∀ i, i < sh.1 ∨ jB ≤ i → va_up ad sh.1 q i = ad i := fun i hi => if_neg (by omega)
  have hc : ∀ i, i < sh.1 → va_up cy sh.1 cA i = cy i := fun i hi => if_neg (by omega)
  have ew : jws (va_up ad sh.1 q) (va_up cy sh.1 cA) (sh.1 + 1, sh.2) mem = jws ad cy sh mem ++ [(q, el)] := by
    rw [jws_extK (k := 1) (fun i hi => ha i (Or.inl hi)) hc hw.2.2.2.2.2]
    show _ ++ [(va_up ad sh.1 q (sh.1 + 0), jce (va_up ad sh.1 q) (va_up cy sh.1 cA) sh mem (sh.1 + 0))] = _
    rw [Nat.add_zero, hel, va_up_self]
  refine jHp_grow hw (by omega) hB ha hc (fun i j t h1 h2 ht => ?_) (by rw [ew]; exact hP) (by rw [ew]; exact hD) hS (fun i h1 h2 h12 => ?_)
  · obtain rfl : i = sh.1 := by omega
    rw [hp] at ht
    cases ht
  · obtain rfl : i = sh.1 := by omega
    rw [va_up_self]
    exact hK h12
theorem j_new1s {ad : Nat → Nat} {q : Nat} (hB : sh.1 + 1 ≤ jB) (hv : jvo sh.1 lv st) : (Value.ref sh.1 :: st).map (jv (va_up ad sh.1 q)) = .ref q :: st.map (jv ad) := by
  have hjB : jB = 1000000 := rfl
  have hg : jAg sh.1 (sh.1 + 1) ad (va_up ad sh.1 q) := jAg_new (fun i hi => if_neg (by omega)) (by omega)
  rw [List.map_cons, jvo_st hg (Or.inr hv)]
  show Value.ref (va_up ad sh.1 q sh.1) :: _ = _
  rw [va_up_self]
theorem j_new1l {ad : Nat → Nat} {q : Nat} {ls : Array Slot} (hB : sh.1 + 1 ≤ jB) (hv : jvo sh.1 lv st) (hl : jlo ls nL ad lv) : jlo ls nL (va_up ad sh.1 q) lv := by
  have hjB : jB = 1000000 := rfl
  exact jvo_lo (jAg_new (k := 1) (fun i hi => if_neg (by omega)) (by omega) : jAg sh.1 (sh.1 + 1) ad (va_up ad sh.1 q)) (Or.inr hv) hl
theorem j_newI (X : jOk G own cc nL) (hR : jRm G dd RC RS) (hu : u + 1 ≤ RC) (hus : us + N ≤ RS) (hk : sh.2.1 sh.1 = 13) (hl0 : sh.2.2.1 sh.1 = N) (hp : sh.2.2.2 sh.1 = fun _ => none) (hm : mem sh.1 = fun _ => 0) (hB : sh.1 + 1 ≤ jB) (hN : N ≤ 1000) (hv : jvo sh.1 lv st) (hd : decode cc pc = .ok (.newarray .int, 2)) (kk : J G own cc nL (u + 1) (us + N) (pc + 2) lv (.ref sh.1 :: st) (sh.1 + 1, sh.2) mem) : J G own cc nL u us pc lv (.int (nI N) :: st) sh mem := by
  obtain ⟨⟨p, l, e, R, s, m, args, below, meth, c, Q⟩, dC, dI, A, n0, ad0⟩ := G
  intro H locs ls ad cy hw hl
  refine va_newa (atype := .int) (ty := .int) (N' := N) (a0 := (N, .inl (fun _ => 0))) X.1 X.2.1 (X.2.2.2.2.1 _ u52) rfl X.2.2.2.2.2.2.1 hw.1 hw.2.1 hw.2.2.1 X.2.2.2.2.2.1 (fun cA => rfl) (nI_pos (by omega)) (nI_clamp (by omega)) (by show N * 4 ≤ _; omega) (Nat.le_trans hu hR.2.2.1) (Nat.le_trans hus hR.2.2.2) hd (fun q cA H1 hK1 hP1 hD1 hS1 => ?_)
  have hx := kk H1 locs ls (va_up ad sh.1 q) (va_up cy sh.1 cA) (j_new1 hw hB hp (by rw [jce_i hk (by decide) (by decide), hl0, hm, va_up_self]) hP1 hD1 hS1 (fun _ => by rw [hk]; exact hK1)) (j_new1l hB hv hl)
  rw [j_new1s hB hv] at hx
  exact hx
theorem j_newB (X : jOk G own cc nL) (hR : jRm G dd RC RS) (hu : u + 1 ≤ RC) (hus : us + N ≤ RS) (hk : sh.2.1 sh.1 = 12) (hl0 : sh.2.2.1 sh.1 = N) (hp : sh.2.2.2 sh.1 = fun _ => none) (hm : mem sh.1 = fun _ => 0) (hB : sh.1 + 1 ≤ jB) (hN : N ≤ 1000) (hv : jvo sh.1 lv st) (hd : decode cc pc = .ok (.newarray .byte, 2)) (kk : J G own cc nL (u + 1) (us + N) (pc + 2) lv (.ref sh.1 :: st) (sh.1 + 1, sh.2) mem) : J G own cc nL u us pc lv (.int (nI N) :: st) sh mem := by
  obtain ⟨⟨p, l, e, R, s, m, args, below, meth, c, Q⟩, dC, dI, A, n0, ad0⟩ := G
  intro H locs ls ad cy hw hl
  refine va_newa (atype := .byte) (ty := .byte) (N' := N) (a0 := (N, .inl (fun _ => 0))) X.1 X.2.1 (X.2.2.2.2.1 _ u163) rfl X.2.2.2.2.2.2.1 hw.1 hw.2.1 hw.2.2.1 X.2.2.2.2.2.1 (fun cA => rfl) (nI_pos (by omega)) (nI_clamp (by omega)) (by show N * 1 ≤ _; omega) (Nat.le_trans hu hR.2.2.1) (Nat.le_trans hus hR.2.2.2) hd (fun q cA H1 hK1 hP1 hD1 hS1 => ?_)
  have hx := kk H1 locs ls (va_up ad sh.1 q) (va_up cy sh.1 cA) (j_new1 hw hB hp (by rw [jce_i hk (by decide) (by decide), hl0, hm, va_up_self]) hP1 hD1 hS1 (fun _ => by rw [hk]; exact hK1)) (j_new1l hB hv hl)
  rw [j_new1s hB hv] at hx
  exact hx
theorem j_newP (X : jOk G RX10 cc nL) (hR : jRm G dd RC RS) (hu : u + 1 ≤ RC) (hus : us + N ≤ RS) (hk : sh.2.1 sh.1 = 14) (hl0 : sh.2.2.1 sh.1 = N) (hp : sh.2.2.2 sh.1 = fun _ => none) (hB : sh.1 + 1 ≤ jB) (hN : N ≤ 1000) (hv : jvo sh.1 lv st) (hd : decode cc pc = .ok (.anewarray 23, 3)) (kk : J G RX10 cc nL (u + 1) (us + N) (pc + 3) lv (.ref sh.1 :: st) (sh.1 + 1, sh.2) mem) : J G RX10 cc nL u us pc lv (.int (nI N) :: st) sh mem := by
  obtain ⟨⟨p, l, e, R, s, m, args, below, meth, c, Q⟩, dC, dI, A, n0, ad0⟩ := G
  intro H locs ls ad cy hw hl
  refine va_newq (C := RX6) (N' := N) X.1 X.2.1 X.2.2.2.1 (X.2.2.2.2.1 _ u80) X.2.2.2.2.2.2.2.1.2.2.1 X.2.2.2.2.2.2.1 hw.1 hw.2.1 hw.2.2.1 X.2.2.2.2.2.1 (nI_pos (by omega)) (nI_clamp (by omega)) (by omega) (Nat.le_trans hu hR.2.2.1) (Nat.le_trans hus hR.2.2.2) hd (fun q cA H1 hK1 hP1 hD1 hS1 => ?_)
  have hx := kk H1 locs ls (va_up ad sh.1 q) (va_up cy sh.1 cA) (j_new1 hw hB hp (by rw [jce_r hk (by decide), hl0, hp, va_up_self]; rfl) hP1 hD1 hS1 (fun _ => by rw [hk]; exact hK1)) (j_new1l hB hv hl)
  rw [j_new1s hB hv] at hx
  exact hx
theorem jdv : ∀ ci, ci < 12 → ∀ j, j < jN ci → (jR ci j = true ∨ jTy ci j = .int ∨ jTy ci j = .boolean) := by decide +kernel
theorem jdf {ad : Nat → Nat} {ci j : Nat} (hc : ci < 12) (hj : j < jN ci) : defaultValue (jTy ci j) = vp_V (jfl ad ci (fun _ => none) (fun _ => 0)) j := by
  unfold vp_V
  rw [List.getD_eq_getElem?_getD, jfl_at hj]
  show _ = if jR ci j = true then Value.null else .int 0
  rcases jdv ci hc j hj with h | h | h
  · rw [if_pos h]
    unfold jR at h
    cases hty : jTy ci j <;> rw [hty] at h <;> first | rfl | (exact absurd h (by decide))
  · have : ¬ jR ci j = true := by unfold jR; rw [h]; decide
    rw [if_neg this, h]; rfl
  · have : ¬ jR ci j = true := by unfold jR; rw [h]; decide
    rw [if_neg this, h]; rfl
theorem j_newO (X : jOk G own cc nL) (hR : jRm G dd RC RS) (ci : Nat) (hci : ci < 12) (hcl : Cond.classLink own idx (jC ci) ∈ jW) (hin : Cond.instantiable (jC ci) (jN ci) ∈ jW) (hini : Cond.initialized (jC ci) ∈ jW) (hu : u + 1 ≤ RC) (hus : us + jN ci ≤ RS) (hk : sh.2.1 sh.1 = ci) (hp : sh.2.2.2 sh.1 = fun _ => none) (hm : mem sh.1 = fun _ => 0) (hB : sh.1 + 1 ≤ jB) (hv : jvo sh.1 lv st) (hd : decode cc pc = .ok (.new idx, 3)) (kk : J G own cc nL (u + 1) (us + jN ci) (pc + 3) lv (.ref sh.1 :: st) (sh.1 + 1, sh.2) mem) : J G own cc nL u us pc lv st sh mem := by
  obtain ⟨⟨p, l, e, R, s, m, args, below, meth, c, Q⟩, dC, dI, A, n0, ad0⟩ := G
  intro H locs ls ad cy hw hl
  refine va_new (C := jC ci) (T := jT ci) (N := jN ci) (ci := ci) (fs := jfl ad ci (fun _ => none) (fun _ => 0)) X.1 X.2.1 X.2.2.2.2.1 (jil hci) (jTy ci) (jty_ok hci) X.2.2.2.1 (X.2.2.2.2.1 _ hcl) (X.2.2.2.2.1 _ hin) (X.2.2.2.2.1 _ hini) X.2.2.2.2.2.2.1 hw.1 hw.2.1 hw.2.2.1 X.2.2.2.2.2.1 (jcl hci) (fun j hj => jdf hci hj) (Nat.le_trans hu hR.2.2.1) (Nat.le_trans hus hR.2.2.2) hd (fun q H1 hP1 hD1 hS1 => ?_)
  have hx := kk H1 locs ls (va_up ad sh.1 q) (va_up cy sh.1 (cy 0)) (j_new1 hw hB hp (by rw [jce_o hk hci, hp, hm]; rfl) hP1 hD1 hS1 (fun h => by rw [hk] at h; omega)) (j_new1l hB hv hl)
  rw [j_new1s hB hv] at hx
  exact hx
theorem j_newM {K : Nat} (X : jOk G own cc nL) (hR : jRm G dd RC RS) (hcl : Cond.classLink own idx "[[I" ∈ jW) (hu : u + (1 + N) ≤ RC) (hus : us + (N + N * K) ≤ RS) (hk : sh.2.1 sh.1 = 15) (hl0 : sh.2.2.1 sh.1 = N) (hp : ∀ j, sh.2.2.2 sh.1 j = if j < N then some (sh.1 + 1 + j) else none) (hrow : ∀ j, j < N → sh.2.1 (sh.1 + 1 + j) = 13 ∧ sh.2.2.1 (sh.1 + 1 + j) = K ∧ sh.2.2.2 (sh.1 + 1 + j) = (fun _ => none) ∧ mem (sh.1 + 1 + j) = fun _ => 0) (hB : sh.1 + (1 + N) ≤ jB) (hN : N ≤ 1000) (hK9 : K ≤ 1000) (hv : jvo sh.1 lv st) (hd : decode cc pc = .ok (.multianewarray idx 2, 4)) (kk : J G own cc nL (u + 1 + N) (us + N + N * K) (pc + 4) lv (.ref sh.1 :: st) (sh.1 + (1 + N), sh.2) mem) : J G own cc nL u us pc lv (.int (nI K) :: .int (nI N) :: st) sh mem := by
  obtain ⟨⟨p, l, e, R, s, m, args, below, meth, c, Q⟩, dC, dI, A, n0, ad0⟩ := G
  intro H locs ls ad cy hw hl
  obtain ⟨comp, kC, c9, hcomp, hkC, hkind⟩ := Cond.arrayClass_spec (X.2.2.2.2.1 _ u52)
  have hjB : jB = 1000000 := rfl
  refine va_mna (X := jws ad cy sh mem) (L := []) (f := fun _ => .inr (0, [])) (ty := .int) (cy := comp) (N' := N) (K' := K) (z := (K, .inl (fun _ => 0))) X.1 X.2.1 X.2.2.2.1 (X.2.2.2.2.1 _ hcl) X.2.2.2.2.2.2.2.1.2.1 (X.2.2.2.2.1 _ u52) hcomp X.2.2.2.2.2.2.1 (by show va_P _ _ (_ ++ []) _; rw [List.append_nil]; exact hw.1) (by show va_D _ (_ ++ []); rw [List.append_nil]; exact hw.2.1) hw.2.2.1 X.2.2.2.2.2.1 (nI_pos (by omega)) (nI_pos (by omega)) (nI_clamp (by omega)) (nI_clamp (by omega)) (by omega) (by show K * 4 ≤ _; omega) (by omega) rfl rfl (Nat.le_trans hu hR.2.2.1) (Nat.le_trans hus hR.2.2.2) (fun c => by show (_ : Cell) = arrV c K (fun _ => .int 0); exact arrV_new c K (.int 0)) hd (fun q r cA H1 hinj hnot hK1 hP1 hD1 hS1 => ?_)
  let ad' : Nat → Nat := fun i => if i = sh.1 then q else if sh.1 < i ∧ i < sh.1 + 1 + N then r (i - (sh.1 + 1)) else ad i
  let cy' : Nat → ClassId := fun i => if i = sh.1 then cA else if sh.1 < i ∧ i < sh.1 + 1 + N then comp else cy i
  have ha : ∀ i, i < sh.1 ∨ jB ≤ i → ad' i = ad i := fun i hi => by
    show (if i = sh.1 then q else if sh.1 < i ∧ i < sh.1 + 1 + N then r (i - (sh.1 + 1)) else ad i) = ad i
    rw [if_neg (by omega), if_neg (by omega)]
  have hc : ∀ i, i < sh.1 → cy' i = cy i := fun i hi => by
    show (if i = sh.1 then cA else if sh.1 < i ∧ i < sh.1 + 1 + N then comp else cy i) = cy i
    rw [if_neg (by omega), if_neg (by omega)]
  have a0 : ad' sh.1 = q := if_pos rfl
  have c0 : cy' sh.1 = cA := if_pos rfl
  have a1 : ∀ j, j < N → ad' (sh.1 + 1 + j) = r j := fun j hj => by
    show (if sh.1 + 1 + j = sh.1 then q else if sh.1 < sh.1 + 1 + j ∧ sh.1 + 1 + j < sh.1 + 1 + N then r (sh.1 + 1 + j - (sh.1 + 1)) else ad (sh.1 + 1 + j)) = r j
    rw [if_neg (by omega), if_pos (by omega), Nat.add_sub_cancel_left]
  have c1 : ∀ j, j < N → cy' (sh.1 + 1 + j) = comp := fun j hj => by
    show (if sh.1 + 1 + j = sh.1 then cA else if sh.1 < sh.1 + 1 + j ∧ sh.1 + 1 + j < sh.1 + 1 + N then comp else cy (sh.1 + 1 + j)) = comp
    rw [if_neg (by omega), if_pos (by omega)]
  have e0 : jce ad' cy' sh mem sh.1 = .inl (cA, N, .inr (.inr (.inr (.inr (fun i => if i < N then some (r i) else none))))) := by
    rw [jce_r hk (by decide), hl0, c0]
    congr 7
    funext j
    rw [hp j]
    by_cases hj : j < N
    · rw [if_pos hj, if_pos hj]; exact congrArg some (a1 j hj)
    · rw [if_neg hj, if_neg hj]; rfl
  have e1 : ∀ j, j < N → jce ad' cy' sh mem (sh.1 + 1 + j) = .inl (comp, (K, .inl (fun _ => 0))) := fun j hj => by
    obtain ⟨h1, h2, h3, h4⟩ := hrow j hj
    rw [jce_i h1 (by decide) (by decide), h2, h4, c1 j hj]
  have ew : jws ad' cy' (sh.1 + (1 + N), sh.2) mem = (jws ad cy sh mem ++ [(q, .inl (cA, N, .inr (.inr (.inr (.inr (fun i => if i < N then some (r i) else none))))))]) ++ va_pl ([] ++ (List.range N).map r) (vr_up (fun _ => .inr (0, [])) ((List.range N).map r) (.inl (comp, (K, .inl (fun _ => 0))))) := by
    rw [jws_extK (k := 1 + N) (fun i hi => ha i (Or.inl hi)) hc hw.2.2.2.2.2, List.range_add, List.map_append, List.append_assoc]
    congr 1
    have f1 : (List.range 1).map (fun j => (ad' (sh.1 + j), jce ad' cy' sh mem (sh.1 + j))) = [(q, .inl (cA, N, .inr (.inr (.inr (.inr (fun i => if i < N then some (r i) else none))))))] := by
      show [(ad' (sh.1 + 0), jce ad' cy' sh mem (sh.1 + 0))] = _
      rw [Nat.add_zero, a0, e0]
    rw [f1]
    congr 1
    rw [← vr_rows (L := []) (fun a _ => List.not_mem_nil)]
    show _ = [] ++ _
    rw [List.nil_append, List.map_map, List.map_map]
    refine List.map_congr_left fun j hj => ?_
    have hj := List.mem_range.mp hj
    show (ad' (sh.1 + (1 + j)), jce ad' cy' sh mem (sh.1 + (1 + j))) = (r j, _)
    rw [show sh.1 + (1 + j) = sh.1 + 1 + j by omega, a1 j hj, e1 j hj]
  have hx := kk H1 locs ls ad' cy' (jHp_grow hw (by omega) hB ha hc (fun i j t h1 h2 ht => by
    rcases Nat.eq_or_lt_of_le h1 with q9 | q9
    · rw [← q9, hp j] at ht
      by_cases hj : j < N
      · rw [if_pos hj] at ht; cases ht; omega
      · rw [if_neg hj] at ht; cases ht
    · obtain ⟨y, rfl⟩ : ∃ y, i = sh.1 + 1 + y := ⟨i - (sh.1 + 1), by omega⟩
      rw [(hrow y (by omega)).2.2.1] at ht
      cases ht) (by rw [ew]; exact hP1) (by rw [ew]; exact hD1) hS1 (fun i h1 h2 h12 => by
    rcases Nat.eq_or_lt_of_le h1 with q9 | q9
    · rw [← q9, c0, hk]; exact hK1
    · obtain ⟨y, rfl⟩ : ∃ y, i = sh.1 + 1 + y := ⟨i - (sh.1 + 1), by omega⟩
      rw [c1 y (by omega), (hrow y (by omega)).1]
      refine ⟨X.2.2.2.2.2.2.1.1, fun k x hx => ?_⟩
      have hz : k < 1 := (List.getElem?_eq_some_iff.mp hx).1
      obtain rfl : k = 0 := by omega
      cases hx
      exact ⟨fun n z => ⟨fun k h => (by cases h), kC, hkC, c9, hkind⟩, hcomp⟩)) (jvo_lo (jAg_new (k := 1 + N) ha (by omega)) (Or.inr hv) hl)
  have es : (Value.ref sh.1 :: st).map (jv ad') = .ref q :: st.map (jv ad) := by
    rw [List.map_cons, jvo_st (jAg_new (k := 1 + N) ha (by omega)) (Or.inr hv)]
    show Value.ref (ad' sh.1) :: _ = _
    rw [a0]
  rw [es] at hx
  exact hx
theorem j_objI {o : Nat} (X : jOk G own cc nL) (hR : jRm G dd RC RS) (hdd : 1 ≤ dd) (hlk : Cond.methodLink own idx Lib.objectInit ∈ jW) (hW : (st.map fun v => v.category).sum ≤ 8) (hd : decode cc pc = .ok (.invokespecial idx, 3)) (kk : J G own cc nL u us (pc + 3) lv st sh mem) : J G own cc nL u us pc lv (.ref o :: st) sh mem := by
  obtain ⟨⟨p, l, e, R, s, m, args, below, meth, c, Q⟩, dC, dI, A, n0, ad0⟩ := G
  intro H locs ls ad cy hw hl
  have h1 := hR.1
  have h2 := hR.2.1
  exact W.objInit X.1 X.2.1 X.2.2.2.1 (X.2.2.2.2.1 _ hlk) (X.2.2.2.2.1 _ u27) (X.2.2.2.2.1 _ u28) rfl (hl.1.trans X.2.2.1.symm) rfl hd (by omega) (by show 2 * 0 + ((st.map (jv ad)).map fun v => v.category).sum + 12 ≤ _; rw [j_cat_sum]; omega) (kk H locs ls ad cy hw hl)
end JNEW
