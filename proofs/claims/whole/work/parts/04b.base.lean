/-! THE PICTURE: a memory of numbered cells. 'jSh': how many cells, the kind of each (0 to 11 an object of vwCl, 12 bytes, 13 ints, 14 papers, 15 rows of ints), its length, its references; 'jMem': its ints. 'ad' tells where a cell lies; numbers from jB on are cells that nobody writes (texts, LIMITS). -/
abbrev jMem : Type := Nat → Nat → Int32
abbrev jSh : Type := Nat × (Nat → Nat) × (Nat → Nat) × (Nat → Nat → Option Nat)
def jB : Nat := 1000000
def jv (ad : Nat → Nat) : Value → Value
  | .ref i => .ref (ad i)
  | v => v
theorem jv_cat (ad : Nat → Nat) (v : Value) : (jv ad v).category = v.category := by cases v <;> rfl
theorem jv_rf (ad : Nat → Nat) (r : Option Nat) : jv ad (va_rf r) = va_rf (r.map ad) := by cases r <;> rfl
def jT : Nat → u_T
  | 0 => TX0 | 1 => TX1 | 2 => TX2 | 3 => TX3 | 4 => TX4 | 5 => TX5 | 6 => TX6 | 7 => TX7 | 8 => TX8 | 9 => TX9 | 10 => TX10 | _ => TX11
def jTy : Nat → Nat → FieldType
  | 0 => tyX0 | 1 => tyX1 | 2 => tyX2 | 3 => tyX3 | 4 => tyX4 | 5 => tyX5 | 6 => tyX6 | 7 => tyX7 | 8 => tyX8 | 9 => tyX9 | 10 => tyX10 | _ => tyX11
def jC : Nat → String
  | 0 => RX0 | 1 => RX1 | 2 => RX2 | 3 => RX3 | 4 => RX4 | 5 => RX5 | 6 => RX6 | 7 => RX7 | 8 => RX8 | 9 => RX9 | 10 => RX10 | _ => RX11
def jN : Nat → Nat
  | 0 => 2 | 1 => 2 | 2 => 2 | 3 => 6 | 4 => 6 | 5 => 5 | 6 => 8 | 7 => 3 | 8 => 3 | 9 => 9 | 10 => 15 | _ => 42
def jR (k j : Nat) : Bool := (jTy k j).isReference
theorem jcl {ci : Nat} (h : ci < 12) : vwCl[ci]? = some (jC ci, jT ci, jN ci) := by
  rcases (show ci = 0 ∨ ci = 1 ∨ ci = 2 ∨ ci = 3 ∨ ci = 4 ∨ ci = 5 ∨ ci = 6 ∨ ci = 7 ∨ ci = 8 ∨ ci = 9 ∨ ci = 10 ∨ ci = 11 by omega) with rfl | rfl | rfl | rfl | rfl | rfl | rfl | rfl | rfl | rfl | rfl | rfl <;> rfl
def jty : Nat → FieldType
  | 12 => .byte | 13 => .int | 14 => .object RX6 | _ => .array .int
def jfl (ad : Nat → Nat) (k : Nat) (pt : Nat → Option Nat) (f : Nat → Int32) : List Value := (List.range (jN k)).map (fun j => if jR k j = true then va_rf ((pt j).map ad) else .int (f j))
def jce (ad : Nat → Nat) (cy : Nat → ClassId) (sh : jSh) (mem : jMem) (i : Nat) : va_E :=
  if sh.2.1 i < 12 then .inr (sh.2.1 i, jfl ad (sh.2.1 i) (sh.2.2.2 i) (mem i))
  else if sh.2.1 i < 14 then .inl (cy i, sh.2.2.1 i, .inl (mem i))
  else .inl (cy i, sh.2.2.1 i, .inr (.inr (.inr (.inr (fun j => (sh.2.2.2 i j).map ad)))))
def jws (ad : Nat → Nat) (cy : Nat → ClassId) (sh : jSh) (mem : jMem) : va_W := (List.range sh.1).map (fun i => (ad i, jce ad cy sh mem i))
theorem jws_get {ad : Nat → Nat} {cy : Nat → ClassId} {sh : jSh} {mem : jMem} {i : Nat} (h : i < sh.1) : (jws ad cy sh mem)[i]? = some (ad i, jce ad cy sh mem i) := by
  unfold jws
  rw [List.getElem?_map, List.getElem?_range h]
  rfl
theorem jws_none {ad : Nat → Nat} {cy : Nat → ClassId} {sh : jSh} {mem : jMem} {i : Nat} (h : sh.1 ≤ i) : (jws ad cy sh mem)[i]? = none := by
  apply List.getElem?_eq_none
  unfold jws
  rw [List.length_map, List.length_range]
  exact h
theorem jws_set {ad : Nat → Nat} {cy : Nat → ClassId} {sh sh' : jSh} {mem mem' : jMem} {i : Nat} {e : va_E} (hn : sh'.1 = sh.1) (he : jce ad cy sh' mem' i = e) (ho : ∀ k, k ≠ i → jce ad cy sh' mem' k = jce ad cy sh mem k) : (jws ad cy sh mem).set i (ad i, e) = jws ad cy sh' mem' := by
  apply List.ext_getElem?
  intro k
  by_cases hk : k < sh.1
  · rw [jws_get (by rw [hn]; exact hk), List.getElem?_set]
    by_cases hki : i = k
    · subst hki
      rw [if_pos rfl, if_pos (by unfold jws; rw [List.length_map, List.length_range]; exact hk), he]
    · rw [if_neg hki, jws_get hk, ho k (fun q => hki q.symm)]
  · rw [jws_none (by omega), List.getElem?_set]
    by_cases hki : i = k
    · subst hki
      rw [if_pos rfl, if_neg (by unfold jws; rw [List.length_map, List.length_range]; exact hk)]
    · rw [if_neg hki, jws_none (by omega)]
theorem jce_o {ad : Nat → Nat} {cy : Nat → ClassId} {sh : jSh} {mem : jMem} {i ci : Nat} (h : sh.2.1 i = ci) (hc : ci < 12) : jce ad cy sh mem i = .inr (ci, jfl ad ci (sh.2.2.2 i) (mem i)) := by
  unfold jce; rw [h, if_pos hc]
theorem jce_i {ad : Nat → Nat} {cy : Nat → ClassId} {sh : jSh} {mem : jMem} {i ci : Nat} (h : sh.2.1 i = ci) (h1 : 12 ≤ ci) (h2 : ci < 14) : jce ad cy sh mem i = .inl (cy i, sh.2.2.1 i, .inl (mem i)) := by
  unfold jce; rw [h, if_neg (by omega), if_pos h2]
theorem jce_r {ad : Nat → Nat} {cy : Nat → ClassId} {sh : jSh} {mem : jMem} {i ci : Nat} (h : sh.2.1 i = ci) (h1 : 14 ≤ ci) : jce ad cy sh mem i = .inl (cy i, sh.2.2.1 i, .inr (.inr (.inr (.inr (fun j => (sh.2.2.2 i j).map ad))))) := by
  unfold jce; rw [h, if_neg (by omega), if_neg (by omega)]
theorem jfl_at {ad : Nat → Nat} {k j : Nat} {pt : Nat → Option Nat} {f : Nat → Int32} (h : j < jN k) : (jfl ad k pt f)[j]? = some (if jR k j = true then va_rf ((pt j).map ad) else .int (f j)) := by
  unfold jfl
  rw [List.getElem?_map, List.getElem?_range h]
  rfl
theorem jfl_len {ad : Nat → Nat} {k : Nat} {pt : Nat → Option Nat} {f : Nat → Int32} : (jfl ad k pt f).length = jN k := by
  unfold jfl
  rw [List.length_map, List.length_range]
/-- a new value in an int field, in a reference field -/
theorem jfl_setI {ad : Nat → Nat} {k j : Nat} {pt : Nat → Option Nat} {f : Nat → Int32} {x : Int32} (hr : jR k j = false) : (jfl ad k pt f).set j (.int x) = jfl ad k pt (va_up f j x) := by
  apply List.ext_getElem?
  intro q
  rw [List.getElem?_set, jfl_len]
  by_cases hq : q < jN k
  · by_cases e : j = q
    · subst e
      rw [if_pos rfl, if_pos hq, jfl_at hq, hr]
      simp [va_up]
    · rw [if_neg e, jfl_at hq, jfl_at hq]
      simp [va_up, show ¬ q = j from fun z => e z.symm]
  · have h0 : (jfl ad k pt (va_up f j x))[q]? = none := List.getElem?_eq_none (by rw [jfl_len]; omega)
    have h1 : (jfl ad k pt f)[q]? = none := List.getElem?_eq_none (by rw [jfl_len]; omega)
    rw [h0, h1]
    by_cases e : j = q
    · subst e
      rw [if_pos rfl, if_neg hq]
    · rw [if_neg e]
theorem jfl_setR {ad : Nat → Nat} {k j : Nat} {pt : Nat → Option Nat} {f : Nat → Int32} {x : Option Nat} (hr : jR k j = true) : (jfl ad k pt f).set j (va_rf (x.map ad)) = jfl ad k (va_up pt j x) f := by
  apply List.ext_getElem?
  intro q
  rw [List.getElem?_set, jfl_len]
  by_cases hq : q < jN k
  · by_cases e : j = q
    · subst e
      rw [if_pos rfl, if_pos hq, jfl_at hq, hr]
      simp [va_up]
    · rw [if_neg e, jfl_at hq, jfl_at hq]
      simp [va_up, show ¬ q = j from fun z => e z.symm]
  · have h0 : (jfl ad k (va_up pt j x) f)[q]? = none := List.getElem?_eq_none (by rw [jfl_len]; omega)
    have h1 : (jfl ad k pt f)[q]? = none := List.getElem?_eq_none (by rw [jfl_len]; omega)
    rw [h0, h1]
    by_cases e : j = q
    · subst e
      rw [if_pos rfl, if_neg hq]
    · rw [if_neg e]
/-- locals: by place -/
def jlo (ls : Array Slot) (nL : Nat) (ad : Nat → Nat) (lv : Nat → Option Value) : Prop := ls.size = nL ∧ lv_wf ls ∧ ∀ (i : Nat) (v : Value), lv i = some v → ls[i]? = some (.val (jv ad v))
def jst (lv : Nat → Option Value) (i : Nat) (v : Value) : Nat → Option Value := fun j => if j = i then some v else if j + 1 = i ∧ (lv j).any (fun w => w.category == 2) = true then none else lv j
def jst2 (lv : Nat → Option Value) (i : Nat) (v : Value) : Nat → Option Value := fun j => if j = i then some v else if j = i + 1 then none else if j + 1 = i ∧ (lv j).any (fun w => w.category == 2) = true then none else lv j
def jls (nL : Nat) (ad : Nat → Nat) (lv : Nat → Option Value) : List (Nat × Value) := (List.range nL).filterMap (fun i => (lv i).map (fun v => (i, jv ad v)))
theorem jls_mem {nL : Nat} {ad : Nat → Nat} {lv : Nat → Option Value} {q : Nat × Value} : q ∈ jls nL ad lv ↔ q.1 < nL ∧ ∃ v, lv q.1 = some v ∧ q.2 = jv ad v := by
  unfold jls
  rw [List.mem_filterMap]
  constructor
  · rintro ⟨i, hi, h⟩
    cases hv : lv i with
    | none => rw [hv] at h; cases h
    | some v =>
      rw [hv] at h
      cases h
      exact ⟨List.mem_range.mp hi, v, hv, rfl⟩
  · rintro ⟨h1, v, h2, h3⟩
    refine ⟨q.1, List.mem_range.mpr h1, ?_⟩
    rw [h2]
    exact congrArg some (Prod.ext rfl h3.symm)
theorem jlo_has {ls : Array Slot} {nL : Nat} {ad : Nat → Nat} {lv : Nat → Option Value} (h : jlo ls nL ad lv) : lv_has ls nL (jls nL ad lv) := by
  refine ⟨h.1, h.2.1, fun q hq => ?_⟩
  obtain ⟨-, v, h2, h3⟩ := jls_mem.mp hq
  rw [h3]
  exact h.2.2 _ _ h2
theorem jlo_lt {ls : Array Slot} {nL : Nat} {ad : Nat → Nat} {lv : Nat → Option Value} (h : jlo ls nL ad lv) {i : Nat} {v : Value} (hv : lv i = some v) : i < nL := by
  have := lv_lt (h.2.2 i v hv)
  rw [h.1] at this
  exact this
theorem jlo_st {ls ls' : Array Slot} {nL : Nat} {ad : Nat → Nat} {lv : Nat → Option Value} {i : Nat} {v : Value} (h0 : jlo ls nL ad lv) (h : lv_has ls' nL ((i, jv ad v) :: (jls nL ad lv).filter (fun q => !(q.1 == i) && !(q.1 + 1 == i && q.2.category == 2)))) : jlo ls' nL ad (jst lv i v) := by
  refine ⟨h.1, h.2.1, fun j w hw => ?_⟩
  unfold jst at hw
  by_cases e : j = i
  · rw [if_pos e] at hw
    cases hw
    subst e
    exact h.2.2 (j, jv ad v) List.mem_cons_self
  · rw [if_neg e] at hw
    by_cases e2 : j + 1 = i ∧ (lv j).any (fun w => w.category == 2) = true
    · rw [if_pos e2] at hw; cases hw
    · rw [if_neg e2] at hw
      refine h.2.2 (j, jv ad w) (List.mem_cons_of_mem _ (List.mem_filter.mpr ⟨jls_mem.mpr ⟨jlo_lt h0 hw, w, hw, rfl⟩, ?_⟩))
      rw [hw] at e2
      simp only [Option.any_some, beq_iff_eq] at e2
      simp only [Bool.and_eq_true, Bool.not_eq_true', beq_eq_false_iff_ne, ne_eq, Bool.and_eq_false_iff, jv_cat]
      refine ⟨e, ?_⟩
      by_cases e3 : j + 1 = i
      · exact Or.inr (fun z => e2 ⟨e3, z⟩)
      · exact Or.inl e3
theorem jlo_st2 {ls ls' : Array Slot} {nL : Nat} {ad : Nat → Nat} {lv : Nat → Option Value} {i : Nat} {v : Value} (h0 : jlo ls nL ad lv) (h : lv_has ls' nL ((i, jv ad v) :: (jls nL ad lv).filter (fun q => !(q.1 == i) && (!(q.1 == i + 1) && !(q.1 + 1 == i && q.2.category == 2))))) : jlo ls' nL ad (jst2 lv i v) := by
  refine ⟨h.1, h.2.1, fun j w hw => ?_⟩
  unfold jst2 at hw
  by_cases e : j = i
  · rw [if_pos e] at hw
    cases hw
    subst e
    exact h.2.2 (j, jv ad v) List.mem_cons_self
  · rw [if_neg e] at hw
    by_cases e1 : j = i + 1
    · rw [if_pos e1] at hw; cases hw
    · rw [if_neg e1] at hw
      by_cases e2 : j + 1 = i ∧ (lv j).any (fun w => w.category == 2) = true
      · rw [if_pos e2] at hw; cases hw
      · rw [if_neg e2] at hw
        refine h.2.2 (j, jv ad w) (List.mem_cons_of_mem _ (List.mem_filter.mpr ⟨jls_mem.mpr ⟨jlo_lt h0 hw, w, hw, rfl⟩, ?_⟩))
        rw [hw] at e2
        simp only [Option.any_some, beq_iff_eq] at e2
        simp only [Bool.and_eq_true, Bool.not_eq_true', beq_eq_false_iff_ne, ne_eq, Bool.and_eq_false_iff, jv_cat]
        refine ⟨e, e1, ?_⟩
        by_cases e3 : j + 1 = i
        · exact Or.inr (fun z => e2 ⟨e3, z⟩)
        · exact Or.inl e3
theorem jlo_at {ls : Array Slot} {nL : Nat} {ad : Nat → Nat} {lv : Nat → Option Value} (h : jlo ls nL ad lv) {i : Nat} {v : Value} (hv : lv i = some v) : ls[i]? = some (.val (jv ad v)) := h.2.2 i v hv
theorem jlo_less {ls : Array Slot} {nL : Nat} {ad : Nat → Nat} {lv lv' : Nat → Option Value} (h : jlo ls nL ad lv) (hl : ∀ i v, lv' i = some v → lv i = some v) : jlo ls nL ad lv' := ⟨h.1, h.2.1, fun i v hv => h.2.2 i v (hl i v hv)⟩
/-- locals at a method's entry -/
def jen (av : List Value) : Nat → Option Value := fun j => (lv_args 0 av).lookup j
theorem j_args_map (ad : Nat → Nat) : ∀ (vs : List Value) (k : Nat), lv_args k (vs.map (jv ad)) = (lv_args k vs).map (fun q => (q.1, jv ad q.2))
  | [], _ => rfl
  | v :: vs, k => by
    simp only [List.map_cons, lv_args, jv_cat]
    rw [j_args_map ad vs]
theorem j_lookup {l : List (Nat × Value)} {j : Nat} {v : Value} (h : l.lookup j = some v) : (j, v) ∈ l := by
  induction l with
  | nil => cases h
  | cons a l ih =>
    rw [List.lookup_cons] at h
    by_cases e : j = a.1
    · rw [show (j == a.1) = true from by simp [e]] at h
      cases h
      rw [e]
      exact List.mem_cons_self
    · rw [show (j == a.1) = false from by simp [e]] at h
      exact List.mem_cons_of_mem _ (ih h)
theorem jlo_en {ls : Array Slot} {nL : Nat} {ad : Nat → Nat} {av : List Value} (h : lv_has ls nL (lv_args 0 (av.map (jv ad)))) : jlo ls nL ad (jen av) := by
  refine ⟨h.1, h.2.1, fun i v hv => ?_⟩
  have := j_lookup hv
  rw [j_args_map] at h
  exact h.2.2 (i, jv ad v) (List.mem_map.mpr ⟨(i, v), this, rfl⟩)
