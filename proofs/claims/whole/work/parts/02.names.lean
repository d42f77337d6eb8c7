/-! arrays of arrays of ints: the Statement's own word -/
def va_AOA (ty : FieldType) (U : State) : Prop := (Cond.arrayOver (.array ty)).before #[] U = true
theorem va_AOA.use {ty : FieldType} {A : Array Value} {U : State} (h : va_AOA ty U) : (Cond.arrayOver (.array ty)).before A U = true := h
/-! ===== BEGIN words of one list among another's, by their places ===== -/
theorem goodIn_r {big : List Cond} (ws : List Cond) (ps : List Nat) (hp : ws = ps.filterMap (fun i => big[i]?)) (h : ws.all goodWord = true) : GoodIn big ws := by
  intro w hw
  have h1 := List.all_eq_true.mp h w hw
  rw [hp] at hw
  obtain ⟨i, -, hi⟩ := List.mem_filterMap.mp hw
  have hm : w ∈ big := by first | exact List.mem_of_getElem? hi | exact List.getElem?_mem hi
  exact ⟨hm, good_of_word h1⟩
theorem goodIn_app {big a b : List Cond} (ha : GoodIn big a) (hb : GoodIn big b) : GoodIn big (a ++ b) := fun w h => (List.mem_append.mp h).elim (ha w) (hb w)
theorem goodIn_ca {big a b : List Cond} {c : Cond} (ha : GoodIn big (c :: a)) (hb : GoodIn big b) : GoodIn big (c :: (a ++ b)) := fun w h => (List.mem_cons.mp h).elim (fun e => ha w (List.mem_cons.mpr (Or.inl e))) (fun h => (List.mem_append.mp h).elim (fun h => ha w (List.mem_cons.mpr (Or.inr h))) (hb w))
theorem goodIn_sub {big ws : List Cond} (hm : ∀ w ∈ ws, w ∈ big) (h : ws.all goodWord = true) : GoodIn big ws := fun w hw => ⟨hm w hw, good_of_word (List.all_eq_true.mp h w hw)⟩
/-! ===== END ===== -/

/-! ===== BEGIN new T[n][m]: the outer array a place, the inner ones among the pooled ===== -/
/-- f, but v at every address of l -/
def vr_up {α : Type} (f : Nat → α) (l : List Nat) (v : α) : Nat → α := fun a => if a ∈ l then v else f a
theorem vr_up_in {α : Type} {f : Nat → α} {l : List Nat} {v : α} {a : Nat} (h : a ∈ l) : vr_up f l v a = v := if_pos h
theorem vr_up_ne {α : Type} {f : Nat → α} {l : List Nat} {v : α} {a : Nat} (h : a ∉ l) : vr_up f l v a = f a := if_neg h
theorem vr_rows {L l : List Nat} {f : Nat → va_E} {e : va_E} (h : ∀ a, a ∈ l → a ∉ L) : va_pl L f ++ l.map (fun a => (a, e)) = va_pl (L ++ l) (vr_up f l e) := by
  unfold va_pl
  rw [List.map_append]
  congr 1
  · apply List.map_congr_left
    intro a ha
    rw [vr_up_ne (fun q => h a q ha)]
  · apply List.map_congr_left
    intro a ha
    rw [vr_up_in ha]
theorem vr_lay {X rows : va_W} {x : Nat × va_E} {pl : va_W} {D : va_G} {cl : List vw_C} {H : Heap} (hP : va_P D cl (((X ++ pl) ++ [x]) ++ rows) H) : va_P D cl ((X ++ [x]) ++ (pl ++ rows)) H := by
  rw [List.append_assoc (X ++ pl)] at hP
  have h := va_P.swap hP
  rw [← List.append_assoc X] at h
  have h2 := va_P.swap h
  rw [List.append_assoc (X ++ [x])] at h2
  exact h2
theorem vr_layD {X rows : va_W} {x : Nat × va_E} {pl : va_W} {A : Nat → Prop} (hD : va_D A (((X ++ pl) ++ [x]) ++ rows)) : va_D A ((X ++ [x]) ++ (pl ++ rows)) := by
  rw [List.append_assoc (X ++ pl)] at hD
  have h := va_D.swap hD
  rw [← List.append_assoc X] at h
  have h2 := va_D.swap h
  rw [List.append_assoc (X ++ [x])] at h2
  exact h2
theorem vr_outer (c : ClassId) (N h0 : Nat) : ∀ i : Nat, Jvm.Free.Multi.outerC c N h0 i = arrV c N (fun j => va_rf (if j < i then some (h0 + 1 + j) else none))
  | 0 => by
    show ({ cls := c, slots := Array.replicate N .null, vm := .none } : Cell) = _
    rw [arrV_new]
    refine congrArg (arrV c N) (funext fun j => ?_)
    simp [va_rf]
  | i + 1 => by
    show (Jvm.Free.Multi.outerC c N h0 i).setSlot i (.ref (h0 + 1 + i)) = _
    rw [vr_outer c N h0 i, arrV_store]
    refine congrArg (arrV c N) (funext fun j => ?_)
    by_cases e : j = i
    · subst e
      simp [updV, va_rf]
    · by_cases h : j < i
      · simp [updV, e, h, Nat.lt_succ_of_lt h]
      · simp [updV, e, h, show ¬ j < i + 1 by omega]
section VGM
variable {p : Program} {l : Launch} {e : Env} {R : Room} {s : State} {m : MethodId} {args : Array Value} {below : List Frame} {meth : Method} {c : Code} {H : Heap} {locs : List Loc} {cells slots : Nat} {Q : State → Prop}
variable {cc : ByteArray} {pc : Nat} {ls : Array Slot} {rest : List Value} {D : va_G} {cl : List vw_C} {A : Nat → Prop} {a : Nat} {tys : List (ClassId × FieldType)} {ws : va_W} {H0 : Heap}
theorem va_mna {X : va_W} {L : List Nat} {f : Nat → va_E} {cc : ByteArray} (hexec : p.tables.exec = Jvm.exec) (hb : c.code = cc) {own : String} {index : Nat} {ty : FieldType} {cy : ClassId} (hown : s.vm.findClass own = some m.cls) (hclink : (Cond.classLink own index ("[" ++ (FieldType.array ty).toString)).before args s = true) (hover : va_AOA ty s) (harr : (Cond.arrayClass ty).before args s = true) (hcy : s.vm.findClass (FieldType.array ty).toString = some cy)
    (hK : va_K D cl tys s) (hP : va_P D cl (X ++ va_pl L f) H) (hD : va_D A (X ++ va_pl L f)) (hS : va_S A H0 H locs) (hA : ∀ q, H0.size ≤ q → A q) {n k : Int32} {N' K' : Nat} {z : vp_A} (hn : ¬ n < 0) (hk : ¬ k < 0) (hN : n.toNatClampNeg = N') (hM : k.toNatClampNeg = K')
    (hb1 : N' * 4 ≤ 536870912) (hb2 : K' * componentBytes ty ≤ 536870912) (hb3 : K' ≤ 536870912) (hdf : fits ty (defaultValue ty) = true) (hdd : (defaultValue ty).isDefault = true) (hcells : cells + (1 + N') ≤ R.cells) (hslots : slots + (N' + N' * K') ≤ R.slots) (hz : ∀ c : ClassId, Jvm.Free.Multi.innerC c K' (defaultValue ty) = vp_cell c z) (hdg : decode cc pc = .ok (.multianewarray index 2, 4))
    (kk : ∀ (q : Nat) (r : Nat → Nat) (cA : ClassId) (H1 : Heap), (∀ i j : Nat, i < N' → j < N' → r i = r j → i = j) → (∀ i : Nat, i < N' → r i ∉ L) → va_K D cl (tys ++ [(cA, .array ty)]) s →
      va_P D cl ((X ++ [(q, .inl (cA, N', .inr (.inr (.inr (.inr (fun i => if i < N' then some (r i) else none))))))]) ++ va_pl (L ++ (List.range N').map r) (vr_up f ((List.range N').map r) (.inl (cy, z)))) H1 → va_D A ((X ++ [(q, .inl (cA, N', .inr (.inr (.inr (.inr (fun i => if i < N' then some (r i) else none))))))]) ++ va_pl (L ++ (List.range N').map r) (vr_up f ((List.range N').map r) (.inl (cy, z)))) → va_S A H0 H1 locs →
      W p l e R s m args below meth c H1 locs (cells + 1 + N') (slots + N' + N' * K') Q (F0 m (pc + 4) ls (.ref q :: rest))) : W p l e R s m args below meth c H locs cells slots Q (F0 m pc ls (.int k :: .int n :: rest)) := by
  subst hN
  subst hM
  intro T hT Xs
  obtain ⟨vm₁, cA, comp, -, fA, fC, hO, -, X', step⟩ := Xs.multianewarray2F hexec hown hclink (va_AOA.use hover) harr (g := F0 m pc ls (.int k :: .int n :: rest)) rfl (by rw [hb]; exact hdg) rfl hn hk hb1 hb2 hb3 hdf hdd hcells hslots
  have ec : some cy = some comp := hcy.symm.trans fC
  cases ec
  generalize hF : Jvm.Free.Multi.fill (T.setVm vm₁) cA cy n.toNatClampNeg k.toNatClampNeg (defaultValue ty) n.toNatClampNeg = F at X' step
  have hTh : (T.setVm vm₁).heap = H := hT
  obtain ⟨f1, f2, -, -⟩ := Jvm.Free.Multi.fill_facts (T.setVm vm₁) cA cy n.toNatClampNeg k.toNatClampNeg (defaultValue ty) n.toNatClampNeg
  rw [hF, hTh] at f1 f2
  have hold : ∀ x : Nat, x < H.size → F.heap[x]? = H[x]? := fun x hx => by
    have := Jvm.Free.Multi.fill_old (T.setVm vm₁) cA cy n.toNatClampNeg k.toNatClampNeg (defaultValue ty) (a := x) (by rw [hTh]; exact hx) n.toNatClampNeg
    rw [hF, hTh] at this
    exact this
  have hrow : ∀ j : Nat, j < n.toNatClampNeg → F.heap[H.size + 1 + j]? = some (vp_cell cy z) := fun j hj => by
    have := Jvm.Free.Multi.fill_inner (T.setVm vm₁) cA cy n.toNatClampNeg k.toNatClampNeg (defaultValue ty) n.toNatClampNeg j hj
    rw [hF, hTh, hz] at this
    exact this
  have hout : Jvm.Free.Multi.outerC cA n.toNatClampNeg H.size n.toNatClampNeg = vp_cell cA (n.toNatClampNeg, .inr (.inr (.inr (.inr (fun i => if i < n.toNatClampNeg then some (H.size + 1 + i) else none))))) := by
    rw [vp_cell_q]
    exact vr_outer cA n.toNatClampNeg H.size n.toNatClampNeg
  rw [hout] at f2
  have hlt : ∀ a, a ∈ L → a < H.size := fun a ha => by
    obtain ⟨k9, hk9⟩ := va_pl_get (X := X) (f := f) ha
    exact (hP k9 _ hk9).lt
  have hnl : ∀ i : Nat, i < n.toNatClampNeg → H.size + 1 + i ∉ L := fun i _ h => by
    have := hlt _ h
    omega
  have hnm : ∀ a, a ∈ (List.range n.toNatClampNeg).map (fun i => H.size + 1 + i) → a ∉ L := fun a ha h => by
    obtain ⟨i, -, rfl⟩ := List.mem_map.mp ha
    have := hlt _ h
    omega
  have hP0 : va_P D cl (X ++ va_pl L f) F.heap := hP.kept (fun k9 x hx => hold x.1 ((hP k9 x hx).lt))
  have hP1 : va_P D cl ((X ++ va_pl L f) ++ [(H.size, .inl (cA, n.toNatClampNeg, .inr (.inr (.inr (.inr (fun i => if i < n.toNatClampNeg then some (H.size + 1 + i) else none))))))]) F.heap := hP0.app (fun k9 x hx => by
    have h0 : k9 < 1 := (List.getElem?_eq_some_iff.mp hx).1
    rw [show k9 = 0 by omega] at hx
    cases hx
    exact f2)
  have hP2 : va_P D cl (((X ++ va_pl L f) ++ [(H.size, .inl (cA, n.toNatClampNeg, .inr (.inr (.inr (.inr (fun i => if i < n.toNatClampNeg then some (H.size + 1 + i) else none))))))]) ++ ((List.range n.toNatClampNeg).map (fun i => H.size + 1 + i)).map (fun a => (a, .inl (cy, z)))) F.heap := hP1.app (fun k9 x hx => by
    obtain ⟨a, ha, rfl⟩ := List.mem_map.mp (List.mem_of_getElem? hx)
    obtain ⟨i, hi, rfl⟩ := List.mem_map.mp ha
    exact hrow i (List.mem_range.mp hi))
  have hD2 : va_D A (((X ++ va_pl L f) ++ [(H.size, .inl (cA, n.toNatClampNeg, .inr (.inr (.inr (.inr (fun i => if i < n.toNatClampNeg then some (H.size + 1 + i) else none))))))]) ++ ((List.range n.toNatClampNeg).map (fun i => H.size + 1 + i)).map (fun a => (a, .inl (cy, z)))) := by
    have hD1 := hD.push (e := .inl (cA, n.toNatClampNeg, .inr (.inr (.inr (.inr (fun i => if i < n.toNatClampNeg then some (H.size + 1 + i) else none)))))) hP rfl (hA _ hS.1)
    generalize hW1 : (X ++ va_pl L f) ++ [(H.size, .inl (cA, n.toNatClampNeg, .inr (.inr (.inr (.inr (fun i => if i < n.toNatClampNeg then some (H.size + 1 + i) else none))))))] = W1 at hD1 hP1 ⊢
    have hle : ∀ (k9 : Nat) (x : Nat × va_E), W1[k9]? = some x → x.1 ≤ H.size := fun k9 x hx => by
      rw [← hW1] at hx
      by_cases hl : k9 < (X ++ va_pl L f).length
      · rw [List.getElem?_append_left hl] at hx
        exact Nat.le_of_lt ((hP k9 x hx).lt)
      · rw [List.getElem?_append_right (by omega)] at hx
        have h0 : k9 - (X ++ va_pl L f).length < 1 := (List.getElem?_eq_some_iff.mp hx).1
        rw [show k9 - (X ++ va_pl L f).length = 0 by omega] at hx
        cases hx
        exact Nat.le_refl _
    have hr : ∀ (k9 : Nat) (x : Nat × va_E), (((List.range n.toNatClampNeg).map (fun i => H.size + 1 + i)).map (fun a => ((a, .inl (cy, z)) : Nat × va_E)))[k9]? = some x → x.1 = H.size + 1 + k9 := fun k9 x hx => by
      rw [List.getElem?_map, List.getElem?_map] at hx
      by_cases h9 : k9 < n.toNatClampNeg
      · rw [List.getElem?_range h9] at hx
        cases hx
        rfl
      · have hn0 : (List.range n.toNatClampNeg)[k9]? = none := List.getElem?_eq_none (by rw [List.length_range]; omega)
        rw [hn0] at hx
        cases hx
    refine ⟨fun i j x y hi hj hxy => ?_, fun k9 x hx => ?_⟩
    · by_cases h1 : i < W1.length <;> by_cases h2 : j < W1.length
      · rw [List.getElem?_append_left h1] at hi
        rw [List.getElem?_append_left h2] at hj
        exact hD1.1 i j x y hi hj hxy
      · rw [List.getElem?_append_left h1] at hi
        rw [List.getElem?_append_right (by omega)] at hj
        have := hle _ _ hi
        have := hr _ _ hj
        omega
      · rw [List.getElem?_append_right (by omega)] at hi
        rw [List.getElem?_append_left h2] at hj
        have := hle _ _ hj
        have := hr _ _ hi
        omega
      · rw [List.getElem?_append_right (by omega)] at hi hj
        have := hr _ _ hi
        have := hr _ _ hj
        omega
    · by_cases h1 : k9 < W1.length
      · rw [List.getElem?_append_left h1] at hx
        exact hD1.2 k9 x hx
      · rw [List.getElem?_append_right (by omega)] at hx
        have := hr _ _ hx
        exact hA _ (by have := hS.1; omega)
  have hAr : ArrOfT s cA (.array ty) := fun N9 z9 => by
    obtain ⟨-, k9, hk9, cm9, hkk9⟩ := (hO 0 0 0).1
    exact ⟨(fun q hq => by cases hq), k9, hk9, cm9, hkk9⟩
  have hK2 : va_K D cl (tys ++ [(cA, .array ty)]) s := ⟨hK.1, fun k9 x hx => by
    by_cases hl : k9 < tys.length
    · rw [List.getElem?_append_left hl] at hx
      exact hK.2 k9 x hx
    · rw [List.getElem?_append_right (by omega)] at hx
      have h0 : k9 - tys.length < 1 := (List.getElem?_eq_some_iff.mp hx).1
      rw [show k9 - tys.length = 0 by omega] at hx
      cases hx
      exact ⟨hAr, fA⟩⟩
  obtain ⟨t, a1, b1⟩ := kk H.size (fun i => H.size + 1 + i) cA F.heap (fun i j _ _ h => by have h9 : H.size + 1 + i = H.size + 1 + j := h; omega) hnl hK2 (by rw [← vr_rows hnm]; exact vr_lay hP2) (by rw [← vr_rows hnm]; exact vr_layD hD2) ⟨by rw [f1]; have := hS.1; omega, fun x h1 h2 => (hold x (Nat.lt_of_lt_of_le h1 hS.1)).trans (hS.2.1 x h1 h2), hS.2.2⟩ F rfl X'
  refine ⟨t, step t ?_, b1⟩
  have e : T.heap.size = H.size := by rw [hT]
  rw [e]
  exact a1
end VGM
/-! ===== END ===== -/

/-! ===== BEGIN printed: names, fields, word lists, decode rows ===== -/
def RX0 : String := "PaperPocket$Bodies"
def TX0 : u_T := fun k => match k with
  | 0 => ("PaperPocket$Bodies", "traced", "[I", true)
  | _ => ("PaperPocket$Bodies", "traceCount", "I", false)
def tyX0 : Nat → FieldType := fun k => match k with
  | 0 => .array .int
  | _ => .int
abbrev wsX00 : List Cond := u_ws RX0 TX0 2
theorem nmX0 : ∀ a, a < 2 → ∀ b, b < 2 → a ≠ b → (TX0 a).2.1 ≠ (TX0 b).2.1 := by decide +kernel
theorem tyX0_ok : ∀ k, k < 2 → parseFieldDescriptor (TX0 k).2.2.1 = some (tyX0 k) := by decide +kernel
abbrev cX0_init : ByteArray := prog_2_method_1_code
def yX0_init : MethodName := ⟨RX0, "<init>", "()V"⟩
abbrev cX0_begin : ByteArray := prog_2_method_2_code
def yX0_begin : MethodName := ⟨RX0, "begin", "(I)V"⟩
abbrev cX0_sizeOf : ByteArray := prog_2_method_3_code
def yX0_sizeOf : MethodName := ⟨RX0, "sizeOf", "(LPaperPocket$Paper;I)I"⟩
abbrev cX0_markOf : ByteArray := prog_2_method_4_code
def yX0_markOf : MethodName := ⟨RX0, "markOf", "(LPaperPocket$Paper;I)I"⟩
abbrev cX0_lentSize : ByteArray := prog_2_method_5_code
def yX0_lentSize : MethodName := ⟨RX0, "lentSize", "(LPaperPocket$Paper;)I"⟩
abbrev cX0_stampSize : ByteArray := prog_2_method_6_code
def yX0_stampSize : MethodName := ⟨RX0, "stampSize", "(LPaperPocket$Paper;)I"⟩
abbrev cX0_shortSize : ByteArray := prog_2_method_7_code
def yX0_shortSize : MethodName := ⟨RX0, "shortSize", "(LPaperPocket$Paper;)I"⟩
abbrev cX0_gradeSize : ByteArray := prog_2_method_8_code
def yX0_gradeSize : MethodName := ⟨RX0, "gradeSize", "(LPaperPocket$Paper;)I"⟩
abbrev cX0_goneSize : ByteArray := prog_2_method_9_code
def yX0_goneSize : MethodName := ⟨RX0, "goneSize", "(LPaperPocket$Paper;)I"⟩
abbrev cX0_lentMark : ByteArray := prog_2_method_10_code
def yX0_lentMark : MethodName := ⟨RX0, "lentMark", "(LPaperPocket$Paper;)I"⟩
abbrev cX0_shortMark : ByteArray := prog_2_method_11_code
def yX0_shortMark : MethodName := ⟨RX0, "shortMark", "(LPaperPocket$Paper;)I"⟩
abbrev cX0_gradeMark : ByteArray := prog_2_method_12_code
def yX0_gradeMark : MethodName := ⟨RX0, "gradeMark", "(LPaperPocket$Paper;)I"⟩
abbrev cX0_lentOnesMark : ByteArray := prog_2_method_13_code
def yX0_lentOnesMark : MethodName := ⟨RX0, "lentOnesMark", "(LPaperPocket$Paper;)I"⟩
def RX1 : String := "PaperPocket$Choice"
def TX1 : u_T := fun k => match k with
  | 0 => ("PaperPocket$Choice", "bests", "[I", true)
  | _ => ("PaperPocket$Choice", "states", "I", false)
def tyX1 : Nat → FieldType := fun k => match k with
  | 0 => .array .int
  | _ => .int
abbrev wsX10 : List Cond := u_ws RX1 TX1 2
theorem nmX1 : ∀ a, a < 2 → ∀ b, b < 2 → a ≠ b → (TX1 a).2.1 ≠ (TX1 b).2.1 := by decide +kernel
theorem tyX1_ok : ∀ k, k < 2 → parseFieldDescriptor (TX1 k).2.2.1 = some (tyX1 k) := by decide +kernel
abbrev cX1_init : ByteArray := prog_3_method_1_code
def yX1_init : MethodName := ⟨RX1, "<init>", "()V"⟩
abbrev cX1_begin : ByteArray := prog_3_method_2_code
def yX1_begin : MethodName := ⟨RX1, "begin", "(I)V"⟩
abbrev cX1_offer : ByteArray := prog_3_method_3_code
def yX1_offer : MethodName := ⟨RX1, "offer", "(II)V"⟩
abbrev cX1_best : ByteArray := prog_3_method_4_code
def yX1_best : MethodName := ⟨RX1, "best", "()I"⟩
def RX2 : String := "PaperPocket$Circle"
def TX2 : u_T := fun k => match k with
  | 0 => ("PaperPocket$Circle", "numbers", "[I", true)
  | _ => ("PaperPocket$Circle", "parts", "[I", true)
def tyX2 : Nat → FieldType := fun k => match k with
  | 0 => .array .int
  | _ => .array .int
abbrev wsX20 : List Cond := u_ws RX2 TX2 2
theorem nmX2 : ∀ a, a < 2 → ∀ b, b < 2 → a ≠ b → (TX2 a).2.1 ≠ (TX2 b).2.1 := by decide +kernel
theorem tyX2_ok : ∀ k, k < 2 → parseFieldDescriptor (TX2 k).2.2.1 = some (tyX2 k) := by decide +kernel
abbrev cX2_init : ByteArray := prog_4_method_1_code
def yX2_init : MethodName := ⟨RX2, "<init>", "()V"⟩
abbrev cX2_partOf : ByteArray := prog_4_method_2_code
def yX2_partOf : MethodName := ⟨RX2, "partOf", "(III)I"⟩
abbrev cX2_take : ByteArray := prog_4_method_3_code
def yX2_take : MethodName := ⟨RX2, "take", "([III)Z"⟩
abbrev cX2_sumAt : ByteArray := prog_4_method_4_code
def yX2_sumAt : MethodName := ⟨RX2, "sumAt", "(II)I"⟩
abbrev cX2_inverse : ByteArray := prog_4_method_5_code
def yX2_inverse : MethodName := ⟨RX2, "inverse", "(I)I"⟩
abbrev cX2_possible : ByteArray := prog_4_method_6_code
def yX2_possible : MethodName := ⟨RX2, "possible", "(II)I"⟩
def RX3 : String := "PaperPocket$Gates"
def TX3 : u_T := fun k => match k with
  | 0 => ("PaperPocket$Gates", "bookDays", "[I", true)
  | 1 => ("PaperPocket$Gates", "rights", "[I", true)
  | 2 => ("PaperPocket$Gates", "askCounts", "[I", true)
  | 3 => ("PaperPocket$Gates", "whats", "[[I", true)
  | 4 => ("PaperPocket$Gates", "wheres", "[[I", true)
  | _ => ("PaperPocket$Gates", "bounds", "[[I", true)
def tyX3 : Nat → FieldType := fun k => match k with
  | 0 => .array .int
  | 1 => .array .int
  | 2 => .array .int
  | 3 => .array (.array .int)
  | 4 => .array (.array .int)
  | _ => .array (.array .int)
abbrev wsX30 : List Cond := u_ws RX3 TX3 6
theorem nmX3 : ∀ a, a < 6 → ∀ b, b < 6 → a ≠ b → (TX3 a).2.1 ≠ (TX3 b).2.1 := by decide +kernel
theorem tyX3_ok : ∀ k, k < 6 → parseFieldDescriptor (TX3 k).2.2.1 = some (tyX3 k) := by decide +kernel
abbrev cX3_init : ByteArray := prog_5_method_1_code
def yX3_init : MethodName := ⟨RX3, "<init>", "()V"⟩
abbrev cX3_addAsk : ByteArray := prog_5_method_2_code
def yX3_addAsk : MethodName := ⟨RX3, "addAsk", "(IIII)V"⟩
abbrev cX3_asksTooMuch : ByteArray := prog_5_method_3_code
def yX3_asksTooMuch : MethodName := ⟨RX3, "asksTooMuch", "(I)Z"⟩
abbrev cX3_fittedBy : ByteArray := prog_5_method_4_code
def yX3_fittedBy : MethodName := ⟨RX3, "fittedBy", "(LPaperPocket$Paper;I)I"⟩
abbrev cX3_isFitted : ByteArray := prog_5_method_5_code
def yX3_isFitted : MethodName := ⟨RX3, "isFitted", "(LPaperPocket$Paper;III)Z"⟩
def RX4 : String := "PaperPocket$Line"
def TX4 : u_T := fun k => match k with
  | 0 => ("PaperPocket$Line", "comings", "[I", true)
  | 1 => ("PaperPocket$Line", "lengths", "[I", true)
  | 2 => ("PaperPocket$Line", "order", "[I", true)
  | 3 => ("PaperPocket$Line", "bestOrder", "[I", true)
  | 4 => ("PaperPocket$Line", "bestSum", "I", false)
  | _ => ("PaperPocket$Line", "works", "I", false)
def tyX4 : Nat → FieldType := fun k => match k with
  | 0 => .array .int
  | 1 => .array .int
  | 2 => .array .int
  | 3 => .array .int
  | 4 => .int
  | _ => .int
abbrev wsX40 : List Cond := u_ws RX4 TX4 6
theorem nmX4 : ∀ a, a < 6 → ∀ b, b < 6 → a ≠ b → (TX4 a).2.1 ≠ (TX4 b).2.1 := by decide +kernel
theorem tyX4_ok : ∀ k, k < 6 → parseFieldDescriptor (TX4 k).2.2.1 = some (tyX4 k) := by decide +kernel
abbrev cX4_init : ByteArray := prog_6_method_1_code
def yX4_init : MethodName := ⟨RX4, "<init>", "()V"⟩
abbrev cX4_take : ByteArray := prog_6_method_2_code
def yX4_take : MethodName := ⟨RX4, "take", "([III)Z"⟩
abbrev cX4_findBest : ByteArray := prog_6_method_3_code
def yX4_findBest : MethodName := ⟨RX4, "findBest", "()V"⟩
abbrev cX4_extend : ByteArray := prog_6_method_4_code
def yX4_extend : MethodName := ⟨RX4, "extend", "(IIII)V"⟩
abbrev cX4_waitedAt : ByteArray := prog_6_method_5_code
def yX4_waitedAt : MethodName := ⟨RX4, "waitedAt", "(II)I"⟩
def RX5 : String := "PaperPocket$Offices"
def TX5 : u_T := fun k => match k with
  | 0 => ("PaperPocket$Offices", "keyDays", "[[I", true)
  | 1 => ("PaperPocket$Offices", "keys", "[[I", true)
  | 2 => ("PaperPocket$Offices", "keyCounts", "[I", true)
  | 3 => ("PaperPocket$Offices", "burntFrom", "[I", true)
  | _ => ("PaperPocket$Offices", "endsOn", "[I", true)
def tyX5 : Nat → FieldType := fun k => match k with
  | 0 => .array (.array .int)
  | 1 => .array (.array .int)
  | 2 => .array .int
  | 3 => .array .int
  | _ => .array .int
abbrev wsX50 : List Cond := u_ws RX5 TX5 5
theorem nmX5 : ∀ a, a < 5 → ∀ b, b < 5 → a ≠ b → (TX5 a).2.1 ≠ (TX5 b).2.1 := by decide +kernel
theorem tyX5_ok : ∀ k, k < 5 → parseFieldDescriptor (TX5 k).2.2.1 = some (tyX5 k) := by decide +kernel
abbrev cX5_init : ByteArray := prog_7_method_1_code
def yX5_init : MethodName := ⟨RX5, "<init>", "()V"⟩
abbrev cX5_addKey : ByteArray := prog_7_method_2_code
def yX5_addKey : MethodName := ⟨RX5, "addKey", "(III)Z"⟩
abbrev cX5_keyAt : ByteArray := prog_7_method_3_code
def yX5_keyAt : MethodName := ⟨RX5, "keyAt", "(II)I"⟩
abbrev cX5_allKeys : ByteArray := prog_7_method_4_code
def yX5_allKeys : MethodName := ⟨RX5, "allKeys", "()I"⟩
def RX6 : String := "PaperPocket$Paper"
def TX6 : u_T := fun k => match k with
  | 0 => ("PaperPocket$Paper", "number", "I", true)
  | 1 => ("PaperPocket$Paper", "office", "I", true)
  | 2 => ("PaperPocket$Paper", "bearer", "I", true)
  | 3 => ("PaperPocket$Paper", "sort", "I", true)
  | 4 => ("PaperPocket$Paper", "first", "I", true)
  | 5 => ("PaperPocket$Paper", "last", "I", true)
  | 6 => ("PaperPocket$Paper", "fields", "[I", true)
  | _ => ("PaperPocket$Paper", "takenBackFrom", "I", false)
def tyX6 : Nat → FieldType := fun k => match k with
  | 0 => .int
  | 1 => .int
  | 2 => .int
  | 3 => .int
  | 4 => .int
  | 5 => .int
  | 6 => .array .int
  | _ => .int
abbrev wsX60 : List Cond := u_ws RX6 TX6 8
theorem nmX6 : ∀ a, a < 8 → ∀ b, b < 8 → a ≠ b → (TX6 a).2.1 ≠ (TX6 b).2.1 := by decide +kernel
theorem tyX6_ok : ∀ k, k < 8 → parseFieldDescriptor (TX6 k).2.2.1 = some (tyX6 k) := by decide +kernel
abbrev cX6_init : ByteArray := prog_8_method_1_code
def yX6_init : MethodName := ⟨RX6, "<init>", "(I[II)V"⟩
abbrev cX6_isTold : ByteArray := prog_8_method_2_code
def yX6_isTold : MethodName := ⟨RX6, "isTold", "([II)Z"⟩
abbrev cX6_leafWith : ByteArray := prog_8_method_3_code
def yX6_leafWith : MethodName := ⟨RX6, "leafWith", "(II)I"⟩
abbrev cX6_leaf : ByteArray := prog_8_method_4_code
def yX6_leaf : MethodName := ⟨RX6, "leaf", "(I)I"⟩
abbrev cX6_half : ByteArray := prog_8_method_5_code
def yX6_half : MethodName := ⟨RX6, "half", "(I)I"⟩
abbrev cX6_root : ByteArray := prog_8_method_6_code
def yX6_root : MethodName := ⟨RX6, "root", "()I"⟩
abbrev cX6_rootWith : ByteArray := prog_8_method_7_code
def yX6_rootWith : MethodName := ⟨RX6, "rootWith", "(II)I"⟩
abbrev cX6_showsOfHalf : ByteArray := prog_8_method_8_code
def yX6_showsOfHalf : MethodName := ⟨RX6, "showsOfHalf", "(II)Z"⟩
abbrev cX6_halfSize : ByteArray := prog_8_method_9_code
def yX6_halfSize : MethodName := ⟨RX6, "halfSize", "(II)I"⟩
abbrev cX6_showingSize : ByteArray := prog_8_method_10_code
def yX6_showingSize : MethodName := ⟨RX6, "showingSize", "(I)I"⟩
abbrev cX6_fillShowing : ByteArray := prog_8_method_11_code
def yX6_fillShowing : MethodName := ⟨RX6, "fillShowing", "(I[I)I"⟩
abbrev cX6_shownOf : ByteArray := prog_8_method_12_code
def yX6_shownOf : MethodName := ⟨RX6, "shownOf", "(II)I"⟩
abbrev cX6_rootOfShowing : ByteArray := prog_8_method_13_code
def yX6_rootOfShowing : MethodName := ⟨RX6, "rootOfShowing", "(I[II)I"⟩
abbrev cX6_halfOfShowing : ByteArray := prog_8_method_14_code
def yX6_halfOfShowing : MethodName := ⟨RX6, "halfOfShowing", "(II[II)I"⟩
abbrev cX6_leafOfShown : ByteArray := prog_8_method_15_code
def yX6_leafOfShown : MethodName := ⟨RX6, "leafOfShown", "(III)I"⟩
abbrev cX6_chainBeginning : ByteArray := prog_8_method_16_code
def yX6_chainBeginning : MethodName := ⟨RX6, "chainBeginning", "(I)I"⟩
abbrev cX6_chainEnd : ByteArray := prog_8_method_17_code
def yX6_chainEnd : MethodName := ⟨RX6, "chainEnd", "(I)I"⟩
abbrev cX6_kindOn : ByteArray := prog_8_method_18_code
def yX6_kindOn : MethodName := ⟨RX6, "kindOn", "(I)I"⟩
abbrev cX6_looksLike : ByteArray := prog_8_method_19_code
def yX6_looksLike : MethodName := ⟨RX6, "looksLike", "(LPaperPocket$Paper;I)Z"⟩
def RX7 : String := "PaperPocket$Sheets"
def TX7 : u_T := fun k => match k with
  | 0 => ("PaperPocket$Sheets", "items", "[[I", true)
  | 1 => ("PaperPocket$Sheets", "lanes", "[I", true)
  | _ => ("PaperPocket$Sheets", "sizes", "[I", true)
def tyX7 : Nat → FieldType := fun k => match k with
  | 0 => .array (.array .int)
  | 1 => .array .int
  | _ => .array .int
abbrev wsX70 : List Cond := u_ws RX7 TX7 3
theorem nmX7 : ∀ a, a < 3 → ∀ b, b < 3 → a ≠ b → (TX7 a).2.1 ≠ (TX7 b).2.1 := by decide +kernel
theorem tyX7_ok : ∀ k, k < 3 → parseFieldDescriptor (TX7 k).2.2.1 = some (tyX7 k) := by decide +kernel
abbrev cX7_init : ByteArray := prog_9_method_1_code
def yX7_init : MethodName := ⟨RX7, "<init>", "()V"⟩
abbrev cX7_isNumber : ByteArray := prog_9_method_2_code
def yX7_isNumber : MethodName := ⟨RX7, "isNumber", "(I)Z"⟩
abbrev cX7_isMissing : ByteArray := prog_9_method_3_code
def yX7_isMissing : MethodName := ⟨RX7, "isMissing", "(I)Z"⟩
abbrev cX7_reaches : ByteArray := prog_9_method_4_code
def yX7_reaches : MethodName := ⟨RX7, "reaches", "(III)Z"⟩
abbrev cX7_troubleAt : ByteArray := prog_9_method_5_code
def yX7_troubleAt : MethodName := ⟨RX7, "troubleAt", "(III)I"⟩
abbrev cX7_make : ByteArray := prog_9_method_6_code
def yX7_make : MethodName := ⟨RX7, "make", "(III)V"⟩
abbrev cX7_put : ByteArray := prog_9_method_7_code
def yX7_put : MethodName := ⟨RX7, "put", "(III)I"⟩
abbrev cX7_forget : ByteArray := prog_9_method_8_code
def yX7_forget : MethodName := ⟨RX7, "forget", "(I)I"⟩
abbrev cX7_present : ByteArray := prog_9_method_9_code
def yX7_present : MethodName := ⟨RX7, "present", "()I"⟩
def RX8 : String := "PaperPocket$Sightings"
def TX8 : u_T := fun k => match k with
  | 0 => ("PaperPocket$Sightings", "papers", "[I", true)
  | 1 => ("PaperPocket$Sightings", "sets", "[I", true)
  | _ => ("PaperPocket$Sightings", "count", "I", false)
def tyX8 : Nat → FieldType := fun k => match k with
  | 0 => .array .int
  | 1 => .array .int
  | _ => .int
abbrev wsX80 : List Cond := u_ws RX8 TX8 3
theorem nmX8 : ∀ a, a < 3 → ∀ b, b < 3 → a ≠ b → (TX8 a).2.1 ≠ (TX8 b).2.1 := by decide +kernel
theorem tyX8_ok : ∀ k, k < 3 → parseFieldDescriptor (TX8 k).2.2.1 = some (tyX8 k) := by decide +kernel
abbrev cX8_init : ByteArray := prog_10_method_1_code
def yX8_init : MethodName := ⟨RX8, "<init>", "()V"⟩
abbrev cX8_add : ByteArray := prog_10_method_2_code
def yX8_add : MethodName := ⟨RX8, "add", "(II)Z"⟩
def RX9 : String := "PaperPocket$Tape"
def TX9 : u_T := fun k => match k with
  | 0 => ("PaperPocket$Tape", "bytes", "[B", true)
  | 1 => ("PaperPocket$Tape", "size", "I", false)
  | 2 => ("PaperPocket$Tape", "latestFault", "I", false)
  | 3 => ("PaperPocket$Tape", "faultPlace", "I", false)
  | 4 => ("PaperPocket$Tape", "doing", "Z", false)
  | 5 => ("PaperPocket$Tape", "next", "I", false)
  | 6 => ("PaperPocket$Tape", "tokenStart", "I", false)
  | 7 => ("PaperPocket$Tape", "token", "I", false)
  | _ => ("PaperPocket$Tape", "value", "I", false)
def tyX9 : Nat → FieldType := fun k => match k with
  | 0 => .array .byte
  | 1 => .int
  | 2 => .int
  | 3 => .int
  | 4 => .boolean
  | 5 => .int
  | 6 => .int
  | 7 => .int
  | _ => .int
abbrev wsX90 : List Cond := u_ws RX9 TX9 9
theorem nmX9 : ∀ a, a < 9 → ∀ b, b < 9 → a ≠ b → (TX9 a).2.1 ≠ (TX9 b).2.1 := by decide +kernel
theorem tyX9_ok : ∀ k, k < 9 → parseFieldDescriptor (TX9 k).2.2.1 = some (tyX9 k) := by decide +kernel
abbrev cX9_init : ByteArray := prog_11_method_1_code
def yX9_init : MethodName := ⟨RX9, "<init>", "()V"⟩
abbrev cX9_append : ByteArray := prog_11_method_2_code
def yX9_append : MethodName := ⟨RX9, "append", "(JI)Z"⟩
abbrev cX9_readAll : ByteArray := prog_11_method_3_code
def yX9_readAll : MethodName := ⟨RX9, "readAll", "(LPaperPocket$Gates;)I"⟩
abbrev cX9_readTexts : ByteArray := prog_11_method_4_code
def yX9_readTexts : MethodName := ⟨RX9, "readTexts", "(LPaperPocket$Gates;)I"⟩
abbrev cX9_readDoor : ByteArray := prog_11_method_5_code
def yX9_readDoor : MethodName := ⟨RX9, "readDoor", "(LPaperPocket$Gates;)Z"⟩
abbrev cX9_readAsk : ByteArray := prog_11_method_6_code
def yX9_readAsk : MethodName := ⟨RX9, "readAsk", "(LPaperPocket$Gates;II)Z"⟩
abbrev cX9_readRight : ByteArray := prog_11_method_7_code
def yX9_readRight : MethodName := ⟨RX9, "readRight", "(LPaperPocket$Gates;)Z"⟩
abbrev cX9_expectNumber : ByteArray := prog_11_method_8_code
def yX9_expectNumber : MethodName := ⟨RX9, "expectNumber", "(I)Z"⟩
abbrev cX9_expectStop : ByteArray := prog_11_method_9_code
def yX9_expectStop : MethodName := ⟨RX9, "expectStop", "()Z"⟩
abbrev cX9_fail : ByteArray := prog_11_method_10_code
def yX9_fail : MethodName := ⟨RX9, "fail", "(I)Z"⟩
abbrev cX9_advance : ByteArray := prog_11_method_11_code
def yX9_advance : MethodName := ⟨RX9, "advance", "()V"⟩
abbrev cX9_readName : ByteArray := prog_11_method_12_code
def yX9_readName : MethodName := ⟨RX9, "readName", "()V"⟩
abbrev cX9_readFigures : ByteArray := prog_11_method_13_code
def yX9_readFigures : MethodName := ⟨RX9, "readFigures", "()V"⟩
abbrev cX9_isLetter : ByteArray := prog_11_method_14_code
def yX9_isLetter : MethodName := ⟨RX9, "isLetter", "(B)Z"⟩
abbrev cX9_isFigure : ByteArray := prog_11_method_15_code
def yX9_isFigure : MethodName := ⟨RX9, "isFigure", "(B)Z"⟩
abbrev cX9_isWord : ByteArray := prog_11_method_16_code
def yX9_isWord : MethodName := ⟨RX9, "isWord", "(Ljava/lang/String;)Z"⟩
def RX10 : String := "PaperPocket"
def TX10 : u_T := fun k => match k with
  | 0 => ("PaperPocket", "sheets", "LPaperPocket$Sheets;", true)
  | 1 => ("PaperPocket", "offices", "LPaperPocket$Offices;", true)
  | 2 => ("PaperPocket", "papers", "[LPaperPocket$Paper;", true)
  | 3 => ("PaperPocket", "secrets", "[I", true)
  | 4 => ("PaperPocket", "circle", "LPaperPocket$Circle;", true)
  | 5 => ("PaperPocket", "gates", "LPaperPocket$Gates;", true)
  | 6 => ("PaperPocket", "tape", "LPaperPocket$Tape;", true)
  | 7 => ("PaperPocket", "choice", "LPaperPocket$Choice;", true)
  | 8 => ("PaperPocket", "sightings", "LPaperPocket$Sightings;", true)
  | 9 => ("PaperPocket", "line", "LPaperPocket$Line;", true)
  | 10 => ("PaperPocket", "bodies", "LPaperPocket$Bodies;", true)
  | 11 => ("PaperPocket", "shown", "[I", true)
  | 12 => ("PaperPocket", "paperCount", "I", false)
  | 13 => ("PaperPocket", "theDay", "I", false)
  | _ => ("PaperPocket", "latestFinding", "I", false)
def tyX10 : Nat → FieldType := fun k => match k with
  | 0 => .object "PaperPocket$Sheets"
  | 1 => .object "PaperPocket$Offices"
  | 2 => .array (.object "PaperPocket$Paper")
  | 3 => .array .int
  | 4 => .object "PaperPocket$Circle"
  | 5 => .object "PaperPocket$Gates"
  | 6 => .object "PaperPocket$Tape"
  | 7 => .object "PaperPocket$Choice"
  | 8 => .object "PaperPocket$Sightings"
  | 9 => .object "PaperPocket$Line"
  | 10 => .object "PaperPocket$Bodies"
  | 11 => .array .int
  | 12 => .int
  | 13 => .int
  | _ => .int
abbrev wsX100 : List Cond := u_ws RX10 TX10 15
theorem nmX10 : ∀ a, a < 15 → ∀ b, b < 15 → a ≠ b → (TX10 a).2.1 ≠ (TX10 b).2.1 := by decide +kernel
theorem tyX10_ok : ∀ k, k < 15 → parseFieldDescriptor (TX10 k).2.2.1 = some (tyX10 k) := by decide +kernel
abbrev cX10_init : ByteArray := prog_1_method_1_code
def yX10_init : MethodName := ⟨RX10, "<init>", "()V"⟩
abbrev cX10_sheet : ByteArray := prog_1_method_2_code
def yX10_sheet : MethodName := ⟨RX10, "sheet", "(III)I"⟩
abbrev cX10_set : ByteArray := prog_1_method_3_code
def yX10_set : MethodName := ⟨RX10, "set", "(III)I"⟩
abbrev cX10_copy : ByteArray := prog_1_method_4_code
def yX10_copy : MethodName := ⟨RX10, "copy", "(IIIII)I"⟩
abbrev cX10_drop : ByteArray := prog_1_method_5_code
def yX10_drop : MethodName := ⟨RX10, "drop", "(I)I"⟩
abbrev cX10_key : ByteArray := prog_1_method_6_code
def yX10_key : MethodName := ⟨RX10, "key", "(III)I"⟩
abbrev cX10_keyOn : ByteArray := prog_1_method_7_code
def yX10_keyOn : MethodName := ⟨RX10, "keyOn", "(II)I"⟩
abbrev cX10_close : ByteArray := prog_1_method_8_code
def yX10_close : MethodName := ⟨RX10, "close", "(III)I"⟩
abbrev cX10_paper : ByteArray := prog_1_method_9_code
def yX10_paper : MethodName := ⟨RX10, "paper", "(II)I"⟩
abbrev cX10_told : ByteArray := prog_1_method_10_code
def yX10_told : MethodName := ⟨RX10, "told", "(II)I"⟩
abbrev cX10_show : ByteArray := prog_1_method_11_code
def yX10_show : MethodName := ⟨RX10, "show", "(III)I"⟩
abbrev cX10_check : ByteArray := prog_1_method_12_code
def yX10_check : MethodName := ⟨RX10, "check", "(IIIII)I"⟩
abbrev cX10_lies : ByteArray := prog_1_method_13_code
def yX10_lies : MethodName := ⟨RX10, "lies", "(II)I"⟩
abbrev cX10_over : ByteArray := prog_1_method_14_code
def yX10_over : MethodName := ⟨RX10, "over", "(III)I"⟩
abbrev cX10_isOver : ByteArray := prog_1_method_15_code
def yX10_isOver : MethodName := ⟨RX10, "isOver", "(IIII)I"⟩
abbrev cX10_secret : ByteArray := prog_1_method_16_code
def yX10_secret : MethodName := ⟨RX10, "secret", "(II)I"⟩
abbrev cX10_answer : ByteArray := prog_1_method_17_code
def yX10_answer : MethodName := ⟨RX10, "answer", "(IIII)I"⟩
abbrev cX10_taken : ByteArray := prog_1_method_18_code
def yX10_taken : MethodName := ⟨RX10, "taken", "(IIII)I"⟩
abbrev cX10_odds : ByteArray := prog_1_method_19_code
def yX10_odds : MethodName := ⟨RX10, "odds", "(III)I"⟩
abbrev cX10_part : ByteArray := prog_1_method_20_code
def yX10_part : MethodName := ⟨RX10, "part", "(III)I"⟩
abbrev cX10_friends : ByteArray := prog_1_method_21_code
def yX10_friends : MethodName := ⟨RX10, "friends", "(IIII)I"⟩
abbrev cX10_book : ByteArray := prog_1_method_22_code
def yX10_book : MethodName := ⟨RX10, "book", "(II)I"⟩
abbrev cX10_revoke : ByteArray := prog_1_method_23_code
def yX10_revoke : MethodName := ⟨RX10, "revoke", "(II)I"⟩
abbrev cX10_holds : ByteArray := prog_1_method_24_code
def yX10_holds : MethodName := ⟨RX10, "holds", "(III)I"⟩
abbrev cX10_feed : ByteArray := prog_1_method_25_code
def yX10_feed : MethodName := ⟨RX10, "feed", "(JI)I"⟩
abbrev cX10_doors : ByteArray := prog_1_method_26_code
def yX10_doors : MethodName := ⟨RX10, "doors", "()I"⟩
abbrev cX10_fault : ByteArray := prog_1_method_27_code
def yX10_fault : MethodName := ⟨RX10, "fault", "()I"⟩
abbrev cX10_door : ByteArray := prog_1_method_28_code
def yX10_door : MethodName := ⟨RX10, "door", "(II)I"⟩
abbrev cX10_least : ByteArray := prog_1_method_29_code
def yX10_least : MethodName := ⟨RX10, "least", "(IIII)I"⟩
abbrev cX10_seen : ByteArray := prog_1_method_30_code
def yX10_seen : MethodName := ⟨RX10, "seen", "(III)I"⟩
abbrev cX10_together : ByteArray := prog_1_method_31_code
def yX10_together : MethodName := ⟨RX10, "together", "(I)I"⟩
abbrev cX10_queue : ByteArray := prog_1_method_32_code
def yX10_queue : MethodName := ⟨RX10, "queue", "(IIII)I"⟩
abbrev cX10_day : ByteArray := prog_1_method_33_code
def yX10_day : MethodName := ⟨RX10, "day", "(I)I"⟩
abbrev cX10_kind : ByteArray := prog_1_method_34_code
def yX10_kind : MethodName := ⟨RX10, "kind", "(I)I"⟩
abbrev cX10_as : ByteArray := prog_1_method_35_code
def yX10_as : MethodName := ⟨RX10, "as", "(II)I"⟩
abbrev cX10_ask : ByteArray := prog_1_method_36_code
def yX10_ask : MethodName := ⟨RX10, "ask", "(II)I"⟩
abbrev cX10_trace : ByteArray := prog_1_method_37_code
def yX10_trace : MethodName := ⟨RX10, "trace", "(I)I"⟩
abbrev cX10_count : ByteArray := prog_1_method_38_code
def yX10_count : MethodName := ⟨RX10, "count", "(I)I"⟩
abbrev cX10_status : ByteArray := prog_1_method_39_code
def yX10_status : MethodName := ⟨RX10, "status", "()I"⟩
abbrev cX10_finding : ByteArray := prog_1_method_40_code
def yX10_finding : MethodName := ⟨RX10, "finding", "(I)I"⟩
abbrev cX10_found : ByteArray := prog_1_method_41_code
def yX10_found : MethodName := ⟨RX10, "found", "(I)I"⟩
abbrev cX10_within : ByteArray := prog_1_method_42_code
def yX10_within : MethodName := ⟨RX10, "within", "(III)Z"⟩
abbrev cX10_hasBit : ByteArray := prog_1_method_43_code
def yX10_hasBit : MethodName := ⟨RX10, "hasBit", "(II)Z"⟩
abbrev cX10_isOffice : ByteArray := prog_1_method_44_code
def yX10_isOffice : MethodName := ⟨RX10, "isOffice", "(I)Z"⟩
abbrev cX10_isBearer : ByteArray := prog_1_method_45_code
def yX10_isBearer : MethodName := ⟨RX10, "isBearer", "(I)Z"⟩
abbrev cX10_isDoor : ByteArray := prog_1_method_46_code
def yX10_isDoor : MethodName := ⟨RX10, "isDoor", "(I)Z"⟩
abbrev cX10_isField : ByteArray := prog_1_method_47_code
def yX10_isField : MethodName := ⟨RX10, "isField", "(I)Z"⟩
abbrev cX10_isDay : ByteArray := prog_1_method_48_code
def yX10_isDay : MethodName := ⟨RX10, "isDay", "(I)Z"⟩
abbrev cX10_isSet : ByteArray := prog_1_method_49_code
def yX10_isSet : MethodName := ⟨RX10, "isSet", "(I)Z"⟩
abbrev cX10_paperAt : ByteArray := prog_1_method_50_code
def yX10_paperAt : MethodName := ⟨RX10, "paperAt", "(I)LPaperPocket$Paper;"⟩
abbrev cX10_join : ByteArray := prog_1_method_51_code
def yX10_join : MethodName := ⟨RX10, "join", "(II)I"⟩
abbrev cX10_steps : ByteArray := prog_1_method_52_code
def yX10_steps : MethodName := ⟨RX10, "steps", "(II)I"⟩
abbrev cX10_power : ByteArray := prog_1_method_53_code
def yX10_power : MethodName := ⟨RX10, "power", "(II)I"⟩
abbrev cX10_seal : ByteArray := prog_1_method_54_code
def yX10_seal : MethodName := ⟨RX10, "seal", "(II)I"⟩
abbrev cX10_keyOf : ByteArray := prog_1_method_55_code
def yX10_keyOf : MethodName := ⟨RX10, "keyOf", "(LPaperPocket$Paper;)I"⟩
abbrev cX10_signOf : ByteArray := prog_1_method_56_code
def yX10_signOf : MethodName := ⟨RX10, "signOf", "(I)I"⟩
abbrev cX10_isTaken : ByteArray := prog_1_method_57_code
def yX10_isTaken : MethodName := ⟨RX10, "isTaken", "(IIII)Z"⟩
abbrev cX10_whyNot : ByteArray := prog_1_method_58_code
def yX10_whyNot : MethodName := ⟨RX10, "whyNot", "(LPaperPocket$Paper;II)I"⟩
abbrev cX10_lightest : ByteArray := prog_1_method_59_code
def yX10_lightest : MethodName := ⟨RX10, "lightest", "(III)I"⟩
abbrev cX10_couldHaveMade : ByteArray := prog_1_method_60_code
def yX10_couldHaveMade : MethodName := ⟨RX10, "couldHaveMade", "(II)I"⟩
abbrev cX10_goneCount : ByteArray := prog_1_method_61_code
def yX10_goneCount : MethodName := ⟨RX10, "goneCount", "()I"⟩
def RX11 : String := "PaperPocketModel"
def TX11 : u_T := fun k => match k with
  | 0 => ("PaperPocketModel", "thrown", "I", false)
  | 1 => ("PaperPocketModel", "status", "I", false)
  | 2 => ("PaperPocketModel", "lane", "[I", true)
  | 3 => ("PaperPocketModel", "many", "[I", true)
  | 4 => ("PaperPocketModel", "item", "[I", true)
  | 5 => ("PaperPocketModel", "keys", "[I", true)
  | 6 => ("PaperPocketModel", "keyDay", "[I", true)
  | 7 => ("PaperPocketModel", "keyOf", "[I", true)
  | 8 => ("PaperPocketModel", "closed", "[I", true)
  | 9 => ("PaperPocketModel", "papers", "I", false)
  | 10 => ("PaperPocketModel", "row", "[I", true)
  | 11 => ("PaperPocketModel", "revoked", "[I", true)
  | 12 => ("PaperPocketModel", "shown", "[I", true)
  | 13 => ("PaperPocketModel", "sums", "[I", true)
  | 14 => ("PaperPocketModel", "secrets", "[I", true)
  | 15 => ("PaperPocketModel", "bookDay", "[I", true)
  | 16 => ("PaperPocketModel", "rights", "[I", true)
  | 17 => ("PaperPocketModel", "asks", "[I", true)
  | 18 => ("PaperPocketModel", "askWhat", "[I", true)
  | 19 => ("PaperPocketModel", "askOf", "[I", true)
  | 20 => ("PaperPocketModel", "askBound", "[I", true)
  | 21 => ("PaperPocketModel", "tape", "[I", true)
  | 22 => ("PaperPocketModel", "taped", "I", false)
  | 23 => ("PaperPocketModel", "latest", "I", false)
  | 24 => ("PaperPocketModel", "length", "I", false)
  | 25 => ("PaperPocketModel", "cursor", "I", false)
  | 26 => ("PaperPocketModel", "token", "I", false)
  | 27 => ("PaperPocketModel", "from", "I", false)
  | 28 => ("PaperPocketModel", "till", "I", false)
  | 29 => ("PaperPocketModel", "fault", "I", false)
  | 30 => ("PaperPocketModel", "faultAt", "I", false)
  | 31 => ("PaperPocketModel", "isDone", "Z", false)
  | 32 => ("PaperPocketModel", "texts", "I", false)
  | 33 => ("PaperPocketModel", "fit", "[I", true)
  | 34 => ("PaperPocketModel", "seens", "I", false)
  | 35 => ("PaperPocketModel", "seenPaper", "[I", true)
  | 36 => ("PaperPocketModel", "seenSet", "[I", true)
  | 37 => ("PaperPocketModel", "order", "[I", true)
  | 38 => ("PaperPocketModel", "bestOrder", "[I", true)
  | 39 => ("PaperPocketModel", "theDay", "I", false)
  | 40 => ("PaperPocketModel", "trace", "[I", true)
  | _ => ("PaperPocketModel", "traced", "I", false)
def tyX11 : Nat → FieldType := fun k => match k with
  | 0 => .int
  | 1 => .int
  | 2 => .array .int
  | 3 => .array .int
  | 4 => .array .int
  | 5 => .array .int
  | 6 => .array .int
  | 7 => .array .int
  | 8 => .array .int
  | 9 => .int
  | 10 => .array .int
  | 11 => .array .int
  | 12 => .array .int
  | 13 => .array .int
  | 14 => .array .int
  | 15 => .array .int
  | 16 => .array .int
  | 17 => .array .int
  | 18 => .array .int
  | 19 => .array .int
  | 20 => .array .int
  | 21 => .array .int
  | 22 => .int
  | 23 => .int
  | 24 => .int
  | 25 => .int
  | 26 => .int
  | 27 => .int
  | 28 => .int
  | 29 => .int
  | 30 => .int
  | 31 => .boolean
  | 32 => .int
  | 33 => .array .int
  | 34 => .int
  | 35 => .array .int
  | 36 => .array .int
  | 37 => .array .int
  | 38 => .array .int
  | 39 => .int
  | 40 => .array .int
  | _ => .int
abbrev wsX110 : List Cond := u_ws RX11 TX11 42
theorem nmX11 : ∀ a, a < 42 → ∀ b, b < 42 → a ≠ b → (TX11 a).2.1 ≠ (TX11 b).2.1 := by decide +kernel
theorem tyX11_ok : ∀ k, k < 42 → parseFieldDescriptor (TX11 k).2.2.1 = some (tyX11 k) := by decide +kernel
abbrev cX11_in : ByteArray := prog_13_method_2_code
def yX11_in : MethodName := ⟨RX11, "in", "(JJJ)Z"⟩
abbrev cX11_finding : ByteArray := prog_13_method_3_code
def yX11_finding : MethodName := ⟨RX11, "finding", "(I)I"⟩
abbrev cX11_init : ByteArray := prog_13_method_4_code
def yX11_init : MethodName := ⟨RX11, "<init>", "()V"⟩
abbrev cX11_isDay : ByteArray := prog_13_method_5_code
def yX11_isDay : MethodName := ⟨RX11, "isDay", "(I)Z"⟩
abbrev cX11_isSheet : ByteArray := prog_13_method_6_code
def yX11_isSheet : MethodName := ⟨RX11, "isSheet", "(I)Z"⟩
abbrev cX11_sheet : ByteArray := prog_13_method_7_code
def yX11_sheet : MethodName := ⟨RX11, "sheet", "(III)I"⟩
abbrev cX11_set : ByteArray := prog_13_method_8_code
def yX11_set : MethodName := ⟨RX11, "set", "(III)I"⟩
abbrev cX11_copy : ByteArray := prog_13_method_9_code
def yX11_copy : MethodName := ⟨RX11, "copy", "(IIIII)I"⟩
abbrev cX11_drop : ByteArray := prog_13_method_10_code
def yX11_drop : MethodName := ⟨RX11, "drop", "(I)I"⟩
abbrev cX11_lookItems : ByteArray := prog_13_method_11_code
def yX11_lookItems : MethodName := ⟨RX11, "lookItems", "(III)I"⟩
abbrev cX11_isOffice : ByteArray := prog_13_method_12_code
def yX11_isOffice : MethodName := ⟨RX11, "isOffice", "(I)Z"⟩
abbrev cX11_key : ByteArray := prog_13_method_13_code
def yX11_key : MethodName := ⟨RX11, "key", "(III)I"⟩
abbrev cX11_keyFor : ByteArray := prog_13_method_14_code
def yX11_keyFor : MethodName := ⟨RX11, "keyFor", "(II)I"⟩
abbrev cX11_keyOn : ByteArray := prog_13_method_15_code
def yX11_keyOn : MethodName := ⟨RX11, "keyOn", "(II)I"⟩
abbrev cX11_close : ByteArray := prog_13_method_16_code
def yX11_close : MethodName := ⟨RX11, "close", "(III)I"⟩
abbrev cX11_isPaper : ByteArray := prog_13_method_17_code
def yX11_isPaper : MethodName := ⟨RX11, "isPaper", "(I)Z"⟩
abbrev cX11_of : ByteArray := prog_13_method_18_code
def yX11_of : MethodName := ⟨RX11, "of", "(II)I"⟩
abbrev cX11_field : ByteArray := prog_13_method_19_code
def yX11_field : MethodName := ⟨RX11, "field", "(II)I"⟩
abbrev cX11_paper : ByteArray := prog_13_method_20_code
def yX11_paper : MethodName := ⟨RX11, "paper", "(II)I"⟩
abbrev cX11_join : ByteArray := prog_13_method_21_code
def yX11_join : MethodName := ⟨RX11, "join", "(II)I"⟩
abbrev cX11_leaf : ByteArray := prog_13_method_22_code
def yX11_leaf : MethodName := ⟨RX11, "leaf", "(III)I"⟩
abbrev cX11_halfOf : ByteArray := prog_13_method_23_code
def yX11_halfOf : MethodName := ⟨RX11, "halfOf", "(II)I"⟩
abbrev cX11_sealOf : ByteArray := prog_13_method_24_code
def yX11_sealOf : MethodName := ⟨RX11, "sealOf", "(II)I"⟩
abbrev cX11_rootOf : ByteArray := prog_13_method_25_code
def yX11_rootOf : MethodName := ⟨RX11, "rootOf", "(I)I"⟩
abbrev cX11_steps : ByteArray := prog_13_method_26_code
def yX11_steps : MethodName := ⟨RX11, "steps", "(II)I"⟩
abbrev cX11_beginning : ByteArray := prog_13_method_27_code
def yX11_beginning : MethodName := ⟨RX11, "beginning", "(II)I"⟩
abbrev cX11_endOf : ByteArray := prog_13_method_28_code
def yX11_endOf : MethodName := ⟨RX11, "endOf", "(II)I"⟩
abbrev cX11_told : ByteArray := prog_13_method_29_code
def yX11_told : MethodName := ⟨RX11, "told", "(II)I"⟩
abbrev cX11_showAll : ByteArray := prog_13_method_30_code
def yX11_showAll : MethodName := ⟨RX11, "showAll", "(II)I"⟩
abbrev cX11_show : ByteArray := prog_13_method_31_code
def yX11_show : MethodName := ⟨RX11, "show", "(III)I"⟩
abbrev cX11_check : ByteArray := prog_13_method_32_code
def yX11_check : MethodName := ⟨RX11, "check", "(IIIII)I"⟩
abbrev cX11_lies : ByteArray := prog_13_method_33_code
def yX11_lies : MethodName := ⟨RX11, "lies", "(II)I"⟩
abbrev cX11_over : ByteArray := prog_13_method_34_code
def yX11_over : MethodName := ⟨RX11, "over", "(III)I"⟩
abbrev cX11_isOver : ByteArray := prog_13_method_35_code
def yX11_isOver : MethodName := ⟨RX11, "isOver", "(IIII)I"⟩
abbrev cX11_isBearer : ByteArray := prog_13_method_36_code
def yX11_isBearer : MethodName := ⟨RX11, "isBearer", "(I)Z"⟩
abbrev cX11_power : ByteArray := prog_13_method_37_code
def yX11_power : MethodName := ⟨RX11, "power", "(II)I"⟩
abbrev cX11_secret : ByteArray := prog_13_method_38_code
def yX11_secret : MethodName := ⟨RX11, "secret", "(II)I"⟩
abbrev cX11_answer : ByteArray := prog_13_method_39_code
def yX11_answer : MethodName := ⟨RX11, "answer", "(IIII)I"⟩
abbrev cX11_isTaken : ByteArray := prog_13_method_40_code
def yX11_isTaken : MethodName := ⟨RX11, "isTaken", "(IIII)Z"⟩
abbrev cX11_taken : ByteArray := prog_13_method_41_code
def yX11_taken : MethodName := ⟨RX11, "taken", "(IIII)I"⟩
abbrev cX11_odds : ByteArray := prog_13_method_42_code
def yX11_odds : MethodName := ⟨RX11, "odds", "(III)I"⟩
abbrev cX11_partOf : ByteArray := prog_13_method_43_code
def yX11_partOf : MethodName := ⟨RX11, "partOf", "(III)I"⟩
abbrev cX11_part : ByteArray := prog_13_method_44_code
def yX11_part : MethodName := ⟨RX11, "part", "(III)I"⟩
abbrev cX11_turned : ByteArray := prog_13_method_45_code
def yX11_turned : MethodName := ⟨RX11, "turned", "(I)I"⟩
abbrev cX11_valueAt : ByteArray := prog_13_method_46_code
def yX11_valueAt : MethodName := ⟨RX11, "valueAt", "(III)I"⟩
abbrev cX11_friends : ByteArray := prog_13_method_47_code
def yX11_friends : MethodName := ⟨RX11, "friends", "(IIII)I"⟩
abbrev cX11_isDoor : ByteArray := prog_13_method_48_code
def yX11_isDoor : MethodName := ⟨RX11, "isDoor", "(I)Z"⟩
abbrev cX11_book : ByteArray := prog_13_method_49_code
def yX11_book : MethodName := ⟨RX11, "book", "(II)I"⟩
abbrev cX11_revoke : ByteArray := prog_13_method_50_code
def yX11_revoke : MethodName := ⟨RX11, "revoke", "(II)I"⟩
abbrev cX11_isKnown : ByteArray := prog_13_method_51_code
def yX11_isKnown : MethodName := ⟨RX11, "isKnown", "(II)Z"⟩
abbrev cX11_holdsAt : ByteArray := prog_13_method_52_code
def yX11_holdsAt : MethodName := ⟨RX11, "holdsAt", "(III)I"⟩
abbrev cX11_holds : ByteArray := prog_13_method_53_code
def yX11_holds : MethodName := ⟨RX11, "holds", "(III)I"⟩
abbrev cX11_feed : ByteArray := prog_13_method_54_code
def yX11_feed : MethodName := ⟨RX11, "feed", "(JI)I"⟩
abbrev cX11_byteAt : ByteArray := prog_13_method_55_code
def yX11_byteAt : MethodName := ⟨RX11, "byteAt", "(I)I"⟩
abbrev cX11_isLetter : ByteArray := prog_13_method_56_code
def yX11_isLetter : MethodName := ⟨RX11, "isLetter", "(I)Z"⟩
abbrev cX11_isFigure : ByteArray := prog_13_method_57_code
def yX11_isFigure : MethodName := ⟨RX11, "isFigure", "(I)Z"⟩
abbrev cX11_step : ByteArray := prog_13_method_58_code
def yX11_step : MethodName := ⟨RX11, "step", "()V"⟩
abbrev cX11_bad : ByteArray := prog_13_method_59_code
def yX11_bad : MethodName := ⟨RX11, "bad", "(I)V"⟩
abbrev cX11_must : ByteArray := prog_13_method_60_code
def yX11_must : MethodName := ⟨RX11, "must", "(Z)V"⟩
abbrev cX11_word : ByteArray := prog_13_method_61_code
def yX11_word : MethodName := ⟨RX11, "word", "()J"⟩
abbrev cX11_numberTo : ByteArray := prog_13_method_62_code
def yX11_numberTo : MethodName := ⟨RX11, "numberTo", "(I)I"⟩
abbrev cX11_askOfWord : ByteArray := prog_13_method_63_code
def yX11_askOfWord : MethodName := ⟨RX11, "askOfWord", "()I"⟩
abbrev cX11_readDoor : ByteArray := prog_13_method_64_code
def yX11_readDoor : MethodName := ⟨RX11, "readDoor", "()V"⟩
abbrev cX11_readRight : ByteArray := prog_13_method_65_code
def yX11_readRight : MethodName := ⟨RX11, "readRight", "()V"⟩
abbrev cX11_readAll : ByteArray := prog_13_method_66_code
def yX11_readAll : MethodName := ⟨RX11, "readAll", "()V"⟩
abbrev cX11_doors : ByteArray := prog_13_method_67_code
def yX11_doors : MethodName := ⟨RX11, "doors", "()I"⟩
abbrev cX11_fault : ByteArray := prog_13_method_68_code
def yX11_fault : MethodName := ⟨RX11, "fault", "()I"⟩
abbrev cX11_asksTooMuch : ByteArray := prog_13_method_69_code
def yX11_asksTooMuch : MethodName := ⟨RX11, "asksTooMuch", "(I)Z"⟩
abbrev cX11_door : ByteArray := prog_13_method_70_code
def yX11_door : MethodName := ⟨RX11, "door", "(II)I"⟩
abbrev cX11_fitsOf : ByteArray := prog_13_method_71_code
def yX11_fitsOf : MethodName := ⟨RX11, "fitsOf", "(II)I"⟩
abbrev cX11_bits : ByteArray := prog_13_method_72_code
def yX11_bits : MethodName := ⟨RX11, "bits", "(I)I"⟩
abbrev cX11_least : ByteArray := prog_13_method_73_code
def yX11_least : MethodName := ⟨RX11, "least", "(IIII)I"⟩
abbrev cX11_seen : ByteArray := prog_13_method_74_code
def yX11_seen : MethodName := ⟨RX11, "seen", "(III)I"⟩
abbrev cX11_couldOf : ByteArray := prog_13_method_75_code
def yX11_couldOf : MethodName := ⟨RX11, "couldOf", "(I)I"⟩
abbrev cX11_together : ByteArray := prog_13_method_76_code
def yX11_together : MethodName := ⟨RX11, "together", "(I)I"⟩
abbrev cX11_waitsOf : ByteArray := prog_13_method_77_code
def yX11_waitsOf : MethodName := ⟨RX11, "waitsOf", "(II)I"⟩
abbrev cX11_nextOrder : ByteArray := prog_13_method_78_code
def yX11_nextOrder : MethodName := ⟨RX11, "nextOrder", "(I)Z"⟩
abbrev cX11_queue : ByteArray := prog_13_method_79_code
def yX11_queue : MethodName := ⟨RX11, "queue", "(IIII)I"⟩
abbrev cX11_day : ByteArray := prog_13_method_80_code
def yX11_day : MethodName := ⟨RX11, "day", "(I)I"⟩
abbrev cX11_kindOf : ByteArray := prog_13_method_81_code
def yX11_kindOf : MethodName := ⟨RX11, "kindOf", "(I)I"⟩
abbrev cX11_isOf : ByteArray := prog_13_method_82_code
def yX11_isOf : MethodName := ⟨RX11, "isOf", "(II)Z"⟩
abbrev cX11_kind : ByteArray := prog_13_method_83_code
def yX11_kind : MethodName := ⟨RX11, "kind", "(I)I"⟩
abbrev cX11_as : ByteArray := prog_13_method_84_code
def yX11_as : MethodName := ⟨RX11, "as", "(II)I"⟩
abbrev cX11_began : ByteArray := prog_13_method_85_code
def yX11_began : MethodName := ⟨RX11, "began", "(I)V"⟩
abbrev cX11_daysOf : ByteArray := prog_13_method_86_code
def yX11_daysOf : MethodName := ⟨RX11, "daysOf", "(I)I"⟩
abbrev cX11_stampSize : ByteArray := prog_13_method_87_code
def yX11_stampSize : MethodName := ⟨RX11, "stampSize", "(II)I"⟩
abbrev cX11_markOf : ByteArray := prog_13_method_88_code
def yX11_markOf : MethodName := ⟨RX11, "markOf", "(II)I"⟩
abbrev cX11_sizeOf : ByteArray := prog_13_method_89_code
def yX11_sizeOf : MethodName := ⟨RX11, "sizeOf", "(II)I"⟩
abbrev cX11_ask : ByteArray := prog_13_method_90_code
def yX11_ask : MethodName := ⟨RX11, "ask", "(II)I"⟩
abbrev cX11_trace : ByteArray := prog_13_method_91_code
def yX11_trace : MethodName := ⟨RX11, "trace", "(I)I"⟩
abbrev cX11_count : ByteArray := prog_13_method_92_code
def yX11_count : MethodName := ⟨RX11, "count", "(I)I"⟩
abbrev cX11_status : ByteArray := prog_13_method_93_code
def yX11_status : MethodName := ⟨RX11, "status", "()I"⟩
def RJ6 : String := "java/lang/Integer"
def TJ6 : u_T := fun k => match k with
  | _ => ("", "", "", false)
def tyJ6 : Nat → FieldType := fun k => match k with
  | _ => .int
abbrev wsJ60 : List Cond := u_ws RJ6 TJ6 0
theorem nmJ6 : ∀ a, a < 0 → ∀ b, b < 0 → a ≠ b → (TJ6 a).2.1 ≠ (TJ6 b).2.1 := by decide +kernel
theorem tyJ6_ok : ∀ k, k < 0 → parseFieldDescriptor (TJ6 k).2.2.1 = some (tyJ6 k) := by decide +kernel
abbrev cJ6_bitCount_0f7a4 : ByteArray := prog_14_method_49_code
def yJ6_bitCount_0f7a4 : MethodName := ⟨RJ6, "bitCount", "(I)I"⟩
def RJ9 : String := "java/lang/Math"
def TJ9 : u_T := fun k => match k with
  | _ => ("", "", "", false)
def tyJ9 : Nat → FieldType := fun k => match k with
  | _ => .int
abbrev wsJ90 : List Cond := u_ws RJ9 TJ9 0
theorem nmJ9 : ∀ a, a < 0 → ∀ b, b < 0 → a ≠ b → (TJ9 a).2.1 ≠ (TJ9 b).2.1 := by decide +kernel
theorem tyJ9_ok : ∀ k, k < 0 → parseFieldDescriptor (TJ9 k).2.2.1 = some (tyJ9 k) := by decide +kernel
abbrev cJ9_floorMod_7cf53 : ByteArray := prog_15_method_50_code
def yJ9_floorMod_7cf53 : MethodName := ⟨RJ9, "floorMod", "(II)I"⟩
abbrev cJ9_max_7cf53 : ByteArray := prog_15_method_65_code
def yJ9_max_7cf53 : MethodName := ⟨RJ9, "max", "(II)I"⟩
abbrev cJ9_min_7cf53 : ByteArray := prog_15_method_69_code
def yJ9_min_7cf53 : MethodName := ⟨RJ9, "min", "(II)I"⟩
def RJ0 : String := "java/lang/String"
def TJ0 : u_T := fun k => match k with
  | _ => ("", "", "", false)
def tyJ0 : Nat → FieldType := fun k => match k with
  | _ => .int
abbrev wsJ00 : List Cond := u_ws RJ0 TJ0 0
theorem nmJ0 : ∀ a, a < 0 → ∀ b, b < 0 → a ≠ b → (TJ0 a).2.1 ≠ (TJ0 b).2.1 := by decide +kernel
theorem tyJ0_ok : ∀ k, k < 0 → parseFieldDescriptor (TJ0 k).2.2.1 = some (tyJ0 k) := by decide +kernel
abbrev cJ0_length_8abf5 : ByteArray := prog_16_method_54_code
def yJ0_length_8abf5 : MethodName := ⟨RJ0, "length", "()I"⟩
abbrev cJ0_charAt_5068e : ByteArray := prog_16_method_56_code
def yJ0_charAt_5068e : MethodName := ⟨RJ0, "charAt", "(I)C"⟩
abbrev cJ0_coder_7d493 : ByteArray := prog_16_method_152_code
def yJ0_coder_7d493 : MethodName := ⟨RJ0, "coder", "()B"⟩
abbrev cJ0_isLatin1_aae02 : ByteArray := prog_16_method_154_code
def yJ0_isLatin1_aae02 : MethodName := ⟨RJ0, "isLatin1", "()Z"⟩
abbrev cJ0_checkIndex_df160 : ByteArray := prog_16_method_155_code
def yJ0_checkIndex_df160 : MethodName := ⟨RJ0, "checkIndex", "(II)V"⟩
def RJ1 : String := "java/lang/StringLatin1"
def TJ1 : u_T := fun k => match k with
  | _ => ("", "", "", false)
def tyJ1 : Nat → FieldType := fun k => match k with
  | _ => .int
abbrev wsJ10 : List Cond := u_ws RJ1 TJ1 0
theorem nmJ1 : ∀ a, a < 0 → ∀ b, b < 0 → a ≠ b → (TJ1 a).2.1 ≠ (TJ1 b).2.1 := by decide +kernel
theorem tyJ1_ok : ∀ k, k < 0 → parseFieldDescriptor (TJ1 k).2.2.1 = some (tyJ1 k) := by decide +kernel
abbrev cJ1_charAt_3b067 : ByteArray := prog_17_method_2_code
def yJ1_charAt_3b067 : MethodName := ⟨RJ1, "charAt", "([BI)C"⟩
def RJ2 : String := "java/lang/StringUTF16"
def TJ2 : u_T := fun k => match k with
  | _ => ("", "", "", false)
def tyJ2 : Nat → FieldType := fun k => match k with
  | _ => .int
abbrev wsJ20 : List Cond := u_ws RJ2 TJ2 0
theorem nmJ2 : ∀ a, a < 0 → ∀ b, b < 0 → a ≠ b → (TJ2 a).2.1 ≠ (TJ2 b).2.1 := by decide +kernel
theorem tyJ2_ok : ∀ k, k < 0 → parseFieldDescriptor (TJ2 k).2.2.1 = some (tyJ2 k) := by decide +kernel
abbrev cJ2_getChar_3b067 : ByteArray := prog_18_method_5_code
def yJ2_getChar_3b067 : MethodName := ⟨RJ2, "getChar", "([BI)C"⟩
abbrev cJ2_length_9d52b : ByteArray := prog_18_method_6_code
def yJ2_length_9d52b : MethodName := ⟨RJ2, "length", "([B)I"⟩
abbrev cJ2_charAt_3b067 : ByteArray := prog_18_method_83_code
def yJ2_charAt_3b067 : MethodName := ⟨RJ2, "charAt", "([BI)C"⟩
abbrev cJ2_checkIndex_2214a : ByteArray := prog_18_method_91_code
def yJ2_checkIndex_2214a : MethodName := ⟨RJ2, "checkIndex", "(I[B)V"⟩
def RJ10 : String := "java/lang/System"
def TJ10 : u_T := fun k => match k with
  | _ => ("", "", "", false)
def tyJ10 : Nat → FieldType := fun k => match k with
  | _ => .int
abbrev wsJ100 : List Cond := u_ws RJ10 TJ10 0
theorem nmJ10 : ∀ a, a < 0 → ∀ b, b < 0 → a ≠ b → (TJ10 a).2.1 ≠ (TJ10 b).2.1 := by decide +kernel
theorem tyJ10_ok : ∀ k, k < 0 → parseFieldDescriptor (TJ10 k).2.2.1 = some (tyJ10 k) := by decide +kernel
def RJ7 : String := "java/util/Arrays"
def TJ7 : u_T := fun k => match k with
  | _ => ("", "", "", false)
def tyJ7 : Nat → FieldType := fun k => match k with
  | _ => .int
abbrev wsJ70 : List Cond := u_ws RJ7 TJ7 0
theorem nmJ7 : ∀ a, a < 0 → ∀ b, b < 0 → a ≠ b → (TJ7 a).2.1 ≠ (TJ7 b).2.1 := by decide +kernel
theorem tyJ7_ok : ∀ k, k < 0 → parseFieldDescriptor (TJ7 k).2.2.1 = some (tyJ7 k) := by decide +kernel
abbrev cJ7_fill_53178 : ByteArray := prog_20_method_103_code
def yJ7_fill_53178 : MethodName := ⟨RJ7, "fill", "([II)V"⟩
def RJ3 : String := "jdk/internal/util/Preconditions"
def TJ3 : u_T := fun k => match k with
  | _ => ("", "", "", false)
def tyJ3 : Nat → FieldType := fun k => match k with
  | _ => .int
abbrev wsJ30 : List Cond := u_ws RJ3 TJ3 0
theorem nmJ3 : ∀ a, a < 0 → ∀ b, b < 0 → a ≠ b → (TJ3 a).2.1 ≠ (TJ3 b).2.1 := by decide +kernel
theorem tyJ3_ok : ∀ k, k < 0 → parseFieldDescriptor (TJ3 k).2.2.1 = some (tyJ3 k) := by decide +kernel
abbrev cJ3_checkIndex_8e157 : ByteArray := prog_21_method_11_code
def yJ3_checkIndex_8e157 : MethodName := ⟨RJ3, "checkIndex", "(IILjava/util/function/BiFunction;)I"⟩
def RL : String := "PaperPocketLaw"
abbrev cL_law : ByteArray := code
def yL_law : MethodName := ⟨RL, "law", "([I)Z"⟩
abbrev vwCl : List vw_C := [(RX0, TX0, 2), (RX1, TX1, 2), (RX2, TX2, 2), (RX3, TX3, 6), (RX4, TX4, 6), (RX5, TX5, 5), (RX6, TX6, 8), (RX7, TX7, 3), (RX8, TX8, 3), (RX9, TX9, 9), (RX10, TX10, 15), (RX11, TX11, 42)]
