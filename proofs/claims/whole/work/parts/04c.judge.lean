/-! What nobody writes: LIMITS, the texts, the links of the nest -/
def jLim (j : Nat) : Int32 := match j with
  | 0 => 3
  | 1 => 5
  | 2 => 4
  | _ => 999
def jnest : List (String × Nat × MethodName) := [(RX10, 35, yX2_init), (RX10, 49, yX9_init), (RX10, 56, yX1_init), (RX10, 63, yX8_init), (RX10, 70, yX4_init), (RX10, 77, yX0_init), (RX7, 29, yX10_within), (RX6, 46, yX10_within), (RX6, 90, yX10_steps), (RX6, 59, yX10_join), (RX6, 75, yX10_hasBit), (RX2, 16, yX10_within), (RX2, 22, yX10_hasBit), (RX3, 38, yX10_hasBit), (RX4, 26, yX10_within), (RX4, 48, yX10_hasBit)]
def jtl : List Nat := [4, 5, 4, 5, 4]
def jtb : List (List Int32) := [[100, 111, 111, 114], [114, 105, 103, 104, 116], [102, 114, 111, 109], [102, 105, 101, 108, 100], [111, 118, 101, 114]]
def jX (ad : Nat → Nat) (A : Nat → Prop) (U : State) (H : Heap) : Prop :=
  (∀ q ∈ jnest, va_Nw (.methodLinkNest q.1 q.2.1 q.2.2 RX10) U) ∧ va_AOA .int U ∧ va_AO RX6 U ∧
  va_Z RX6 "LIMITS" "[I" (.ref (ad (jB + 5))) A U H ∧ va_T .int (ad (jB + 5)) 9 (fun j => .int (jLim j)) A U H ∧
  vk_R RX9 40 "door" (ad (jB + 0)) U ∧ vk_R RX9 50 "right" (ad (jB + 1)) U ∧ vk_R RX9 79 "from" (ad (jB + 2)) U ∧ vk_R RX9 81 "field" (ad (jB + 3)) U ∧ vk_R RX9 83 "over" (ad (jB + 4)) U ∧
  vk_S 5 jtl jtb (fun i => ad (jB + i)) (fun i => ad (jB + 10 + i)) A U H ∧
  va_Z "java/lang/String" "COMPACT_STRINGS" "Z" (.int 1) A U H ∧ va_Zq "jdk/internal/util/Preconditions" "SIOOBE_FORMATTER" "Ljava/util/function/BiFunction;" A U H
theorem jX.kept {ad : Nat → Nat} {A : Nat → Prop} {U : State} {H H1 : Heap} (h : jX ad A U H) (hq : ∀ a : Nat, a < H.size → ¬ A a → H1[a]? = H[a]?) : jX ad A U H1 := by
  obtain ⟨h1, h2, h3, h4, h5, h6, h7, h8, h9, h10, h11, h12, h13⟩ := h
  exact ⟨h1, h2, h3, h4.kept hq, h5.kept hq, h6, h7, h8, h9, h10, h11.kept hq, h12.kept hq, h13.kept hq⟩
theorem jX.narrow {ad : Nat → Nat} {A B : Nat → Prop} {U : State} {H : Heap} (h : jX ad A U H) (hq : ∀ q, B q → A q) : jX ad B U H := by
  obtain ⟨h1, h2, h3, h4, h5, h6, h7, h8, h9, h10, h11, h12, h13⟩ := h
  exact ⟨h1, h2, h3, h4.narrow hq, h5.narrow hq, h6, h7, h8, h9, h10, h11.narrow hq, h12.narrow hq, h13.narrow hq⟩
theorem va_AOA.moved {ty : FieldType} {u U : State} (hvm : u.vm.Alike U.vm) (h : va_AOA ty u) : va_AOA ty U := by
  have h1 : (Cond.arrayOver (.array ty)).before #[] (u.setVm U.vm) = true := by rw [Cond.arrayOver_setVmC hvm]; exact h
  unfold va_AOA
  simp only [Cond.before, Cond.holds, Cond.value] at h1 ⊢
  exact h1
theorem jX.warm {ad : Nat → Nat} {A : Nat → Prop} {s U : State} {H : Heap} (hW : s.WarmedH U.vm) (h : jX ad A s H) : jX ad A U H := by
  obtain ⟨h1, h2, h3, h4, h5, h6, h7, h8, h9, h10, h11, h12, h13⟩ := h
  exact ⟨fun q hq => va_Nw.warmM hW (h1 q hq), h2.moved hW.alike, h3.moved hW.alike, h4.moved hW.alike, h5.moved hW.alike, h6.warm hW, h7.warm hW, h8.warm hW, h9.warm hW, h10.warm hW, h11.moved hW.alike, h12.moved hW.alike, h13.moved hW.alike⟩
theorem jX.same {ad : Nat → Nat} {A : Nat → Prop} {u U : State} {H : Heap} (hv : U.vm = u.vm) (h : jX ad A u H) : jX ad A U H := by
  obtain ⟨h1, h2, h3, h4, h5, h6, h7, h8, h9, h10, h11, h12, h13⟩ := h
  have ha : u.vm.Alike U.vm := by rw [hv]; exact Vm.Alike.refl u.vm
  exact ⟨fun q hq => va_Nw.same rfl hv.symm (h1 q hq), h2.moved ha, h3.moved ha, h4.moved ha, h5.moved ha, h6.same hv, h7.same hv, h8.same hv, h9.same hv, h10.same hv, h11.moved ha, h12.moved ha, h13.moved ha⟩
theorem jX.ad {ad ad' : Nat → Nat} {A : Nat → Prop} {U : State} {H : Heap} (h : jX ad A U H) (he : ∀ i, jB ≤ i → ad' i = ad i) : jX ad' A U H := by
  have e1 : (fun i => ad' (jB + i)) = (fun i => ad (jB + i)) := funext fun i => he _ (Nat.le_add_right _ _)
  have e2 : (fun i => ad' (jB + 10 + i)) = (fun i => ad (jB + 10 + i)) := funext fun i => he _ (by omega)
  unfold jX
  rw [he (jB + 5) (by omega), he (jB + 0) (by omega), he (jB + 1) (by omega), he (jB + 2) (by omega), he (jB + 3) (by omega), he (jB + 4) (by omega), e1, e2]
  exact h
/-! THE JUDGEMENT -/
abbrev jG : Type := (Program × Launch × Env × Room × State × MethodId × Array Value × List Frame × Method × Code × (State → Prop)) × (Nat → ClassId) × (Nat → Nat → Nat) × (Nat → Prop) × Nat × (Nat → Nat)
/-- references lead to cells that are there -/
def jSok (sh : jSh) : Prop := sh.1 ≤ jB ∧ ∀ i j t, i < sh.1 → sh.2.2.2 i j = some t → t < sh.1
def jKy (dC : Nat → ClassId) (dI : Nat → Nat → Nat) (cy : Nat → ClassId) (sh : jSh) (s : State) : Prop := ∀ i, i < sh.1 → 12 ≤ sh.2.1 i → va_K (dC, dI) vwCl [(cy i, jty (sh.2.1 i))] s
/-- old cells lie where they lay -/
def jAg (n0 n : Nat) (ad0 ad : Nat → Nat) : Prop := (∀ i, i < n0 ∨ jB ≤ i → ad i = ad0 i) ∧ n0 ≤ n ∧ (n = n0 → ad = ad0)
theorem jAg.rf {n : Nat} {ad : Nat → Nat} : jAg n n ad ad := ⟨fun _ _ => rfl, Nat.le_refl _, fun _ => rfl⟩
theorem jAg.tr {n0 n1 n2 : Nat} {a0 a1 a2 : Nat → Nat} (h1 : jAg n0 n1 a0 a1) (h2 : jAg n1 n2 a1 a2) : jAg n0 n2 a0 a2 := by
  refine ⟨fun i hi => ?_, Nat.le_trans h1.2.1 h2.2.1, fun e => ?_⟩
  · rw [h2.1 i (hi.imp (fun q => Nat.lt_of_lt_of_le q h1.2.1) id), h1.1 i hi]
  · have e1 : n1 = n0 := Nat.le_antisymm (by rw [← e]; exact h2.2.1) h1.2.1
    rw [h2.2.2 (by omega), h1.2.2 e1]
def jHp (s : State) (dC : Nat → ClassId) (dI : Nat → Nat → Nat) (A : Nat → Prop) (n0 : Nat) (ad0 : Nat → Nat) (sh : jSh) (mem : jMem) (H : Heap) (locs : List Loc) (ad : Nat → Nat) (cy : Nat → ClassId) : Prop :=
  va_P (dC, dI) vwCl (jws ad cy sh mem) H ∧ va_D A (jws ad cy sh mem) ∧ va_S A s.heap H locs ∧ jKy dC dI cy sh s ∧ jAg n0 sh.1 ad0 ad ∧ jSok sh
def J (G : jG) (own : String) (cc : ByteArray) (nL u us pc : Nat) (lv : Nat → Option Value) (st : List Value) (sh : jSh) (mem : jMem) : Prop :=
  match G with
  | ((p, l, e, R, s, m, args, below, meth, c, Q), dC, dI, A, n0, ad0) => ∀ (H : Heap) (locs : List Loc) (ls : Array Slot) (ad : Nat → Nat) (cy : Nat → ClassId), jHp s dC dI A n0 ad0 sh mem H locs ad cy → jlo ls nL ad lv → W p l e R s m args below meth c H locs u us Q (F0 m pc ls (st.map (jv ad)))
def jOk (G : jG) (own : String) (cc : ByteArray) (nL : Nat) : Prop :=
  match G with
  | ((p, l, e, R, s, m, args, below, meth, c, Q), dC, dI, A, n0, ad0) => p.tables.exec = Jvm.exec ∧ c.code = cc ∧ c.maxLocals = nL ∧ s.vm.findClass own = some m.cls ∧ (∀ w ∈ jW, w.before args s = true) ∧ (∀ q, s.heap.size ≤ q → A q) ∧ va_K (dC, dI) vwCl [] s ∧ jX ad0 A s s.heap ∧ meth.locks = false
