def jRemL (x y : Int64) : Int64 := x - x / y * y
def jRem (x y : Int32) : Int32 := x - x / y * y
def jJoin (a b : Int32) : Int32 := (jRemL (a.toInt64 * a.toInt64 + 3 * b.toInt64 + 5) 65521).toInt32
def jLeaf (p i w : Int32) : Int32 := jRem (31 * w + 7 * p + i) 65521
def jSeal (r k : Int32) : Int32 := (jRemL (r.toInt64 * k.toInt64 + 1) 65521).toInt32
def jStep (v : Int32) : Int32 := (jRemL (v.toInt64 * v.toInt64 + 3) 65521).toInt32
def jSteps (x : Int32) : Nat → Int32
  | 0 => x
  | n + 1 => jStep (jSteps x n)
def jCv (l v : Int32) : Int32 := if l = 0 then v.toInt8.toInt32 else if l = 1 then v.toInt16.toInt32 else v
/-- the key of a day: what the keys told so far come to -/
def jKeyS (days keys : Nat → Int32) (d : Int32) : Nat → Option (Int32 × Int32)
  | 0 => none
  | c + 1 => if days c ≤ d ∧ (∀ q, jKeyS days keys d c = some q → q.1 ≤ days c) then some (days c, keys c) else jKeyS days keys d c
def jKey (days keys : Nat → Int32) (c : Nat) (o d : Int32) : Int32 := match jKeyS days keys d c with
  | none => 100 + o
  | some q => q.2
theorem jsub1 {z : Nat} (h : z < 2 ^ 31) : (nI z - 1).toInt64.toInt = (z : Int) - 1 := by
  rw [Int32.toInt_toInt64]
  cases z with
  | zero => rfl
  | succ z => rw [nI_pred, nI_toInt (by omega)]; omega
set_option maxRecDepth 4000 in
set_option maxHeartbeats 1000000 in
theorem m_in (np : Nat) (mem : jMem) (x a b : Int64)  : jPi yX11_in cX11_in 6 .boolean 1 [.long x, .long a, .long b] np mem (fun v c => v = jb (a ≤ x ∧ x ≤ b) ∧ c = mem) := by
  refine jPi.of (own := RX11) rfl rfl (Nat.le_of_ble_eq_true rfl) (fun G X hR hr hE => ?_)
  refine j_lload_n X dX11_in_0 rfl ?_
  refine j_lload_n X dX11_in_1 rfl ?_
  refine j_lcmp X dX11_in_2 ?_
  refine j_if_lt X 17 dX11_in_3 (by decide) (fun c_3 => ?_) (fun c_3 => ?_)
  · refine j_iconst X dX11_in_17 0 (by decide) ?_
    refine s_iret X hE hr dX11_in_18 (by first | exact jb_nar | rfl) ?_
    refine ⟨?_, rfl⟩
    clear hE hr hR X
    first | exact (jb_t (by (try simp only [lg_cmp_lt, lg_cmp_gt, lg_cmp_le, lg_cmp_ge] at *); (try simp (disch := omega) only [Int64.le_iff_toInt_le, Int64.lt_iff_toInt_lt, Int32.le_iff_toInt_le, Int32.lt_iff_toInt_lt, fa_eq, fa_lit, fa_litL, nI_toInt, pk_lT, Int32.toInt_toInt64, jadd64, jin, jnoneT] at *); omega)).symm | exact (jb_f (by (try simp only [lg_cmp_lt, lg_cmp_gt, lg_cmp_le, lg_cmp_ge] at *); (try simp (disch := omega) only [Int64.le_iff_toInt_le, Int64.lt_iff_toInt_lt, Int32.le_iff_toInt_le, Int32.lt_iff_toInt_lt, fa_eq, fa_lit, fa_litL, nI_toInt, pk_lT, Int32.toInt_toInt64, jadd64, jin, jnoneT] at *); omega)).symm
  · refine j_lload_n X dX11_in_6 rfl ?_
    refine j_lload X dX11_in_7 rfl ?_
    refine j_lcmp X dX11_in_9 ?_
    refine j_if_gt X 17 dX11_in_10 (by decide) (fun c_10 => ?_) (fun c_10 => ?_)
    · refine j_iconst X dX11_in_17 0 (by decide) ?_
      refine s_iret X hE hr dX11_in_18 (by first | exact jb_nar | rfl) ?_
      refine ⟨?_, rfl⟩
      clear hE hr hR X
      first | exact (jb_t (by (try simp only [lg_cmp_lt, lg_cmp_gt, lg_cmp_le, lg_cmp_ge] at *); (try simp (disch := omega) only [Int64.le_iff_toInt_le, Int64.lt_iff_toInt_lt, Int32.le_iff_toInt_le, Int32.lt_iff_toInt_lt, fa_eq, fa_lit, fa_litL, nI_toInt, pk_lT, Int32.toInt_toInt64, jadd64, jin, jnoneT] at *); omega)).symm | exact (jb_f (by (try simp only [lg_cmp_lt, lg_cmp_gt, lg_cmp_le, lg_cmp_ge] at *); (try simp (disch := omega) only [Int64.le_iff_toInt_le, Int64.lt_iff_toInt_lt, Int32.le_iff_toInt_le, Int32.lt_iff_toInt_lt, fa_eq, fa_lit, fa_litL, nI_toInt, pk_lT, Int32.toInt_toInt64, jadd64, jin, jnoneT] at *); omega)).symm
    · refine j_iconst X dX11_in_13 1 (by decide) ?_
      refine j_goto X 18 dX11_in_14 (by decide) ?_
      refine s_iret X hE hr dX11_in_18 (by first | exact jb_nar | rfl) ?_
      refine ⟨?_, rfl⟩
      clear hE hr hR X
      first | exact (jb_t (by (try simp only [lg_cmp_lt, lg_cmp_gt, lg_cmp_le, lg_cmp_ge] at *); (try simp (disch := omega) only [Int64.le_iff_toInt_le, Int64.lt_iff_toInt_lt, Int32.le_iff_toInt_le, Int32.lt_iff_toInt_lt, fa_eq, fa_lit, fa_litL, nI_toInt, pk_lT, Int32.toInt_toInt64, jadd64, jin, jnoneT] at *); omega)).symm | exact (jb_f (by (try simp only [lg_cmp_lt, lg_cmp_gt, lg_cmp_le, lg_cmp_ge] at *); (try simp (disch := omega) only [Int64.le_iff_toInt_le, Int64.lt_iff_toInt_lt, Int32.le_iff_toInt_le, Int32.lt_iff_toInt_lt, fa_eq, fa_lit, fa_litL, nI_toInt, pk_lT, Int32.toInt_toInt64, jadd64, jin, jnoneT] at *); omega)).symm
theorem m_inI (np : Nat) (mem : jMem) (x : Int32) (a b : Int64) (lo hi : Int) (ha : a.toInt = lo) (hb : b.toInt = hi) : jPi yX11_in cX11_in 6 .boolean 1 [.long x.toInt64, .long a, .long b] np mem (fun v c => v = jb (jin x lo hi) ∧ c = mem) := by
  have h := m_in np mem x.toInt64 a b
  subst ha hb
  rw [show jb (a ≤ x.toInt64 ∧ x.toInt64 ≤ b) = jb (jin x a.toInt b.toInt) from jb_c jin_l] at h
  exact h
set_option maxRecDepth 4000 in
set_option maxHeartbeats 1000000 in
theorem m_isDay (np : Nat) (mem : jMem) (x : Int32)  : jPi yX11_isDay cX11_isDay 1 .boolean 2 [.int x] np mem (fun v c => v = jb (jin x 0 999) ∧ c = mem) := by
  refine jPi.of (own := RX11) rfl rfl (Nat.le_of_ble_eq_true rfl) (fun G X hR hr hE => ?_)
  refine j_iload_n X dX11_isDay_0 rfl ?_
  refine j_i2l X dX11_isDay_1 ?_
  refine j_lconst X dX11_isDay_2 0 (by decide) ?_
  refine j_ldc2 X dX11_isDay_3 u1118 ?_
  refine s_callSi X hR (m_inI np _ _ _ _ 0 999 rfl rfl) rfl u1087 u1085 u1086 u12 hyX11_in (by decide) (by decide) (Nat.le_of_ble_eq_true rfl) dX11_isDay_6 (fun v_6 m_6 h_6 => ?_)
  obtain ⟨e1, e2⟩ := h_6; have e1 := e1.symm; have e2 := e2.symm; subst e1; subst e2
  refine s_iret X hE hr dX11_isDay_9 (by first | exact jb_nar | rfl) ?_
  first | exact ⟨rfl, rfl⟩ | (exfalso; clear hE hr hR X; (try simp only [lg_cmp_lt, lg_cmp_gt, lg_cmp_le, lg_cmp_ge] at *); (try simp (disch := omega) only [Int64.le_iff_toInt_le, Int64.lt_iff_toInt_lt, Int32.le_iff_toInt_le, Int32.lt_iff_toInt_lt, fa_eq, fa_lit, fa_litL, nI_toInt, pk_lT, Int32.toInt_toInt64, jadd64, jin, jnoneT] at *); omega)
set_option maxRecDepth 4000 in
set_option maxHeartbeats 1000000 in
theorem m_isSheet (np : Nat) (mem : jMem) (x : Int32)  : jPi yX11_isSheet cX11_isSheet 1 .boolean 2 [.int x] np mem (fun v c => v = jb (jin x 0 7) ∧ c = mem) := by
  refine jPi.of (own := RX11) rfl rfl (Nat.le_of_ble_eq_true rfl) (fun G X hR hr hE => ?_)
  refine j_iload_n X dX11_isSheet_0 rfl ?_
  refine j_i2l X dX11_isSheet_1 ?_
  refine j_lconst X dX11_isSheet_2 0 (by decide) ?_
  refine j_ldc2 X dX11_isSheet_3 u1084 ?_
  refine s_callSi X hR (m_inI np _ _ _ _ 0 7 rfl rfl) rfl u1087 u1085 u1086 u12 hyX11_in (by decide) (by decide) (Nat.le_of_ble_eq_true rfl) dX11_isSheet_6 (fun v_6 m_6 h_6 => ?_)
  obtain ⟨e1, e2⟩ := h_6; have e1 := e1.symm; have e2 := e2.symm; subst e1; subst e2
  refine s_iret X hE hr dX11_isSheet_9 (by first | exact jb_nar | rfl) ?_
  first | exact ⟨rfl, rfl⟩ | (exfalso; clear hE hr hR X; (try simp only [lg_cmp_lt, lg_cmp_gt, lg_cmp_le, lg_cmp_ge] at *); (try simp (disch := omega) only [Int64.le_iff_toInt_le, Int64.lt_iff_toInt_lt, Int32.le_iff_toInt_le, Int32.lt_iff_toInt_lt, fa_eq, fa_lit, fa_litL, nI_toInt, pk_lT, Int32.toInt_toInt64, jadd64, jin, jnoneT] at *); omega)
set_option maxRecDepth 4000 in
set_option maxHeartbeats 1000000 in
theorem m_isOffice (np : Nat) (mem : jMem) (x : Int32)  : jPi yX11_isOffice cX11_isOffice 1 .boolean 2 [.int x] np mem (fun v c => v = jb (jin x 0 3) ∧ c = mem) := by
  refine jPi.of (own := RX11) rfl rfl (Nat.le_of_ble_eq_true rfl) (fun G X hR hr hE => ?_)
  refine j_iload_n X dX11_isOffice_0 rfl ?_
  refine j_i2l X dX11_isOffice_1 ?_
  refine j_lconst X dX11_isOffice_2 0 (by decide) ?_
  refine j_ldc2 X dX11_isOffice_3 u1114 ?_
  refine s_callSi X hR (m_inI np _ _ _ _ 0 3 rfl rfl) rfl u1087 u1085 u1086 u12 hyX11_in (by decide) (by decide) (Nat.le_of_ble_eq_true rfl) dX11_isOffice_6 (fun v_6 m_6 h_6 => ?_)
  obtain ⟨e1, e2⟩ := h_6; have e1 := e1.symm; have e2 := e2.symm; subst e1; subst e2
  refine s_iret X hE hr dX11_isOffice_9 (by first | exact jb_nar | rfl) ?_
  first | exact ⟨rfl, rfl⟩ | (exfalso; clear hE hr hR X; (try simp only [lg_cmp_lt, lg_cmp_gt, lg_cmp_le, lg_cmp_ge] at *); (try simp (disch := omega) only [Int64.le_iff_toInt_le, Int64.lt_iff_toInt_lt, Int32.le_iff_toInt_le, Int32.lt_iff_toInt_lt, fa_eq, fa_lit, fa_litL, nI_toInt, pk_lT, Int32.toInt_toInt64, jadd64, jin, jnoneT] at *); omega)
set_option maxRecDepth 4000 in
set_option maxHeartbeats 1000000 in
theorem m_isBearer (np : Nat) (mem : jMem) (x : Int32)  : jPi yX11_isBearer cX11_isBearer 1 .boolean 2 [.int x] np mem (fun v c => v = jb (jin x 0 5) ∧ c = mem) := by
  refine jPi.of (own := RX11) rfl rfl (Nat.le_of_ble_eq_true rfl) (fun G X hR hr hE => ?_)
  refine j_iload_n X dX11_isBearer_0 rfl ?_
  refine j_i2l X dX11_isBearer_1 ?_
  refine j_lconst X dX11_isBearer_2 0 (by decide) ?_
  refine j_ldc2 X dX11_isBearer_3 u1142 ?_
  refine s_callSi X hR (m_inI np _ _ _ _ 0 5 rfl rfl) rfl u1087 u1085 u1086 u12 hyX11_in (by decide) (by decide) (Nat.le_of_ble_eq_true rfl) dX11_isBearer_6 (fun v_6 m_6 h_6 => ?_)
  obtain ⟨e1, e2⟩ := h_6; have e1 := e1.symm; have e2 := e2.symm; subst e1; subst e2
  refine s_iret X hE hr dX11_isBearer_9 (by first | exact jb_nar | rfl) ?_
  first | exact ⟨rfl, rfl⟩ | (exfalso; clear hE hr hR X; (try simp only [lg_cmp_lt, lg_cmp_gt, lg_cmp_le, lg_cmp_ge] at *); (try simp (disch := omega) only [Int64.le_iff_toInt_le, Int64.lt_iff_toInt_lt, Int32.le_iff_toInt_le, Int32.lt_iff_toInt_lt, fa_eq, fa_lit, fa_litL, nI_toInt, pk_lT, Int32.toInt_toInt64, jadd64, jin, jnoneT] at *); omega)
set_option maxRecDepth 4000 in
set_option maxHeartbeats 1000000 in
theorem m_isDoor (np : Nat) (mem : jMem) (x : Int32)  : jPi yX11_isDoor cX11_isDoor 1 .boolean 2 [.int x] np mem (fun v c => v = jb (jin x 0 3) ∧ c = mem) := by
  refine jPi.of (own := RX11) rfl rfl (Nat.le_of_ble_eq_true rfl) (fun G X hR hr hE => ?_)
  refine j_iload_n X dX11_isDoor_0 rfl ?_
  refine j_i2l X dX11_isDoor_1 ?_
  refine j_lconst X dX11_isDoor_2 0 (by decide) ?_
  refine j_ldc2 X dX11_isDoor_3 u1114 ?_
  refine s_callSi X hR (m_inI np _ _ _ _ 0 3 rfl rfl) rfl u1087 u1085 u1086 u12 hyX11_in (by decide) (by decide) (Nat.le_of_ble_eq_true rfl) dX11_isDoor_6 (fun v_6 m_6 h_6 => ?_)
  obtain ⟨e1, e2⟩ := h_6; have e1 := e1.symm; have e2 := e2.symm; subst e1; subst e2
  refine s_iret X hE hr dX11_isDoor_9 (by first | exact jb_nar | rfl) ?_
  first | exact ⟨rfl, rfl⟩ | (exfalso; clear hE hr hR X; (try simp only [lg_cmp_lt, lg_cmp_gt, lg_cmp_le, lg_cmp_ge] at *); (try simp (disch := omega) only [Int64.le_iff_toInt_le, Int64.lt_iff_toInt_lt, Int32.le_iff_toInt_le, Int32.lt_iff_toInt_lt, fa_eq, fa_lit, fa_litL, nI_toInt, pk_lT, Int32.toInt_toInt64, jadd64, jin, jnoneT] at *); omega)
set_option maxRecDepth 4000 in
set_option maxHeartbeats 1000000 in
theorem m_finding (np : Nat) (mem : jMem) (x : Int32)  : jPi yX11_finding cX11_finding 2 .int 1 [.ref 66, .int x] np mem (fun v c => v = -1000010 - x ∧ c = jup mem 66 1 x) := by
  refine jPi.of (own := RX11) rfl rfl (Nat.le_of_ble_eq_true rfl) (fun G X hR hr hE => ?_)
  refine j_aload_n X dX11_finding_0 rfl ?_
  refine j_iload_n X dX11_finding_1 rfl ?_
  refine j_putI X 11 1 (by decide) (by decide) rfl rfl rfl rfl u951 (o66 np) (k66 np) dX11_finding_2 ?_
  refine j_ldc X dX11_finding_5 u1094 ?_
  refine j_iload_n X dX11_finding_7 rfl ?_
  refine j_isub X dX11_finding_8 ?_
  refine s_iret X hE hr dX11_finding_9 rfl ?_
  first | exact ⟨rfl, rfl⟩ | (exfalso; clear hE hr hR X; (try simp only [lg_cmp_lt, lg_cmp_gt, lg_cmp_le, lg_cmp_ge] at *); (try simp (disch := omega) only [Int64.le_iff_toInt_le, Int64.lt_iff_toInt_lt, Int32.le_iff_toInt_le, Int32.lt_iff_toInt_lt, fa_eq, fa_lit, fa_litL, nI_toInt, pk_lT, Int32.toInt_toInt64, jadd64, jin, jnoneT] at *); omega)
set_option maxRecDepth 4000 in
set_option maxHeartbeats 1000000 in
theorem m_join (np : Nat) (mem : jMem) (a b : Int32)  : jPi yX11_join cX11_join 2 .int 1 [.int a, .int b] np mem (fun v c => v = jJoin a b ∧ c = mem) := by
  refine jPi.of (own := RX11) rfl rfl (Nat.le_of_ble_eq_true rfl) (fun G X hR hr hE => ?_)
  refine j_iload_n X dX11_join_0 rfl ?_
  refine j_i2l X dX11_join_1 ?_
  refine j_iload_n X dX11_join_2 rfl ?_
  refine j_i2l X dX11_join_3 ?_
  refine j_lmul X dX11_join_4 ?_
  refine j_ldc2 X dX11_join_5 u1114 ?_
  refine j_iload_n X dX11_join_8 rfl ?_
  refine j_i2l X dX11_join_9 ?_
  refine j_lmul X dX11_join_10 ?_
  refine j_ladd X dX11_join_11 ?_
  refine j_ldc2 X dX11_join_12 u1142 ?_
  refine j_ladd X dX11_join_15 ?_
  refine j_ldc2 X dX11_join_16 u1168 ?_
  refine j_lrem X dX11_join_19 (by decide) ?_
  refine j_l2i X dX11_join_20 ?_
  refine s_iret X hE hr dX11_join_21 rfl ?_
  first | exact ⟨rfl, rfl⟩ | (exfalso; clear hE hr hR X; (try simp only [lg_cmp_lt, lg_cmp_gt, lg_cmp_le, lg_cmp_ge] at *); (try simp (disch := omega) only [Int64.le_iff_toInt_le, Int64.lt_iff_toInt_lt, Int32.le_iff_toInt_le, Int32.lt_iff_toInt_lt, fa_eq, fa_lit, fa_litL, nI_toInt, pk_lT, Int32.toInt_toInt64, jadd64, jin, jnoneT] at *); omega)
set_option maxRecDepth 4000 in
set_option maxHeartbeats 1000000 in
theorem m_leaf (np : Nat) (mem : jMem) (p i w : Int32)  : jPi yX11_leaf cX11_leaf 3 .int 1 [.int p, .int i, .int w] np mem (fun v c => v = jLeaf p i w ∧ c = mem) := by
  refine jPi.of (own := RX11) rfl rfl (Nat.le_of_ble_eq_true rfl) (fun G X hR hr hE => ?_)
  refine j_bipush X dX11_leaf_0 31 (by decide) ?_
  refine j_iload_n X dX11_leaf_2 rfl ?_
  refine j_imul X dX11_leaf_3 ?_
  refine j_bipush X dX11_leaf_4 7 (by decide) ?_
  refine j_iload_n X dX11_leaf_6 rfl ?_
  refine j_imul X dX11_leaf_7 ?_
  refine j_iadd X dX11_leaf_8 ?_
  refine j_iload_n X dX11_leaf_9 rfl ?_
  refine j_iadd X dX11_leaf_10 ?_
  refine j_ldc X dX11_leaf_11 u1164 ?_
  refine j_irem X dX11_leaf_13 (by decide) ?_
  refine s_iret X hE hr dX11_leaf_14 rfl ?_
  first | exact ⟨rfl, rfl⟩ | (exfalso; clear hE hr hR X; (try simp only [lg_cmp_lt, lg_cmp_gt, lg_cmp_le, lg_cmp_ge] at *); (try simp (disch := omega) only [Int64.le_iff_toInt_le, Int64.lt_iff_toInt_lt, Int32.le_iff_toInt_le, Int32.lt_iff_toInt_lt, fa_eq, fa_lit, fa_litL, nI_toInt, pk_lT, Int32.toInt_toInt64, jadd64, jin, jnoneT] at *); omega)
set_option maxRecDepth 4000 in
set_option maxHeartbeats 1000000 in
theorem m_sheet_bad (np : Nat) (mem : jMem) (s l z : Int32) (h : ¬ (jin s 0 7 ∧ jin l 0 2 ∧ z.toInt ≤ 60)) : jPi yX11_sheet cX11_sheet 5 .int 3 [.ref 66, .int s, .int l, .int z] np mem (fun v c => v = -1000001 ∧ c = jup mem 66 0 0) := by
  refine jPi.of (own := RX11) rfl rfl (Nat.le_of_ble_eq_true rfl) (fun G X hR hr hE => ?_)
  refine j_aload_n X dX11_sheet_0 rfl ?_
  refine j_iconst X dX11_sheet_1 0 (by decide) ?_
  refine j_putI X 11 0 (by decide) (by decide) rfl rfl rfl rfl u950 (o66 np) (k66 np) dX11_sheet_2 ?_
  refine j_iload_n X dX11_sheet_5 rfl ?_
  refine s_callSi X hR (m_isSheet np _ _) rfl u1083 u1081 u1082 u12 hyX11_isSheet (by decide) (by decide) (Nat.le_of_ble_eq_true rfl) dX11_sheet_6 (fun v_6 m_6 h_6 => ?_)
  obtain ⟨e1, e2⟩ := h_6; have e1 := e1.symm; have e2 := e2.symm; subst e1; subst e2
  refine j_ifb_eq X 30 dX11_sheet_9 (by decide) (fun c_9 => ?_) (fun c_9 => ?_)
  · refine j_ldc X dX11_sheet_30 u1089 ?_
    refine s_iret X hE hr dX11_sheet_32 rfl ?_
    first | exact ⟨rfl, rfl⟩ | (exfalso; clear hE hr hR X; (try simp only [lg_cmp_lt, lg_cmp_gt, lg_cmp_le, lg_cmp_ge] at *); (try simp (disch := omega) only [Int64.le_iff_toInt_le, Int64.lt_iff_toInt_lt, Int32.le_iff_toInt_le, Int32.lt_iff_toInt_lt, fa_eq, fa_lit, fa_litL, nI_toInt, pk_lT, Int32.toInt_toInt64, jadd64, jin, jnoneT] at *); omega)
  · refine j_iload_n X dX11_sheet_12 rfl ?_
    refine j_i2l X dX11_sheet_13 ?_
    refine j_lconst X dX11_sheet_14 0 (by decide) ?_
    refine j_ldc2 X dX11_sheet_15 u1088 ?_
    refine s_callSi X hR (m_inI np _ _ _ _ 0 2 rfl rfl) rfl u1087 u1085 u1086 u12 hyX11_in (by decide) (by decide) (Nat.le_of_ble_eq_true rfl) dX11_sheet_18 (fun v_18 m_18 h_18 => ?_)
    obtain ⟨e1, e2⟩ := h_18; have e1 := e1.symm; have e2 := e2.symm; subst e1; subst e2
    refine j_ifb_eq X 30 dX11_sheet_21 (by decide) (fun c_21 => ?_) (fun c_21 => ?_)
    · refine j_ldc X dX11_sheet_30 u1089 ?_
      refine s_iret X hE hr dX11_sheet_32 rfl ?_
      first | exact ⟨rfl, rfl⟩ | (exfalso; clear hE hr hR X; (try simp only [lg_cmp_lt, lg_cmp_gt, lg_cmp_le, lg_cmp_ge] at *); (try simp (disch := omega) only [Int64.le_iff_toInt_le, Int64.lt_iff_toInt_lt, Int32.le_iff_toInt_le, Int32.lt_iff_toInt_lt, fa_eq, fa_lit, fa_litL, nI_toInt, pk_lT, Int32.toInt_toInt64, jadd64, jin, jnoneT] at *); omega)
    · refine j_iload_n X dX11_sheet_24 rfl ?_
      refine j_bipush X dX11_sheet_25 60 (by decide) ?_
      refine j_icmp_le X 33 dX11_sheet_27 (by decide) (fun c_27 => ?_) (fun c_27 => ?_)
      · exfalso
        clear hE hr hR X
        (try simp only [lg_cmp_lt, lg_cmp_gt, lg_cmp_le, lg_cmp_ge] at *); (try simp (disch := omega) only [Int64.le_iff_toInt_le, Int64.lt_iff_toInt_lt, Int32.le_iff_toInt_le, Int32.lt_iff_toInt_lt, fa_eq, fa_lit, fa_litL, nI_toInt, pk_lT, Int32.toInt_toInt64, jadd64, jin, jnoneT] at *); omega
      · refine j_ldc X dX11_sheet_30 u1089 ?_
        refine s_iret X hE hr dX11_sheet_32 rfl ?_
        first | exact ⟨rfl, rfl⟩ | (exfalso; clear hE hr hR X; (try simp only [lg_cmp_lt, lg_cmp_gt, lg_cmp_le, lg_cmp_ge] at *); (try simp (disch := omega) only [Int64.le_iff_toInt_le, Int64.lt_iff_toInt_lt, Int32.le_iff_toInt_le, Int32.lt_iff_toInt_lt, fa_eq, fa_lit, fa_litL, nI_toInt, pk_lT, Int32.toInt_toInt64, jadd64, jin, jnoneT] at *); omega)
set_option maxRecDepth 4000 in
set_option maxHeartbeats 1000000 in
theorem m_sheet_size (np : Nat) (mem : jMem) (s l z : Int32) (h : jin s 0 7 ∧ jin l 0 2 ∧ z.toInt ≤ 60) (hz : z.toInt < 0) : jPi yX11_sheet cX11_sheet 5 .int 3 [.ref 66, .int s, .int l, .int z] np mem (fun v c => v = -1000010 - 4 ∧ c = jup (jup (jup mem 66 0 0) 66 1 0) 66 1 4) := by
  refine jPi.of (own := RX11) rfl rfl (Nat.le_of_ble_eq_true rfl) (fun G X hR hr hE => ?_)
  refine j_aload_n X dX11_sheet_0 rfl ?_
  refine j_iconst X dX11_sheet_1 0 (by decide) ?_
  refine j_putI X 11 0 (by decide) (by decide) rfl rfl rfl rfl u950 (o66 np) (k66 np) dX11_sheet_2 ?_
  refine j_iload_n X dX11_sheet_5 rfl ?_
  refine s_callSi X hR (m_isSheet np _ _) rfl u1083 u1081 u1082 u12 hyX11_isSheet (by decide) (by decide) (Nat.le_of_ble_eq_true rfl) dX11_sheet_6 (fun v_6 m_6 h_6 => ?_)
  obtain ⟨e1, e2⟩ := h_6; have e1 := e1.symm; have e2 := e2.symm; subst e1; subst e2
  refine j_ifb_eq X 30 dX11_sheet_9 (by decide) (fun c_9 => ?_) (fun c_9 => ?_)
  · exfalso
    clear hE hr hR X
    (try simp only [lg_cmp_lt, lg_cmp_gt, lg_cmp_le, lg_cmp_ge] at *); (try simp (disch := omega) only [Int64.le_iff_toInt_le, Int64.lt_iff_toInt_lt, Int32.le_iff_toInt_le, Int32.lt_iff_toInt_lt, fa_eq, fa_lit, fa_litL, nI_toInt, pk_lT, Int32.toInt_toInt64, jadd64, jin, jnoneT] at *); omega
  · refine j_iload_n X dX11_sheet_12 rfl ?_
    refine j_i2l X dX11_sheet_13 ?_
    refine j_lconst X dX11_sheet_14 0 (by decide) ?_
    refine j_ldc2 X dX11_sheet_15 u1088 ?_
    refine s_callSi X hR (m_inI np _ _ _ _ 0 2 rfl rfl) rfl u1087 u1085 u1086 u12 hyX11_in (by decide) (by decide) (Nat.le_of_ble_eq_true rfl) dX11_sheet_18 (fun v_18 m_18 h_18 => ?_)
    obtain ⟨e1, e2⟩ := h_18; have e1 := e1.symm; have e2 := e2.symm; subst e1; subst e2
    refine j_ifb_eq X 30 dX11_sheet_21 (by decide) (fun c_21 => ?_) (fun c_21 => ?_)
    · exfalso
      clear hE hr hR X
      (try simp only [lg_cmp_lt, lg_cmp_gt, lg_cmp_le, lg_cmp_ge] at *); (try simp (disch := omega) only [Int64.le_iff_toInt_le, Int64.lt_iff_toInt_lt, Int32.le_iff_toInt_le, Int32.lt_iff_toInt_lt, fa_eq, fa_lit, fa_litL, nI_toInt, pk_lT, Int32.toInt_toInt64, jadd64, jin, jnoneT] at *); omega
    · refine j_iload_n X dX11_sheet_24 rfl ?_
      refine j_bipush X dX11_sheet_25 60 (by decide) ?_
      refine j_icmp_le X 33 dX11_sheet_27 (by decide) (fun c_27 => ?_) (fun c_27 => ?_)
      · refine j_aload_n X dX11_sheet_33 rfl ?_
        refine j_iconst X dX11_sheet_34 0 (by decide) ?_
        refine j_putI X 11 1 (by decide) (by decide) rfl rfl rfl rfl u951 (o66 np) (k66 np) dX11_sheet_35 ?_
        refine j_iload_n X dX11_sheet_38 rfl ?_
        refine j_if_ge X 48 dX11_sheet_39 (by decide) (fun c_39 => ?_) (fun c_39 => ?_)
        · exfalso
          clear hE hr hR X
          (try simp only [lg_cmp_lt, lg_cmp_gt, lg_cmp_le, lg_cmp_ge] at *); (try simp (disch := omega) only [Int64.le_iff_toInt_le, Int64.lt_iff_toInt_lt, Int32.le_iff_toInt_le, Int32.lt_iff_toInt_lt, fa_eq, fa_lit, fa_litL, nI_toInt, pk_lT, Int32.toInt_toInt64, jadd64, jin, jnoneT] at *); omega
        · refine j_aload_n X dX11_sheet_42 rfl ?_
          refine j_iconst X dX11_sheet_43 4 (by decide) ?_
          refine s_callVi X hR (m_finding np _ _) rfl 11 (by decide) (o66 np) (k66 np) rfl u1093 u1090 u1092 qp36 u12 hyX11_finding (by decide) (by decide) (Nat.le_of_ble_eq_true rfl) dX11_sheet_44 (fun v_44 m_44 h_44 => ?_)
          obtain ⟨e1, e2⟩ := h_44; have e1 := e1.symm; have e2 := e2.symm; subst e1; subst e2
          refine s_iret X hE hr dX11_sheet_47 rfl ?_
          first | exact ⟨rfl, rfl⟩ | (exfalso; clear hE hr hR X; (try simp only [lg_cmp_lt, lg_cmp_gt, lg_cmp_le, lg_cmp_ge] at *); (try simp (disch := omega) only [Int64.le_iff_toInt_le, Int64.lt_iff_toInt_lt, Int32.le_iff_toInt_le, Int32.lt_iff_toInt_lt, fa_eq, fa_lit, fa_litL, nI_toInt, pk_lT, Int32.toInt_toInt64, jadd64, jin, jnoneT] at *); omega)
      · exfalso
        clear hE hr hR X
        (try simp only [lg_cmp_lt, lg_cmp_gt, lg_cmp_le, lg_cmp_ge] at *); (try simp (disch := omega) only [Int64.le_iff_toInt_le, Int64.lt_iff_toInt_lt, Int32.le_iff_toInt_le, Int32.lt_iff_toInt_lt, fa_eq, fa_lit, fa_litL, nI_toInt, pk_lT, Int32.toInt_toInt64, jadd64, jin, jnoneT] at *); omega
set_option maxRecDepth 4000 in
set_option maxHeartbeats 1000000 in
theorem m_sheet (np : Nat) (mem : jMem) (s : Nat) (l z : Int32) (hs : s < 8) (hl : jin l 0 2) (hz : jin z 0 60) : jPi yX11_sheet cX11_sheet 5 .int 3 [.ref 66, .int (nI s), .int l, .int z] np mem (fun v c => v = z ∧ c = jfill (jup (jup (jup (jup mem 66 0 0) 66 1 0) 67 s l) 68 s z) 69 (60 * s) (60 * s + 60) 0) := by
  refine jPi.of (own := RX11) rfl rfl (Nat.le_of_ble_eq_true rfl) (fun G X hR hr hE => ?_)
  refine j_aload_n X dX11_sheet_0 rfl ?_
  refine j_iconst X dX11_sheet_1 0 (by decide) ?_
  refine j_putI X 11 0 (by decide) (by decide) rfl rfl rfl rfl u950 (o66 np) (k66 np) dX11_sheet_2 ?_
  refine j_iload_n X dX11_sheet_5 rfl ?_
  refine s_callSi X hR (m_isSheet np _ _) rfl u1083 u1081 u1082 u12 hyX11_isSheet (by decide) (by decide) (Nat.le_of_ble_eq_true rfl) dX11_sheet_6 (fun v_6 m_6 h_6 => ?_)
  obtain ⟨e1, e2⟩ := h_6; have e1 := e1.symm; have e2 := e2.symm; subst e1; subst e2
  refine j_ifb_eq X 30 dX11_sheet_9 (by decide) (fun c_9 => ?_) (fun c_9 => ?_)
  · exfalso
    clear hE hr hR X
    (try simp only [lg_cmp_lt, lg_cmp_gt, lg_cmp_le, lg_cmp_ge] at *); (try simp (disch := omega) only [Int64.le_iff_toInt_le, Int64.lt_iff_toInt_lt, Int32.le_iff_toInt_le, Int32.lt_iff_toInt_lt, fa_eq, fa_lit, fa_litL, nI_toInt, pk_lT, Int32.toInt_toInt64, jadd64, jin, jnoneT] at *); omega
  · refine j_iload_n X dX11_sheet_12 rfl ?_
    refine j_i2l X dX11_sheet_13 ?_
    refine j_lconst X dX11_sheet_14 0 (by decide) ?_
    refine j_ldc2 X dX11_sheet_15 u1088 ?_
    refine s_callSi X hR (m_inI np _ _ _ _ 0 2 rfl rfl) rfl u1087 u1085 u1086 u12 hyX11_in (by decide) (by decide) (Nat.le_of_ble_eq_true rfl) dX11_sheet_18 (fun v_18 m_18 h_18 => ?_)
    obtain ⟨e1, e2⟩ := h_18; have e1 := e1.symm; have e2 := e2.symm; subst e1; subst e2
    refine j_ifb_eq X 30 dX11_sheet_21 (by decide) (fun c_21 => ?_) (fun c_21 => ?_)
    · exfalso
      clear hE hr hR X
      (try simp only [lg_cmp_lt, lg_cmp_gt, lg_cmp_le, lg_cmp_ge] at *); (try simp (disch := omega) only [Int64.le_iff_toInt_le, Int64.lt_iff_toInt_lt, Int32.le_iff_toInt_le, Int32.lt_iff_toInt_lt, fa_eq, fa_lit, fa_litL, nI_toInt, pk_lT, Int32.toInt_toInt64, jadd64, jin, jnoneT] at *); omega
    · refine j_iload_n X dX11_sheet_24 rfl ?_
      refine j_bipush X dX11_sheet_25 60 (by decide) ?_
      refine j_icmp_le X 33 dX11_sheet_27 (by decide) (fun c_27 => ?_) (fun c_27 => ?_)
      · refine j_aload_n X dX11_sheet_33 rfl ?_
        refine j_iconst X dX11_sheet_34 0 (by decide) ?_
        refine j_putI X 11 1 (by decide) (by decide) rfl rfl rfl rfl u951 (o66 np) (k66 np) dX11_sheet_35 ?_
        refine j_iload_n X dX11_sheet_38 rfl ?_
        refine j_if_ge X 48 dX11_sheet_39 (by decide) (fun c_39 => ?_) (fun c_39 => ?_)
        · refine j_aload_n X dX11_sheet_48 rfl ?_
          refine j_getR X 11 2 (by decide) (by decide) rfl u952 (o66 np) (k66 np) _ (p66_2 np) dX11_sheet_49 ?_
          refine j_iload_n X dX11_sheet_52 rfl ?_
          refine j_iload_n X dX11_sheet_53 rfl ?_
          refine j_nrm2 _ (by first | (simp only [fa_lit, pk_mul, nI_add]; done) | (simp only [fa_lit, pk_mul, nI_add]; rfl) | rfl) ?_
          refine j_iastN X (o67 np) (k67 np) (by rw [l67]; omega) (by rw [l67]; decide) dX11_sheet_54 ?_
          refine j_aload_n X dX11_sheet_55 rfl ?_
          refine j_getR X 11 3 (by decide) (by decide) rfl u953 (o66 np) (k66 np) _ (p66_3 np) dX11_sheet_56 ?_
          refine j_iload_n X dX11_sheet_59 rfl ?_
          refine j_iload_n X dX11_sheet_60 rfl ?_
          refine j_nrm2 _ (by first | (simp only [fa_lit, pk_mul, nI_add]; done) | (simp only [fa_lit, pk_mul, nI_add]; rfl) | rfl) ?_
          refine j_iastN X (o68 np) (k68 np) (by rw [l68]; omega) (by rw [l68]; decide) dX11_sheet_61 ?_
          refine j_iconst X dX11_sheet_62 0 (by decide) ?_
          refine j_istore X dX11_sheet_63 (by decide) ?_
          have lp65 : ∀ (n : Nat) (k : Nat), k ≤ 60 → 61 ≤ k + n → J G RX11 cX11_sheet 5 0 0 65 (jlv [some (.ref 66), some (.int (nI s)), some (.int l), some (.int z), some (.int (nI k))]) [] (jS np) (jfill (jup (jup (jup (jup mem 66 0 0) 66 1 0) 67 s l) 68 s z) 69 (60 * s) (60 * s + k) 0) := by
            intro n
            induction n with
            | zero =>
              intro k hk hn
              exact absurd hn (by omega)
            | succ n ih65 =>
              intro k hk hn
              refine j_iload X dX11_sheet_65 rfl ?_
              refine j_bipush X dX11_sheet_67 60 (by decide) ?_
              refine j_icmp_ge X 91 dX11_sheet_69 (by decide) (fun c_69 => ?_) (fun c_69 => ?_)
              · obtain rfl : k = 60 := by clear hE hr hR X; (try simp only [lg_cmp_lt, lg_cmp_gt, lg_cmp_le, lg_cmp_ge] at *); (try simp (disch := omega) only [Int64.le_iff_toInt_le, Int64.lt_iff_toInt_lt, Int32.le_iff_toInt_le, Int32.lt_iff_toInt_lt, fa_eq, fa_lit, fa_litL, nI_toInt, pk_lT, Int32.toInt_toInt64, jadd64, jin, jnoneT] at *); omega
                refine j_iload_n X dX11_sheet_91 rfl ?_
                refine s_iret X hE hr dX11_sheet_92 rfl ?_
                first | exact ⟨rfl, rfl⟩ | (exfalso; clear hE hr hR X; (try simp only [lg_cmp_lt, lg_cmp_gt, lg_cmp_le, lg_cmp_ge] at *); (try simp (disch := omega) only [Int64.le_iff_toInt_le, Int64.lt_iff_toInt_lt, Int32.le_iff_toInt_le, Int32.lt_iff_toInt_lt, fa_eq, fa_lit, fa_litL, nI_toInt, pk_lT, Int32.toInt_toInt64, jadd64, jin, jnoneT] at *); omega)
              · have hk2 : k < 60 := by clear hE hr hR X; (try simp only [lg_cmp_lt, lg_cmp_gt, lg_cmp_le, lg_cmp_ge] at *); (try simp (disch := omega) only [Int64.le_iff_toInt_le, Int64.lt_iff_toInt_lt, Int32.le_iff_toInt_le, Int32.lt_iff_toInt_lt, fa_eq, fa_lit, fa_litL, nI_toInt, pk_lT, Int32.toInt_toInt64, jadd64, jin, jnoneT] at *); omega
                refine j_aload_n X dX11_sheet_72 rfl ?_
                refine j_getR X 11 4 (by decide) (by decide) rfl u954 (o66 np) (k66 np) _ (p66_4 np) dX11_sheet_73 ?_
                refine j_bipush X dX11_sheet_76 60 (by decide) ?_
                refine j_iload_n X dX11_sheet_78 rfl ?_
                refine j_imul X dX11_sheet_79 ?_
                refine j_iload X dX11_sheet_80 rfl ?_
                refine j_iadd X dX11_sheet_82 ?_
                refine j_iconst X dX11_sheet_83 0 (by decide) ?_
                refine j_nrm2 _ (by first | (simp only [fa_lit, pk_mul, nI_add]; done) | (simp only [fa_lit, pk_mul, nI_add]; rfl) | rfl) ?_
                refine j_iastN X (o69 np) (k69 np) (by rw [l69]; omega) (by rw [l69]; decide) dX11_sheet_84 ?_
                refine j_iinc X dX11_sheet_85 rfl 1 rfl ?_
                refine j_goto X 65 dX11_sheet_88 (by decide) ?_
                refine j_mem (jfill (jup (jup (jup (jup mem 66 0 0) 66 1 0) 67 s l) 68 s z) 69 (60 * s) (60 * s + (k + 1)) 0) (jfill_s (by omega)) ?_
                refine j_lv [some (.ref 66), some (.int (nI s)), some (.int l), some (.int z), some (.int (nI (k + 1)))] ⟨rfl, rfl, rfl, rfl, (by rw [← nI_1]; rfl), trivial⟩ ?_
                exact ih65 (k + 1) (by omega) (by omega)
          refine j_mem (jfill (jup (jup (jup (jup mem 66 0 0) 66 1 0) 67 s l) 68 s z) 69 (60 * s) (60 * s + 0) 0) (jfill_0 _ _ _ _).symm ?_
          refine j_lv [some (.ref 66), some (.int (nI s)), some (.int l), some (.int z), some (.int (nI 0))] ⟨rfl, rfl, rfl, rfl, rfl, trivial⟩ ?_
          exact lp65 61 0 (by omega) (by omega)
        · exfalso
          clear hE hr hR X
          (try simp only [lg_cmp_lt, lg_cmp_gt, lg_cmp_le, lg_cmp_ge] at *); (try simp (disch := omega) only [Int64.le_iff_toInt_le, Int64.lt_iff_toInt_lt, Int32.le_iff_toInt_le, Int32.lt_iff_toInt_lt, fa_eq, fa_lit, fa_litL, nI_toInt, pk_lT, Int32.toInt_toInt64, jadd64, jin, jnoneT] at *); omega
      · exfalso
        clear hE hr hR X
        (try simp only [lg_cmp_lt, lg_cmp_gt, lg_cmp_le, lg_cmp_ge] at *); (try simp (disch := omega) only [Int64.le_iff_toInt_le, Int64.lt_iff_toInt_lt, Int32.le_iff_toInt_le, Int32.lt_iff_toInt_lt, fa_eq, fa_lit, fa_litL, nI_toInt, pk_lT, Int32.toInt_toInt64, jadd64, jin, jnoneT] at *); omega
set_option maxRecDepth 4000 in
set_option maxHeartbeats 1000000 in
theorem m_set_bad (np : Nat) (mem : jMem) (s i w : Int32) (h : ¬ jin s 0 7) : jPi yX11_set cX11_set 4 .int 3 [.ref 66, .int s, .int i, .int w] np mem (fun v c => v = -1000001 ∧ c = jup mem 66 0 0) := by
  refine jPi.of (own := RX11) rfl rfl (Nat.le_of_ble_eq_true rfl) (fun G X hR hr hE => ?_)
  refine j_aload_n X dX11_set_0 rfl ?_
  refine j_iconst X dX11_set_1 0 (by decide) ?_
  refine j_putI X 11 0 (by decide) (by decide) rfl rfl rfl rfl u950 (o66 np) (k66 np) dX11_set_2 ?_
  refine j_iload_n X dX11_set_5 rfl ?_
  refine s_callSi X hR (m_isSheet np _ _) rfl u1083 u1081 u1082 u12 hyX11_isSheet (by decide) (by decide) (Nat.le_of_ble_eq_true rfl) dX11_set_6 (fun v_6 m_6 h_6 => ?_)
  obtain ⟨e1, e2⟩ := h_6; have e1 := e1.symm; have e2 := e2.symm; subst e1; subst e2
  refine j_ifb_ne X 15 dX11_set_9 (by decide) (fun c_9 => ?_) (fun c_9 => ?_)
  · exfalso
    clear hE hr hR X
    (try simp only [lg_cmp_lt, lg_cmp_gt, lg_cmp_le, lg_cmp_ge] at *); (try simp (disch := omega) only [Int64.le_iff_toInt_le, Int64.lt_iff_toInt_lt, Int32.le_iff_toInt_le, Int32.lt_iff_toInt_lt, fa_eq, fa_lit, fa_litL, nI_toInt, pk_lT, Int32.toInt_toInt64, jadd64, jin, jnoneT] at *); omega
  · refine j_ldc X dX11_set_12 u1089 ?_
    refine s_iret X hE hr dX11_set_14 rfl ?_
    first | exact ⟨rfl, rfl⟩ | (exfalso; clear hE hr hR X; (try simp only [lg_cmp_lt, lg_cmp_gt, lg_cmp_le, lg_cmp_ge] at *); (try simp (disch := omega) only [Int64.le_iff_toInt_le, Int64.lt_iff_toInt_lt, Int32.le_iff_toInt_le, Int32.lt_iff_toInt_lt, fa_eq, fa_lit, fa_litL, nI_toInt, pk_lT, Int32.toInt_toInt64, jadd64, jin, jnoneT] at *); omega)
set_option maxRecDepth 4000 in
set_option maxHeartbeats 1000000 in
theorem m_set_null (np : Nat) (mem : jMem) (s : Nat) (i w : Int32) (hs : s < 8) (hl : (mem 67 s).toInt < 0) : jPi yX11_set cX11_set 4 .int 3 [.ref 66, .int (nI s), .int i, .int w] np mem (fun v c => v = -1000010 - 1 ∧ c = jup (jup (jup mem 66 0 0) 66 1 0) 66 1 1) := by
  refine jPi.of (own := RX11) rfl rfl (Nat.le_of_ble_eq_true rfl) (fun G X hR hr hE => ?_)
  refine j_aload_n X dX11_set_0 rfl ?_
  refine j_iconst X dX11_set_1 0 (by decide) ?_
  refine j_putI X 11 0 (by decide) (by decide) rfl rfl rfl rfl u950 (o66 np) (k66 np) dX11_set_2 ?_
  refine j_iload_n X dX11_set_5 rfl ?_
  refine s_callSi X hR (m_isSheet np _ _) rfl u1083 u1081 u1082 u12 hyX11_isSheet (by decide) (by decide) (Nat.le_of_ble_eq_true rfl) dX11_set_6 (fun v_6 m_6 h_6 => ?_)
  obtain ⟨e1, e2⟩ := h_6; have e1 := e1.symm; have e2 := e2.symm; subst e1; subst e2
  refine j_ifb_ne X 15 dX11_set_9 (by decide) (fun c_9 => ?_) (fun c_9 => ?_)
  · refine j_aload_n X dX11_set_15 rfl ?_
    refine j_iconst X dX11_set_16 0 (by decide) ?_
    refine j_putI X 11 1 (by decide) (by decide) rfl rfl rfl rfl u951 (o66 np) (k66 np) dX11_set_17 ?_
    refine j_aload_n X dX11_set_20 rfl ?_
    refine j_getR X 11 2 (by decide) (by decide) rfl u952 (o66 np) (k66 np) _ (p66_2 np) dX11_set_21 ?_
    refine j_iload_n X dX11_set_24 rfl ?_
    refine j_nrm _ (by first | (simp only [fa_lit, pk_mul, nI_add]; done) | (simp only [fa_lit, pk_mul, nI_add]; rfl) | rfl) ?_
    refine j_ialdN X (o67 np) (k67 np) (by rw [l67]; omega) (by rw [l67]; decide) (mem 67) rfl dX11_set_25 ?_
    refine j_if_ge X 35 dX11_set_26 (by decide) (fun c_26 => ?_) (fun c_26 => ?_)
    · exfalso
      clear hE hr hR X
      (try simp only [lg_cmp_lt, lg_cmp_gt, lg_cmp_le, lg_cmp_ge] at *); (try simp (disch := omega) only [Int64.le_iff_toInt_le, Int64.lt_iff_toInt_lt, Int32.le_iff_toInt_le, Int32.lt_iff_toInt_lt, fa_eq, fa_lit, fa_litL, nI_toInt, pk_lT, Int32.toInt_toInt64, jadd64, jin, jnoneT] at *); omega
    · refine j_aload_n X dX11_set_29 rfl ?_
      refine j_iconst X dX11_set_30 1 (by decide) ?_
      refine s_callVi X hR (m_finding np _ _) rfl 11 (by decide) (o66 np) (k66 np) rfl u1093 u1090 u1092 qp36 u12 hyX11_finding (by decide) (by decide) (Nat.le_of_ble_eq_true rfl) dX11_set_31 (fun v_31 m_31 h_31 => ?_)
      obtain ⟨e1, e2⟩ := h_31; have e1 := e1.symm; have e2 := e2.symm; subst e1; subst e2
      refine s_iret X hE hr dX11_set_34 rfl ?_
      first | exact ⟨rfl, rfl⟩ | (exfalso; clear hE hr hR X; (try simp only [lg_cmp_lt, lg_cmp_gt, lg_cmp_le, lg_cmp_ge] at *); (try simp (disch := omega) only [Int64.le_iff_toInt_le, Int64.lt_iff_toInt_lt, Int32.le_iff_toInt_le, Int32.lt_iff_toInt_lt, fa_eq, fa_lit, fa_litL, nI_toInt, pk_lT, Int32.toInt_toInt64, jadd64, jin, jnoneT] at *); omega)
  · exfalso
    clear hE hr hR X
    (try simp only [lg_cmp_lt, lg_cmp_gt, lg_cmp_le, lg_cmp_ge] at *); (try simp (disch := omega) only [Int64.le_iff_toInt_le, Int64.lt_iff_toInt_lt, Int32.le_iff_toInt_le, Int32.lt_iff_toInt_lt, fa_eq, fa_lit, fa_litL, nI_toInt, pk_lT, Int32.toInt_toInt64, jadd64, jin, jnoneT] at *); omega
set_option maxRecDepth 4000 in
set_option maxHeartbeats 1000000 in
theorem m_set_place (np : Nat) (mem : jMem) (s : Nat) (i w : Int32) (z : Nat) (hs : s < 8) (hl : 0 ≤ (mem 67 s).toInt) (hz : z ≤ 60) (hm : mem 68 s = nI z) (hi : ¬ jin i 0 ((z : Int) - 1)) : jPi yX11_set cX11_set 4 .int 3 [.ref 66, .int (nI s), .int i, .int w] np mem (fun v c => v = -1000010 - 2 ∧ c = jup (jup (jup mem 66 0 0) 66 1 0) 66 1 2) := by
  refine jPi.of (own := RX11) rfl rfl (Nat.le_of_ble_eq_true rfl) (fun G X hR hr hE => ?_)
  refine j_aload_n X dX11_set_0 rfl ?_
  refine j_iconst X dX11_set_1 0 (by decide) ?_
  refine j_putI X 11 0 (by decide) (by decide) rfl rfl rfl rfl u950 (o66 np) (k66 np) dX11_set_2 ?_
  refine j_iload_n X dX11_set_5 rfl ?_
  refine s_callSi X hR (m_isSheet np _ _) rfl u1083 u1081 u1082 u12 hyX11_isSheet (by decide) (by decide) (Nat.le_of_ble_eq_true rfl) dX11_set_6 (fun v_6 m_6 h_6 => ?_)
  obtain ⟨e1, e2⟩ := h_6; have e1 := e1.symm; have e2 := e2.symm; subst e1; subst e2
  refine j_ifb_ne X 15 dX11_set_9 (by decide) (fun c_9 => ?_) (fun c_9 => ?_)
  · refine j_aload_n X dX11_set_15 rfl ?_
    refine j_iconst X dX11_set_16 0 (by decide) ?_
    refine j_putI X 11 1 (by decide) (by decide) rfl rfl rfl rfl u951 (o66 np) (k66 np) dX11_set_17 ?_
    refine j_aload_n X dX11_set_20 rfl ?_
    refine j_getR X 11 2 (by decide) (by decide) rfl u952 (o66 np) (k66 np) _ (p66_2 np) dX11_set_21 ?_
    refine j_iload_n X dX11_set_24 rfl ?_
    refine j_nrm _ (by first | (simp only [fa_lit, pk_mul, nI_add]; done) | (simp only [fa_lit, pk_mul, nI_add]; rfl) | rfl) ?_
    refine j_ialdN X (o67 np) (k67 np) (by rw [l67]; omega) (by rw [l67]; decide) (mem 67) rfl dX11_set_25 ?_
    refine j_if_ge X 35 dX11_set_26 (by decide) (fun c_26 => ?_) (fun c_26 => ?_)
    · refine j_iload_n X dX11_set_35 rfl ?_
      refine j_i2l X dX11_set_36 ?_
      refine j_lconst X dX11_set_37 0 (by decide) ?_
      refine j_aload_n X dX11_set_38 rfl ?_
      refine j_getR X 11 3 (by decide) (by decide) rfl u953 (o66 np) (k66 np) _ (p66_3 np) dX11_set_39 ?_
      refine j_iload_n X dX11_set_42 rfl ?_
      refine j_nrm _ (by first | (simp only [fa_lit, pk_mul, nI_add]; done) | (simp only [fa_lit, pk_mul, nI_add]; rfl) | rfl) ?_
      refine j_ialdN X (o68 np) (k68 np) (by rw [l68]; omega) (by rw [l68]; decide) (mem 68) rfl dX11_set_43 ?_
      refine j_nrm _ hm ?_
      refine j_iconst X dX11_set_44 1 (by decide) ?_
      refine j_isub X dX11_set_45 ?_
      refine j_i2l X dX11_set_46 ?_
      refine s_callSi X hR (m_inI np _ _ _ _ 0 ((z : Int) - 1) rfl (jsub1 (by omega))) rfl u1087 u1085 u1086 u12 hyX11_in (by decide) (by decide) (Nat.le_of_ble_eq_true rfl) dX11_set_47 (fun v_47 m_47 h_47 => ?_)
      obtain ⟨e1, e2⟩ := h_47; have e1 := e1.symm; have e2 := e2.symm; subst e1; subst e2
      refine j_ifb_ne X 59 dX11_set_50 (by decide) (fun c_50 => ?_) (fun c_50 => ?_)
      · exfalso
        clear hE hr hR X
        (try simp only [lg_cmp_lt, lg_cmp_gt, lg_cmp_le, lg_cmp_ge] at *); (try simp (disch := omega) only [Int64.le_iff_toInt_le, Int64.lt_iff_toInt_lt, Int32.le_iff_toInt_le, Int32.lt_iff_toInt_lt, fa_eq, fa_lit, fa_litL, nI_toInt, pk_lT, Int32.toInt_toInt64, jadd64, jin, jnoneT] at *); omega
      · refine j_aload_n X dX11_set_53 rfl ?_
        refine j_iconst X dX11_set_54 2 (by decide) ?_
        refine s_callVi X hR (m_finding np _ _) rfl 11 (by decide) (o66 np) (k66 np) rfl u1093 u1090 u1092 qp36 u12 hyX11_finding (by decide) (by decide) (Nat.le_of_ble_eq_true rfl) dX11_set_55 (fun v_55 m_55 h_55 => ?_)
        obtain ⟨e1, e2⟩ := h_55; have e1 := e1.symm; have e2 := e2.symm; subst e1; subst e2
        refine s_iret X hE hr dX11_set_58 rfl ?_
        first | exact ⟨rfl, rfl⟩ | (exfalso; clear hE hr hR X; (try simp only [lg_cmp_lt, lg_cmp_gt, lg_cmp_le, lg_cmp_ge] at *); (try simp (disch := omega) only [Int64.le_iff_toInt_le, Int64.lt_iff_toInt_lt, Int32.le_iff_toInt_le, Int32.lt_iff_toInt_lt, fa_eq, fa_lit, fa_litL, nI_toInt, pk_lT, Int32.toInt_toInt64, jadd64, jin, jnoneT] at *); omega)
    · exfalso
      clear hE hr hR X
      (try simp only [lg_cmp_lt, lg_cmp_gt, lg_cmp_le, lg_cmp_ge] at *); (try simp (disch := omega) only [Int64.le_iff_toInt_le, Int64.lt_iff_toInt_lt, Int32.le_iff_toInt_le, Int32.lt_iff_toInt_lt, fa_eq, fa_lit, fa_litL, nI_toInt, pk_lT, Int32.toInt_toInt64, jadd64, jin, jnoneT] at *); omega
  · exfalso
    clear hE hr hR X
    (try simp only [lg_cmp_lt, lg_cmp_gt, lg_cmp_le, lg_cmp_ge] at *); (try simp (disch := omega) only [Int64.le_iff_toInt_le, Int64.lt_iff_toInt_lt, Int32.le_iff_toInt_le, Int32.lt_iff_toInt_lt, fa_eq, fa_lit, fa_litL, nI_toInt, pk_lT, Int32.toInt_toInt64, jadd64, jin, jnoneT] at *); omega
set_option maxRecDepth 4000 in
set_option maxHeartbeats 1000000 in
theorem m_set (np : Nat) (mem : jMem) (s i z : Nat) (w : Int32) (hs : s < 8) (hl : 0 ≤ (mem 67 s).toInt) (hz : z ≤ 60) (hm : mem 68 s = nI z) (hi : i < z) : jPi yX11_set cX11_set 4 .int 3 [.ref 66, .int (nI s), .int (nI i), .int w] np mem (fun v c => v = jCv (mem 67 s) w ∧ c = jup (jup (jup mem 66 0 0) 66 1 0) 69 (60 * s + i) (jCv (mem 67 s) w)) := by
  refine jPi.of (own := RX11) rfl rfl (Nat.le_of_ble_eq_true rfl) (fun G X hR hr hE => ?_)
  refine j_aload_n X dX11_set_0 rfl ?_
  refine j_iconst X dX11_set_1 0 (by decide) ?_
  refine j_putI X 11 0 (by decide) (by decide) rfl rfl rfl rfl u950 (o66 np) (k66 np) dX11_set_2 ?_
  refine j_iload_n X dX11_set_5 rfl ?_
  refine s_callSi X hR (m_isSheet np _ _) rfl u1083 u1081 u1082 u12 hyX11_isSheet (by decide) (by decide) (Nat.le_of_ble_eq_true rfl) dX11_set_6 (fun v_6 m_6 h_6 => ?_)
  obtain ⟨e1, e2⟩ := h_6; have e1 := e1.symm; have e2 := e2.symm; subst e1; subst e2
  refine j_ifb_ne X 15 dX11_set_9 (by decide) (fun c_9 => ?_) (fun c_9 => ?_)
  · refine j_aload_n X dX11_set_15 rfl ?_
    refine j_iconst X dX11_set_16 0 (by decide) ?_
    refine j_putI X 11 1 (by decide) (by decide) rfl rfl rfl rfl u951 (o66 np) (k66 np) dX11_set_17 ?_
    refine j_aload_n X dX11_set_20 rfl ?_
    refine j_getR X 11 2 (by decide) (by decide) rfl u952 (o66 np) (k66 np) _ (p66_2 np) dX11_set_21 ?_
    refine j_iload_n X dX11_set_24 rfl ?_
    refine j_nrm _ (by first | (simp only [fa_lit, pk_mul, nI_add]; done) | (simp only [fa_lit, pk_mul, nI_add]; rfl) | rfl) ?_
    refine j_ialdN X (o67 np) (k67 np) (by rw [l67]; omega) (by rw [l67]; decide) (mem 67) rfl dX11_set_25 ?_
    refine j_if_ge X 35 dX11_set_26 (by decide) (fun c_26 => ?_) (fun c_26 => ?_)
    · refine j_iload_n X dX11_set_35 rfl ?_
      refine j_i2l X dX11_set_36 ?_
      refine j_lconst X dX11_set_37 0 (by decide) ?_
      refine j_aload_n X dX11_set_38 rfl ?_
      refine j_getR X 11 3 (by decide) (by decide) rfl u953 (o66 np) (k66 np) _ (p66_3 np) dX11_set_39 ?_
      refine j_iload_n X dX11_set_42 rfl ?_
      refine j_nrm _ (by first | (simp only [fa_lit, pk_mul, nI_add]; done) | (simp only [fa_lit, pk_mul, nI_add]; rfl) | rfl) ?_
      refine j_ialdN X (o68 np) (k68 np) (by rw [l68]; omega) (by rw [l68]; decide) (mem 68) rfl dX11_set_43 ?_
      refine j_nrm _ hm ?_
      refine j_iconst X dX11_set_44 1 (by decide) ?_
      refine j_isub X dX11_set_45 ?_
      refine j_i2l X dX11_set_46 ?_
      refine s_callSi X hR (m_inI np _ _ _ _ 0 ((z : Int) - 1) rfl (jsub1 (by omega))) rfl u1087 u1085 u1086 u12 hyX11_in (by decide) (by decide) (Nat.le_of_ble_eq_true rfl) dX11_set_47 (fun v_47 m_47 h_47 => ?_)
      obtain ⟨e1, e2⟩ := h_47; have e1 := e1.symm; have e2 := e2.symm; subst e1; subst e2
      refine j_ifb_ne X 59 dX11_set_50 (by decide) (fun c_50 => ?_) (fun c_50 => ?_)
      · refine j_aload_n X dX11_set_59 rfl ?_
        refine j_getR X 11 4 (by decide) (by decide) rfl u954 (o66 np) (k66 np) _ (p66_4 np) dX11_set_60 ?_
        refine j_bipush X dX11_set_63 60 (by decide) ?_
        refine j_iload_n X dX11_set_65 rfl ?_
        refine j_imul X dX11_set_66 ?_
        refine j_iload_n X dX11_set_67 rfl ?_
        refine j_iadd X dX11_set_68 ?_
        refine j_aload_n X dX11_set_69 rfl ?_
        refine j_getR X 11 2 (by decide) (by decide) rfl u952 (o66 np) (k66 np) _ (p66_2 np) dX11_set_70 ?_
        refine j_iload_n X dX11_set_73 rfl ?_
        refine j_nrm _ (by first | (simp only [fa_lit, pk_mul, nI_add]; done) | (simp only [fa_lit, pk_mul, nI_add]; rfl) | rfl) ?_
        refine j_ialdN X (o67 np) (k67 np) (by rw [l67]; omega) (by rw [l67]; decide) (mem 67) rfl dX11_set_74 ?_
        refine j_if_ne X 83 dX11_set_75 (by decide) (fun c_75 => ?_) (fun c_75 => ?_)
        · refine j_aload_n X dX11_set_83 rfl ?_
          refine j_getR X 11 2 (by decide) (by decide) rfl u952 (o66 np) (k66 np) _ (p66_2 np) dX11_set_84 ?_
          refine j_iload_n X dX11_set_87 rfl ?_
          refine j_nrm _ (by first | (simp only [fa_lit, pk_mul, nI_add]; done) | (simp only [fa_lit, pk_mul, nI_add]; rfl) | rfl) ?_
          refine j_ialdN X (o67 np) (k67 np) (by rw [l67]; omega) (by rw [l67]; decide) (mem 67) rfl dX11_set_88 ?_
          refine j_iconst X dX11_set_89 1 (by decide) ?_
          refine j_icmp_ne X 98 dX11_set_90 (by decide) (fun c_90 => ?_) (fun c_90 => ?_)
          · refine j_iload_n X dX11_set_98 rfl ?_
            refine j_nrm (jCv (mem 67 s) w) (by unfold jCv; first | (rw [if_pos (by assumption)]; done) | (rw [if_neg (by assumption), if_pos (by assumption)]; done) | (rw [if_neg (by assumption), if_neg (by assumption)]; done)) ?_
            refine j_nrm2 _ (by first | (simp only [fa_lit, pk_mul, nI_add]; done) | (simp only [fa_lit, pk_mul, nI_add]; rfl) | rfl) ?_
            refine j_iastN X (o69 np) (k69 np) (by rw [l69]; omega) (by rw [l69]; decide) dX11_set_99 ?_
            refine j_aload_n X dX11_set_100 rfl ?_
            refine j_getR X 11 4 (by decide) (by decide) rfl u954 (o66 np) (k66 np) _ (p66_4 np) dX11_set_101 ?_
            refine j_bipush X dX11_set_104 60 (by decide) ?_
            refine j_iload_n X dX11_set_106 rfl ?_
            refine j_imul X dX11_set_107 ?_
            refine j_iload_n X dX11_set_108 rfl ?_
            refine j_iadd X dX11_set_109 ?_
            refine j_nrm _ (by first | (simp only [fa_lit, pk_mul, nI_add]; done) | (simp only [fa_lit, pk_mul, nI_add]; rfl) | rfl) ?_
            refine j_ialdN X (o69 np) (k69 np) (by rw [l69]; omega) (by rw [l69]; decide) _ rfl dX11_set_110 ?_
            refine j_nrm (jCv (mem 67 s) w) (by simp [jup, va_up]) ?_
            refine s_iret X hE hr dX11_set_111 rfl ?_
            first | exact ⟨rfl, rfl⟩ | (exfalso; clear hE hr hR X; (try simp only [lg_cmp_lt, lg_cmp_gt, lg_cmp_le, lg_cmp_ge] at *); (try simp (disch := omega) only [Int64.le_iff_toInt_le, Int64.lt_iff_toInt_lt, Int32.le_iff_toInt_le, Int32.lt_iff_toInt_lt, fa_eq, fa_lit, fa_litL, nI_toInt, pk_lT, Int32.toInt_toInt64, jadd64, jin, jnoneT] at *); omega)
          · refine j_iload_n X dX11_set_93 rfl ?_
            refine j_i2s X dX11_set_94 ?_
            refine j_goto X 99 dX11_set_95 (by decide) ?_
            refine j_nrm (jCv (mem 67 s) w) (by unfold jCv; first | (rw [if_pos (by assumption)]; done) | (rw [if_neg (by assumption), if_pos (by assumption)]; done) | (rw [if_neg (by assumption), if_neg (by assumption)]; done)) ?_
            refine j_nrm2 _ (by first | (simp only [fa_lit, pk_mul, nI_add]; done) | (simp only [fa_lit, pk_mul, nI_add]; rfl) | rfl) ?_
            refine j_iastN X (o69 np) (k69 np) (by rw [l69]; omega) (by rw [l69]; decide) dX11_set_99 ?_
            refine j_aload_n X dX11_set_100 rfl ?_
            refine j_getR X 11 4 (by decide) (by decide) rfl u954 (o66 np) (k66 np) _ (p66_4 np) dX11_set_101 ?_
            refine j_bipush X dX11_set_104 60 (by decide) ?_
            refine j_iload_n X dX11_set_106 rfl ?_
            refine j_imul X dX11_set_107 ?_
            refine j_iload_n X dX11_set_108 rfl ?_
            refine j_iadd X dX11_set_109 ?_
            refine j_nrm _ (by first | (simp only [fa_lit, pk_mul, nI_add]; done) | (simp only [fa_lit, pk_mul, nI_add]; rfl) | rfl) ?_
            refine j_ialdN X (o69 np) (k69 np) (by rw [l69]; omega) (by rw [l69]; decide) _ rfl dX11_set_110 ?_
            refine j_nrm (jCv (mem 67 s) w) (by simp [jup, va_up]) ?_
            refine s_iret X hE hr dX11_set_111 rfl ?_
            first | exact ⟨rfl, rfl⟩ | (exfalso; clear hE hr hR X; (try simp only [lg_cmp_lt, lg_cmp_gt, lg_cmp_le, lg_cmp_ge] at *); (try simp (disch := omega) only [Int64.le_iff_toInt_le, Int64.lt_iff_toInt_lt, Int32.le_iff_toInt_le, Int32.lt_iff_toInt_lt, fa_eq, fa_lit, fa_litL, nI_toInt, pk_lT, Int32.toInt_toInt64, jadd64, jin, jnoneT] at *); omega)
        · refine j_iload_n X dX11_set_78 rfl ?_
          refine j_i2b X dX11_set_79 ?_
          refine j_goto X 99 dX11_set_80 (by decide) ?_
          refine j_nrm (jCv (mem 67 s) w) (by unfold jCv; first | (rw [if_pos (by assumption)]; done) | (rw [if_neg (by assumption), if_pos (by assumption)]; done) | (rw [if_neg (by assumption), if_neg (by assumption)]; done)) ?_
          refine j_nrm2 _ (by first | (simp only [fa_lit, pk_mul, nI_add]; done) | (simp only [fa_lit, pk_mul, nI_add]; rfl) | rfl) ?_
          refine j_iastN X (o69 np) (k69 np) (by rw [l69]; omega) (by rw [l69]; decide) dX11_set_99 ?_
          refine j_aload_n X dX11_set_100 rfl ?_
          refine j_getR X 11 4 (by decide) (by decide) rfl u954 (o66 np) (k66 np) _ (p66_4 np) dX11_set_101 ?_
          refine j_bipush X dX11_set_104 60 (by decide) ?_
          refine j_iload_n X dX11_set_106 rfl ?_
          refine j_imul X dX11_set_107 ?_
          refine j_iload_n X dX11_set_108 rfl ?_
          refine j_iadd X dX11_set_109 ?_
          refine j_nrm _ (by first | (simp only [fa_lit, pk_mul, nI_add]; done) | (simp only [fa_lit, pk_mul, nI_add]; rfl) | rfl) ?_
          refine j_ialdN X (o69 np) (k69 np) (by rw [l69]; omega) (by rw [l69]; decide) _ rfl dX11_set_110 ?_
          refine j_nrm (jCv (mem 67 s) w) (by simp [jup, va_up]) ?_
          refine s_iret X hE hr dX11_set_111 rfl ?_
          first | exact ⟨rfl, rfl⟩ | (exfalso; clear hE hr hR X; (try simp only [lg_cmp_lt, lg_cmp_gt, lg_cmp_le, lg_cmp_ge] at *); (try simp (disch := omega) only [Int64.le_iff_toInt_le, Int64.lt_iff_toInt_lt, Int32.le_iff_toInt_le, Int32.lt_iff_toInt_lt, fa_eq, fa_lit, fa_litL, nI_toInt, pk_lT, Int32.toInt_toInt64, jadd64, jin, jnoneT] at *); omega)
      · exfalso
        clear hE hr hR X
        (try simp only [lg_cmp_lt, lg_cmp_gt, lg_cmp_le, lg_cmp_ge] at *); (try simp (disch := omega) only [Int64.le_iff_toInt_le, Int64.lt_iff_toInt_lt, Int32.le_iff_toInt_le, Int32.lt_iff_toInt_lt, fa_eq, fa_lit, fa_litL, nI_toInt, pk_lT, Int32.toInt_toInt64, jadd64, jin, jnoneT] at *); omega
    · exfalso
      clear hE hr hR X
      (try simp only [lg_cmp_lt, lg_cmp_gt, lg_cmp_le, lg_cmp_ge] at *); (try simp (disch := omega) only [Int64.le_iff_toInt_le, Int64.lt_iff_toInt_lt, Int32.le_iff_toInt_le, Int32.lt_iff_toInt_lt, fa_eq, fa_lit, fa_litL, nI_toInt, pk_lT, Int32.toInt_toInt64, jadd64, jin, jnoneT] at *); omega
  · exfalso
    clear hE hr hR X
    (try simp only [lg_cmp_lt, lg_cmp_gt, lg_cmp_le, lg_cmp_ge] at *); (try simp (disch := omega) only [Int64.le_iff_toInt_le, Int64.lt_iff_toInt_lt, Int32.le_iff_toInt_le, Int32.lt_iff_toInt_lt, fa_eq, fa_lit, fa_litL, nI_toInt, pk_lT, Int32.toInt_toInt64, jadd64, jin, jnoneT] at *); omega
set_option maxRecDepth 4000 in
set_option maxHeartbeats 1000000 in
theorem m_drop_bad (np : Nat) (mem : jMem) (s : Int32) (h : ¬ jin s 0 7) : jPi yX11_drop cX11_drop 2 .int 3 [.ref 66, .int s] np mem (fun v c => v = -1000001 ∧ c = jup mem 66 0 0) := by
  refine jPi.of (own := RX11) rfl rfl (Nat.le_of_ble_eq_true rfl) (fun G X hR hr hE => ?_)
  refine j_aload_n X dX11_drop_0 rfl ?_
  refine j_iconst X dX11_drop_1 0 (by decide) ?_
  refine j_putI X 11 0 (by decide) (by decide) rfl rfl rfl rfl u950 (o66 np) (k66 np) dX11_drop_2 ?_
  refine j_iload_n X dX11_drop_5 rfl ?_
  refine s_callSi X hR (m_isSheet np _ _) rfl u1083 u1081 u1082 u12 hyX11_isSheet (by decide) (by decide) (Nat.le_of_ble_eq_true rfl) dX11_drop_6 (fun v_6 m_6 h_6 => ?_)
  obtain ⟨e1, e2⟩ := h_6; have e1 := e1.symm; have e2 := e2.symm; subst e1; subst e2
  refine j_ifb_ne X 15 dX11_drop_9 (by decide) (fun c_9 => ?_) (fun c_9 => ?_)
  · exfalso
    clear hE hr hR X
    (try simp only [lg_cmp_lt, lg_cmp_gt, lg_cmp_le, lg_cmp_ge] at *); (try simp (disch := omega) only [Int64.le_iff_toInt_le, Int64.lt_iff_toInt_lt, Int32.le_iff_toInt_le, Int32.lt_iff_toInt_lt, fa_eq, fa_lit, fa_litL, nI_toInt, pk_lT, Int32.toInt_toInt64, jadd64, jin, jnoneT] at *); omega
  · refine j_ldc X dX11_drop_12 u1089 ?_
    refine s_iret X hE hr dX11_drop_14 rfl ?_
    first | exact ⟨rfl, rfl⟩ | (exfalso; clear hE hr hR X; (try simp only [lg_cmp_lt, lg_cmp_gt, lg_cmp_le, lg_cmp_ge] at *); (try simp (disch := omega) only [Int64.le_iff_toInt_le, Int64.lt_iff_toInt_lt, Int32.le_iff_toInt_le, Int32.lt_iff_toInt_lt, fa_eq, fa_lit, fa_litL, nI_toInt, pk_lT, Int32.toInt_toInt64, jadd64, jin, jnoneT] at *); omega)
set_option maxRecDepth 4000 in
set_option maxHeartbeats 1000000 in
theorem m_drop_null (np : Nat) (mem : jMem) (s : Nat) (hs : s < 8) (hl : (mem 67 s).toInt < 0) : jPi yX11_drop cX11_drop 2 .int 3 [.ref 66, .int (nI s)] np mem (fun v c => v = -1000010 - 1 ∧ c = jup (jup (jup mem 66 0 0) 66 1 0) 66 1 1) := by
  refine jPi.of (own := RX11) rfl rfl (Nat.le_of_ble_eq_true rfl) (fun G X hR hr hE => ?_)
  refine j_aload_n X dX11_drop_0 rfl ?_
  refine j_iconst X dX11_drop_1 0 (by decide) ?_
  refine j_putI X 11 0 (by decide) (by decide) rfl rfl rfl rfl u950 (o66 np) (k66 np) dX11_drop_2 ?_
  refine j_iload_n X dX11_drop_5 rfl ?_
  refine s_callSi X hR (m_isSheet np _ _) rfl u1083 u1081 u1082 u12 hyX11_isSheet (by decide) (by decide) (Nat.le_of_ble_eq_true rfl) dX11_drop_6 (fun v_6 m_6 h_6 => ?_)
  obtain ⟨e1, e2⟩ := h_6; have e1 := e1.symm; have e2 := e2.symm; subst e1; subst e2
  refine j_ifb_ne X 15 dX11_drop_9 (by decide) (fun c_9 => ?_) (fun c_9 => ?_)
  · refine j_aload_n X dX11_drop_15 rfl ?_
    refine j_iconst X dX11_drop_16 0 (by decide) ?_
    refine j_putI X 11 1 (by decide) (by decide) rfl rfl rfl rfl u951 (o66 np) (k66 np) dX11_drop_17 ?_
    refine j_aload_n X dX11_drop_20 rfl ?_
    refine j_getR X 11 2 (by decide) (by decide) rfl u952 (o66 np) (k66 np) _ (p66_2 np) dX11_drop_21 ?_
    refine j_iload_n X dX11_drop_24 rfl ?_
    refine j_nrm _ (by first | (simp only [fa_lit, pk_mul, nI_add]; done) | (simp only [fa_lit, pk_mul, nI_add]; rfl) | rfl) ?_
    refine j_ialdN X (o67 np) (k67 np) (by rw [l67]; omega) (by rw [l67]; decide) (mem 67) rfl dX11_drop_25 ?_
    refine j_if_ge X 35 dX11_drop_26 (by decide) (fun c_26 => ?_) (fun c_26 => ?_)
    · exfalso
      clear hE hr hR X
      (try simp only [lg_cmp_lt, lg_cmp_gt, lg_cmp_le, lg_cmp_ge] at *); (try simp (disch := omega) only [Int64.le_iff_toInt_le, Int64.lt_iff_toInt_lt, Int32.le_iff_toInt_le, Int32.lt_iff_toInt_lt, fa_eq, fa_lit, fa_litL, nI_toInt, pk_lT, Int32.toInt_toInt64, jadd64, jin, jnoneT] at *); omega
    · refine j_aload_n X dX11_drop_29 rfl ?_
      refine j_iconst X dX11_drop_30 1 (by decide) ?_
      refine s_callVi X hR (m_finding np _ _) rfl 11 (by decide) (o66 np) (k66 np) rfl u1093 u1090 u1092 qp36 u12 hyX11_finding (by decide) (by decide) (Nat.le_of_ble_eq_true rfl) dX11_drop_31 (fun v_31 m_31 h_31 => ?_)
      obtain ⟨e1, e2⟩ := h_31; have e1 := e1.symm; have e2 := e2.symm; subst e1; subst e2
      refine s_iret X hE hr dX11_drop_34 rfl ?_
      first | exact ⟨rfl, rfl⟩ | (exfalso; clear hE hr hR X; (try simp only [lg_cmp_lt, lg_cmp_gt, lg_cmp_le, lg_cmp_ge] at *); (try simp (disch := omega) only [Int64.le_iff_toInt_le, Int64.lt_iff_toInt_lt, Int32.le_iff_toInt_le, Int32.lt_iff_toInt_lt, fa_eq, fa_lit, fa_litL, nI_toInt, pk_lT, Int32.toInt_toInt64, jadd64, jin, jnoneT] at *); omega)
  · exfalso
    clear hE hr hR X
    (try simp only [lg_cmp_lt, lg_cmp_gt, lg_cmp_le, lg_cmp_ge] at *); (try simp (disch := omega) only [Int64.le_iff_toInt_le, Int64.lt_iff_toInt_lt, Int32.le_iff_toInt_le, Int32.lt_iff_toInt_lt, fa_eq, fa_lit, fa_litL, nI_toInt, pk_lT, Int32.toInt_toInt64, jadd64, jin, jnoneT] at *); omega
set_option maxRecDepth 4000 in
set_option maxHeartbeats 1000000 in
theorem m_drop (np : Nat) (mem : jMem) (s : Nat) (hs : s < 8) (hl : 0 ≤ (mem 67 s).toInt) : jPi yX11_drop cX11_drop 2 .int 3 [.ref 66, .int (nI s)] np mem (fun v c => v = mem 68 s ∧ c = jup (jup (jup mem 66 0 0) 66 1 0) 67 s (-1)) := by
  refine jPi.of (own := RX11) rfl rfl (Nat.le_of_ble_eq_true rfl) (fun G X hR hr hE => ?_)
  refine j_aload_n X dX11_drop_0 rfl ?_
  refine j_iconst X dX11_drop_1 0 (by decide) ?_
  refine j_putI X 11 0 (by decide) (by decide) rfl rfl rfl rfl u950 (o66 np) (k66 np) dX11_drop_2 ?_
  refine j_iload_n X dX11_drop_5 rfl ?_
  refine s_callSi X hR (m_isSheet np _ _) rfl u1083 u1081 u1082 u12 hyX11_isSheet (by decide) (by decide) (Nat.le_of_ble_eq_true rfl) dX11_drop_6 (fun v_6 m_6 h_6 => ?_)
  obtain ⟨e1, e2⟩ := h_6; have e1 := e1.symm; have e2 := e2.symm; subst e1; subst e2
  refine j_ifb_ne X 15 dX11_drop_9 (by decide) (fun c_9 => ?_) (fun c_9 => ?_)
  · refine j_aload_n X dX11_drop_15 rfl ?_
    refine j_iconst X dX11_drop_16 0 (by decide) ?_
    refine j_putI X 11 1 (by decide) (by decide) rfl rfl rfl rfl u951 (o66 np) (k66 np) dX11_drop_17 ?_
    refine j_aload_n X dX11_drop_20 rfl ?_
    refine j_getR X 11 2 (by decide) (by decide) rfl u952 (o66 np) (k66 np) _ (p66_2 np) dX11_drop_21 ?_
    refine j_iload_n X dX11_drop_24 rfl ?_
    refine j_nrm _ (by first | (simp only [fa_lit, pk_mul, nI_add]; done) | (simp only [fa_lit, pk_mul, nI_add]; rfl) | rfl) ?_
    refine j_ialdN X (o67 np) (k67 np) (by rw [l67]; omega) (by rw [l67]; decide) (mem 67) rfl dX11_drop_25 ?_
    refine j_if_ge X 35 dX11_drop_26 (by decide) (fun c_26 => ?_) (fun c_26 => ?_)
    · refine j_aload_n X dX11_drop_35 rfl ?_
      refine j_getR X 11 2 (by decide) (by decide) rfl u952 (o66 np) (k66 np) _ (p66_2 np) dX11_drop_36 ?_
      refine j_iload_n X dX11_drop_39 rfl ?_
      refine j_iconst X dX11_drop_40 (-1) (by decide) ?_
      refine j_nrm2 _ (by first | (simp only [fa_lit, pk_mul, nI_add]; done) | (simp only [fa_lit, pk_mul, nI_add]; rfl) | rfl) ?_
      refine j_iastN X (o67 np) (k67 np) (by rw [l67]; omega) (by rw [l67]; decide) dX11_drop_41 ?_
      refine j_aload_n X dX11_drop_42 rfl ?_
      refine j_getR X 11 3 (by decide) (by decide) rfl u953 (o66 np) (k66 np) _ (p66_3 np) dX11_drop_43 ?_
      refine j_iload_n X dX11_drop_46 rfl ?_
      refine j_nrm _ (by first | (simp only [fa_lit, pk_mul, nI_add]; done) | (simp only [fa_lit, pk_mul, nI_add]; rfl) | rfl) ?_
      refine j_ialdN X (o68 np) (k68 np) (by rw [l68]; omega) (by rw [l68]; decide) (mem 68) rfl dX11_drop_47 ?_
      refine s_iret X hE hr dX11_drop_48 rfl ?_
      first | exact ⟨rfl, rfl⟩ | (exfalso; clear hE hr hR X; (try simp only [lg_cmp_lt, lg_cmp_gt, lg_cmp_le, lg_cmp_ge] at *); (try simp (disch := omega) only [Int64.le_iff_toInt_le, Int64.lt_iff_toInt_lt, Int32.le_iff_toInt_le, Int32.lt_iff_toInt_lt, fa_eq, fa_lit, fa_litL, nI_toInt, pk_lT, Int32.toInt_toInt64, jadd64, jin, jnoneT] at *); omega)
    · exfalso
      clear hE hr hR X
      (try simp only [lg_cmp_lt, lg_cmp_gt, lg_cmp_le, lg_cmp_ge] at *); (try simp (disch := omega) only [Int64.le_iff_toInt_le, Int64.lt_iff_toInt_lt, Int32.le_iff_toInt_le, Int32.lt_iff_toInt_lt, fa_eq, fa_lit, fa_litL, nI_toInt, pk_lT, Int32.toInt_toInt64, jadd64, jin, jnoneT] at *); omega
  · exfalso
    clear hE hr hR X
    (try simp only [lg_cmp_lt, lg_cmp_gt, lg_cmp_le, lg_cmp_ge] at *); (try simp (disch := omega) only [Int64.le_iff_toInt_le, Int64.lt_iff_toInt_lt, Int32.le_iff_toInt_le, Int32.lt_iff_toInt_lt, fa_eq, fa_lit, fa_litL, nI_toInt, pk_lT, Int32.toInt_toInt64, jadd64, jin, jnoneT] at *); omega
set_option maxRecDepth 4000 in
set_option maxHeartbeats 1000000 in
theorem m_look_null (np : Nat) (mem : jMem) (s : Nat) (i q : Int32) (hs : s < 8) (hl : (mem 67 s).toInt < 0) : jPi yX11_lookItems cX11_lookItems 4 .int 2 [.ref 66, .int (nI s), .int i, .int q] np mem (fun v c => v = -1000010 - 1 ∧ c = jup mem 66 1 1) := by
  refine jPi.of (own := RX11) rfl rfl (Nat.le_of_ble_eq_true rfl) (fun G X hR hr hE => ?_)
  refine j_aload_n X dX11_lookItems_0 rfl ?_
  refine j_getR X 11 2 (by decide) (by decide) rfl u952 (o66 np) (k66 np) _ (p66_2 np) dX11_lookItems_1 ?_
  refine j_iload_n X dX11_lookItems_4 rfl ?_
  refine j_nrm _ (by first | (simp only [fa_lit, pk_mul, nI_add]; done) | (simp only [fa_lit, pk_mul, nI_add]; rfl) | rfl) ?_
  refine j_ialdN X (o67 np) (k67 np) (by rw [l67]; omega) (by rw [l67]; decide) (mem 67) rfl dX11_lookItems_5 ?_
  refine j_if_ge X 15 dX11_lookItems_6 (by decide) (fun c_6 => ?_) (fun c_6 => ?_)
  · exfalso
    clear hE hr hR X
    (try simp only [lg_cmp_lt, lg_cmp_gt, lg_cmp_le, lg_cmp_ge] at *); (try simp (disch := omega) only [Int64.le_iff_toInt_le, Int64.lt_iff_toInt_lt, Int32.le_iff_toInt_le, Int32.lt_iff_toInt_lt, fa_eq, fa_lit, fa_litL, nI_toInt, pk_lT, Int32.toInt_toInt64, jadd64, jin, jnoneT] at *); omega
  · refine j_aload_n X dX11_lookItems_9 rfl ?_
    refine j_iconst X dX11_lookItems_10 1 (by decide) ?_
    refine s_callVi X hR (m_finding np _ _) rfl 11 (by decide) (o66 np) (k66 np) rfl u1093 u1090 u1092 qp36 u12 hyX11_finding (by decide) (by decide) (Nat.le_of_ble_eq_true rfl) dX11_lookItems_11 (fun v_11 m_11 h_11 => ?_)
    obtain ⟨e1, e2⟩ := h_11; have e1 := e1.symm; have e2 := e2.symm; subst e1; subst e2
    refine s_iret X hE hr dX11_lookItems_14 rfl ?_
    first | exact ⟨rfl, rfl⟩ | (exfalso; clear hE hr hR X; (try simp only [lg_cmp_lt, lg_cmp_gt, lg_cmp_le, lg_cmp_ge] at *); (try simp (disch := omega) only [Int64.le_iff_toInt_le, Int64.lt_iff_toInt_lt, Int32.le_iff_toInt_le, Int32.lt_iff_toInt_lt, fa_eq, fa_lit, fa_litL, nI_toInt, pk_lT, Int32.toInt_toInt64, jadd64, jin, jnoneT] at *); omega)
set_option maxRecDepth 4000 in
set_option maxHeartbeats 1000000 in
theorem m_look_place (np : Nat) (mem : jMem) (s : Nat) (i q : Int32) (hs : s < 8) (hl : 0 ≤ (mem 67 s).toInt) (hp : i.toInt < 0 ∨ i.toInt + q.toInt > (mem 68 s).toInt) : jPi yX11_lookItems cX11_lookItems 4 .int 2 [.ref 66, .int (nI s), .int i, .int q] np mem (fun v c => v = -1000010 - 2 ∧ c = jup mem 66 1 2) := by
  refine jPi.of (own := RX11) rfl rfl (Nat.le_of_ble_eq_true rfl) (fun G X hR hr hE => ?_)
  refine j_aload_n X dX11_lookItems_0 rfl ?_
  refine j_getR X 11 2 (by decide) (by decide) rfl u952 (o66 np) (k66 np) _ (p66_2 np) dX11_lookItems_1 ?_
  refine j_iload_n X dX11_lookItems_4 rfl ?_
  refine j_nrm _ (by first | (simp only [fa_lit, pk_mul, nI_add]; done) | (simp only [fa_lit, pk_mul, nI_add]; rfl) | rfl) ?_
  refine j_ialdN X (o67 np) (k67 np) (by rw [l67]; omega) (by rw [l67]; decide) (mem 67) rfl dX11_lookItems_5 ?_
  refine j_if_ge X 15 dX11_lookItems_6 (by decide) (fun c_6 => ?_) (fun c_6 => ?_)
  · refine j_iload_n X dX11_lookItems_15 rfl ?_
    refine j_if_lt X 35 dX11_lookItems_16 (by decide) (fun c_16 => ?_) (fun c_16 => ?_)
    · refine j_aload_n X dX11_lookItems_35 rfl ?_
      refine j_iconst X dX11_lookItems_36 2 (by decide) ?_
      refine s_callVi X hR (m_finding np _ _) rfl 11 (by decide) (o66 np) (k66 np) rfl u1093 u1090 u1092 qp36 u12 hyX11_finding (by decide) (by decide) (Nat.le_of_ble_eq_true rfl) dX11_lookItems_37 (fun v_37 m_37 h_37 => ?_)
      obtain ⟨e1, e2⟩ := h_37; have e1 := e1.symm; have e2 := e2.symm; subst e1; subst e2
      refine j_goto X 44 dX11_lookItems_40 (by decide) ?_
      refine s_iret X hE hr dX11_lookItems_44 rfl ?_
      first | exact ⟨rfl, rfl⟩ | (exfalso; clear hE hr hR X; (try simp only [lg_cmp_lt, lg_cmp_gt, lg_cmp_le, lg_cmp_ge] at *); (try simp (disch := omega) only [Int64.le_iff_toInt_le, Int64.lt_iff_toInt_lt, Int32.le_iff_toInt_le, Int32.lt_iff_toInt_lt, fa_eq, fa_lit, fa_litL, nI_toInt, pk_lT, Int32.toInt_toInt64, jadd64, jin, jnoneT] at *); omega)
    · refine j_iload_n X dX11_lookItems_19 rfl ?_
      refine j_i2l X dX11_lookItems_20 ?_
      refine j_iload_n X dX11_lookItems_21 rfl ?_
      refine j_i2l X dX11_lookItems_22 ?_
      refine j_ladd X dX11_lookItems_23 ?_
      refine j_aload_n X dX11_lookItems_24 rfl ?_
      refine j_getR X 11 3 (by decide) (by decide) rfl u953 (o66 np) (k66 np) _ (p66_3 np) dX11_lookItems_25 ?_
      refine j_iload_n X dX11_lookItems_28 rfl ?_
      refine j_nrm _ (by first | (simp only [fa_lit, pk_mul, nI_add]; done) | (simp only [fa_lit, pk_mul, nI_add]; rfl) | rfl) ?_
      refine j_ialdN X (o68 np) (k68 np) (by rw [l68]; omega) (by rw [l68]; decide) (mem 68) rfl dX11_lookItems_29 ?_
      refine j_i2l X dX11_lookItems_30 ?_
      refine j_lcmp X dX11_lookItems_31 ?_
      refine j_if_le X 43 dX11_lookItems_32 (by decide) (fun c_32 => ?_) (fun c_32 => ?_)
      · exfalso
        clear hE hr hR X
        (try simp only [lg_cmp_lt, lg_cmp_gt, lg_cmp_le, lg_cmp_ge] at *); (try simp (disch := omega) only [Int64.le_iff_toInt_le, Int64.lt_iff_toInt_lt, Int32.le_iff_toInt_le, Int32.lt_iff_toInt_lt, fa_eq, fa_lit, fa_litL, nI_toInt, pk_lT, Int32.toInt_toInt64, jadd64, jin, jnoneT] at *); omega
      · refine j_aload_n X dX11_lookItems_35 rfl ?_
        refine j_iconst X dX11_lookItems_36 2 (by decide) ?_
        refine s_callVi X hR (m_finding np _ _) rfl 11 (by decide) (o66 np) (k66 np) rfl u1093 u1090 u1092 qp36 u12 hyX11_finding (by decide) (by decide) (Nat.le_of_ble_eq_true rfl) dX11_lookItems_37 (fun v_37 m_37 h_37 => ?_)
        obtain ⟨e1, e2⟩ := h_37; have e1 := e1.symm; have e2 := e2.symm; subst e1; subst e2
        refine j_goto X 44 dX11_lookItems_40 (by decide) ?_
        refine s_iret X hE hr dX11_lookItems_44 rfl ?_
        first | exact ⟨rfl, rfl⟩ | (exfalso; clear hE hr hR X; (try simp only [lg_cmp_lt, lg_cmp_gt, lg_cmp_le, lg_cmp_ge] at *); (try simp (disch := omega) only [Int64.le_iff_toInt_le, Int64.lt_iff_toInt_lt, Int32.le_iff_toInt_le, Int32.lt_iff_toInt_lt, fa_eq, fa_lit, fa_litL, nI_toInt, pk_lT, Int32.toInt_toInt64, jadd64, jin, jnoneT] at *); omega)
  · exfalso
    clear hE hr hR X
    (try simp only [lg_cmp_lt, lg_cmp_gt, lg_cmp_le, lg_cmp_ge] at *); (try simp (disch := omega) only [Int64.le_iff_toInt_le, Int64.lt_iff_toInt_lt, Int32.le_iff_toInt_le, Int32.lt_iff_toInt_lt, fa_eq, fa_lit, fa_litL, nI_toInt, pk_lT, Int32.toInt_toInt64, jadd64, jin, jnoneT] at *); omega
set_option maxRecDepth 4000 in
set_option maxHeartbeats 1000000 in
theorem m_look (np : Nat) (mem : jMem) (s : Nat) (i q : Int32) (hs : s < 8) (hl : 0 ≤ (mem 67 s).toInt) (hp : 0 ≤ i.toInt ∧ i.toInt + q.toInt ≤ (mem 68 s).toInt) : jPi yX11_lookItems cX11_lookItems 4 .int 2 [.ref 66, .int (nI s), .int i, .int q] np mem (fun v c => v = 0 ∧ c = mem) := by
  refine jPi.of (own := RX11) rfl rfl (Nat.le_of_ble_eq_true rfl) (fun G X hR hr hE => ?_)
  refine j_aload_n X dX11_lookItems_0 rfl ?_
  refine j_getR X 11 2 (by decide) (by decide) rfl u952 (o66 np) (k66 np) _ (p66_2 np) dX11_lookItems_1 ?_
  refine j_iload_n X dX11_lookItems_4 rfl ?_
  refine j_nrm _ (by first | (simp only [fa_lit, pk_mul, nI_add]; done) | (simp only [fa_lit, pk_mul, nI_add]; rfl) | rfl) ?_
  refine j_ialdN X (o67 np) (k67 np) (by rw [l67]; omega) (by rw [l67]; decide) (mem 67) rfl dX11_lookItems_5 ?_
  refine j_if_ge X 15 dX11_lookItems_6 (by decide) (fun c_6 => ?_) (fun c_6 => ?_)
  · refine j_iload_n X dX11_lookItems_15 rfl ?_
    refine j_if_lt X 35 dX11_lookItems_16 (by decide) (fun c_16 => ?_) (fun c_16 => ?_)
    · exfalso
      clear hE hr hR X
      (try simp only [lg_cmp_lt, lg_cmp_gt, lg_cmp_le, lg_cmp_ge] at *); (try simp (disch := omega) only [Int64.le_iff_toInt_le, Int64.lt_iff_toInt_lt, Int32.le_iff_toInt_le, Int32.lt_iff_toInt_lt, fa_eq, fa_lit, fa_litL, nI_toInt, pk_lT, Int32.toInt_toInt64, jadd64, jin, jnoneT] at *); omega
    · refine j_iload_n X dX11_lookItems_19 rfl ?_
      refine j_i2l X dX11_lookItems_20 ?_
      refine j_iload_n X dX11_lookItems_21 rfl ?_
      refine j_i2l X dX11_lookItems_22 ?_
      refine j_ladd X dX11_lookItems_23 ?_
      refine j_aload_n X dX11_lookItems_24 rfl ?_
      refine j_getR X 11 3 (by decide) (by decide) rfl u953 (o66 np) (k66 np) _ (p66_3 np) dX11_lookItems_25 ?_
      refine j_iload_n X dX11_lookItems_28 rfl ?_
      refine j_nrm _ (by first | (simp only [fa_lit, pk_mul, nI_add]; done) | (simp only [fa_lit, pk_mul, nI_add]; rfl) | rfl) ?_
      refine j_ialdN X (o68 np) (k68 np) (by rw [l68]; omega) (by rw [l68]; decide) (mem 68) rfl dX11_lookItems_29 ?_
      refine j_i2l X dX11_lookItems_30 ?_
      refine j_lcmp X dX11_lookItems_31 ?_
      refine j_if_le X 43 dX11_lookItems_32 (by decide) (fun c_32 => ?_) (fun c_32 => ?_)
      · refine j_iconst X dX11_lookItems_43 0 (by decide) ?_
        refine s_iret X hE hr dX11_lookItems_44 rfl ?_
        first | exact ⟨rfl, rfl⟩ | (exfalso; clear hE hr hR X; (try simp only [lg_cmp_lt, lg_cmp_gt, lg_cmp_le, lg_cmp_ge] at *); (try simp (disch := omega) only [Int64.le_iff_toInt_le, Int64.lt_iff_toInt_lt, Int32.le_iff_toInt_le, Int32.lt_iff_toInt_lt, fa_eq, fa_lit, fa_litL, nI_toInt, pk_lT, Int32.toInt_toInt64, jadd64, jin, jnoneT] at *); omega)
      · exfalso
        clear hE hr hR X
        (try simp only [lg_cmp_lt, lg_cmp_gt, lg_cmp_le, lg_cmp_ge] at *); (try simp (disch := omega) only [Int64.le_iff_toInt_le, Int64.lt_iff_toInt_lt, Int32.le_iff_toInt_le, Int32.lt_iff_toInt_lt, fa_eq, fa_lit, fa_litL, nI_toInt, pk_lT, Int32.toInt_toInt64, jadd64, jin, jnoneT] at *); omega
  · exfalso
    clear hE hr hR X
    (try simp only [lg_cmp_lt, lg_cmp_gt, lg_cmp_le, lg_cmp_ge] at *); (try simp (disch := omega) only [Int64.le_iff_toInt_le, Int64.lt_iff_toInt_lt, Int32.le_iff_toInt_le, Int32.lt_iff_toInt_lt, fa_eq, fa_lit, fa_litL, nI_toInt, pk_lT, Int32.toInt_toInt64, jadd64, jin, jnoneT] at *); omega
set_option maxRecDepth 4000 in
set_option maxHeartbeats 1000000 in
theorem m_isPaper (np : Nat) (mem : jMem) (p : Int32) (hn : np ≤ 12) (hp : mem 66 9 = nI np) : jPi yX11_isPaper cX11_isPaper 2 .boolean 2 [.ref 66, .int p] np mem (fun v c => v = jb (jin p 0 ((np : Int) - 1)) ∧ c = mem) := by
  refine jPi.of (own := RX11) rfl rfl (Nat.le_of_ble_eq_true rfl) (fun G X hR hr hE => ?_)
  refine j_iload_n X dX11_isPaper_0 rfl ?_
  refine j_i2l X dX11_isPaper_1 ?_
  refine j_lconst X dX11_isPaper_2 0 (by decide) ?_
  refine j_aload_n X dX11_isPaper_3 rfl ?_
  refine j_getF X 11 9 (by decide) (by decide) rfl u959 (o66 np) (k66 np) (mem 66) rfl dX11_isPaper_4 ?_
  refine j_nrm _ hp ?_
  refine j_iconst X dX11_isPaper_7 1 (by decide) ?_
  refine j_isub X dX11_isPaper_8 ?_
  refine j_i2l X dX11_isPaper_9 ?_
  refine s_callSi X hR (m_inI np _ _ _ _ 0 ((np : Int) - 1) rfl (jsub1 (by omega))) rfl u1087 u1085 u1086 u12 hyX11_in (by decide) (by decide) (Nat.le_of_ble_eq_true rfl) dX11_isPaper_10 (fun v_10 m_10 h_10 => ?_)
  obtain ⟨e1, e2⟩ := h_10; have e1 := e1.symm; have e2 := e2.symm; subst e1; subst e2
  refine s_iret X hE hr dX11_isPaper_13 (by first | exact jb_nar | rfl) ?_
  first | exact ⟨rfl, rfl⟩ | (exfalso; clear hE hr hR X; (try simp only [lg_cmp_lt, lg_cmp_gt, lg_cmp_le, lg_cmp_ge] at *); (try simp (disch := omega) only [Int64.le_iff_toInt_le, Int64.lt_iff_toInt_lt, Int32.le_iff_toInt_le, Int32.lt_iff_toInt_lt, fa_eq, fa_lit, fa_litL, nI_toInt, pk_lT, Int32.toInt_toInt64, jadd64, jin, jnoneT] at *); omega)
set_option maxRecDepth 4000 in
set_option maxHeartbeats 1000000 in
theorem m_of (np : Nat) (mem : jMem) (p w : Nat) (hp : p < 12) (hw : w < 9) : jPi yX11_of cX11_of 3 .int 1 [.ref 66, .int (nI p), .int (nI w)] np mem (fun v c => v = mem 74 (9 * p + w) ∧ c = mem) := by
  refine jPi.of (own := RX11) rfl rfl (Nat.le_of_ble_eq_true rfl) (fun G X hR hr hE => ?_)
  refine j_aload_n X dX11_of_0 rfl ?_
  refine j_getR X 11 10 (by decide) (by decide) rfl u960 (o66 np) (k66 np) _ (p66_10 np) dX11_of_1 ?_
  refine j_bipush X dX11_of_4 9 (by decide) ?_
  refine j_iload_n X dX11_of_6 rfl ?_
  refine j_imul X dX11_of_7 ?_
  refine j_iload_n X dX11_of_8 rfl ?_
  refine j_iadd X dX11_of_9 ?_
  refine j_nrm _ (by first | (simp only [fa_lit, pk_mul, nI_add]; done) | (simp only [fa_lit, pk_mul, nI_add]; rfl) | rfl) ?_
  refine j_ialdN X (o74 np) (k74 np) (by rw [l74]; omega) (by rw [l74]; decide) (mem 74) rfl dX11_of_10 ?_
  refine s_iret X hE hr dX11_of_11 rfl ?_
  first | exact ⟨rfl, rfl⟩ | (exfalso; clear hE hr hR X; (try simp only [lg_cmp_lt, lg_cmp_gt, lg_cmp_le, lg_cmp_ge] at *); (try simp (disch := omega) only [Int64.le_iff_toInt_le, Int64.lt_iff_toInt_lt, Int32.le_iff_toInt_le, Int32.lt_iff_toInt_lt, fa_eq, fa_lit, fa_litL, nI_toInt, pk_lT, Int32.toInt_toInt64, jadd64, jin, jnoneT] at *); omega)
set_option maxRecDepth 4000 in
set_option maxHeartbeats 1000000 in
theorem m_field (np : Nat) (mem : jMem) (p w : Nat) (hp : p < 12) (hw : w < 4) : jPi yX11_field cX11_field 3 .int 1 [.ref 66, .int (nI p), .int (nI w)] np mem (fun v c => v = mem 74 (9 * p + 5 + w) ∧ c = mem) := by
  refine jPi.of (own := RX11) rfl rfl (Nat.le_of_ble_eq_true rfl) (fun G X hR hr hE => ?_)
  refine j_aload_n X dX11_field_0 rfl ?_
  refine j_getR X 11 10 (by decide) (by decide) rfl u960 (o66 np) (k66 np) _ (p66_10 np) dX11_field_1 ?_
  refine j_bipush X dX11_field_4 9 (by decide) ?_
  refine j_iload_n X dX11_field_6 rfl ?_
  refine j_imul X dX11_field_7 ?_
  refine j_iconst X dX11_field_8 5 (by decide) ?_
  refine j_iadd X dX11_field_9 ?_
  refine j_iload_n X dX11_field_10 rfl ?_
  refine j_iadd X dX11_field_11 ?_
  refine j_nrm _ (by first | (simp only [fa_lit, pk_mul, nI_add]; done) | (simp only [fa_lit, pk_mul, nI_add]; rfl) | rfl) ?_
  refine j_ialdN X (o74 np) (k74 np) (by rw [l74]; omega) (by rw [l74]; decide) (mem 74) rfl dX11_field_12 ?_
  refine s_iret X hE hr dX11_field_13 rfl ?_
  first | exact ⟨rfl, rfl⟩ | (exfalso; clear hE hr hR X; (try simp only [lg_cmp_lt, lg_cmp_gt, lg_cmp_le, lg_cmp_ge] at *); (try simp (disch := omega) only [Int64.le_iff_toInt_le, Int64.lt_iff_toInt_lt, Int32.le_iff_toInt_le, Int32.lt_iff_toInt_lt, fa_eq, fa_lit, fa_litL, nI_toInt, pk_lT, Int32.toInt_toInt64, jadd64, jin, jnoneT] at *); omega)
set_option maxRecDepth 4000 in
set_option maxHeartbeats 1000000 in
theorem m_beginning (np : Nat) (mem : jMem) (p i : Int32)  : jPi yX11_beginning cX11_beginning 2 .int 1 [.int p, .int i] np mem (fun v c => v = 101 * p + 17 * i + 1 ∧ c = mem) := by
  refine jPi.of (own := RX11) rfl rfl (Nat.le_of_ble_eq_true rfl) (fun G X hR hr hE => ?_)
  refine j_bipush X dX11_beginning_0 101 (by decide) ?_
  refine j_iload_n X dX11_beginning_2 rfl ?_
  refine j_imul X dX11_beginning_3 ?_
  refine j_bipush X dX11_beginning_4 17 (by decide) ?_
  refine j_iload_n X dX11_beginning_6 rfl ?_
  refine j_imul X dX11_beginning_7 ?_
  refine j_iadd X dX11_beginning_8 ?_
  refine j_iconst X dX11_beginning_9 1 (by decide) ?_
  refine j_iadd X dX11_beginning_10 ?_
  refine s_iret X hE hr dX11_beginning_11 rfl ?_
  first | exact ⟨rfl, rfl⟩ | (exfalso; clear hE hr hR X; (try simp only [lg_cmp_lt, lg_cmp_gt, lg_cmp_le, lg_cmp_ge] at *); (try simp (disch := omega) only [Int64.le_iff_toInt_le, Int64.lt_iff_toInt_lt, Int32.le_iff_toInt_le, Int32.lt_iff_toInt_lt, fa_eq, fa_lit, fa_litL, nI_toInt, pk_lT, Int32.toInt_toInt64, jadd64, jin, jnoneT] at *); omega)
