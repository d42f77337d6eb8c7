/-- x lies from a to b -/
abbrev jin (x : Int32) (a b : Int) : Prop := a ≤ x.toInt ∧ x.toInt ≤ b
theorem jin_l {x : Int32} {a b : Int64} : (a ≤ x.toInt64 ∧ x.toInt64 ≤ b) ↔ jin x a.toInt b.toInt := by
  rw [Int64.le_iff_toInt_le, Int64.le_iff_toInt_le, Int32.toInt_toInt64]
def jRemL (x y : Int64) : Int64 := x - x / y * y
def jRem (x y : Int32) : Int32 := x - x / y * y
def jJoin (a b : Int32) : Int32 := (jRemL (a.toInt64 * a.toInt64 + 3 * b.toInt64 + 5) 65521).toInt32
def jLeaf (p i w : Int32) : Int32 := jRem (31 * w + 7 * p + i) 65521
set_option maxRecDepth 4000 in
set_option maxHeartbeats 1000000 in
theorem m_in (np : Nat) (mem : jMem) (x a b : Int64)  : jPi yX11_in cX11_in 6 .boolean 1 [.long x, .long a, .long b] np mem (fun v c => v = jb (a ≤ x ∧ x ≤ b) ∧ c = mem) := by
  refine jPi.of (own := RX11) rfl rfl (Nat.le_of_ble_eq_true rfl) (fun G X hR hr hE => ?_)
  refine j_lload_n X dX11_in_0 rfl ?_
  refine j_lload_n X dX11_in_1 rfl ?_
  refine j_lcmp X dX11_in_2 ?_
  refine j_if_lt X 17 dX11_in_3 (by decide) (fun c_3 => ?_) (fun c_3 => ?_)
  · refine j_iconst X dX11_in_17 0 (by decide) ?_
    refine s_iret X hE hr dX11_in_18 (by first | exact jb_nar | rfl) ?_
    refine ⟨?_, rfl⟩
    clear hE hr hR X
    first | exact (jb_t (by (try simp only [lg_cmp_lt, lg_cmp_gt, lg_cmp_le, lg_cmp_ge] at *); (try simp only [Int64.le_iff_toInt_le, Int64.lt_iff_toInt_lt, Int32.le_iff_toInt_le, Int32.lt_iff_toInt_lt] at *); omega)).symm | exact (jb_f (by (try simp only [lg_cmp_lt, lg_cmp_gt, lg_cmp_le, lg_cmp_ge] at *); (try simp only [Int64.le_iff_toInt_le, Int64.lt_iff_toInt_lt, Int32.le_iff_toInt_le, Int32.lt_iff_toInt_lt] at *); omega)).symm
  · refine j_lload_n X dX11_in_6 rfl ?_
    refine j_lload X dX11_in_7 rfl ?_
    refine j_lcmp X dX11_in_9 ?_
    refine j_if_gt X 17 dX11_in_10 (by decide) (fun c_10 => ?_) (fun c_10 => ?_)
    · refine j_iconst X dX11_in_17 0 (by decide) ?_
      refine s_iret X hE hr dX11_in_18 (by first | exact jb_nar | rfl) ?_
      refine ⟨?_, rfl⟩
      clear hE hr hR X
      first | exact (jb_t (by (try simp only [lg_cmp_lt, lg_cmp_gt, lg_cmp_le, lg_cmp_ge] at *); (try simp only [Int64.le_iff_toInt_le, Int64.lt_iff_toInt_lt, Int32.le_iff_toInt_le, Int32.lt_iff_toInt_lt] at *); omega)).symm | exact (jb_f (by (try simp only [lg_cmp_lt, lg_cmp_gt, lg_cmp_le, lg_cmp_ge] at *); (try simp only [Int64.le_iff_toInt_le, Int64.lt_iff_toInt_lt, Int32.le_iff_toInt_le, Int32.lt_iff_toInt_lt] at *); omega)).symm
    · refine j_iconst X dX11_in_13 1 (by decide) ?_
      refine j_goto X 18 dX11_in_14 (by decide) ?_
      refine s_iret X hE hr dX11_in_18 (by first | exact jb_nar | rfl) ?_
      refine ⟨?_, rfl⟩
      clear hE hr hR X
      first | exact (jb_t (by (try simp only [lg_cmp_lt, lg_cmp_gt, lg_cmp_le, lg_cmp_ge] at *); (try simp only [Int64.le_iff_toInt_le, Int64.lt_iff_toInt_lt, Int32.le_iff_toInt_le, Int32.lt_iff_toInt_lt] at *); omega)).symm | exact (jb_f (by (try simp only [lg_cmp_lt, lg_cmp_gt, lg_cmp_le, lg_cmp_ge] at *); (try simp only [Int64.le_iff_toInt_le, Int64.lt_iff_toInt_lt, Int32.le_iff_toInt_le, Int32.lt_iff_toInt_lt] at *); omega)).symm
set_option maxRecDepth 4000 in
set_option maxHeartbeats 1000000 in
theorem m_isDay (np : Nat) (mem : jMem) (x : Int32)  : jPi yX11_isDay cX11_isDay 1 .boolean 2 [.int x] np mem (fun v c => v = jb (jin x 0 999) ∧ c = mem) := by
  refine jPi.of (own := RX11) rfl rfl (Nat.le_of_ble_eq_true rfl) (fun G X hR hr hE => ?_)
  refine j_iload_n X dX11_isDay_0 rfl ?_
  refine j_i2l X dX11_isDay_1 ?_
  refine j_lconst X dX11_isDay_2 0 (by decide) ?_
  refine j_ldc2 X dX11_isDay_3 u1119 ?_
  refine s_callSi X hR (m_in np mem _ _ _) rfl u1088 u1086 u1087 u12 hyX11_in (by decide) (by decide) (Nat.le_of_ble_eq_true rfl) dX11_isDay_6 (fun v_6 m_6 h_6 => ?_)
  obtain ⟨rfl, rfl⟩ := h_6
  refine s_iret X hE hr dX11_isDay_9 (by first | exact jb_nar | rfl) ?_
  exact ⟨jb_c jin_l, rfl⟩
set_option maxRecDepth 4000 in
set_option maxHeartbeats 1000000 in
theorem m_isSheet (np : Nat) (mem : jMem) (x : Int32)  : jPi yX11_isSheet cX11_isSheet 1 .boolean 2 [.int x] np mem (fun v c => v = jb (jin x 0 7) ∧ c = mem) := by
  refine jPi.of (own := RX11) rfl rfl (Nat.le_of_ble_eq_true rfl) (fun G X hR hr hE => ?_)
  refine j_iload_n X dX11_isSheet_0 rfl ?_
  refine j_i2l X dX11_isSheet_1 ?_
  refine j_lconst X dX11_isSheet_2 0 (by decide) ?_
  refine j_ldc2 X dX11_isSheet_3 u1085 ?_
  refine s_callSi X hR (m_in np mem _ _ _) rfl u1088 u1086 u1087 u12 hyX11_in (by decide) (by decide) (Nat.le_of_ble_eq_true rfl) dX11_isSheet_6 (fun v_6 m_6 h_6 => ?_)
  obtain ⟨rfl, rfl⟩ := h_6
  refine s_iret X hE hr dX11_isSheet_9 (by first | exact jb_nar | rfl) ?_
  exact ⟨jb_c jin_l, rfl⟩
set_option maxRecDepth 4000 in
set_option maxHeartbeats 1000000 in
theorem m_isOffice (np : Nat) (mem : jMem) (x : Int32)  : jPi yX11_isOffice cX11_isOffice 1 .boolean 2 [.int x] np mem (fun v c => v = jb (jin x 0 3) ∧ c = mem) := by
  refine jPi.of (own := RX11) rfl rfl (Nat.le_of_ble_eq_true rfl) (fun G X hR hr hE => ?_)
  refine j_iload_n X dX11_isOffice_0 rfl ?_
  refine j_i2l X dX11_isOffice_1 ?_
  refine j_lconst X dX11_isOffice_2 0 (by decide) ?_
  refine j_ldc2 X dX11_isOffice_3 u1115 ?_
  refine s_callSi X hR (m_in np mem _ _ _) rfl u1088 u1086 u1087 u12 hyX11_in (by decide) (by decide) (Nat.le_of_ble_eq_true rfl) dX11_isOffice_6 (fun v_6 m_6 h_6 => ?_)
  obtain ⟨rfl, rfl⟩ := h_6
  refine s_iret X hE hr dX11_isOffice_9 (by first | exact jb_nar | rfl) ?_
  exact ⟨jb_c jin_l, rfl⟩
set_option maxRecDepth 4000 in
set_option maxHeartbeats 1000000 in
theorem m_isBearer (np : Nat) (mem : jMem) (x : Int32)  : jPi yX11_isBearer cX11_isBearer 1 .boolean 2 [.int x] np mem (fun v c => v = jb (jin x 0 5) ∧ c = mem) := by
  refine jPi.of (own := RX11) rfl rfl (Nat.le_of_ble_eq_true rfl) (fun G X hR hr hE => ?_)
  refine j_iload_n X dX11_isBearer_0 rfl ?_
  refine j_i2l X dX11_isBearer_1 ?_
  refine j_lconst X dX11_isBearer_2 0 (by decide) ?_
  refine j_ldc2 X dX11_isBearer_3 u1143 ?_
  refine s_callSi X hR (m_in np mem _ _ _) rfl u1088 u1086 u1087 u12 hyX11_in (by decide) (by decide) (Nat.le_of_ble_eq_true rfl) dX11_isBearer_6 (fun v_6 m_6 h_6 => ?_)
  obtain ⟨rfl, rfl⟩ := h_6
  refine s_iret X hE hr dX11_isBearer_9 (by first | exact jb_nar | rfl) ?_
  exact ⟨jb_c jin_l, rfl⟩
set_option maxRecDepth 4000 in
set_option maxHeartbeats 1000000 in
theorem m_isDoor (np : Nat) (mem : jMem) (x : Int32)  : jPi yX11_isDoor cX11_isDoor 1 .boolean 2 [.int x] np mem (fun v c => v = jb (jin x 0 3) ∧ c = mem) := by
  refine jPi.of (own := RX11) rfl rfl (Nat.le_of_ble_eq_true rfl) (fun G X hR hr hE => ?_)
  refine j_iload_n X dX11_isDoor_0 rfl ?_
  refine j_i2l X dX11_isDoor_1 ?_
  refine j_lconst X dX11_isDoor_2 0 (by decide) ?_
  refine j_ldc2 X dX11_isDoor_3 u1115 ?_
  refine s_callSi X hR (m_in np mem _ _ _) rfl u1088 u1086 u1087 u12 hyX11_in (by decide) (by decide) (Nat.le_of_ble_eq_true rfl) dX11_isDoor_6 (fun v_6 m_6 h_6 => ?_)
  obtain ⟨rfl, rfl⟩ := h_6
  refine s_iret X hE hr dX11_isDoor_9 (by first | exact jb_nar | rfl) ?_
  exact ⟨jb_c jin_l, rfl⟩
set_option maxRecDepth 4000 in
set_option maxHeartbeats 1000000 in
theorem m_finding (np : Nat) (mem : jMem) (x : Int32)  : jPi yX11_finding cX11_finding 2 .int 1 [.ref 66, .int x] np mem (fun v c => v = -1000010 - x ∧ c = jup mem 66 1 x) := by
  refine jPi.of (own := RX11) rfl rfl (Nat.le_of_ble_eq_true rfl) (fun G X hR hr hE => ?_)
  refine j_aload_n X dX11_finding_0 rfl ?_
  refine j_iload_n X dX11_finding_1 rfl ?_
  refine j_putI X 11 1 (by decide) (by decide) rfl rfl rfl rfl u952 (o66 np) (k66 np) dX11_finding_2 ?_
  refine j_ldc X dX11_finding_5 u1095 ?_
  refine j_iload_n X dX11_finding_7 rfl ?_
  refine j_isub X dX11_finding_8 ?_
  refine s_iret X hE hr dX11_finding_9 rfl ?_
  exact ⟨rfl, rfl⟩
set_option maxRecDepth 4000 in
set_option maxHeartbeats 1000000 in
theorem m_join (np : Nat) (mem : jMem) (a b : Int32)  : jPi yX11_join cX11_join 2 .int 1 [.int a, .int b] np mem (fun v c => v = jJoin a b ∧ c = mem) := by
  refine jPi.of (own := RX11) rfl rfl (Nat.le_of_ble_eq_true rfl) (fun G X hR hr hE => ?_)
  refine j_iload_n X dX11_join_0 rfl ?_
  refine j_i2l X dX11_join_1 ?_
  refine j_iload_n X dX11_join_2 rfl ?_
  refine j_i2l X dX11_join_3 ?_
  refine j_lmul X dX11_join_4 ?_
  refine j_ldc2 X dX11_join_5 u1115 ?_
  refine j_iload_n X dX11_join_8 rfl ?_
  refine j_i2l X dX11_join_9 ?_
  refine j_lmul X dX11_join_10 ?_
  refine j_ladd X dX11_join_11 ?_
  refine j_ldc2 X dX11_join_12 u1143 ?_
  refine j_ladd X dX11_join_15 ?_
  refine j_ldc2 X dX11_join_16 u1169 ?_
  refine j_lrem X dX11_join_19 (by decide) ?_
  refine j_l2i X dX11_join_20 ?_
  refine s_iret X hE hr dX11_join_21 rfl ?_
  exact ⟨rfl, rfl⟩
set_option maxRecDepth 4000 in
set_option maxHeartbeats 1000000 in
theorem m_leaf (np : Nat) (mem : jMem) (p i w : Int32)  : jPi yX11_leaf cX11_leaf 3 .int 1 [.int p, .int i, .int w] np mem (fun v c => v = jLeaf p i w ∧ c = mem) := by
  refine jPi.of (own := RX11) rfl rfl (Nat.le_of_ble_eq_true rfl) (fun G X hR hr hE => ?_)
  refine j_bipush X dX11_leaf_0 31 (by decide) ?_
  refine j_iload_n X dX11_leaf_2 rfl ?_
  refine j_imul X dX11_leaf_3 ?_
  refine j_bipush X dX11_leaf_4 7 (by decide) ?_
  refine j_iload_n X dX11_leaf_6 rfl ?_
  refine j_imul X dX11_leaf_7 ?_
  refine j_iadd X dX11_leaf_8 ?_
  refine j_iload_n X dX11_leaf_9 rfl ?_
  refine j_iadd X dX11_leaf_10 ?_
  refine j_ldc X dX11_leaf_11 u1165 ?_
  refine j_irem X dX11_leaf_13 (by decide) ?_
  refine s_iret X hE hr dX11_leaf_14 rfl ?_
  exact ⟨rfl, rfl⟩
