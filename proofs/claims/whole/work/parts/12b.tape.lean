/-! the class reads its tape: tokens -/
def sb (b : Nat) : Int32 := (nI b).toInt8.toInt32
theorem sb_t : ∀ b, b < 256 → (sb b).toInt = if b < 128 then (b : Int) else (b : Int) - 256 := by decide +kernel
theorem sb_e {b x : Nat} (hb : b < 256) (hx : x < 128) : sb b = nI x ↔ b = x := by
  rw [fa_eq, sb_t b hb, nI_toInt (by omega)]
  by_cases h : b < 128
  · rw [if_pos h]; omega
  · rw [if_neg h]; omega
theorem sb_in {b a c : Nat} (hb : b < 256) (hc : c < 128) : jin (sb b) a c ↔ (a ≤ b ∧ b ≤ c) := by
  unfold jin
  rw [sb_t b hb]
  by_cases h : b < 128
  · rw [if_pos h]; omega
  · rw [if_neg h]; omega
def cBy8 (mem : jMem) (B : Nat → Nat) (n : Nat) : Prop := n ≤ 300 ∧ ∀ i, i < n → mem 52 i = sb (B i) ∧ B i < 256
theorem cBy8_c {mem c : jMem} {B : Nat → Nat} {n : Nat} (h : cBy8 mem B n) (e : c 52 = mem 52) : cBy8 c B n := ⟨h.1, fun i hi => by rw [e]; exact h.2 i hi⟩
def cTm (B : Nat → Nat) (n p : Nat) (f : Nat → Int32) : Prop := f 5 = nI (tN B n p) ∧ f 6 = nI (tF B n p) ∧ f 7 = nI ((tK B n p + 4) % 5) ∧ (tK B n p = 3 → f 8 = nI (tV B n p))
def cTs (B : Nat → Nat) (z p : Nat) (mem : jMem) : Prop := cBy8 mem B z ∧ mem 51 1 = nI z ∧ p ≤ z ∧ cTm B z p (mem 51)
set_option maxRecDepth 4000 in
set_option maxHeartbeats 1000000 in
theorem c_isLetter (np : Nat) (mem : jMem) (x : Int32)  : jPi yX9_isLetter cX9_isLetter 1 .boolean 1 [.int x] np mem (fun v c => v = jb (jin x 97 122) ∧ c = mem) := by
  refine jPi.of (own := RX9) rfl rfl (Nat.le_of_ble_eq_true rfl) (fun G X hR hr hE => ?_)
  refine j_iload_n X dX9_isLetter_0 rfl ?_
  refine j_bipush X dX9_isLetter_1 97 (by decide) ?_
  refine j_icmp_lt X 16 dX9_isLetter_3 (by decide) (fun c_3 => ?_) (fun c_3 => ?_)
  · refine j_iconst X dX9_isLetter_16 0 (by decide) ?_
    refine s_iret X hE hr dX9_isLetter_17 (by first | exact jb_nar | rfl) ?_
    refine ⟨?_, rfl⟩
    clear hE hr hR X
    first | exact (jb_t (by (try simp only [lg_cmp_lt, lg_cmp_gt, lg_cmp_le, lg_cmp_ge] at *); (try simp (disch := omega) only [Int64.le_iff_toInt_le, Int64.lt_iff_toInt_lt, Int32.le_iff_toInt_le, Int32.lt_iff_toInt_lt, fa_eq, fa_lit, fa_litL, nI_toInt, pk_lT, Int32.toInt_toInt64, jadd64, jin, jnoneT] at *); omega)).symm | exact (jb_f (by (try simp only [lg_cmp_lt, lg_cmp_gt, lg_cmp_le, lg_cmp_ge] at *); (try simp (disch := omega) only [Int64.le_iff_toInt_le, Int64.lt_iff_toInt_lt, Int32.le_iff_toInt_le, Int32.lt_iff_toInt_lt, fa_eq, fa_lit, fa_litL, nI_toInt, pk_lT, Int32.toInt_toInt64, jadd64, jin, jnoneT] at *); omega)).symm
  · refine j_iload_n X dX9_isLetter_6 rfl ?_
    refine j_bipush X dX9_isLetter_7 122 (by decide) ?_
    refine j_icmp_gt X 16 dX9_isLetter_9 (by decide) (fun c_9 => ?_) (fun c_9 => ?_)
    · refine j_iconst X dX9_isLetter_16 0 (by decide) ?_
      refine s_iret X hE hr dX9_isLetter_17 (by first | exact jb_nar | rfl) ?_
      refine ⟨?_, rfl⟩
      clear hE hr hR X
      first | exact (jb_t (by (try simp only [lg_cmp_lt, lg_cmp_gt, lg_cmp_le, lg_cmp_ge] at *); (try simp (disch := omega) only [Int64.le_iff_toInt_le, Int64.lt_iff_toInt_lt, Int32.le_iff_toInt_le, Int32.lt_iff_toInt_lt, fa_eq, fa_lit, fa_litL, nI_toInt, pk_lT, Int32.toInt_toInt64, jadd64, jin, jnoneT] at *); omega)).symm | exact (jb_f (by (try simp only [lg_cmp_lt, lg_cmp_gt, lg_cmp_le, lg_cmp_ge] at *); (try simp (disch := omega) only [Int64.le_iff_toInt_le, Int64.lt_iff_toInt_lt, Int32.le_iff_toInt_le, Int32.lt_iff_toInt_lt, fa_eq, fa_lit, fa_litL, nI_toInt, pk_lT, Int32.toInt_toInt64, jadd64, jin, jnoneT] at *); omega)).symm
    · refine j_iconst X dX9_isLetter_12 1 (by decide) ?_
      refine j_goto X 17 dX9_isLetter_13 (by decide) ?_
      refine s_iret X hE hr dX9_isLetter_17 (by first | exact jb_nar | rfl) ?_
      refine ⟨?_, rfl⟩
      clear hE hr hR X
      first | exact (jb_t (by (try simp only [lg_cmp_lt, lg_cmp_gt, lg_cmp_le, lg_cmp_ge] at *); (try simp (disch := omega) only [Int64.le_iff_toInt_le, Int64.lt_iff_toInt_lt, Int32.le_iff_toInt_le, Int32.lt_iff_toInt_lt, fa_eq, fa_lit, fa_litL, nI_toInt, pk_lT, Int32.toInt_toInt64, jadd64, jin, jnoneT] at *); omega)).symm | exact (jb_f (by (try simp only [lg_cmp_lt, lg_cmp_gt, lg_cmp_le, lg_cmp_ge] at *); (try simp (disch := omega) only [Int64.le_iff_toInt_le, Int64.lt_iff_toInt_lt, Int32.le_iff_toInt_le, Int32.lt_iff_toInt_lt, fa_eq, fa_lit, fa_litL, nI_toInt, pk_lT, Int32.toInt_toInt64, jadd64, jin, jnoneT] at *); omega)).symm
set_option maxRecDepth 4000 in
set_option maxHeartbeats 1000000 in
theorem c_isFigure (np : Nat) (mem : jMem) (x : Int32)  : jPi yX9_isFigure cX9_isFigure 1 .boolean 1 [.int x] np mem (fun v c => v = jb (jin x 48 57) ∧ c = mem) := by
  refine jPi.of (own := RX9) rfl rfl (Nat.le_of_ble_eq_true rfl) (fun G X hR hr hE => ?_)
  refine j_iload_n X dX9_isFigure_0 rfl ?_
  refine j_bipush X dX9_isFigure_1 48 (by decide) ?_
  refine j_icmp_lt X 16 dX9_isFigure_3 (by decide) (fun c_3 => ?_) (fun c_3 => ?_)
  · refine j_iconst X dX9_isFigure_16 0 (by decide) ?_
    refine s_iret X hE hr dX9_isFigure_17 (by first | exact jb_nar | rfl) ?_
    refine ⟨?_, rfl⟩
    clear hE hr hR X
    first | exact (jb_t (by (try simp only [lg_cmp_lt, lg_cmp_gt, lg_cmp_le, lg_cmp_ge] at *); (try simp (disch := omega) only [Int64.le_iff_toInt_le, Int64.lt_iff_toInt_lt, Int32.le_iff_toInt_le, Int32.lt_iff_toInt_lt, fa_eq, fa_lit, fa_litL, nI_toInt, pk_lT, Int32.toInt_toInt64, jadd64, jin, jnoneT] at *); omega)).symm | exact (jb_f (by (try simp only [lg_cmp_lt, lg_cmp_gt, lg_cmp_le, lg_cmp_ge] at *); (try simp (disch := omega) only [Int64.le_iff_toInt_le, Int64.lt_iff_toInt_lt, Int32.le_iff_toInt_le, Int32.lt_iff_toInt_lt, fa_eq, fa_lit, fa_litL, nI_toInt, pk_lT, Int32.toInt_toInt64, jadd64, jin, jnoneT] at *); omega)).symm
  · refine j_iload_n X dX9_isFigure_6 rfl ?_
    refine j_bipush X dX9_isFigure_7 57 (by decide) ?_
    refine j_icmp_gt X 16 dX9_isFigure_9 (by decide) (fun c_9 => ?_) (fun c_9 => ?_)
    · refine j_iconst X dX9_isFigure_16 0 (by decide) ?_
      refine s_iret X hE hr dX9_isFigure_17 (by first | exact jb_nar | rfl) ?_
      refine ⟨?_, rfl⟩
      clear hE hr hR X
      first | exact (jb_t (by (try simp only [lg_cmp_lt, lg_cmp_gt, lg_cmp_le, lg_cmp_ge] at *); (try simp (disch := omega) only [Int64.le_iff_toInt_le, Int64.lt_iff_toInt_lt, Int32.le_iff_toInt_le, Int32.lt_iff_toInt_lt, fa_eq, fa_lit, fa_litL, nI_toInt, pk_lT, Int32.toInt_toInt64, jadd64, jin, jnoneT] at *); omega)).symm | exact (jb_f (by (try simp only [lg_cmp_lt, lg_cmp_gt, lg_cmp_le, lg_cmp_ge] at *); (try simp (disch := omega) only [Int64.le_iff_toInt_le, Int64.lt_iff_toInt_lt, Int32.le_iff_toInt_le, Int32.lt_iff_toInt_lt, fa_eq, fa_lit, fa_litL, nI_toInt, pk_lT, Int32.toInt_toInt64, jadd64, jin, jnoneT] at *); omega)).symm
    · refine j_iconst X dX9_isFigure_12 1 (by decide) ?_
      refine j_goto X 17 dX9_isFigure_13 (by decide) ?_
      refine s_iret X hE hr dX9_isFigure_17 (by first | exact jb_nar | rfl) ?_
      refine ⟨?_, rfl⟩
      clear hE hr hR X
      first | exact (jb_t (by (try simp only [lg_cmp_lt, lg_cmp_gt, lg_cmp_le, lg_cmp_ge] at *); (try simp (disch := omega) only [Int64.le_iff_toInt_le, Int64.lt_iff_toInt_lt, Int32.le_iff_toInt_le, Int32.lt_iff_toInt_lt, fa_eq, fa_lit, fa_litL, nI_toInt, pk_lT, Int32.toInt_toInt64, jadd64, jin, jnoneT] at *); omega)).symm | exact (jb_f (by (try simp only [lg_cmp_lt, lg_cmp_gt, lg_cmp_le, lg_cmp_ge] at *); (try simp (disch := omega) only [Int64.le_iff_toInt_le, Int64.lt_iff_toInt_lt, Int32.le_iff_toInt_le, Int32.lt_iff_toInt_lt, fa_eq, fa_lit, fa_litL, nI_toInt, pk_lT, Int32.toInt_toInt64, jadd64, jin, jnoneT] at *); omega)).symm
set_option maxRecDepth 4000 in
set_option maxHeartbeats 1000000 in
theorem c_readName (np : Nat) (mem : jMem) (r z : Nat) (B : Nat → Nat) (h8 : cBy8 mem B z) (hz : mem 51 1 = nI z) (hr1 : r ≤ z) (hc0 : mem 51 5 = nI r) : jPv yX9_readName cX9_readName 1 2 [.ref 51] np mem (fun c => jeq [51] mem c ∧ jso [5, 7] (mem 51) (c 51) ∧ c 51 5 = nI (tR tL B z r) ∧ c 51 7 = 1) := by
  refine jPv.of (own := RX9) rfl rfl (Nat.le_of_ble_eq_true rfl) (fun G X hR hr hE => ?_)
  have lp0 : ∀ (n : Nat) (r2 : Nat) (m2 : jMem), z + 1 ≤ r2 + n → jeq [51] mem m2 → jso [5, 7] (mem 51) (m2 51) → m2 51 5 = nI r2 → r2 ≤ z → tR tL B z r2 = tR tL B z r → J G RX9 cX9_readName 1 0 0 0 (jlv [some (.ref 51)]) [] (jS np) (m2) := by
    intro n
    induction n with
    | zero =>
      intro r2 m2 hfu hJ hS hc hrz hrun
      exact absurd hfu (by omega)
    | succ n ih0 =>
      intro r2 m2 hfu hJ hS hc hrz hrun
      refine j_aload_n X dX9_readName_0 rfl ?_
      refine j_getF X 9 5 (by decide) (by decide) rfl u140 (o51 np) (k51 np) (m2 51) rfl dX9_readName_1 ?_
      refine j_nrm (nI r2) hc ?_
      refine j_aload_n X dX9_readName_4 rfl ?_
      refine j_getF X 9 1 (by decide) (by decide) rfl u134 (o51 np) (k51 np) (m2 51) rfl dX9_readName_5 ?_
      have h300 := h8.1
      refine j_nrm (nI z) ((hS 1 (by decide)).trans hz) ?_
      refine j_icmp_ge X 39 dX9_readName_8 (by decide) (fun c_8 => ?_) (fun c_8 => ?_)
      · have h300 := h8.1
        have hge : z ≤ r2 := by clear hE hr hR X h8; (try simp only [lg_cmp_lt, lg_cmp_gt, lg_cmp_le, lg_cmp_ge] at *); (try simp (disch := omega) only [Int64.le_iff_toInt_le, Int64.lt_iff_toInt_lt, Int32.le_iff_toInt_le, Int32.lt_iff_toInt_lt, fa_eq, fa_lit, fa_litL, nI_toInt, pk_lT, Int32.toInt_toInt64, jadd64, jin, jnoneT] at *); omega
        have hre : tR tL B z r2 = r2 := tR_stop (fun y => absurd y.1 (by omega))
        refine j_aload_n X dX9_readName_39 rfl ?_
        refine j_iconst X dX9_readName_40 1 (by decide) ?_
        refine j_putI X 9 7 (by decide) (by decide) rfl rfl rfl rfl u142 (o51 np) (k51 np) dX9_readName_41 ?_
        refine s_vret X hE hr dX9_readName_44 ?_
        exact ⟨jeq.up hJ (by decide), jso.up hS (by decide), by rw [jup_n (by decide), hc, ← hrun, hre], jup_s⟩
      · have h300 := h8.1
        have hlt : r2 < z := by clear hE hr hR X h8; (try simp only [lg_cmp_lt, lg_cmp_gt, lg_cmp_le, lg_cmp_ge] at *); (try simp (disch := omega) only [Int64.le_iff_toInt_le, Int64.lt_iff_toInt_lt, Int32.le_iff_toInt_le, Int32.lt_iff_toInt_lt, fa_eq, fa_lit, fa_litL, nI_toInt, pk_lT, Int32.toInt_toInt64, jadd64, jin, jnoneT] at *); omega
        refine j_aload_n X dX9_readName_11 rfl ?_
        refine j_getR X 9 0 (by decide) (by decide) rfl u133 (o51 np) (k51 np) _ (p51_0 np) dX9_readName_12 ?_
        refine j_aload_n X dX9_readName_15 rfl ?_
        refine j_getF X 9 5 (by decide) (by decide) rfl u140 (o51 np) (k51 np) (m2 51) rfl dX9_readName_16 ?_
        refine j_nrm (nI r2) hc ?_
        refine j_nrm _ (by first | (simp only [fa_lit, pk_mul, nI_add]; done) | (simp only [fa_lit, pk_mul, nI_add]; rfl) | rfl) ?_
        refine j_baldN X (o52 np) (k52 np) (by rw [l52]; omega) (by rw [l52]; decide) (m2 52) rfl dX9_readName_19 ?_
        refine j_nrm (sb (B r2)) ((congrFun (hJ 52 (by decide)) r2).trans (h8.2 r2 (by omega)).1) ?_
        refine s_callSi X hR (c_isLetter np _ _) rfl u654 u652 u653 u7 hyX9_isLetter (by decide) (by decide) (Nat.le_of_ble_eq_true rfl) dX9_readName_20 (fun v_20 m_20 h_20 => ?_)
        obtain ⟨e1, e2⟩ := h_20; have e1 := e1.symm; have e2 := e2.symm; subst e1; subst e2
        refine j_ifb_eq X 39 dX9_readName_23 (by decide) (fun c_23 => ?_) (fun c_23 => ?_)
        · have hre : tR tL B z r2 = r2 := tR_stop (fun y => c_23 ((sb_in (a := 97) (c := 122) (h8.2 r2 hlt).2 (by omega)).mpr (of_decide_eq_true y.2)))
          refine j_aload_n X dX9_readName_39 rfl ?_
          refine j_iconst X dX9_readName_40 1 (by decide) ?_
          refine j_putI X 9 7 (by decide) (by decide) rfl rfl rfl rfl u142 (o51 np) (k51 np) dX9_readName_41 ?_
          refine s_vret X hE hr dX9_readName_44 ?_
          exact ⟨jeq.up hJ (by decide), jso.up hS (by decide), by rw [jup_n (by decide), hc, ← hrun, hre], jup_s⟩
        · have hin := (sb_in (a := 97) (c := 122) (h8.2 r2 hlt).2 (by omega)).mp c_23
          refine j_aload_n X dX9_readName_26 rfl ?_
          refine j_dup X dX9_readName_27 rfl ?_
          refine j_getF X 9 5 (by decide) (by decide) rfl u140 (o51 np) (k51 np) (m2 51) rfl dX9_readName_28 ?_
          refine j_nrm (nI r2) hc ?_
          refine j_iconst X dX9_readName_31 1 (by decide) ?_
          refine j_iadd X dX9_readName_32 ?_
          refine j_nrm (nI (r2 + 1)) (nI_1 r2) ?_
          refine j_putI X 9 5 (by decide) (by decide) rfl rfl rfl rfl u140 (o51 np) (k51 np) dX9_readName_33 ?_
          refine j_goto X 0 dX9_readName_36 (by decide) ?_
          refine j_lv [some (.ref 51)] ⟨rfl, trivial⟩ ?_
          exact ih0 (r2 + 1) _ (by omega) (jeq.up hJ (by decide)) (jso.up hS (by decide)) jup_s (by omega) ((tR_go hlt (decide_eq_true hin)).symm.trans hrun)
  refine j_lv [some (.ref 51)] ⟨rfl, trivial⟩ ?_
  exact lp0 (z + 1) r mem (by omega) jeq.rf jso.rf hc0 hr1 rfl
set_option maxRecDepth 4000 in
set_option maxHeartbeats 1000000 in
theorem c_readFigures (np : Nat) (mem : jMem) (r z : Nat) (B : Nat → Nat) (h8 : cBy8 mem B z) (hz : mem 51 1 = nI z) (hr1 : r ≤ z) (hc0 : mem 51 5 = nI r) (hf0 : mem 51 6 = nI r) : jPv yX9_readFigures cX9_readFigures 1 2 [.ref 51] np mem (fun c => jeq [51] mem c ∧ jso [5, 7, 8] (mem 51) (c 51) ∧ c 51 5 = nI (tR tG B z r) ∧ c 51 8 = jVf B r (tR tG B z r - r) ∧ c 51 7 = nI (if tR tG B z r - r ≤ 3 then 2 else 4)) := by
  refine jPv.of (own := RX9) rfl rfl (Nat.le_of_ble_eq_true rfl) (fun G X hR hr hE => ?_)
  refine j_aload_n X dX9_readFigures_0 rfl ?_
  refine j_iconst X dX9_readFigures_1 0 (by decide) ?_
  refine j_putI X 9 8 (by decide) (by decide) rfl rfl rfl rfl u143 (o51 np) (k51 np) dX9_readFigures_2 ?_
  have lp5 : ∀ (n : Nat) (k : Nat) (m2 : jMem), z + 1 ≤ r + k + n → jeq [51] mem m2 → jso [5, 7, 8] (mem 51) (m2 51) → m2 51 5 = nI (r + k) → m2 51 8 = jVf B r k → r + k ≤ z → tR tG B z (r + k) = tR tG B z r → J G RX9 cX9_readFigures 1 0 0 5 (jlv [some (.ref 51)]) [] (jS np) (m2) := by
    intro n
    induction n with
    | zero =>
      intro k m2 hfu hJ hS hc hv hrz hrun
      exact absurd hfu (by omega)
    | succ n ih5 =>
      intro k m2 hfu hJ hS hc hv hrz hrun
      refine j_aload_n X dX9_readFigures_5 rfl ?_
      refine j_getF X 9 5 (by decide) (by decide) rfl u140 (o51 np) (k51 np) (m2 51) rfl dX9_readFigures_6 ?_
      refine j_nrm (nI (r + k)) hc ?_
      refine j_aload_n X dX9_readFigures_9 rfl ?_
      refine j_getF X 9 1 (by decide) (by decide) rfl u134 (o51 np) (k51 np) (m2 51) rfl dX9_readFigures_10 ?_
      have h300 := h8.1
      refine j_nrm (nI z) ((hS 1 (by decide)).trans hz) ?_
      refine j_icmp_ge X 68 dX9_readFigures_13 (by decide) (fun c_13 => ?_) (fun c_13 => ?_)
      · have hge : z ≤ r + k := by clear hE hr hR X h8; (try simp only [lg_cmp_lt, lg_cmp_gt, lg_cmp_le, lg_cmp_ge] at *); (try simp (disch := omega) only [Int64.le_iff_toInt_le, Int64.lt_iff_toInt_lt, Int32.le_iff_toInt_le, Int32.lt_iff_toInt_lt, fa_eq, fa_lit, fa_litL, nI_toInt, pk_lT, Int32.toInt_toInt64, jadd64, jin, jnoneT] at *); omega
        have hre : tR tG B z (r + k) = r + k := tR_stop (fun y => absurd y.1 (by omega))
        have hrk : tR tG B z r - r = k := by rw [← hrun, hre, Nat.add_sub_cancel_left]
        refine j_aload_n X dX9_readFigures_68 rfl ?_
        refine j_aload_n X dX9_readFigures_69 rfl ?_
        refine j_getF X 9 5 (by decide) (by decide) rfl u140 (o51 np) (k51 np) (m2 51) rfl dX9_readFigures_70 ?_
        refine j_nrm (nI (r + k)) hc ?_
        refine j_aload_n X dX9_readFigures_73 rfl ?_
        refine j_getF X 9 6 (by decide) (by decide) rfl u141 (o51 np) (k51 np) (m2 51) rfl dX9_readFigures_74 ?_
        refine j_nrm (nI r) ((hS 6 (by decide)).trans hf0) ?_
        refine j_isub X dX9_readFigures_77 ?_
        refine j_nrm (nI k) (by rw [pk_sub (by omega), Nat.add_sub_cancel_left]) ?_
        refine j_iconst X dX9_readFigures_78 3 (by decide) ?_
        refine j_icmp_gt X 86 dX9_readFigures_79 (by decide) (fun c_79 => ?_) (fun c_79 => ?_)
        · have hk3 : ¬ k ≤ 3 := by clear hE hr hR X h8; (try simp only [lg_cmp_lt, lg_cmp_gt, lg_cmp_le, lg_cmp_ge] at *); (try simp (disch := omega) only [Int64.le_iff_toInt_le, Int64.lt_iff_toInt_lt, Int32.le_iff_toInt_le, Int32.lt_iff_toInt_lt, fa_eq, fa_lit, fa_litL, nI_toInt, pk_lT, Int32.toInt_toInt64, jadd64, jin, jnoneT] at *); omega
          refine j_iconst X dX9_readFigures_86 4 (by decide) ?_
          refine j_putI X 9 7 (by decide) (by decide) rfl rfl rfl rfl u142 (o51 np) (k51 np) dX9_readFigures_87 ?_
          refine s_vret X hE hr dX9_readFigures_90 ?_
          exact ⟨jeq.up hJ (by decide), jso.up hS (by decide), by rw [jup_n (by decide), hc, ← hrun, hre], by rw [jup_n (by decide), hv, hrk], by rw [jup_s, hrk, if_neg hk3]; rfl⟩
        · have hk3 : k ≤ 3 := by clear hE hr hR X h8; (try simp only [lg_cmp_lt, lg_cmp_gt, lg_cmp_le, lg_cmp_ge] at *); (try simp (disch := omega) only [Int64.le_iff_toInt_le, Int64.lt_iff_toInt_lt, Int32.le_iff_toInt_le, Int32.lt_iff_toInt_lt, fa_eq, fa_lit, fa_litL, nI_toInt, pk_lT, Int32.toInt_toInt64, jadd64, jin, jnoneT] at *); omega
          refine j_iconst X dX9_readFigures_82 2 (by decide) ?_
          refine j_goto X 87 dX9_readFigures_83 (by decide) ?_
          refine j_putI X 9 7 (by decide) (by decide) rfl rfl rfl rfl u142 (o51 np) (k51 np) dX9_readFigures_87 ?_
          refine s_vret X hE hr dX9_readFigures_90 ?_
          exact ⟨jeq.up hJ (by decide), jso.up hS (by decide), by rw [jup_n (by decide), hc, ← hrun, hre], by rw [jup_n (by decide), hv, hrk], by rw [jup_s, hrk, if_pos hk3]; rfl⟩
      · have hlt : r + k < z := by clear hE hr hR X h8; (try simp only [lg_cmp_lt, lg_cmp_gt, lg_cmp_le, lg_cmp_ge] at *); (try simp (disch := omega) only [Int64.le_iff_toInt_le, Int64.lt_iff_toInt_lt, Int32.le_iff_toInt_le, Int32.lt_iff_toInt_lt, fa_eq, fa_lit, fa_litL, nI_toInt, pk_lT, Int32.toInt_toInt64, jadd64, jin, jnoneT] at *); omega
        refine j_aload_n X dX9_readFigures_16 rfl ?_
        refine j_getR X 9 0 (by decide) (by decide) rfl u133 (o51 np) (k51 np) _ (p51_0 np) dX9_readFigures_17 ?_
        refine j_aload_n X dX9_readFigures_20 rfl ?_
        refine j_getF X 9 5 (by decide) (by decide) rfl u140 (o51 np) (k51 np) (m2 51) rfl dX9_readFigures_21 ?_
        refine j_nrm (nI (r + k)) hc ?_
        refine j_nrm _ (by first | (simp only [fa_lit, pk_mul, nI_add]; done) | (simp only [fa_lit, pk_mul, nI_add]; rfl) | rfl) ?_
        refine j_baldN X (o52 np) (k52 np) (by rw [l52]; omega) (by rw [l52]; decide) (m2 52) rfl dX9_readFigures_24 ?_
        refine j_nrm (sb (B (r + k))) ((congrFun (hJ 52 (by decide)) (r + k)).trans (h8.2 (r + k) (by omega)).1) ?_
        refine s_callSi X hR (c_isFigure np _ _) rfl u661 u659 u660 u7 hyX9_isFigure (by decide) (by decide) (Nat.le_of_ble_eq_true rfl) dX9_readFigures_25 (fun v_25 m_25 h_25 => ?_)
        obtain ⟨e1, e2⟩ := h_25; have e1 := e1.symm; have e2 := e2.symm; subst e1; subst e2
        refine j_ifb_eq X 68 dX9_readFigures_28 (by decide) (fun c_28 => ?_) (fun c_28 => ?_)
        · have hre : tR tG B z (r + k) = r + k := tR_stop (fun y => c_28 ((sb_in (a := 48) (c := 57) (h8.2 (r + k) hlt).2 (by omega)).mpr (of_decide_eq_true y.2)))
          have hrk : tR tG B z r - r = k := by rw [← hrun, hre, Nat.add_sub_cancel_left]
          refine j_aload_n X dX9_readFigures_68 rfl ?_
          refine j_aload_n X dX9_readFigures_69 rfl ?_
          refine j_getF X 9 5 (by decide) (by decide) rfl u140 (o51 np) (k51 np) (m2 51) rfl dX9_readFigures_70 ?_
          refine j_nrm (nI (r + k)) hc ?_
          refine j_aload_n X dX9_readFigures_73 rfl ?_
          refine j_getF X 9 6 (by decide) (by decide) rfl u141 (o51 np) (k51 np) (m2 51) rfl dX9_readFigures_74 ?_
          refine j_nrm (nI r) ((hS 6 (by decide)).trans hf0) ?_
          refine j_isub X dX9_readFigures_77 ?_
          refine j_nrm (nI k) (by rw [pk_sub (by omega), Nat.add_sub_cancel_left]) ?_
          refine j_iconst X dX9_readFigures_78 3 (by decide) ?_
          refine j_icmp_gt X 86 dX9_readFigures_79 (by decide) (fun c_79 => ?_) (fun c_79 => ?_)
          · have hk3 : ¬ k ≤ 3 := by clear hE hr hR X h8; (try simp only [lg_cmp_lt, lg_cmp_gt, lg_cmp_le, lg_cmp_ge] at *); (try simp (disch := omega) only [Int64.le_iff_toInt_le, Int64.lt_iff_toInt_lt, Int32.le_iff_toInt_le, Int32.lt_iff_toInt_lt, fa_eq, fa_lit, fa_litL, nI_toInt, pk_lT, Int32.toInt_toInt64, jadd64, jin, jnoneT] at *); omega
            refine j_iconst X dX9_readFigures_86 4 (by decide) ?_
            refine j_putI X 9 7 (by decide) (by decide) rfl rfl rfl rfl u142 (o51 np) (k51 np) dX9_readFigures_87 ?_
            refine s_vret X hE hr dX9_readFigures_90 ?_
            exact ⟨jeq.up hJ (by decide), jso.up hS (by decide), by rw [jup_n (by decide), hc, ← hrun, hre], by rw [jup_n (by decide), hv, hrk], by rw [jup_s, hrk, if_neg hk3]; rfl⟩
          · have hk3 : k ≤ 3 := by clear hE hr hR X h8; (try simp only [lg_cmp_lt, lg_cmp_gt, lg_cmp_le, lg_cmp_ge] at *); (try simp (disch := omega) only [Int64.le_iff_toInt_le, Int64.lt_iff_toInt_lt, Int32.le_iff_toInt_le, Int32.lt_iff_toInt_lt, fa_eq, fa_lit, fa_litL, nI_toInt, pk_lT, Int32.toInt_toInt64, jadd64, jin, jnoneT] at *); omega
            refine j_iconst X dX9_readFigures_82 2 (by decide) ?_
            refine j_goto X 87 dX9_readFigures_83 (by decide) ?_
            refine j_putI X 9 7 (by decide) (by decide) rfl rfl rfl rfl u142 (o51 np) (k51 np) dX9_readFigures_87 ?_
            refine s_vret X hE hr dX9_readFigures_90 ?_
            exact ⟨jeq.up hJ (by decide), jso.up hS (by decide), by rw [jup_n (by decide), hc, ← hrun, hre], by rw [jup_n (by decide), hv, hrk], by rw [jup_s, hrk, if_pos hk3]; rfl⟩
        · have hin := (sb_in (a := 48) (c := 57) (h8.2 (r + k) hlt).2 (by omega)).mp c_28
          refine j_aload_n X dX9_readFigures_31 rfl ?_
          refine j_bipush X dX9_readFigures_32 10 (by decide) ?_
          refine j_aload_n X dX9_readFigures_34 rfl ?_
          refine j_getF X 9 8 (by decide) (by decide) rfl u143 (o51 np) (k51 np) (m2 51) rfl dX9_readFigures_35 ?_
          refine j_nrm (jVf B r k) hv ?_
          refine j_imul X dX9_readFigures_38 ?_
          refine j_aload_n X dX9_readFigures_39 rfl ?_
          refine j_getR X 9 0 (by decide) (by decide) rfl u133 (o51 np) (k51 np) _ (p51_0 np) dX9_readFigures_40 ?_
          refine j_aload_n X dX9_readFigures_43 rfl ?_
          refine j_getF X 9 5 (by decide) (by decide) rfl u140 (o51 np) (k51 np) (m2 51) rfl dX9_readFigures_44 ?_
          refine j_nrm (nI (r + k)) hc ?_
          refine j_nrm _ (by first | (simp only [fa_lit, pk_mul, nI_add]; done) | (simp only [fa_lit, pk_mul, nI_add]; rfl) | rfl) ?_
          refine j_baldN X (o52 np) (k52 np) (by rw [l52]; omega) (by rw [l52]; decide) (m2 52) rfl dX9_readFigures_47 ?_
          refine j_nrm (nI (B (r + k))) ((congrFun (hJ 52 (by decide)) (r + k)).trans ((h8.2 (r + k) hlt).1.trans ((sb_e (h8.2 (r + k) hlt).2 (by omega)).mpr rfl))) ?_
          refine j_iadd X dX9_readFigures_48 ?_
          refine j_bipush X dX9_readFigures_49 48 (by decide) ?_
          refine j_isub X dX9_readFigures_51 ?_
          refine j_nrm (jVf B r (k + 1)) rfl ?_
          refine j_putI X 9 8 (by decide) (by decide) rfl rfl rfl rfl u143 (o51 np) (k51 np) dX9_readFigures_52 ?_
          refine j_aload_n X dX9_readFigures_55 rfl ?_
          refine j_dup X dX9_readFigures_56 rfl ?_
          refine j_getF X 9 5 (by decide) (by decide) rfl u140 (o51 np) (k51 np) _ rfl dX9_readFigures_57 ?_
          refine j_nrm (nI (r + k)) ((jup_n (by decide)).trans hc) ?_
          refine j_iconst X dX9_readFigures_60 1 (by decide) ?_
          refine j_iadd X dX9_readFigures_61 ?_
          refine j_nrm (nI (r + (k + 1))) (nI_1 _) ?_
          refine j_putI X 9 5 (by decide) (by decide) rfl rfl rfl rfl u140 (o51 np) (k51 np) dX9_readFigures_62 ?_
          refine j_goto X 5 dX9_readFigures_65 (by decide) ?_
          refine j_lv [some (.ref 51)] ⟨rfl, trivial⟩ ?_
          exact ih5 (k + 1) _ (by omega) (jeq.up (jeq.up hJ (by decide)) (by decide)) (jso.up (jso.up hS (by decide)) (by decide)) jup_s (by rw [jup_n (by decide), jup_s]) (by omega) ((tR_go hlt (decide_eq_true hin)).symm.trans hrun)
  refine j_lv [some (.ref 51)] ⟨rfl, trivial⟩ ?_
  exact lp5 (z + 1) 0 _ (by omega) (jeq.up jeq.rf (by decide)) (jso.up jso.rf (by decide)) ((jup_n (by decide)).trans hc0) (by rw [jup_s]; rfl) hr1 rfl
set_option maxRecDepth 4000 in
set_option maxHeartbeats 1000000 in
theorem c_advance (np : Nat) (mem : jMem) (p z : Nat) (B : Nat → Nat) (h8 : cBy8 mem B z) (hz : mem 51 1 = nI z) (hp : p ≤ z) (hc0 : mem 51 5 = nI p) : jPv yX9_advance cX9_advance 1 3 [.ref 51] np mem (fun c => jeq [51] mem c ∧ jso [5, 6, 7, 8] (mem 51) (c 51) ∧ cTm B z p (c 51)) := by
  refine jPv.of (own := RX9) rfl rfl (Nat.le_of_ble_eq_true rfl) (fun G X hR hr hE => ?_)
  have lp0 : ∀ (n : Nat) (r : Nat) (m2 : jMem), z + 1 ≤ r + n → jeq [51] mem m2 → jso [5, 6, 7, 8] (mem 51) (m2 51) → m2 51 5 = nI r → r ≤ z → tR tB B z r = tF B z p → J G RX9 cX9_advance 1 0 0 0 (jlv [some (.ref 51)]) [] (jS np) (m2) := by
    intro n
    induction n with
    | zero =>
      intro r m2 hfu hJ hS hc hrz hrun
      exact absurd hfu (by omega)
    | succ n ih0 =>
      intro r m2 hfu hJ hS hc hrz hrun
      refine j_aload_n X dX9_advance_0 rfl ?_
      refine j_getF X 9 5 (by decide) (by decide) rfl u140 (o51 np) (k51 np) (m2 51) rfl dX9_advance_1 ?_
      refine j_nrm (nI r) hc ?_
      refine j_aload_n X dX9_advance_4 rfl ?_
      refine j_getF X 9 1 (by decide) (by decide) rfl u134 (o51 np) (k51 np) (m2 51) rfl dX9_advance_5 ?_
      have h300 := h8.1
      refine j_nrm (nI z) ((hS 1 (by decide)).trans hz) ?_
      refine j_icmp_ge X 52 dX9_advance_8 (by decide) (fun c_8 => ?_) (fun c_8 => ?_)
      · have hge : z ≤ r := by clear hE hr hR X h8; (try simp only [lg_cmp_lt, lg_cmp_gt, lg_cmp_le, lg_cmp_ge] at *); (try simp (disch := omega) only [Int64.le_iff_toInt_le, Int64.lt_iff_toInt_lt, Int32.le_iff_toInt_le, Int32.lt_iff_toInt_lt, fa_eq, fa_lit, fa_litL, nI_toInt, pk_lT, Int32.toInt_toInt64, jadd64, jin, jnoneT] at *); omega
        have hrf : tF B z p = r := by
          rw [← hrun]
          refine tR_stop (fun y => ?_)
          exact absurd y.1 (by omega)
        refine j_aload_n X dX9_advance_52 rfl ?_
        refine j_aload_n X dX9_advance_53 rfl ?_
        refine j_getF X 9 5 (by decide) (by decide) rfl u140 (o51 np) (k51 np) (m2 51) rfl dX9_advance_54 ?_
        refine j_nrm (nI r) hc ?_
        refine j_putI X 9 6 (by decide) (by decide) rfl rfl rfl rfl u141 (o51 np) (k51 np) dX9_advance_57 ?_
        refine j_aload_n X dX9_advance_60 rfl ?_
        refine j_getF X 9 5 (by decide) (by decide) rfl u140 (o51 np) (k51 np) _ rfl dX9_advance_61 ?_
        refine j_nrm (nI r) ((jup_n (by decide)).trans hc) ?_
        refine j_aload_n X dX9_advance_64 rfl ?_
        refine j_getF X 9 1 (by decide) (by decide) rfl u134 (o51 np) (k51 np) _ rfl dX9_advance_65 ?_
        refine j_nrm (nI z) ((jup_n (by decide)).trans ((hS 1 (by decide)).trans hz)) ?_
        refine j_icmp_lt X 79 dX9_advance_68 (by decide) (fun c_68 => ?_) (fun c_68 => ?_)
        · exfalso
          clear hE hr hR X h8
          (try simp only [lg_cmp_lt, lg_cmp_gt, lg_cmp_le, lg_cmp_ge] at *); (try simp (disch := omega) only [Int64.le_iff_toInt_le, Int64.lt_iff_toInt_lt, Int32.le_iff_toInt_le, Int32.lt_iff_toInt_lt, fa_eq, fa_lit, fa_litL, nI_toInt, pk_lT, Int32.toInt_toInt64, jadd64, jin, jnoneT] at *); omega
        · have hend : z ≤ tF B z p := by rw [hrf]; clear hE hr hR X h8; (try simp only [lg_cmp_lt, lg_cmp_gt, lg_cmp_le, lg_cmp_ge] at *); (try simp (disch := omega) only [Int64.le_iff_toInt_le, Int64.lt_iff_toInt_lt, Int32.le_iff_toInt_le, Int32.lt_iff_toInt_lt, fa_eq, fa_lit, fa_litL, nI_toInt, pk_lT, Int32.toInt_toInt64, jadd64, jin, jnoneT] at *); omega
          have hk1 : tK B z p = 1 := if_pos hend
          have hn1 : tN B z p = r := (if_pos hend).trans hrf
          refine j_aload_n X dX9_advance_71 rfl ?_
          refine j_iconst X dX9_advance_72 0 (by decide) ?_
          refine j_putI X 9 7 (by decide) (by decide) rfl rfl rfl rfl u142 (o51 np) (k51 np) dX9_advance_73 ?_
          refine j_goto X 156 dX9_advance_76 (by decide) ?_
          refine s_vret X hE hr dX9_advance_156 ?_
          refine ⟨jeq.up (jeq.up hJ (by decide)) (by decide), jso.up (jso.up hS (by decide)) (by decide), ?_, ?_, ?_, fun e => absurd e (by rw [hk1]; decide)⟩
          · rw [jup_n (by decide), jup_n (by decide), hc, hn1]
          · rw [jup_n (by decide), jup_s, hrf]
          · rw [jup_s, hk1]; rfl
      · have hlt : r < z := by clear hE hr hR X h8; (try simp only [lg_cmp_lt, lg_cmp_gt, lg_cmp_le, lg_cmp_ge] at *); (try simp (disch := omega) only [Int64.le_iff_toInt_le, Int64.lt_iff_toInt_lt, Int32.le_iff_toInt_le, Int32.lt_iff_toInt_lt, fa_eq, fa_lit, fa_litL, nI_toInt, pk_lT, Int32.toInt_toInt64, jadd64, jin, jnoneT] at *); omega
        refine j_aload_n X dX9_advance_11 rfl ?_
        refine j_getR X 9 0 (by decide) (by decide) rfl u133 (o51 np) (k51 np) _ (p51_0 np) dX9_advance_12 ?_
        refine j_aload_n X dX9_advance_15 rfl ?_
        refine j_getF X 9 5 (by decide) (by decide) rfl u140 (o51 np) (k51 np) (m2 51) rfl dX9_advance_16 ?_
        refine j_nrm (nI r) hc ?_
        refine j_nrm _ (by first | (simp only [fa_lit, pk_mul, nI_add]; done) | (simp only [fa_lit, pk_mul, nI_add]; rfl) | rfl) ?_
        refine j_baldN X (o52 np) (k52 np) (by rw [l52]; omega) (by rw [l52]; decide) (m2 52) rfl dX9_advance_19 ?_
        refine j_nrm (sb (B r)) ((congrFun (hJ 52 (by decide)) r).trans (h8.2 r (by omega)).1) ?_
        refine j_bipush X dX9_advance_20 32 (by decide) ?_
        refine j_icmp_eq X 39 dX9_advance_22 (by decide) (fun c_22 => ?_) (fun c_22 => ?_)
        · have hrb : tB (B r) = true := decide_eq_true (Or.inl ((sb_e (h8.2 r hlt).2 (by omega)).mp (show sb (B r) = nI 32 from c_22)))
          refine j_aload_n X dX9_advance_39 rfl ?_
          refine j_dup X dX9_advance_40 rfl ?_
          refine j_getF X 9 5 (by decide) (by decide) rfl u140 (o51 np) (k51 np) (m2 51) rfl dX9_advance_41 ?_
          refine j_nrm (nI r) hc ?_
          refine j_iconst X dX9_advance_44 1 (by decide) ?_
          refine j_iadd X dX9_advance_45 ?_
          refine j_nrm (nI (r + 1)) (nI_1 r) ?_
          refine j_putI X 9 5 (by decide) (by decide) rfl rfl rfl rfl u140 (o51 np) (k51 np) dX9_advance_46 ?_
          refine j_goto X 0 dX9_advance_49 (by decide) ?_
          refine j_lv [some (.ref 51)] ⟨rfl, trivial⟩ ?_
          exact ih0 (r + 1) _ (by omega) (jeq.up hJ (by decide)) (jso.up hS (by decide)) jup_s (by omega) ((tR_go hlt hrb).symm.trans hrun)
        · refine j_aload_n X dX9_advance_25 rfl ?_
          refine j_getR X 9 0 (by decide) (by decide) rfl u133 (o51 np) (k51 np) _ (p51_0 np) dX9_advance_26 ?_
          refine j_aload_n X dX9_advance_29 rfl ?_
          refine j_getF X 9 5 (by decide) (by decide) rfl u140 (o51 np) (k51 np) (m2 51) rfl dX9_advance_30 ?_
          refine j_nrm (nI r) hc ?_
          refine j_nrm _ (by first | (simp only [fa_lit, pk_mul, nI_add]; done) | (simp only [fa_lit, pk_mul, nI_add]; rfl) | rfl) ?_
          refine j_baldN X (o52 np) (k52 np) (by rw [l52]; omega) (by rw [l52]; decide) (m2 52) rfl dX9_advance_33 ?_
          refine j_nrm (sb (B r)) ((congrFun (hJ 52 (by decide)) r).trans (h8.2 r (by omega)).1) ?_
          refine j_bipush X dX9_advance_34 10 (by decide) ?_
          refine j_icmp_ne X 52 dX9_advance_36 (by decide) (fun c_36 => ?_) (fun c_36 => ?_)
          · have hrf : tF B z p = r := by
              rw [← hrun]
              refine tR_stop (fun y => ?_)
              rcases of_decide_eq_true y.2 with x | x
              · exact c_22 ((sb_e (x := 32) (h8.2 r hlt).2 (by omega)).mpr x)
              · exact c_36 ((sb_e (x := 10) (h8.2 r hlt).2 (by omega)).mpr x)
            refine j_aload_n X dX9_advance_52 rfl ?_
            refine j_aload_n X dX9_advance_53 rfl ?_
            refine j_getF X 9 5 (by decide) (by decide) rfl u140 (o51 np) (k51 np) (m2 51) rfl dX9_advance_54 ?_
            refine j_nrm (nI r) hc ?_
            refine j_putI X 9 6 (by decide) (by decide) rfl rfl rfl rfl u141 (o51 np) (k51 np) dX9_advance_57 ?_
            refine j_aload_n X dX9_advance_60 rfl ?_
            refine j_getF X 9 5 (by decide) (by decide) rfl u140 (o51 np) (k51 np) _ rfl dX9_advance_61 ?_
            refine j_nrm (nI r) ((jup_n (by decide)).trans hc) ?_
            refine j_aload_n X dX9_advance_64 rfl ?_
            refine j_getF X 9 1 (by decide) (by decide) rfl u134 (o51 np) (k51 np) _ rfl dX9_advance_65 ?_
            refine j_nrm (nI z) ((jup_n (by decide)).trans ((hS 1 (by decide)).trans hz)) ?_
            refine j_icmp_lt X 79 dX9_advance_68 (by decide) (fun c_68 => ?_) (fun c_68 => ?_)
            · have hlt2 : r < z := by clear hE hr hR X h8; (try simp only [lg_cmp_lt, lg_cmp_gt, lg_cmp_le, lg_cmp_ge] at *); (try simp (disch := omega) only [Int64.le_iff_toInt_le, Int64.lt_iff_toInt_lt, Int32.le_iff_toInt_le, Int32.lt_iff_toInt_lt, fa_eq, fa_lit, fa_litL, nI_toInt, pk_lT, Int32.toInt_toInt64, jadd64, jin, jnoneT] at *); omega
              have hin : ¬ z ≤ tF B z p := by rw [hrf]; omega
              have hb256 := (h8.2 r hlt2).2
              refine j_aload_n X dX9_advance_79 rfl ?_
              refine j_getR X 9 0 (by decide) (by decide) rfl u133 (o51 np) (k51 np) _ (p51_0 np) dX9_advance_80 ?_
              refine j_aload_n X dX9_advance_83 rfl ?_
              refine j_getF X 9 5 (by decide) (by decide) rfl u140 (o51 np) (k51 np) _ rfl dX9_advance_84 ?_
              refine j_nrm (nI r) ((jup_n (by decide)).trans hc) ?_
              refine j_nrm _ (by first | (simp only [fa_lit, pk_mul, nI_add]; done) | (simp only [fa_lit, pk_mul, nI_add]; rfl) | rfl) ?_
              refine j_baldN X (o52 np) (k52 np) (by rw [l52]; omega) (by rw [l52]; decide) (m2 52) rfl dX9_advance_87 ?_
              refine j_nrm (sb (B r)) ((congrFun (hJ 52 (by decide)) r).trans (h8.2 r (by omega)).1) ?_
              refine s_callSi X hR (c_isLetter np _ _) rfl u654 u652 u653 u7 hyX9_isLetter (by decide) (by decide) (Nat.le_of_ble_eq_true rfl) dX9_advance_88 (fun v_88 m_88 h_88 => ?_)
              obtain ⟨e1, e2⟩ := h_88; have e1 := e1.symm; have e2 := e2.symm; subst e1; subst e2
              refine j_ifb_eq X 101 dX9_advance_91 (by decide) (fun c_91 => ?_) (fun c_91 => ?_)
              · have hnl : ¬ tL (B (tF B z p)) = true := fun y => c_91 ((sb_in (a := 97) (c := 122) hb256 (by omega)).mpr (by rw [hrf] at y; exact of_decide_eq_true y))
                refine j_aload_n X dX9_advance_101 rfl ?_
                refine j_getR X 9 0 (by decide) (by decide) rfl u133 (o51 np) (k51 np) _ (p51_0 np) dX9_advance_102 ?_
                refine j_aload_n X dX9_advance_105 rfl ?_
                refine j_getF X 9 5 (by decide) (by decide) rfl u140 (o51 np) (k51 np) _ rfl dX9_advance_106 ?_
                refine j_nrm (nI r) ((jup_n (by decide)).trans hc) ?_
                refine j_nrm _ (by first | (simp only [fa_lit, pk_mul, nI_add]; done) | (simp only [fa_lit, pk_mul, nI_add]; rfl) | rfl) ?_
                refine j_baldN X (o52 np) (k52 np) (by rw [l52]; omega) (by rw [l52]; decide) (m2 52) rfl dX9_advance_109 ?_
                refine j_nrm (sb (B r)) ((congrFun (hJ 52 (by decide)) r).trans (h8.2 r (by omega)).1) ?_
                refine s_callSi X hR (c_isFigure np _ _) rfl u661 u659 u660 u7 hyX9_isFigure (by decide) (by decide) (Nat.le_of_ble_eq_true rfl) dX9_advance_110 (fun v_110 m_110 h_110 => ?_)
                obtain ⟨e1, e2⟩ := h_110; have e1 := e1.symm; have e2 := e2.symm; subst e1; subst e2
                refine j_ifb_eq X 123 dX9_advance_113 (by decide) (fun c_113 => ?_) (fun c_113 => ?_)
                · have hng : ¬ tG (B (tF B z p)) = true := fun y => c_113 ((sb_in (a := 48) (c := 57) hb256 (by omega)).mpr (by rw [hrf] at y; exact of_decide_eq_true y))
                  have hn1 : tN B z p = r + 1 := by unfold tN; rw [if_neg hin, if_neg hnl, if_neg hng, hrf]
                  refine j_aload_n X dX9_advance_123 rfl ?_
                  refine j_aload_n X dX9_advance_124 rfl ?_
                  refine j_getR X 9 0 (by decide) (by decide) rfl u133 (o51 np) (k51 np) _ (p51_0 np) dX9_advance_125 ?_
                  refine j_aload_n X dX9_advance_128 rfl ?_
                  refine j_getF X 9 5 (by decide) (by decide) rfl u140 (o51 np) (k51 np) _ rfl dX9_advance_129 ?_
                  refine j_nrm (nI r) ((jup_n (by decide)).trans hc) ?_
                  refine j_nrm _ (by first | (simp only [fa_lit, pk_mul, nI_add]; done) | (simp only [fa_lit, pk_mul, nI_add]; rfl) | rfl) ?_
                  refine j_baldN X (o52 np) (k52 np) (by rw [l52]; omega) (by rw [l52]; decide) (m2 52) rfl dX9_advance_132 ?_
                  refine j_nrm (sb (B r)) ((congrFun (hJ 52 (by decide)) r).trans (h8.2 r (by omega)).1) ?_
                  refine j_bipush X dX9_advance_133 59 (by decide) ?_
                  refine j_icmp_ne X 142 dX9_advance_135 (by decide) (fun c_135 => ?_) (fun c_135 => ?_)
                  · have hk1 : tK B z p = 0 := by unfold tK; rw [if_neg hin, if_neg hnl, if_neg hng, hrf, if_neg (fun y => c_135 ((sb_e (x := 59) hb256 (by omega)).mpr y))]
                    refine j_iconst X dX9_advance_142 4 (by decide) ?_
                    refine j_putI X 9 7 (by decide) (by decide) rfl rfl rfl rfl u142 (o51 np) (k51 np) dX9_advance_143 ?_
                    refine j_aload_n X dX9_advance_146 rfl ?_
                    refine j_dup X dX9_advance_147 rfl ?_
                    refine j_getF X 9 5 (by decide) (by decide) rfl u140 (o51 np) (k51 np) _ rfl dX9_advance_148 ?_
                    refine j_nrm (nI r) (by rw [jup_n (by decide), jup_n (by decide)]; exact hc) ?_
                    refine j_iconst X dX9_advance_151 1 (by decide) ?_
                    refine j_iadd X dX9_advance_152 ?_
                    refine j_nrm (nI (r + 1)) (nI_1 r) ?_
                    refine j_putI X 9 5 (by decide) (by decide) rfl rfl rfl rfl u140 (o51 np) (k51 np) dX9_advance_153 ?_
                    refine s_vret X hE hr dX9_advance_156 ?_
                    refine ⟨jeq.up (jeq.up (jeq.up hJ (by decide)) (by decide)) (by decide), jso.up (jso.up (jso.up hS (by decide)) (by decide)) (by decide), ?_, ?_, ?_, fun e => absurd e (by rw [hk1]; decide)⟩
                    · rw [jup_s, hn1]
                    · rw [jup_n (by decide), jup_n (by decide), jup_s, hrf]
                    · rw [jup_n (by decide), jup_s, hk1]; rfl
                  · have hk1 : tK B z p = 4 := by unfold tK; rw [if_neg hin, if_neg hnl, if_neg hng, hrf, if_pos ((sb_e hb256 (by omega)).mp (show sb (B r) = nI 59 from c_135))]
                    refine j_iconst X dX9_advance_138 3 (by decide) ?_
                    refine j_goto X 143 dX9_advance_139 (by decide) ?_
                    refine j_putI X 9 7 (by decide) (by decide) rfl rfl rfl rfl u142 (o51 np) (k51 np) dX9_advance_143 ?_
                    refine j_aload_n X dX9_advance_146 rfl ?_
                    refine j_dup X dX9_advance_147 rfl ?_
                    refine j_getF X 9 5 (by decide) (by decide) rfl u140 (o51 np) (k51 np) _ rfl dX9_advance_148 ?_
                    refine j_nrm (nI r) (by rw [jup_n (by decide), jup_n (by decide)]; exact hc) ?_
                    refine j_iconst X dX9_advance_151 1 (by decide) ?_
                    refine j_iadd X dX9_advance_152 ?_
                    refine j_nrm (nI (r + 1)) (nI_1 r) ?_
                    refine j_putI X 9 5 (by decide) (by decide) rfl rfl rfl rfl u140 (o51 np) (k51 np) dX9_advance_153 ?_
                    refine s_vret X hE hr dX9_advance_156 ?_
                    refine ⟨jeq.up (jeq.up (jeq.up hJ (by decide)) (by decide)) (by decide), jso.up (jso.up (jso.up hS (by decide)) (by decide)) (by decide), ?_, ?_, ?_, fun e => absurd e (by rw [hk1]; decide)⟩
                    · rw [jup_s, hn1]
                    · rw [jup_n (by decide), jup_n (by decide), jup_s, hrf]
                    · rw [jup_n (by decide), jup_s, hk1]; rfl
                · have hg : tG (B (tF B z p)) = true := by rw [hrf]; exact decide_eq_true ((sb_in (a := 48) (c := 57) hb256 (by omega)).mp c_113)
                  have hk1 : tK B z p = if 3 < tR tG B z r - r then 0 else 3 := by unfold tK; rw [if_neg hin, if_neg hnl, if_pos hg, hrf]
                  have hn1 : tN B z p = tR tG B z r := by unfold tN; rw [if_neg hin, if_neg hnl, if_pos hg, hrf]
                  refine j_aload_n X dX9_advance_116 rfl ?_
                  refine s_callVv X hR (c_readFigures np _ r z B ⟨h300, fun i hi => by rw [jup_o (by decide), hJ 52 (by decide)]; exact h8.2 i hi⟩ ((jup_n (by decide)).trans ((hS 1 (by decide)).trans hz)) hrz ((jup_n (by decide)).trans hc) jup_s) rfl 9 (by decide) (o51 np) (k51 np) rfl u665 u662 u664 qp13 u7 hyX9_readFigures (by decide) (by decide) (Nat.le_of_ble_eq_true rfl) dX9_advance_117 (fun m_117 h_117 => ?_)
                  refine j_goto X 156 dX9_advance_120 (by decide) ?_
                  refine s_vret X hE hr dX9_advance_156 ?_
                  obtain ⟨y1, y2, y3, y4, y5⟩ := h_117
                  refine ⟨(jeq.up hJ (by decide)).tr y1, (jso.up (k := 6) hS (by decide)).tr (y2.mo (by simp)), ?_, ?_, ?_, fun e => ?_⟩
                  · rw [y3, hn1]
                  · rw [y2 6 (by decide), jup_s, hrf]
                  · rw [y5]
                    by_cases e : tR tG B z r - r ≤ 3
                    · rw [if_pos e, hk1, if_neg (by omega)]
                    · rw [if_neg e, hk1, if_pos (by omega)]
                  · rw [y4, ← (tV_e e).1, hn1, hrf]
              · have hl : tL (B (tF B z p)) = true := by rw [hrf]; exact decide_eq_true ((sb_in (a := 97) (c := 122) hb256 (by omega)).mp c_91)
                have hk1 : tK B z p = 2 := by unfold tK; rw [if_neg hin, if_pos hl]
                have hn1 : tN B z p = tR tL B z r := by unfold tN; rw [if_neg hin, if_pos hl, hrf]
                refine j_aload_n X dX9_advance_94 rfl ?_
                refine s_callVv X hR (c_readName np _ r z B ⟨h300, fun i hi => by rw [jup_o (by decide), hJ 52 (by decide)]; exact h8.2 i hi⟩ ((jup_n (by decide)).trans ((hS 1 (by decide)).trans hz)) hrz ((jup_n (by decide)).trans hc)) rfl 9 (by decide) (o51 np) (k51 np) rfl u658 u655 u657 qp12 u7 hyX9_readName (by decide) (by decide) (Nat.le_of_ble_eq_true rfl) dX9_advance_95 (fun m_95 h_95 => ?_)
                refine j_goto X 156 dX9_advance_98 (by decide) ?_
                refine s_vret X hE hr dX9_advance_156 ?_
                obtain ⟨y1, y2, y3, y4⟩ := h_95
                refine ⟨(jeq.up hJ (by decide)).tr y1, (jso.up (k := 6) hS (by decide)).tr (y2.mo (by simp)), ?_, ?_, ?_, fun e => absurd e (by rw [hk1]; decide)⟩
                · rw [y3, hn1]
                · rw [y2 6 (by decide), jup_s, hrf]
                · rw [y4, hk1]; rfl
            · have hend : z ≤ tF B z p := by rw [hrf]; clear hE hr hR X h8; (try simp only [lg_cmp_lt, lg_cmp_gt, lg_cmp_le, lg_cmp_ge] at *); (try simp (disch := omega) only [Int64.le_iff_toInt_le, Int64.lt_iff_toInt_lt, Int32.le_iff_toInt_le, Int32.lt_iff_toInt_lt, fa_eq, fa_lit, fa_litL, nI_toInt, pk_lT, Int32.toInt_toInt64, jadd64, jin, jnoneT] at *); omega
              have hk1 : tK B z p = 1 := if_pos hend
              have hn1 : tN B z p = r := (if_pos hend).trans hrf
              refine j_aload_n X dX9_advance_71 rfl ?_
              refine j_iconst X dX9_advance_72 0 (by decide) ?_
              refine j_putI X 9 7 (by decide) (by decide) rfl rfl rfl rfl u142 (o51 np) (k51 np) dX9_advance_73 ?_
              refine j_goto X 156 dX9_advance_76 (by decide) ?_
              refine s_vret X hE hr dX9_advance_156 ?_
              refine ⟨jeq.up (jeq.up hJ (by decide)) (by decide), jso.up (jso.up hS (by decide)) (by decide), ?_, ?_, ?_, fun e => absurd e (by rw [hk1]; decide)⟩
              · rw [jup_n (by decide), jup_n (by decide), hc, hn1]
              · rw [jup_n (by decide), jup_s, hrf]
              · rw [jup_s, hk1]; rfl
          · have hrb : tB (B r) = true := decide_eq_true (Or.inr ((sb_e (h8.2 r hlt).2 (by omega)).mp (show sb (B r) = nI 10 from c_36)))
            refine j_aload_n X dX9_advance_39 rfl ?_
            refine j_dup X dX9_advance_40 rfl ?_
            refine j_getF X 9 5 (by decide) (by decide) rfl u140 (o51 np) (k51 np) (m2 51) rfl dX9_advance_41 ?_
            refine j_nrm (nI r) hc ?_
            refine j_iconst X dX9_advance_44 1 (by decide) ?_
            refine j_iadd X dX9_advance_45 ?_
            refine j_nrm (nI (r + 1)) (nI_1 r) ?_
            refine j_putI X 9 5 (by decide) (by decide) rfl rfl rfl rfl u140 (o51 np) (k51 np) dX9_advance_46 ?_
            refine j_goto X 0 dX9_advance_49 (by decide) ?_
            refine j_lv [some (.ref 51)] ⟨rfl, trivial⟩ ?_
            exact ih0 (r + 1) _ (by omega) (jeq.up hJ (by decide)) (jso.up hS (by decide)) jup_s (by omega) ((tR_go hlt hrb).symm.trans hrun)
  refine j_lv [some (.ref 51)] ⟨rfl, trivial⟩ ?_
  exact lp0 (z + 1) p mem (by omega) jeq.rf jso.rf hc0 hp rfl
set_option maxRecDepth 4000 in
set_option maxHeartbeats 1000000 in
theorem c_isWord0 (np : Nat) (mem : jMem) (p z : Nat) (B : Nat → Nat) (h : cTs B z p mem) (hnp : np ≤ 12) : jPi yX9_isWord cX9_isWord 3 .boolean 6 [.ref 51, .ref (jB + 0)] np mem (fun v c => v = jb (tWd B z p = 1685024626) ∧ c = mem) := by
  refine jPi.of (own := RX9) rfl rfl (Nat.le_of_ble_eq_true rfl) (fun G X hR hr hE => ?_)
  obtain ⟨h8, hz, hp, hT5, hT6, hT7, hT8⟩ := h
  have h300 := h8.1
  have hfn := tN_ge (B := B) (n := z) (p := p)
  have hnz := tN_le (B := B) hp
  have hkl := tK_lt B z p
  refine j_aload_n X dX9_isWord_0 rfl ?_
  refine j_getF X 9 7 (by decide) (by decide) rfl u142 (o51 np) (k51 np) (mem 51) rfl dX9_isWord_1 ?_
  refine j_nrm (nI ((tK B z p + 4) % 5)) hT7 ?_
  refine j_iconst X dX9_isWord_4 1 (by decide) ?_
  refine j_icmp_ne X 24 dX9_isWord_5 (by decide) (fun c_5 => ?_) (fun c_5 => ?_)
  · refine j_iconst X dX9_isWord_24 0 (by decide) ?_
    refine s_iret X hE hr dX9_isWord_25 (by first | exact jb_nar | rfl) ?_
    exact ⟨(jb_f (fun e => c_5 (by rw [((tw_0 hp).mp e).1]; decide))).symm, rfl⟩
  · have hk2 : tK B z p = 2 := by
      have e := (nI_eq (by omega) (by omega)).mp (show nI ((tK B z p + 4) % 5) = nI 1 from c_5)
      omega
    refine j_aload_n X dX9_isWord_8 rfl ?_
    refine j_getF X 9 5 (by decide) (by decide) rfl u140 (o51 np) (k51 np) (mem 51) rfl dX9_isWord_9 ?_
    refine j_nrm (nI (tN B z p)) hT5 ?_
    refine j_aload_n X dX9_isWord_12 rfl ?_
    refine j_getF X 9 6 (by decide) (by decide) rfl u141 (o51 np) (k51 np) (mem 51) rfl dX9_isWord_13 ?_
    refine j_nrm (nI (tF B z p)) hT6 ?_
    refine j_isub X dX9_isWord_16 ?_
    refine j_nrm (nI (tN B z p - tF B z p)) (pk_sub hfn) ?_
    refine j_aload_n X dX9_isWord_17 rfl ?_
    refine s_callTi (i := 0) (by omega) X hR (t_length np _ 0 (by omega)) rfl rfl u674 u671 u672 u673 u16 hyJ0_length_8abf5 (by decide) (by decide) (Nat.le_of_ble_eq_true rfl) dX9_isWord_18 (fun v_18 m_18 h_18 => ?_)
    obtain ⟨e1, e2⟩ := h_18; have e1 := e1.symm; have e2 := e2.symm; subst e1; subst e2
    refine j_nrm 4 (by decide) ?_
    refine j_icmp_eq X 26 dX9_isWord_21 (by decide) (fun c_21 => ?_) (fun c_21 => ?_)
    · have hlen : tN B z p - tF B z p = 4 := (nI_eq (by omega) (by omega)).mp (show nI (tN B z p - tF B z p) = nI 4 from c_21)
      refine j_iconst X dX9_isWord_26 0 (by decide) ?_
      refine j_istore_n X dX9_isWord_27 (by decide) ?_
      refine j_iload_n X dX9_isWord_28 rfl ?_
      refine j_aload_n X dX9_isWord_29 rfl ?_
      refine s_callTi (i := 0) (by omega) X hR (t_length np _ 0 (by omega)) rfl rfl u674 u671 u672 u673 u16 hyJ0_length_8abf5 (by decide) (by decide) (Nat.le_of_ble_eq_true rfl) dX9_isWord_30 (fun v_30 m_30 h_30 => ?_)
      obtain ⟨e1, e2⟩ := h_30; have e1 := e1.symm; have e2 := e2.symm; subst e1; subst e2
      refine j_nrm 4 (by decide) ?_
      refine j_icmp_ge X 63 dX9_isWord_33 (by decide) (fun c_33 => absurd c_33 (by decide)) (fun c_33 => ?_)
      refine j_aload_n X dX9_isWord_36 rfl ?_
      refine j_getR X 9 0 (by decide) (by decide) rfl u133 (o51 np) (k51 np) _ (p51_0 np) dX9_isWord_37 ?_
      refine j_aload_n X dX9_isWord_40 rfl ?_
      refine j_getF X 9 6 (by decide) (by decide) rfl u141 (o51 np) (k51 np) (mem 51) rfl dX9_isWord_41 ?_
      refine j_nrm (nI (tF B z p)) hT6 ?_
      refine j_iload_n X dX9_isWord_44 rfl ?_
      refine j_iadd X dX9_isWord_45 ?_
      refine j_nrm (nI (tF B z p + 0)) (by rw [show (0 : Int32) = nI 0 from by decide, nI_add]) ?_
      refine j_baldN X (o52 np) (k52 np) (by rw [l52]; omega) (by rw [l52]; decide) (mem 52) rfl dX9_isWord_46 ?_
      refine j_nrm (sb (B (tF B z p + 0))) (h8.2 _ (by omega)).1 ?_
      refine j_aload_n X dX9_isWord_47 rfl ?_
      refine j_iload_n X dX9_isWord_48 rfl ?_
      refine j_nrm (nI 0) (by decide) ?_
      refine s_callTi (i := 0) (by omega) X hR (t_charAt np _ 0 0 (by omega) (by decide) (by decide) hnp) rfl rfl u684 u681 u682 u683 u16 hyJ0_charAt_5068e (by decide) (by decide) (Nat.le_of_ble_eq_true rfl) dX9_isWord_49 (fun v_49 m_49 h_49 => ?_)
      obtain ⟨e1, e2⟩ := h_49; have e1 := e1.symm; have e2 := e2.symm; subst e1; subst e2
      refine j_nrm (nI 100) (by decide) ?_
      refine j_icmp_eq X 57 dX9_isWord_52 (by decide) (fun c_52 => ?_) (fun c_52 => ?_)
      · have hq0 : B (tF B z p + 0) = 100 := (sb_e (h8.2 _ (by omega)).2 (by omega)).mp c_52
        refine j_iinc X dX9_isWord_57 rfl 1 rfl ?_
        refine j_goto X 28 dX9_isWord_60 (by decide) ?_
        refine j_iload_n X dX9_isWord_28 rfl ?_
        refine j_aload_n X dX9_isWord_29 rfl ?_
        refine s_callTi (i := 0) (by omega) X hR (t_length np _ 0 (by omega)) rfl rfl u674 u671 u672 u673 u16 hyJ0_length_8abf5 (by decide) (by decide) (Nat.le_of_ble_eq_true rfl) dX9_isWord_30 (fun v_30 m_30 h_30 => ?_)
        obtain ⟨e1, e2⟩ := h_30; have e1 := e1.symm; have e2 := e2.symm; subst e1; subst e2
        refine j_nrm 4 (by decide) ?_
        refine j_icmp_ge X 63 dX9_isWord_33 (by decide) (fun c_33 => absurd c_33 (by decide)) (fun c_33 => ?_)
        refine j_aload_n X dX9_isWord_36 rfl ?_
        refine j_getR X 9 0 (by decide) (by decide) rfl u133 (o51 np) (k51 np) _ (p51_0 np) dX9_isWord_37 ?_
        refine j_aload_n X dX9_isWord_40 rfl ?_
        refine j_getF X 9 6 (by decide) (by decide) rfl u141 (o51 np) (k51 np) (mem 51) rfl dX9_isWord_41 ?_
        refine j_nrm (nI (tF B z p)) hT6 ?_
        refine j_iload_n X dX9_isWord_44 rfl ?_
        refine j_iadd X dX9_isWord_45 ?_
        refine j_nrm (nI (tF B z p + 1)) (by rw [show (0 + 1 : Int32) = nI 1 from by decide, nI_add]) ?_
        refine j_baldN X (o52 np) (k52 np) (by rw [l52]; omega) (by rw [l52]; decide) (mem 52) rfl dX9_isWord_46 ?_
        refine j_nrm (sb (B (tF B z p + 1))) (h8.2 _ (by omega)).1 ?_
        refine j_aload_n X dX9_isWord_47 rfl ?_
        refine j_iload_n X dX9_isWord_48 rfl ?_
        refine j_nrm (nI 1) (by decide) ?_
        refine s_callTi (i := 0) (by omega) X hR (t_charAt np _ 0 1 (by omega) (by decide) (by decide) hnp) rfl rfl u684 u681 u682 u683 u16 hyJ0_charAt_5068e (by decide) (by decide) (Nat.le_of_ble_eq_true rfl) dX9_isWord_49 (fun v_49 m_49 h_49 => ?_)
        obtain ⟨e1, e2⟩ := h_49; have e1 := e1.symm; have e2 := e2.symm; subst e1; subst e2
        refine j_nrm (nI 111) (by decide) ?_
        refine j_icmp_eq X 57 dX9_isWord_52 (by decide) (fun c_52 => ?_) (fun c_52 => ?_)
        · have hq1 : B (tF B z p + 1) = 111 := (sb_e (h8.2 _ (by omega)).2 (by omega)).mp c_52
          refine j_iinc X dX9_isWord_57 rfl 1 rfl ?_
          refine j_goto X 28 dX9_isWord_60 (by decide) ?_
          refine j_iload_n X dX9_isWord_28 rfl ?_
          refine j_aload_n X dX9_isWord_29 rfl ?_
          refine s_callTi (i := 0) (by omega) X hR (t_length np _ 0 (by omega)) rfl rfl u674 u671 u672 u673 u16 hyJ0_length_8abf5 (by decide) (by decide) (Nat.le_of_ble_eq_true rfl) dX9_isWord_30 (fun v_30 m_30 h_30 => ?_)
          obtain ⟨e1, e2⟩ := h_30; have e1 := e1.symm; have e2 := e2.symm; subst e1; subst e2
          refine j_nrm 4 (by decide) ?_
          refine j_icmp_ge X 63 dX9_isWord_33 (by decide) (fun c_33 => absurd c_33 (by decide)) (fun c_33 => ?_)
          refine j_aload_n X dX9_isWord_36 rfl ?_
          refine j_getR X 9 0 (by decide) (by decide) rfl u133 (o51 np) (k51 np) _ (p51_0 np) dX9_isWord_37 ?_
          refine j_aload_n X dX9_isWord_40 rfl ?_
          refine j_getF X 9 6 (by decide) (by decide) rfl u141 (o51 np) (k51 np) (mem 51) rfl dX9_isWord_41 ?_
          refine j_nrm (nI (tF B z p)) hT6 ?_
          refine j_iload_n X dX9_isWord_44 rfl ?_
          refine j_iadd X dX9_isWord_45 ?_
          refine j_nrm (nI (tF B z p + 2)) (by rw [show (0 + 1 + 1 : Int32) = nI 2 from by decide, nI_add]) ?_
          refine j_baldN X (o52 np) (k52 np) (by rw [l52]; omega) (by rw [l52]; decide) (mem 52) rfl dX9_isWord_46 ?_
          refine j_nrm (sb (B (tF B z p + 2))) (h8.2 _ (by omega)).1 ?_
          refine j_aload_n X dX9_isWord_47 rfl ?_
          refine j_iload_n X dX9_isWord_48 rfl ?_
          refine j_nrm (nI 2) (by decide) ?_
          refine s_callTi (i := 0) (by omega) X hR (t_charAt np _ 0 2 (by omega) (by decide) (by decide) hnp) rfl rfl u684 u681 u682 u683 u16 hyJ0_charAt_5068e (by decide) (by decide) (Nat.le_of_ble_eq_true rfl) dX9_isWord_49 (fun v_49 m_49 h_49 => ?_)
          obtain ⟨e1, e2⟩ := h_49; have e1 := e1.symm; have e2 := e2.symm; subst e1; subst e2
          refine j_nrm (nI 111) (by decide) ?_
          refine j_icmp_eq X 57 dX9_isWord_52 (by decide) (fun c_52 => ?_) (fun c_52 => ?_)
          · have hq2 : B (tF B z p + 2) = 111 := (sb_e (h8.2 _ (by omega)).2 (by omega)).mp c_52
            refine j_iinc X dX9_isWord_57 rfl 1 rfl ?_
            refine j_goto X 28 dX9_isWord_60 (by decide) ?_
            refine j_iload_n X dX9_isWord_28 rfl ?_
            refine j_aload_n X dX9_isWord_29 rfl ?_
            refine s_callTi (i := 0) (by omega) X hR (t_length np _ 0 (by omega)) rfl rfl u674 u671 u672 u673 u16 hyJ0_length_8abf5 (by decide) (by decide) (Nat.le_of_ble_eq_true rfl) dX9_isWord_30 (fun v_30 m_30 h_30 => ?_)
            obtain ⟨e1, e2⟩ := h_30; have e1 := e1.symm; have e2 := e2.symm; subst e1; subst e2
            refine j_nrm 4 (by decide) ?_
            refine j_icmp_ge X 63 dX9_isWord_33 (by decide) (fun c_33 => absurd c_33 (by decide)) (fun c_33 => ?_)
            refine j_aload_n X dX9_isWord_36 rfl ?_
            refine j_getR X 9 0 (by decide) (by decide) rfl u133 (o51 np) (k51 np) _ (p51_0 np) dX9_isWord_37 ?_
            refine j_aload_n X dX9_isWord_40 rfl ?_
            refine j_getF X 9 6 (by decide) (by decide) rfl u141 (o51 np) (k51 np) (mem 51) rfl dX9_isWord_41 ?_
            refine j_nrm (nI (tF B z p)) hT6 ?_
            refine j_iload_n X dX9_isWord_44 rfl ?_
            refine j_iadd X dX9_isWord_45 ?_
            refine j_nrm (nI (tF B z p + 3)) (by rw [show (0 + 1 + 1 + 1 : Int32) = nI 3 from by decide, nI_add]) ?_
            refine j_baldN X (o52 np) (k52 np) (by rw [l52]; omega) (by rw [l52]; decide) (mem 52) rfl dX9_isWord_46 ?_
            refine j_nrm (sb (B (tF B z p + 3))) (h8.2 _ (by omega)).1 ?_
            refine j_aload_n X dX9_isWord_47 rfl ?_
            refine j_iload_n X dX9_isWord_48 rfl ?_
            refine j_nrm (nI 3) (by decide) ?_
            refine s_callTi (i := 0) (by omega) X hR (t_charAt np _ 0 3 (by omega) (by decide) (by decide) hnp) rfl rfl u684 u681 u682 u683 u16 hyJ0_charAt_5068e (by decide) (by decide) (Nat.le_of_ble_eq_true rfl) dX9_isWord_49 (fun v_49 m_49 h_49 => ?_)
            obtain ⟨e1, e2⟩ := h_49; have e1 := e1.symm; have e2 := e2.symm; subst e1; subst e2
            refine j_nrm (nI 114) (by decide) ?_
            refine j_icmp_eq X 57 dX9_isWord_52 (by decide) (fun c_52 => ?_) (fun c_52 => ?_)
            · have hq3 : B (tF B z p + 3) = 114 := (sb_e (h8.2 _ (by omega)).2 (by omega)).mp c_52
              refine j_iinc X dX9_isWord_57 rfl 1 rfl ?_
              refine j_goto X 28 dX9_isWord_60 (by decide) ?_
              refine j_iload_n X dX9_isWord_28 rfl ?_
              refine j_aload_n X dX9_isWord_29 rfl ?_
              refine s_callTi (i := 0) (by omega) X hR (t_length np _ 0 (by omega)) rfl rfl u674 u671 u672 u673 u16 hyJ0_length_8abf5 (by decide) (by decide) (Nat.le_of_ble_eq_true rfl) dX9_isWord_30 (fun v_30 m_30 h_30 => ?_)
              obtain ⟨e1, e2⟩ := h_30; have e1 := e1.symm; have e2 := e2.symm; subst e1; subst e2
              refine j_nrm 4 (by decide) ?_
              refine j_icmp_ge X 63 dX9_isWord_33 (by decide) (fun c_33 => ?_) (fun c_33 => absurd c_33 (by decide))
              refine j_iconst X dX9_isWord_63 1 (by decide) ?_
              refine s_iret X hE hr dX9_isWord_64 (by first | exact jb_nar | rfl) ?_
              exact ⟨(jb_t ((tw_0 hp).mpr ⟨hk2, hlen, hq0, hq1, hq2, hq3⟩)).symm, rfl⟩
            · refine j_iconst X dX9_isWord_55 0 (by decide) ?_
              refine s_iret X hE hr dX9_isWord_56 (by first | exact jb_nar | rfl) ?_
              exact ⟨(jb_f (fun e => c_52 (by rw [((tw_0 hp).mp e).2.2.2.2.2]; decide))).symm, rfl⟩
          · refine j_iconst X dX9_isWord_55 0 (by decide) ?_
            refine s_iret X hE hr dX9_isWord_56 (by first | exact jb_nar | rfl) ?_
            exact ⟨(jb_f (fun e => c_52 (by rw [((tw_0 hp).mp e).2.2.2.2.1]; decide))).symm, rfl⟩
        · refine j_iconst X dX9_isWord_55 0 (by decide) ?_
          refine s_iret X hE hr dX9_isWord_56 (by first | exact jb_nar | rfl) ?_
          exact ⟨(jb_f (fun e => c_52 (by rw [((tw_0 hp).mp e).2.2.2.1]; decide))).symm, rfl⟩
      · refine j_iconst X dX9_isWord_55 0 (by decide) ?_
        refine s_iret X hE hr dX9_isWord_56 (by first | exact jb_nar | rfl) ?_
        exact ⟨(jb_f (fun e => c_52 (by rw [((tw_0 hp).mp e).2.2.1]; decide))).symm, rfl⟩
    · refine j_iconst X dX9_isWord_24 0 (by decide) ?_
      refine s_iret X hE hr dX9_isWord_25 (by first | exact jb_nar | rfl) ?_
      exact ⟨(jb_f (fun e => c_21 (by rw [((tw_0 hp).mp e).2.1]; decide))).symm, rfl⟩
set_option maxRecDepth 4000 in
set_option maxHeartbeats 1000000 in
theorem c_isWord1 (np : Nat) (mem : jMem) (p z : Nat) (B : Nat → Nat) (h : cTs B z p mem) (hnp : np ≤ 12) : jPi yX9_isWord cX9_isWord 3 .boolean 6 [.ref 51, .ref (jB + 1)] np mem (fun v c => v = jb (tWd B z p = 491394656372) ∧ c = mem) := by
  refine jPi.of (own := RX9) rfl rfl (Nat.le_of_ble_eq_true rfl) (fun G X hR hr hE => ?_)
  obtain ⟨h8, hz, hp, hT5, hT6, hT7, hT8⟩ := h
  have h300 := h8.1
  have hfn := tN_ge (B := B) (n := z) (p := p)
  have hnz := tN_le (B := B) hp
  have hkl := tK_lt B z p
  refine j_aload_n X dX9_isWord_0 rfl ?_
  refine j_getF X 9 7 (by decide) (by decide) rfl u142 (o51 np) (k51 np) (mem 51) rfl dX9_isWord_1 ?_
  refine j_nrm (nI ((tK B z p + 4) % 5)) hT7 ?_
  refine j_iconst X dX9_isWord_4 1 (by decide) ?_
  refine j_icmp_ne X 24 dX9_isWord_5 (by decide) (fun c_5 => ?_) (fun c_5 => ?_)
  · refine j_iconst X dX9_isWord_24 0 (by decide) ?_
    refine s_iret X hE hr dX9_isWord_25 (by first | exact jb_nar | rfl) ?_
    exact ⟨(jb_f (fun e => c_5 (by rw [((tw_1 hp).mp e).1]; decide))).symm, rfl⟩
  · have hk2 : tK B z p = 2 := by
      have e := (nI_eq (by omega) (by omega)).mp (show nI ((tK B z p + 4) % 5) = nI 1 from c_5)
      omega
    refine j_aload_n X dX9_isWord_8 rfl ?_
    refine j_getF X 9 5 (by decide) (by decide) rfl u140 (o51 np) (k51 np) (mem 51) rfl dX9_isWord_9 ?_
    refine j_nrm (nI (tN B z p)) hT5 ?_
    refine j_aload_n X dX9_isWord_12 rfl ?_
    refine j_getF X 9 6 (by decide) (by decide) rfl u141 (o51 np) (k51 np) (mem 51) rfl dX9_isWord_13 ?_
    refine j_nrm (nI (tF B z p)) hT6 ?_
    refine j_isub X dX9_isWord_16 ?_
    refine j_nrm (nI (tN B z p - tF B z p)) (pk_sub hfn) ?_
    refine j_aload_n X dX9_isWord_17 rfl ?_
    refine s_callTi (i := 1) (by omega) X hR (t_length np _ 1 (by omega)) rfl rfl u674 u671 u672 u673 u16 hyJ0_length_8abf5 (by decide) (by decide) (Nat.le_of_ble_eq_true rfl) dX9_isWord_18 (fun v_18 m_18 h_18 => ?_)
    obtain ⟨e1, e2⟩ := h_18; have e1 := e1.symm; have e2 := e2.symm; subst e1; subst e2
    refine j_nrm 5 (by decide) ?_
    refine j_icmp_eq X 26 dX9_isWord_21 (by decide) (fun c_21 => ?_) (fun c_21 => ?_)
    · have hlen : tN B z p - tF B z p = 5 := (nI_eq (by omega) (by omega)).mp (show nI (tN B z p - tF B z p) = nI 5 from c_21)
      refine j_iconst X dX9_isWord_26 0 (by decide) ?_
      refine j_istore_n X dX9_isWord_27 (by decide) ?_
      refine j_iload_n X dX9_isWord_28 rfl ?_
      refine j_aload_n X dX9_isWord_29 rfl ?_
      refine s_callTi (i := 1) (by omega) X hR (t_length np _ 1 (by omega)) rfl rfl u674 u671 u672 u673 u16 hyJ0_length_8abf5 (by decide) (by decide) (Nat.le_of_ble_eq_true rfl) dX9_isWord_30 (fun v_30 m_30 h_30 => ?_)
      obtain ⟨e1, e2⟩ := h_30; have e1 := e1.symm; have e2 := e2.symm; subst e1; subst e2
      refine j_nrm 5 (by decide) ?_
      refine j_icmp_ge X 63 dX9_isWord_33 (by decide) (fun c_33 => absurd c_33 (by decide)) (fun c_33 => ?_)
      refine j_aload_n X dX9_isWord_36 rfl ?_
      refine j_getR X 9 0 (by decide) (by decide) rfl u133 (o51 np) (k51 np) _ (p51_0 np) dX9_isWord_37 ?_
      refine j_aload_n X dX9_isWord_40 rfl ?_
      refine j_getF X 9 6 (by decide) (by decide) rfl u141 (o51 np) (k51 np) (mem 51) rfl dX9_isWord_41 ?_
      refine j_nrm (nI (tF B z p)) hT6 ?_
      refine j_iload_n X dX9_isWord_44 rfl ?_
      refine j_iadd X dX9_isWord_45 ?_
      refine j_nrm (nI (tF B z p + 0)) (by rw [show (0 : Int32) = nI 0 from by decide, nI_add]) ?_
      refine j_baldN X (o52 np) (k52 np) (by rw [l52]; omega) (by rw [l52]; decide) (mem 52) rfl dX9_isWord_46 ?_
      refine j_nrm (sb (B (tF B z p + 0))) (h8.2 _ (by omega)).1 ?_
      refine j_aload_n X dX9_isWord_47 rfl ?_
      refine j_iload_n X dX9_isWord_48 rfl ?_
      refine j_nrm (nI 0) (by decide) ?_
      refine s_callTi (i := 1) (by omega) X hR (t_charAt np _ 1 0 (by omega) (by decide) (by decide) hnp) rfl rfl u684 u681 u682 u683 u16 hyJ0_charAt_5068e (by decide) (by decide) (Nat.le_of_ble_eq_true rfl) dX9_isWord_49 (fun v_49 m_49 h_49 => ?_)
      obtain ⟨e1, e2⟩ := h_49; have e1 := e1.symm; have e2 := e2.symm; subst e1; subst e2
      refine j_nrm (nI 114) (by decide) ?_
      refine j_icmp_eq X 57 dX9_isWord_52 (by decide) (fun c_52 => ?_) (fun c_52 => ?_)
      · have hq0 : B (tF B z p + 0) = 114 := (sb_e (h8.2 _ (by omega)).2 (by omega)).mp c_52
        refine j_iinc X dX9_isWord_57 rfl 1 rfl ?_
        refine j_goto X 28 dX9_isWord_60 (by decide) ?_
        refine j_iload_n X dX9_isWord_28 rfl ?_
        refine j_aload_n X dX9_isWord_29 rfl ?_
        refine s_callTi (i := 1) (by omega) X hR (t_length np _ 1 (by omega)) rfl rfl u674 u671 u672 u673 u16 hyJ0_length_8abf5 (by decide) (by decide) (Nat.le_of_ble_eq_true rfl) dX9_isWord_30 (fun v_30 m_30 h_30 => ?_)
        obtain ⟨e1, e2⟩ := h_30; have e1 := e1.symm; have e2 := e2.symm; subst e1; subst e2
        refine j_nrm 5 (by decide) ?_
        refine j_icmp_ge X 63 dX9_isWord_33 (by decide) (fun c_33 => absurd c_33 (by decide)) (fun c_33 => ?_)
        refine j_aload_n X dX9_isWord_36 rfl ?_
        refine j_getR X 9 0 (by decide) (by decide) rfl u133 (o51 np) (k51 np) _ (p51_0 np) dX9_isWord_37 ?_
        refine j_aload_n X dX9_isWord_40 rfl ?_
        refine j_getF X 9 6 (by decide) (by decide) rfl u141 (o51 np) (k51 np) (mem 51) rfl dX9_isWord_41 ?_
        refine j_nrm (nI (tF B z p)) hT6 ?_
        refine j_iload_n X dX9_isWord_44 rfl ?_
        refine j_iadd X dX9_isWord_45 ?_
        refine j_nrm (nI (tF B z p + 1)) (by rw [show (0 + 1 : Int32) = nI 1 from by decide, nI_add]) ?_
        refine j_baldN X (o52 np) (k52 np) (by rw [l52]; omega) (by rw [l52]; decide) (mem 52) rfl dX9_isWord_46 ?_
        refine j_nrm (sb (B (tF B z p + 1))) (h8.2 _ (by omega)).1 ?_
        refine j_aload_n X dX9_isWord_47 rfl ?_
        refine j_iload_n X dX9_isWord_48 rfl ?_
        refine j_nrm (nI 1) (by decide) ?_
        refine s_callTi (i := 1) (by omega) X hR (t_charAt np _ 1 1 (by omega) (by decide) (by decide) hnp) rfl rfl u684 u681 u682 u683 u16 hyJ0_charAt_5068e (by decide) (by decide) (Nat.le_of_ble_eq_true rfl) dX9_isWord_49 (fun v_49 m_49 h_49 => ?_)
        obtain ⟨e1, e2⟩ := h_49; have e1 := e1.symm; have e2 := e2.symm; subst e1; subst e2
        refine j_nrm (nI 105) (by decide) ?_
        refine j_icmp_eq X 57 dX9_isWord_52 (by decide) (fun c_52 => ?_) (fun c_52 => ?_)
        · have hq1 : B (tF B z p + 1) = 105 := (sb_e (h8.2 _ (by omega)).2 (by omega)).mp c_52
          refine j_iinc X dX9_isWord_57 rfl 1 rfl ?_
          refine j_goto X 28 dX9_isWord_60 (by decide) ?_
          refine j_iload_n X dX9_isWord_28 rfl ?_
          refine j_aload_n X dX9_isWord_29 rfl ?_
          refine s_callTi (i := 1) (by omega) X hR (t_length np _ 1 (by omega)) rfl rfl u674 u671 u672 u673 u16 hyJ0_length_8abf5 (by decide) (by decide) (Nat.le_of_ble_eq_true rfl) dX9_isWord_30 (fun v_30 m_30 h_30 => ?_)
          obtain ⟨e1, e2⟩ := h_30; have e1 := e1.symm; have e2 := e2.symm; subst e1; subst e2
          refine j_nrm 5 (by decide) ?_
          refine j_icmp_ge X 63 dX9_isWord_33 (by decide) (fun c_33 => absurd c_33 (by decide)) (fun c_33 => ?_)
          refine j_aload_n X dX9_isWord_36 rfl ?_
          refine j_getR X 9 0 (by decide) (by decide) rfl u133 (o51 np) (k51 np) _ (p51_0 np) dX9_isWord_37 ?_
          refine j_aload_n X dX9_isWord_40 rfl ?_
          refine j_getF X 9 6 (by decide) (by decide) rfl u141 (o51 np) (k51 np) (mem 51) rfl dX9_isWord_41 ?_
          refine j_nrm (nI (tF B z p)) hT6 ?_
          refine j_iload_n X dX9_isWord_44 rfl ?_
          refine j_iadd X dX9_isWord_45 ?_
          refine j_nrm (nI (tF B z p + 2)) (by rw [show (0 + 1 + 1 : Int32) = nI 2 from by decide, nI_add]) ?_
          refine j_baldN X (o52 np) (k52 np) (by rw [l52]; omega) (by rw [l52]; decide) (mem 52) rfl dX9_isWord_46 ?_
          refine j_nrm (sb (B (tF B z p + 2))) (h8.2 _ (by omega)).1 ?_
          refine j_aload_n X dX9_isWord_47 rfl ?_
          refine j_iload_n X dX9_isWord_48 rfl ?_
          refine j_nrm (nI 2) (by decide) ?_
          refine s_callTi (i := 1) (by omega) X hR (t_charAt np _ 1 2 (by omega) (by decide) (by decide) hnp) rfl rfl u684 u681 u682 u683 u16 hyJ0_charAt_5068e (by decide) (by decide) (Nat.le_of_ble_eq_true rfl) dX9_isWord_49 (fun v_49 m_49 h_49 => ?_)
          obtain ⟨e1, e2⟩ := h_49; have e1 := e1.symm; have e2 := e2.symm; subst e1; subst e2
          refine j_nrm (nI 103) (by decide) ?_
          refine j_icmp_eq X 57 dX9_isWord_52 (by decide) (fun c_52 => ?_) (fun c_52 => ?_)
          · have hq2 : B (tF B z p + 2) = 103 := (sb_e (h8.2 _ (by omega)).2 (by omega)).mp c_52
            refine j_iinc X dX9_isWord_57 rfl 1 rfl ?_
            refine j_goto X 28 dX9_isWord_60 (by decide) ?_
            refine j_iload_n X dX9_isWord_28 rfl ?_
            refine j_aload_n X dX9_isWord_29 rfl ?_
            refine s_callTi (i := 1) (by omega) X hR (t_length np _ 1 (by omega)) rfl rfl u674 u671 u672 u673 u16 hyJ0_length_8abf5 (by decide) (by decide) (Nat.le_of_ble_eq_true rfl) dX9_isWord_30 (fun v_30 m_30 h_30 => ?_)
            obtain ⟨e1, e2⟩ := h_30; have e1 := e1.symm; have e2 := e2.symm; subst e1; subst e2
            refine j_nrm 5 (by decide) ?_
            refine j_icmp_ge X 63 dX9_isWord_33 (by decide) (fun c_33 => absurd c_33 (by decide)) (fun c_33 => ?_)
            refine j_aload_n X dX9_isWord_36 rfl ?_
            refine j_getR X 9 0 (by decide) (by decide) rfl u133 (o51 np) (k51 np) _ (p51_0 np) dX9_isWord_37 ?_
            refine j_aload_n X dX9_isWord_40 rfl ?_
            refine j_getF X 9 6 (by decide) (by decide) rfl u141 (o51 np) (k51 np) (mem 51) rfl dX9_isWord_41 ?_
            refine j_nrm (nI (tF B z p)) hT6 ?_
            refine j_iload_n X dX9_isWord_44 rfl ?_
            refine j_iadd X dX9_isWord_45 ?_
            refine j_nrm (nI (tF B z p + 3)) (by rw [show (0 + 1 + 1 + 1 : Int32) = nI 3 from by decide, nI_add]) ?_
            refine j_baldN X (o52 np) (k52 np) (by rw [l52]; omega) (by rw [l52]; decide) (mem 52) rfl dX9_isWord_46 ?_
            refine j_nrm (sb (B (tF B z p + 3))) (h8.2 _ (by omega)).1 ?_
            refine j_aload_n X dX9_isWord_47 rfl ?_
            refine j_iload_n X dX9_isWord_48 rfl ?_
            refine j_nrm (nI 3) (by decide) ?_
            refine s_callTi (i := 1) (by omega) X hR (t_charAt np _ 1 3 (by omega) (by decide) (by decide) hnp) rfl rfl u684 u681 u682 u683 u16 hyJ0_charAt_5068e (by decide) (by decide) (Nat.le_of_ble_eq_true rfl) dX9_isWord_49 (fun v_49 m_49 h_49 => ?_)
            obtain ⟨e1, e2⟩ := h_49; have e1 := e1.symm; have e2 := e2.symm; subst e1; subst e2
            refine j_nrm (nI 104) (by decide) ?_
            refine j_icmp_eq X 57 dX9_isWord_52 (by decide) (fun c_52 => ?_) (fun c_52 => ?_)
            · have hq3 : B (tF B z p + 3) = 104 := (sb_e (h8.2 _ (by omega)).2 (by omega)).mp c_52
              refine j_iinc X dX9_isWord_57 rfl 1 rfl ?_
              refine j_goto X 28 dX9_isWord_60 (by decide) ?_
              refine j_iload_n X dX9_isWord_28 rfl ?_
              refine j_aload_n X dX9_isWord_29 rfl ?_
              refine s_callTi (i := 1) (by omega) X hR (t_length np _ 1 (by omega)) rfl rfl u674 u671 u672 u673 u16 hyJ0_length_8abf5 (by decide) (by decide) (Nat.le_of_ble_eq_true rfl) dX9_isWord_30 (fun v_30 m_30 h_30 => ?_)
              obtain ⟨e1, e2⟩ := h_30; have e1 := e1.symm; have e2 := e2.symm; subst e1; subst e2
              refine j_nrm 5 (by decide) ?_
              refine j_icmp_ge X 63 dX9_isWord_33 (by decide) (fun c_33 => absurd c_33 (by decide)) (fun c_33 => ?_)
              refine j_aload_n X dX9_isWord_36 rfl ?_
              refine j_getR X 9 0 (by decide) (by decide) rfl u133 (o51 np) (k51 np) _ (p51_0 np) dX9_isWord_37 ?_
              refine j_aload_n X dX9_isWord_40 rfl ?_
              refine j_getF X 9 6 (by decide) (by decide) rfl u141 (o51 np) (k51 np) (mem 51) rfl dX9_isWord_41 ?_
              refine j_nrm (nI (tF B z p)) hT6 ?_
              refine j_iload_n X dX9_isWord_44 rfl ?_
              refine j_iadd X dX9_isWord_45 ?_
              refine j_nrm (nI (tF B z p + 4)) (by rw [show (0 + 1 + 1 + 1 + 1 : Int32) = nI 4 from by decide, nI_add]) ?_
              refine j_baldN X (o52 np) (k52 np) (by rw [l52]; omega) (by rw [l52]; decide) (mem 52) rfl dX9_isWord_46 ?_
              refine j_nrm (sb (B (tF B z p + 4))) (h8.2 _ (by omega)).1 ?_
              refine j_aload_n X dX9_isWord_47 rfl ?_
              refine j_iload_n X dX9_isWord_48 rfl ?_
              refine j_nrm (nI 4) (by decide) ?_
              refine s_callTi (i := 1) (by omega) X hR (t_charAt np _ 1 4 (by omega) (by decide) (by decide) hnp) rfl rfl u684 u681 u682 u683 u16 hyJ0_charAt_5068e (by decide) (by decide) (Nat.le_of_ble_eq_true rfl) dX9_isWord_49 (fun v_49 m_49 h_49 => ?_)
              obtain ⟨e1, e2⟩ := h_49; have e1 := e1.symm; have e2 := e2.symm; subst e1; subst e2
              refine j_nrm (nI 116) (by decide) ?_
              refine j_icmp_eq X 57 dX9_isWord_52 (by decide) (fun c_52 => ?_) (fun c_52 => ?_)
              · have hq4 : B (tF B z p + 4) = 116 := (sb_e (h8.2 _ (by omega)).2 (by omega)).mp c_52
                refine j_iinc X dX9_isWord_57 rfl 1 rfl ?_
                refine j_goto X 28 dX9_isWord_60 (by decide) ?_
                refine j_iload_n X dX9_isWord_28 rfl ?_
                refine j_aload_n X dX9_isWord_29 rfl ?_
                refine s_callTi (i := 1) (by omega) X hR (t_length np _ 1 (by omega)) rfl rfl u674 u671 u672 u673 u16 hyJ0_length_8abf5 (by decide) (by decide) (Nat.le_of_ble_eq_true rfl) dX9_isWord_30 (fun v_30 m_30 h_30 => ?_)
                obtain ⟨e1, e2⟩ := h_30; have e1 := e1.symm; have e2 := e2.symm; subst e1; subst e2
                refine j_nrm 5 (by decide) ?_
                refine j_icmp_ge X 63 dX9_isWord_33 (by decide) (fun c_33 => ?_) (fun c_33 => absurd c_33 (by decide))
                refine j_iconst X dX9_isWord_63 1 (by decide) ?_
                refine s_iret X hE hr dX9_isWord_64 (by first | exact jb_nar | rfl) ?_
                exact ⟨(jb_t ((tw_1 hp).mpr ⟨hk2, hlen, hq0, hq1, hq2, hq3, hq4⟩)).symm, rfl⟩
              · refine j_iconst X dX9_isWord_55 0 (by decide) ?_
                refine s_iret X hE hr dX9_isWord_56 (by first | exact jb_nar | rfl) ?_
                exact ⟨(jb_f (fun e => c_52 (by rw [((tw_1 hp).mp e).2.2.2.2.2.2]; decide))).symm, rfl⟩
            · refine j_iconst X dX9_isWord_55 0 (by decide) ?_
              refine s_iret X hE hr dX9_isWord_56 (by first | exact jb_nar | rfl) ?_
              exact ⟨(jb_f (fun e => c_52 (by rw [((tw_1 hp).mp e).2.2.2.2.2.1]; decide))).symm, rfl⟩
          · refine j_iconst X dX9_isWord_55 0 (by decide) ?_
            refine s_iret X hE hr dX9_isWord_56 (by first | exact jb_nar | rfl) ?_
            exact ⟨(jb_f (fun e => c_52 (by rw [((tw_1 hp).mp e).2.2.2.2.1]; decide))).symm, rfl⟩
        · refine j_iconst X dX9_isWord_55 0 (by decide) ?_
          refine s_iret X hE hr dX9_isWord_56 (by first | exact jb_nar | rfl) ?_
          exact ⟨(jb_f (fun e => c_52 (by rw [((tw_1 hp).mp e).2.2.2.1]; decide))).symm, rfl⟩
      · refine j_iconst X dX9_isWord_55 0 (by decide) ?_
        refine s_iret X hE hr dX9_isWord_56 (by first | exact jb_nar | rfl) ?_
        exact ⟨(jb_f (fun e => c_52 (by rw [((tw_1 hp).mp e).2.2.1]; decide))).symm, rfl⟩
    · refine j_iconst X dX9_isWord_24 0 (by decide) ?_
      refine s_iret X hE hr dX9_isWord_25 (by first | exact jb_nar | rfl) ?_
      exact ⟨(jb_f (fun e => c_21 (by rw [((tw_1 hp).mp e).2.1]; decide))).symm, rfl⟩
set_option maxRecDepth 4000 in
set_option maxHeartbeats 1000000 in
theorem c_isWord2 (np : Nat) (mem : jMem) (p z : Nat) (B : Nat → Nat) (h : cTs B z p mem) (hnp : np ≤ 12) : jPi yX9_isWord cX9_isWord 3 .boolean 6 [.ref 51, .ref (jB + 2)] np mem (fun v c => v = jb (tWd B z p = 1718775661) ∧ c = mem) := by
  refine jPi.of (own := RX9) rfl rfl (Nat.le_of_ble_eq_true rfl) (fun G X hR hr hE => ?_)
  obtain ⟨h8, hz, hp, hT5, hT6, hT7, hT8⟩ := h
  have h300 := h8.1
  have hfn := tN_ge (B := B) (n := z) (p := p)
  have hnz := tN_le (B := B) hp
  have hkl := tK_lt B z p
  refine j_aload_n X dX9_isWord_0 rfl ?_
  refine j_getF X 9 7 (by decide) (by decide) rfl u142 (o51 np) (k51 np) (mem 51) rfl dX9_isWord_1 ?_
  refine j_nrm (nI ((tK B z p + 4) % 5)) hT7 ?_
  refine j_iconst X dX9_isWord_4 1 (by decide) ?_
  refine j_icmp_ne X 24 dX9_isWord_5 (by decide) (fun c_5 => ?_) (fun c_5 => ?_)
  · refine j_iconst X dX9_isWord_24 0 (by decide) ?_
    refine s_iret X hE hr dX9_isWord_25 (by first | exact jb_nar | rfl) ?_
    exact ⟨(jb_f (fun e => c_5 (by rw [((tw_2 hp).mp e).1]; decide))).symm, rfl⟩
  · have hk2 : tK B z p = 2 := by
      have e := (nI_eq (by omega) (by omega)).mp (show nI ((tK B z p + 4) % 5) = nI 1 from c_5)
      omega
    refine j_aload_n X dX9_isWord_8 rfl ?_
    refine j_getF X 9 5 (by decide) (by decide) rfl u140 (o51 np) (k51 np) (mem 51) rfl dX9_isWord_9 ?_
    refine j_nrm (nI (tN B z p)) hT5 ?_
    refine j_aload_n X dX9_isWord_12 rfl ?_
    refine j_getF X 9 6 (by decide) (by decide) rfl u141 (o51 np) (k51 np) (mem 51) rfl dX9_isWord_13 ?_
    refine j_nrm (nI (tF B z p)) hT6 ?_
    refine j_isub X dX9_isWord_16 ?_
    refine j_nrm (nI (tN B z p - tF B z p)) (pk_sub hfn) ?_
    refine j_aload_n X dX9_isWord_17 rfl ?_
    refine s_callTi (i := 2) (by omega) X hR (t_length np _ 2 (by omega)) rfl rfl u674 u671 u672 u673 u16 hyJ0_length_8abf5 (by decide) (by decide) (Nat.le_of_ble_eq_true rfl) dX9_isWord_18 (fun v_18 m_18 h_18 => ?_)
    obtain ⟨e1, e2⟩ := h_18; have e1 := e1.symm; have e2 := e2.symm; subst e1; subst e2
    refine j_nrm 4 (by decide) ?_
    refine j_icmp_eq X 26 dX9_isWord_21 (by decide) (fun c_21 => ?_) (fun c_21 => ?_)
    · have hlen : tN B z p - tF B z p = 4 := (nI_eq (by omega) (by omega)).mp (show nI (tN B z p - tF B z p) = nI 4 from c_21)
      refine j_iconst X dX9_isWord_26 0 (by decide) ?_
      refine j_istore_n X dX9_isWord_27 (by decide) ?_
      refine j_iload_n X dX9_isWord_28 rfl ?_
      refine j_aload_n X dX9_isWord_29 rfl ?_
      refine s_callTi (i := 2) (by omega) X hR (t_length np _ 2 (by omega)) rfl rfl u674 u671 u672 u673 u16 hyJ0_length_8abf5 (by decide) (by decide) (Nat.le_of_ble_eq_true rfl) dX9_isWord_30 (fun v_30 m_30 h_30 => ?_)
      obtain ⟨e1, e2⟩ := h_30; have e1 := e1.symm; have e2 := e2.symm; subst e1; subst e2
      refine j_nrm 4 (by decide) ?_
      refine j_icmp_ge X 63 dX9_isWord_33 (by decide) (fun c_33 => absurd c_33 (by decide)) (fun c_33 => ?_)
      refine j_aload_n X dX9_isWord_36 rfl ?_
      refine j_getR X 9 0 (by decide) (by decide) rfl u133 (o51 np) (k51 np) _ (p51_0 np) dX9_isWord_37 ?_
      refine j_aload_n X dX9_isWord_40 rfl ?_
      refine j_getF X 9 6 (by decide) (by decide) rfl u141 (o51 np) (k51 np) (mem 51) rfl dX9_isWord_41 ?_
      refine j_nrm (nI (tF B z p)) hT6 ?_
      refine j_iload_n X dX9_isWord_44 rfl ?_
      refine j_iadd X dX9_isWord_45 ?_
      refine j_nrm (nI (tF B z p + 0)) (by rw [show (0 : Int32) = nI 0 from by decide, nI_add]) ?_
      refine j_baldN X (o52 np) (k52 np) (by rw [l52]; omega) (by rw [l52]; decide) (mem 52) rfl dX9_isWord_46 ?_
      refine j_nrm (sb (B (tF B z p + 0))) (h8.2 _ (by omega)).1 ?_
      refine j_aload_n X dX9_isWord_47 rfl ?_
      refine j_iload_n X dX9_isWord_48 rfl ?_
      refine j_nrm (nI 0) (by decide) ?_
      refine s_callTi (i := 2) (by omega) X hR (t_charAt np _ 2 0 (by omega) (by decide) (by decide) hnp) rfl rfl u684 u681 u682 u683 u16 hyJ0_charAt_5068e (by decide) (by decide) (Nat.le_of_ble_eq_true rfl) dX9_isWord_49 (fun v_49 m_49 h_49 => ?_)
      obtain ⟨e1, e2⟩ := h_49; have e1 := e1.symm; have e2 := e2.symm; subst e1; subst e2
      refine j_nrm (nI 102) (by decide) ?_
      refine j_icmp_eq X 57 dX9_isWord_52 (by decide) (fun c_52 => ?_) (fun c_52 => ?_)
      · have hq0 : B (tF B z p + 0) = 102 := (sb_e (h8.2 _ (by omega)).2 (by omega)).mp c_52
        refine j_iinc X dX9_isWord_57 rfl 1 rfl ?_
        refine j_goto X 28 dX9_isWord_60 (by decide) ?_
        refine j_iload_n X dX9_isWord_28 rfl ?_
        refine j_aload_n X dX9_isWord_29 rfl ?_
        refine s_callTi (i := 2) (by omega) X hR (t_length np _ 2 (by omega)) rfl rfl u674 u671 u672 u673 u16 hyJ0_length_8abf5 (by decide) (by decide) (Nat.le_of_ble_eq_true rfl) dX9_isWord_30 (fun v_30 m_30 h_30 => ?_)
        obtain ⟨e1, e2⟩ := h_30; have e1 := e1.symm; have e2 := e2.symm; subst e1; subst e2
        refine j_nrm 4 (by decide) ?_
        refine j_icmp_ge X 63 dX9_isWord_33 (by decide) (fun c_33 => absurd c_33 (by decide)) (fun c_33 => ?_)
        refine j_aload_n X dX9_isWord_36 rfl ?_
        refine j_getR X 9 0 (by decide) (by decide) rfl u133 (o51 np) (k51 np) _ (p51_0 np) dX9_isWord_37 ?_
        refine j_aload_n X dX9_isWord_40 rfl ?_
        refine j_getF X 9 6 (by decide) (by decide) rfl u141 (o51 np) (k51 np) (mem 51) rfl dX9_isWord_41 ?_
        refine j_nrm (nI (tF B z p)) hT6 ?_
        refine j_iload_n X dX9_isWord_44 rfl ?_
        refine j_iadd X dX9_isWord_45 ?_
        refine j_nrm (nI (tF B z p + 1)) (by rw [show (0 + 1 : Int32) = nI 1 from by decide, nI_add]) ?_
        refine j_baldN X (o52 np) (k52 np) (by rw [l52]; omega) (by rw [l52]; decide) (mem 52) rfl dX9_isWord_46 ?_
        refine j_nrm (sb (B (tF B z p + 1))) (h8.2 _ (by omega)).1 ?_
        refine j_aload_n X dX9_isWord_47 rfl ?_
        refine j_iload_n X dX9_isWord_48 rfl ?_
        refine j_nrm (nI 1) (by decide) ?_
        refine s_callTi (i := 2) (by omega) X hR (t_charAt np _ 2 1 (by omega) (by decide) (by decide) hnp) rfl rfl u684 u681 u682 u683 u16 hyJ0_charAt_5068e (by decide) (by decide) (Nat.le_of_ble_eq_true rfl) dX9_isWord_49 (fun v_49 m_49 h_49 => ?_)
        obtain ⟨e1, e2⟩ := h_49; have e1 := e1.symm; have e2 := e2.symm; subst e1; subst e2
        refine j_nrm (nI 114) (by decide) ?_
        refine j_icmp_eq X 57 dX9_isWord_52 (by decide) (fun c_52 => ?_) (fun c_52 => ?_)
        · have hq1 : B (tF B z p + 1) = 114 := (sb_e (h8.2 _ (by omega)).2 (by omega)).mp c_52
          refine j_iinc X dX9_isWord_57 rfl 1 rfl ?_
          refine j_goto X 28 dX9_isWord_60 (by decide) ?_
          refine j_iload_n X dX9_isWord_28 rfl ?_
          refine j_aload_n X dX9_isWord_29 rfl ?_
          refine s_callTi (i := 2) (by omega) X hR (t_length np _ 2 (by omega)) rfl rfl u674 u671 u672 u673 u16 hyJ0_length_8abf5 (by decide) (by decide) (Nat.le_of_ble_eq_true rfl) dX9_isWord_30 (fun v_30 m_30 h_30 => ?_)
          obtain ⟨e1, e2⟩ := h_30; have e1 := e1.symm; have e2 := e2.symm; subst e1; subst e2
          refine j_nrm 4 (by decide) ?_
          refine j_icmp_ge X 63 dX9_isWord_33 (by decide) (fun c_33 => absurd c_33 (by decide)) (fun c_33 => ?_)
          refine j_aload_n X dX9_isWord_36 rfl ?_
          refine j_getR X 9 0 (by decide) (by decide) rfl u133 (o51 np) (k51 np) _ (p51_0 np) dX9_isWord_37 ?_
          refine j_aload_n X dX9_isWord_40 rfl ?_
          refine j_getF X 9 6 (by decide) (by decide) rfl u141 (o51 np) (k51 np) (mem 51) rfl dX9_isWord_41 ?_
          refine j_nrm (nI (tF B z p)) hT6 ?_
          refine j_iload_n X dX9_isWord_44 rfl ?_
          refine j_iadd X dX9_isWord_45 ?_
          refine j_nrm (nI (tF B z p + 2)) (by rw [show (0 + 1 + 1 : Int32) = nI 2 from by decide, nI_add]) ?_
          refine j_baldN X (o52 np) (k52 np) (by rw [l52]; omega) (by rw [l52]; decide) (mem 52) rfl dX9_isWord_46 ?_
          refine j_nrm (sb (B (tF B z p + 2))) (h8.2 _ (by omega)).1 ?_
          refine j_aload_n X dX9_isWord_47 rfl ?_
          refine j_iload_n X dX9_isWord_48 rfl ?_
          refine j_nrm (nI 2) (by decide) ?_
          refine s_callTi (i := 2) (by omega) X hR (t_charAt np _ 2 2 (by omega) (by decide) (by decide) hnp) rfl rfl u684 u681 u682 u683 u16 hyJ0_charAt_5068e (by decide) (by decide) (Nat.le_of_ble_eq_true rfl) dX9_isWord_49 (fun v_49 m_49 h_49 => ?_)
          obtain ⟨e1, e2⟩ := h_49; have e1 := e1.symm; have e2 := e2.symm; subst e1; subst e2
          refine j_nrm (nI 111) (by decide) ?_
          refine j_icmp_eq X 57 dX9_isWord_52 (by decide) (fun c_52 => ?_) (fun c_52 => ?_)
          · have hq2 : B (tF B z p + 2) = 111 := (sb_e (h8.2 _ (by omega)).2 (by omega)).mp c_52
            refine j_iinc X dX9_isWord_57 rfl 1 rfl ?_
            refine j_goto X 28 dX9_isWord_60 (by decide) ?_
            refine j_iload_n X dX9_isWord_28 rfl ?_
            refine j_aload_n X dX9_isWord_29 rfl ?_
            refine s_callTi (i := 2) (by omega) X hR (t_length np _ 2 (by omega)) rfl rfl u674 u671 u672 u673 u16 hyJ0_length_8abf5 (by decide) (by decide) (Nat.le_of_ble_eq_true rfl) dX9_isWord_30 (fun v_30 m_30 h_30 => ?_)
            obtain ⟨e1, e2⟩ := h_30; have e1 := e1.symm; have e2 := e2.symm; subst e1; subst e2
            refine j_nrm 4 (by decide) ?_
            refine j_icmp_ge X 63 dX9_isWord_33 (by decide) (fun c_33 => absurd c_33 (by decide)) (fun c_33 => ?_)
            refine j_aload_n X dX9_isWord_36 rfl ?_
            refine j_getR X 9 0 (by decide) (by decide) rfl u133 (o51 np) (k51 np) _ (p51_0 np) dX9_isWord_37 ?_
            refine j_aload_n X dX9_isWord_40 rfl ?_
            refine j_getF X 9 6 (by decide) (by decide) rfl u141 (o51 np) (k51 np) (mem 51) rfl dX9_isWord_41 ?_
            refine j_nrm (nI (tF B z p)) hT6 ?_
            refine j_iload_n X dX9_isWord_44 rfl ?_
            refine j_iadd X dX9_isWord_45 ?_
            refine j_nrm (nI (tF B z p + 3)) (by rw [show (0 + 1 + 1 + 1 : Int32) = nI 3 from by decide, nI_add]) ?_
            refine j_baldN X (o52 np) (k52 np) (by rw [l52]; omega) (by rw [l52]; decide) (mem 52) rfl dX9_isWord_46 ?_
            refine j_nrm (sb (B (tF B z p + 3))) (h8.2 _ (by omega)).1 ?_
            refine j_aload_n X dX9_isWord_47 rfl ?_
            refine j_iload_n X dX9_isWord_48 rfl ?_
            refine j_nrm (nI 3) (by decide) ?_
            refine s_callTi (i := 2) (by omega) X hR (t_charAt np _ 2 3 (by omega) (by decide) (by decide) hnp) rfl rfl u684 u681 u682 u683 u16 hyJ0_charAt_5068e (by decide) (by decide) (Nat.le_of_ble_eq_true rfl) dX9_isWord_49 (fun v_49 m_49 h_49 => ?_)
            obtain ⟨e1, e2⟩ := h_49; have e1 := e1.symm; have e2 := e2.symm; subst e1; subst e2
            refine j_nrm (nI 109) (by decide) ?_
            refine j_icmp_eq X 57 dX9_isWord_52 (by decide) (fun c_52 => ?_) (fun c_52 => ?_)
            · have hq3 : B (tF B z p + 3) = 109 := (sb_e (h8.2 _ (by omega)).2 (by omega)).mp c_52
              refine j_iinc X dX9_isWord_57 rfl 1 rfl ?_
              refine j_goto X 28 dX9_isWord_60 (by decide) ?_
              refine j_iload_n X dX9_isWord_28 rfl ?_
              refine j_aload_n X dX9_isWord_29 rfl ?_
              refine s_callTi (i := 2) (by omega) X hR (t_length np _ 2 (by omega)) rfl rfl u674 u671 u672 u673 u16 hyJ0_length_8abf5 (by decide) (by decide) (Nat.le_of_ble_eq_true rfl) dX9_isWord_30 (fun v_30 m_30 h_30 => ?_)
              obtain ⟨e1, e2⟩ := h_30; have e1 := e1.symm; have e2 := e2.symm; subst e1; subst e2
              refine j_nrm 4 (by decide) ?_
              refine j_icmp_ge X 63 dX9_isWord_33 (by decide) (fun c_33 => ?_) (fun c_33 => absurd c_33 (by decide))
              refine j_iconst X dX9_isWord_63 1 (by decide) ?_
              refine s_iret X hE hr dX9_isWord_64 (by first | exact jb_nar | rfl) ?_
              exact ⟨(jb_t ((tw_2 hp).mpr ⟨hk2, hlen, hq0, hq1, hq2, hq3⟩)).symm, rfl⟩
            · refine j_iconst X dX9_isWord_55 0 (by decide) ?_
              refine s_iret X hE hr dX9_isWord_56 (by first | exact jb_nar | rfl) ?_
              exact ⟨(jb_f (fun e => c_52 (by rw [((tw_2 hp).mp e).2.2.2.2.2]; decide))).symm, rfl⟩
          · refine j_iconst X dX9_isWord_55 0 (by decide) ?_
            refine s_iret X hE hr dX9_isWord_56 (by first | exact jb_nar | rfl) ?_
            exact ⟨(jb_f (fun e => c_52 (by rw [((tw_2 hp).mp e).2.2.2.2.1]; decide))).symm, rfl⟩
        · refine j_iconst X dX9_isWord_55 0 (by decide) ?_
          refine s_iret X hE hr dX9_isWord_56 (by first | exact jb_nar | rfl) ?_
          exact ⟨(jb_f (fun e => c_52 (by rw [((tw_2 hp).mp e).2.2.2.1]; decide))).symm, rfl⟩
      · refine j_iconst X dX9_isWord_55 0 (by decide) ?_
        refine s_iret X hE hr dX9_isWord_56 (by first | exact jb_nar | rfl) ?_
        exact ⟨(jb_f (fun e => c_52 (by rw [((tw_2 hp).mp e).2.2.1]; decide))).symm, rfl⟩
    · refine j_iconst X dX9_isWord_24 0 (by decide) ?_
      refine s_iret X hE hr dX9_isWord_25 (by first | exact jb_nar | rfl) ?_
      exact ⟨(jb_f (fun e => c_21 (by rw [((tw_2 hp).mp e).2.1]; decide))).symm, rfl⟩
set_option maxRecDepth 4000 in
set_option maxHeartbeats 1000000 in
theorem c_isWord3 (np : Nat) (mem : jMem) (p z : Nat) (B : Nat → Nat) (h : cTs B z p mem) (hnp : np ≤ 12) : jPi yX9_isWord cX9_isWord 3 .boolean 6 [.ref 51, .ref (jB + 3)] np mem (fun v c => v = jb (tWd B z p = 439854918756) ∧ c = mem) := by
  refine jPi.of (own := RX9) rfl rfl (Nat.le_of_ble_eq_true rfl) (fun G X hR hr hE => ?_)
  obtain ⟨h8, hz, hp, hT5, hT6, hT7, hT8⟩ := h
  have h300 := h8.1
  have hfn := tN_ge (B := B) (n := z) (p := p)
  have hnz := tN_le (B := B) hp
  have hkl := tK_lt B z p
  refine j_aload_n X dX9_isWord_0 rfl ?_
  refine j_getF X 9 7 (by decide) (by decide) rfl u142 (o51 np) (k51 np) (mem 51) rfl dX9_isWord_1 ?_
  refine j_nrm (nI ((tK B z p + 4) % 5)) hT7 ?_
  refine j_iconst X dX9_isWord_4 1 (by decide) ?_
  refine j_icmp_ne X 24 dX9_isWord_5 (by decide) (fun c_5 => ?_) (fun c_5 => ?_)
  · refine j_iconst X dX9_isWord_24 0 (by decide) ?_
    refine s_iret X hE hr dX9_isWord_25 (by first | exact jb_nar | rfl) ?_
    exact ⟨(jb_f (fun e => c_5 (by rw [((tw_3 hp).mp e).1]; decide))).symm, rfl⟩
  · have hk2 : tK B z p = 2 := by
      have e := (nI_eq (by omega) (by omega)).mp (show nI ((tK B z p + 4) % 5) = nI 1 from c_5)
      omega
    refine j_aload_n X dX9_isWord_8 rfl ?_
    refine j_getF X 9 5 (by decide) (by decide) rfl u140 (o51 np) (k51 np) (mem 51) rfl dX9_isWord_9 ?_
    refine j_nrm (nI (tN B z p)) hT5 ?_
    refine j_aload_n X dX9_isWord_12 rfl ?_
    refine j_getF X 9 6 (by decide) (by decide) rfl u141 (o51 np) (k51 np) (mem 51) rfl dX9_isWord_13 ?_
    refine j_nrm (nI (tF B z p)) hT6 ?_
    refine j_isub X dX9_isWord_16 ?_
    refine j_nrm (nI (tN B z p - tF B z p)) (pk_sub hfn) ?_
    refine j_aload_n X dX9_isWord_17 rfl ?_
    refine s_callTi (i := 3) (by omega) X hR (t_length np _ 3 (by omega)) rfl rfl u674 u671 u672 u673 u16 hyJ0_length_8abf5 (by decide) (by decide) (Nat.le_of_ble_eq_true rfl) dX9_isWord_18 (fun v_18 m_18 h_18 => ?_)
    obtain ⟨e1, e2⟩ := h_18; have e1 := e1.symm; have e2 := e2.symm; subst e1; subst e2
    refine j_nrm 5 (by decide) ?_
    refine j_icmp_eq X 26 dX9_isWord_21 (by decide) (fun c_21 => ?_) (fun c_21 => ?_)
    · have hlen : tN B z p - tF B z p = 5 := (nI_eq (by omega) (by omega)).mp (show nI (tN B z p - tF B z p) = nI 5 from c_21)
      refine j_iconst X dX9_isWord_26 0 (by decide) ?_
      refine j_istore_n X dX9_isWord_27 (by decide) ?_
      refine j_iload_n X dX9_isWord_28 rfl ?_
      refine j_aload_n X dX9_isWord_29 rfl ?_
      refine s_callTi (i := 3) (by omega) X hR (t_length np _ 3 (by omega)) rfl rfl u674 u671 u672 u673 u16 hyJ0_length_8abf5 (by decide) (by decide) (Nat.le_of_ble_eq_true rfl) dX9_isWord_30 (fun v_30 m_30 h_30 => ?_)
      obtain ⟨e1, e2⟩ := h_30; have e1 := e1.symm; have e2 := e2.symm; subst e1; subst e2
      refine j_nrm 5 (by decide) ?_
      refine j_icmp_ge X 63 dX9_isWord_33 (by decide) (fun c_33 => absurd c_33 (by decide)) (fun c_33 => ?_)
      refine j_aload_n X dX9_isWord_36 rfl ?_
      refine j_getR X 9 0 (by decide) (by decide) rfl u133 (o51 np) (k51 np) _ (p51_0 np) dX9_isWord_37 ?_
      refine j_aload_n X dX9_isWord_40 rfl ?_
      refine j_getF X 9 6 (by decide) (by decide) rfl u141 (o51 np) (k51 np) (mem 51) rfl dX9_isWord_41 ?_
      refine j_nrm (nI (tF B z p)) hT6 ?_
      refine j_iload_n X dX9_isWord_44 rfl ?_
      refine j_iadd X dX9_isWord_45 ?_
      refine j_nrm (nI (tF B z p + 0)) (by rw [show (0 : Int32) = nI 0 from by decide, nI_add]) ?_
      refine j_baldN X (o52 np) (k52 np) (by rw [l52]; omega) (by rw [l52]; decide) (mem 52) rfl dX9_isWord_46 ?_
      refine j_nrm (sb (B (tF B z p + 0))) (h8.2 _ (by omega)).1 ?_
      refine j_aload_n X dX9_isWord_47 rfl ?_
      refine j_iload_n X dX9_isWord_48 rfl ?_
      refine j_nrm (nI 0) (by decide) ?_
      refine s_callTi (i := 3) (by omega) X hR (t_charAt np _ 3 0 (by omega) (by decide) (by decide) hnp) rfl rfl u684 u681 u682 u683 u16 hyJ0_charAt_5068e (by decide) (by decide) (Nat.le_of_ble_eq_true rfl) dX9_isWord_49 (fun v_49 m_49 h_49 => ?_)
      obtain ⟨e1, e2⟩ := h_49; have e1 := e1.symm; have e2 := e2.symm; subst e1; subst e2
      refine j_nrm (nI 102) (by decide) ?_
      refine j_icmp_eq X 57 dX9_isWord_52 (by decide) (fun c_52 => ?_) (fun c_52 => ?_)
      · have hq0 : B (tF B z p + 0) = 102 := (sb_e (h8.2 _ (by omega)).2 (by omega)).mp c_52
        refine j_iinc X dX9_isWord_57 rfl 1 rfl ?_
        refine j_goto X 28 dX9_isWord_60 (by decide) ?_
        refine j_iload_n X dX9_isWord_28 rfl ?_
        refine j_aload_n X dX9_isWord_29 rfl ?_
        refine s_callTi (i := 3) (by omega) X hR (t_length np _ 3 (by omega)) rfl rfl u674 u671 u672 u673 u16 hyJ0_length_8abf5 (by decide) (by decide) (Nat.le_of_ble_eq_true rfl) dX9_isWord_30 (fun v_30 m_30 h_30 => ?_)
        obtain ⟨e1, e2⟩ := h_30; have e1 := e1.symm; have e2 := e2.symm; subst e1; subst e2
        refine j_nrm 5 (by decide) ?_
        refine j_icmp_ge X 63 dX9_isWord_33 (by decide) (fun c_33 => absurd c_33 (by decide)) (fun c_33 => ?_)
        refine j_aload_n X dX9_isWord_36 rfl ?_
        refine j_getR X 9 0 (by decide) (by decide) rfl u133 (o51 np) (k51 np) _ (p51_0 np) dX9_isWord_37 ?_
        refine j_aload_n X dX9_isWord_40 rfl ?_
        refine j_getF X 9 6 (by decide) (by decide) rfl u141 (o51 np) (k51 np) (mem 51) rfl dX9_isWord_41 ?_
        refine j_nrm (nI (tF B z p)) hT6 ?_
        refine j_iload_n X dX9_isWord_44 rfl ?_
        refine j_iadd X dX9_isWord_45 ?_
        refine j_nrm (nI (tF B z p + 1)) (by rw [show (0 + 1 : Int32) = nI 1 from by decide, nI_add]) ?_
        refine j_baldN X (o52 np) (k52 np) (by rw [l52]; omega) (by rw [l52]; decide) (mem 52) rfl dX9_isWord_46 ?_
        refine j_nrm (sb (B (tF B z p + 1))) (h8.2 _ (by omega)).1 ?_
        refine j_aload_n X dX9_isWord_47 rfl ?_
        refine j_iload_n X dX9_isWord_48 rfl ?_
        refine j_nrm (nI 1) (by decide) ?_
        refine s_callTi (i := 3) (by omega) X hR (t_charAt np _ 3 1 (by omega) (by decide) (by decide) hnp) rfl rfl u684 u681 u682 u683 u16 hyJ0_charAt_5068e (by decide) (by decide) (Nat.le_of_ble_eq_true rfl) dX9_isWord_49 (fun v_49 m_49 h_49 => ?_)
        obtain ⟨e1, e2⟩ := h_49; have e1 := e1.symm; have e2 := e2.symm; subst e1; subst e2
        refine j_nrm (nI 105) (by decide) ?_
        refine j_icmp_eq X 57 dX9_isWord_52 (by decide) (fun c_52 => ?_) (fun c_52 => ?_)
        · have hq1 : B (tF B z p + 1) = 105 := (sb_e (h8.2 _ (by omega)).2 (by omega)).mp c_52
          refine j_iinc X dX9_isWord_57 rfl 1 rfl ?_
          refine j_goto X 28 dX9_isWord_60 (by decide) ?_
          refine j_iload_n X dX9_isWord_28 rfl ?_
          refine j_aload_n X dX9_isWord_29 rfl ?_
          refine s_callTi (i := 3) (by omega) X hR (t_length np _ 3 (by omega)) rfl rfl u674 u671 u672 u673 u16 hyJ0_length_8abf5 (by decide) (by decide) (Nat.le_of_ble_eq_true rfl) dX9_isWord_30 (fun v_30 m_30 h_30 => ?_)
          obtain ⟨e1, e2⟩ := h_30; have e1 := e1.symm; have e2 := e2.symm; subst e1; subst e2
          refine j_nrm 5 (by decide) ?_
          refine j_icmp_ge X 63 dX9_isWord_33 (by decide) (fun c_33 => absurd c_33 (by decide)) (fun c_33 => ?_)
          refine j_aload_n X dX9_isWord_36 rfl ?_
          refine j_getR X 9 0 (by decide) (by decide) rfl u133 (o51 np) (k51 np) _ (p51_0 np) dX9_isWord_37 ?_
          refine j_aload_n X dX9_isWord_40 rfl ?_
          refine j_getF X 9 6 (by decide) (by decide) rfl u141 (o51 np) (k51 np) (mem 51) rfl dX9_isWord_41 ?_
          refine j_nrm (nI (tF B z p)) hT6 ?_
          refine j_iload_n X dX9_isWord_44 rfl ?_
          refine j_iadd X dX9_isWord_45 ?_
          refine j_nrm (nI (tF B z p + 2)) (by rw [show (0 + 1 + 1 : Int32) = nI 2 from by decide, nI_add]) ?_
          refine j_baldN X (o52 np) (k52 np) (by rw [l52]; omega) (by rw [l52]; decide) (mem 52) rfl dX9_isWord_46 ?_
          refine j_nrm (sb (B (tF B z p + 2))) (h8.2 _ (by omega)).1 ?_
          refine j_aload_n X dX9_isWord_47 rfl ?_
          refine j_iload_n X dX9_isWord_48 rfl ?_
          refine j_nrm (nI 2) (by decide) ?_
          refine s_callTi (i := 3) (by omega) X hR (t_charAt np _ 3 2 (by omega) (by decide) (by decide) hnp) rfl rfl u684 u681 u682 u683 u16 hyJ0_charAt_5068e (by decide) (by decide) (Nat.le_of_ble_eq_true rfl) dX9_isWord_49 (fun v_49 m_49 h_49 => ?_)
          obtain ⟨e1, e2⟩ := h_49; have e1 := e1.symm; have e2 := e2.symm; subst e1; subst e2
          refine j_nrm (nI 101) (by decide) ?_
          refine j_icmp_eq X 57 dX9_isWord_52 (by decide) (fun c_52 => ?_) (fun c_52 => ?_)
          · have hq2 : B (tF B z p + 2) = 101 := (sb_e (h8.2 _ (by omega)).2 (by omega)).mp c_52
            refine j_iinc X dX9_isWord_57 rfl 1 rfl ?_
            refine j_goto X 28 dX9_isWord_60 (by decide) ?_
            refine j_iload_n X dX9_isWord_28 rfl ?_
            refine j_aload_n X dX9_isWord_29 rfl ?_
            refine s_callTi (i := 3) (by omega) X hR (t_length np _ 3 (by omega)) rfl rfl u674 u671 u672 u673 u16 hyJ0_length_8abf5 (by decide) (by decide) (Nat.le_of_ble_eq_true rfl) dX9_isWord_30 (fun v_30 m_30 h_30 => ?_)
            obtain ⟨e1, e2⟩ := h_30; have e1 := e1.symm; have e2 := e2.symm; subst e1; subst e2
            refine j_nrm 5 (by decide) ?_
            refine j_icmp_ge X 63 dX9_isWord_33 (by decide) (fun c_33 => absurd c_33 (by decide)) (fun c_33 => ?_)
            refine j_aload_n X dX9_isWord_36 rfl ?_
            refine j_getR X 9 0 (by decide) (by decide) rfl u133 (o51 np) (k51 np) _ (p51_0 np) dX9_isWord_37 ?_
            refine j_aload_n X dX9_isWord_40 rfl ?_
            refine j_getF X 9 6 (by decide) (by decide) rfl u141 (o51 np) (k51 np) (mem 51) rfl dX9_isWord_41 ?_
            refine j_nrm (nI (tF B z p)) hT6 ?_
            refine j_iload_n X dX9_isWord_44 rfl ?_
            refine j_iadd X dX9_isWord_45 ?_
            refine j_nrm (nI (tF B z p + 3)) (by rw [show (0 + 1 + 1 + 1 : Int32) = nI 3 from by decide, nI_add]) ?_
            refine j_baldN X (o52 np) (k52 np) (by rw [l52]; omega) (by rw [l52]; decide) (mem 52) rfl dX9_isWord_46 ?_
            refine j_nrm (sb (B (tF B z p + 3))) (h8.2 _ (by omega)).1 ?_
            refine j_aload_n X dX9_isWord_47 rfl ?_
            refine j_iload_n X dX9_isWord_48 rfl ?_
            refine j_nrm (nI 3) (by decide) ?_
            refine s_callTi (i := 3) (by omega) X hR (t_charAt np _ 3 3 (by omega) (by decide) (by decide) hnp) rfl rfl u684 u681 u682 u683 u16 hyJ0_charAt_5068e (by decide) (by decide) (Nat.le_of_ble_eq_true rfl) dX9_isWord_49 (fun v_49 m_49 h_49 => ?_)
            obtain ⟨e1, e2⟩ := h_49; have e1 := e1.symm; have e2 := e2.symm; subst e1; subst e2
            refine j_nrm (nI 108) (by decide) ?_
            refine j_icmp_eq X 57 dX9_isWord_52 (by decide) (fun c_52 => ?_) (fun c_52 => ?_)
            · have hq3 : B (tF B z p + 3) = 108 := (sb_e (h8.2 _ (by omega)).2 (by omega)).mp c_52
              refine j_iinc X dX9_isWord_57 rfl 1 rfl ?_
              refine j_goto X 28 dX9_isWord_60 (by decide) ?_
              refine j_iload_n X dX9_isWord_28 rfl ?_
              refine j_aload_n X dX9_isWord_29 rfl ?_
              refine s_callTi (i := 3) (by omega) X hR (t_length np _ 3 (by omega)) rfl rfl u674 u671 u672 u673 u16 hyJ0_length_8abf5 (by decide) (by decide) (Nat.le_of_ble_eq_true rfl) dX9_isWord_30 (fun v_30 m_30 h_30 => ?_)
              obtain ⟨e1, e2⟩ := h_30; have e1 := e1.symm; have e2 := e2.symm; subst e1; subst e2
              refine j_nrm 5 (by decide) ?_
              refine j_icmp_ge X 63 dX9_isWord_33 (by decide) (fun c_33 => absurd c_33 (by decide)) (fun c_33 => ?_)
              refine j_aload_n X dX9_isWord_36 rfl ?_
              refine j_getR X 9 0 (by decide) (by decide) rfl u133 (o51 np) (k51 np) _ (p51_0 np) dX9_isWord_37 ?_
              refine j_aload_n X dX9_isWord_40 rfl ?_
              refine j_getF X 9 6 (by decide) (by decide) rfl u141 (o51 np) (k51 np) (mem 51) rfl dX9_isWord_41 ?_
              refine j_nrm (nI (tF B z p)) hT6 ?_
              refine j_iload_n X dX9_isWord_44 rfl ?_
              refine j_iadd X dX9_isWord_45 ?_
              refine j_nrm (nI (tF B z p + 4)) (by rw [show (0 + 1 + 1 + 1 + 1 : Int32) = nI 4 from by decide, nI_add]) ?_
              refine j_baldN X (o52 np) (k52 np) (by rw [l52]; omega) (by rw [l52]; decide) (mem 52) rfl dX9_isWord_46 ?_
              refine j_nrm (sb (B (tF B z p + 4))) (h8.2 _ (by omega)).1 ?_
              refine j_aload_n X dX9_isWord_47 rfl ?_
              refine j_iload_n X dX9_isWord_48 rfl ?_
              refine j_nrm (nI 4) (by decide) ?_
              refine s_callTi (i := 3) (by omega) X hR (t_charAt np _ 3 4 (by omega) (by decide) (by decide) hnp) rfl rfl u684 u681 u682 u683 u16 hyJ0_charAt_5068e (by decide) (by decide) (Nat.le_of_ble_eq_true rfl) dX9_isWord_49 (fun v_49 m_49 h_49 => ?_)
              obtain ⟨e1, e2⟩ := h_49; have e1 := e1.symm; have e2 := e2.symm; subst e1; subst e2
              refine j_nrm (nI 100) (by decide) ?_
              refine j_icmp_eq X 57 dX9_isWord_52 (by decide) (fun c_52 => ?_) (fun c_52 => ?_)
              · have hq4 : B (tF B z p + 4) = 100 := (sb_e (h8.2 _ (by omega)).2 (by omega)).mp c_52
                refine j_iinc X dX9_isWord_57 rfl 1 rfl ?_
                refine j_goto X 28 dX9_isWord_60 (by decide) ?_
                refine j_iload_n X dX9_isWord_28 rfl ?_
                refine j_aload_n X dX9_isWord_29 rfl ?_
                refine s_callTi (i := 3) (by omega) X hR (t_length np _ 3 (by omega)) rfl rfl u674 u671 u672 u673 u16 hyJ0_length_8abf5 (by decide) (by decide) (Nat.le_of_ble_eq_true rfl) dX9_isWord_30 (fun v_30 m_30 h_30 => ?_)
                obtain ⟨e1, e2⟩ := h_30; have e1 := e1.symm; have e2 := e2.symm; subst e1; subst e2
                refine j_nrm 5 (by decide) ?_
                refine j_icmp_ge X 63 dX9_isWord_33 (by decide) (fun c_33 => ?_) (fun c_33 => absurd c_33 (by decide))
                refine j_iconst X dX9_isWord_63 1 (by decide) ?_
                refine s_iret X hE hr dX9_isWord_64 (by first | exact jb_nar | rfl) ?_
                exact ⟨(jb_t ((tw_3 hp).mpr ⟨hk2, hlen, hq0, hq1, hq2, hq3, hq4⟩)).symm, rfl⟩
              · refine j_iconst X dX9_isWord_55 0 (by decide) ?_
                refine s_iret X hE hr dX9_isWord_56 (by first | exact jb_nar | rfl) ?_
                exact ⟨(jb_f (fun e => c_52 (by rw [((tw_3 hp).mp e).2.2.2.2.2.2]; decide))).symm, rfl⟩
            · refine j_iconst X dX9_isWord_55 0 (by decide) ?_
              refine s_iret X hE hr dX9_isWord_56 (by first | exact jb_nar | rfl) ?_
              exact ⟨(jb_f (fun e => c_52 (by rw [((tw_3 hp).mp e).2.2.2.2.2.1]; decide))).symm, rfl⟩
          · refine j_iconst X dX9_isWord_55 0 (by decide) ?_
            refine s_iret X hE hr dX9_isWord_56 (by first | exact jb_nar | rfl) ?_
            exact ⟨(jb_f (fun e => c_52 (by rw [((tw_3 hp).mp e).2.2.2.2.1]; decide))).symm, rfl⟩
        · refine j_iconst X dX9_isWord_55 0 (by decide) ?_
          refine s_iret X hE hr dX9_isWord_56 (by first | exact jb_nar | rfl) ?_
          exact ⟨(jb_f (fun e => c_52 (by rw [((tw_3 hp).mp e).2.2.2.1]; decide))).symm, rfl⟩
      · refine j_iconst X dX9_isWord_55 0 (by decide) ?_
        refine s_iret X hE hr dX9_isWord_56 (by first | exact jb_nar | rfl) ?_
        exact ⟨(jb_f (fun e => c_52 (by rw [((tw_3 hp).mp e).2.2.1]; decide))).symm, rfl⟩
    · refine j_iconst X dX9_isWord_24 0 (by decide) ?_
      refine s_iret X hE hr dX9_isWord_25 (by first | exact jb_nar | rfl) ?_
      exact ⟨(jb_f (fun e => c_21 (by rw [((tw_3 hp).mp e).2.1]; decide))).symm, rfl⟩
set_option maxRecDepth 4000 in
set_option maxHeartbeats 1000000 in
theorem c_isWord4 (np : Nat) (mem : jMem) (p z : Nat) (B : Nat → Nat) (h : cTs B z p mem) (hnp : np ≤ 12) : jPi yX9_isWord cX9_isWord 3 .boolean 6 [.ref 51, .ref (jB + 4)] np mem (fun v c => v = jb (tWd B z p = 1870030194) ∧ c = mem) := by
  refine jPi.of (own := RX9) rfl rfl (Nat.le_of_ble_eq_true rfl) (fun G X hR hr hE => ?_)
  obtain ⟨h8, hz, hp, hT5, hT6, hT7, hT8⟩ := h
  have h300 := h8.1
  have hfn := tN_ge (B := B) (n := z) (p := p)
  have hnz := tN_le (B := B) hp
  have hkl := tK_lt B z p
  refine j_aload_n X dX9_isWord_0 rfl ?_
  refine j_getF X 9 7 (by decide) (by decide) rfl u142 (o51 np) (k51 np) (mem 51) rfl dX9_isWord_1 ?_
  refine j_nrm (nI ((tK B z p + 4) % 5)) hT7 ?_
  refine j_iconst X dX9_isWord_4 1 (by decide) ?_
  refine j_icmp_ne X 24 dX9_isWord_5 (by decide) (fun c_5 => ?_) (fun c_5 => ?_)
  · refine j_iconst X dX9_isWord_24 0 (by decide) ?_
    refine s_iret X hE hr dX9_isWord_25 (by first | exact jb_nar | rfl) ?_
    exact ⟨(jb_f (fun e => c_5 (by rw [((tw_4 hp).mp e).1]; decide))).symm, rfl⟩
  · have hk2 : tK B z p = 2 := by
      have e := (nI_eq (by omega) (by omega)).mp (show nI ((tK B z p + 4) % 5) = nI 1 from c_5)
      omega
    refine j_aload_n X dX9_isWord_8 rfl ?_
    refine j_getF X 9 5 (by decide) (by decide) rfl u140 (o51 np) (k51 np) (mem 51) rfl dX9_isWord_9 ?_
    refine j_nrm (nI (tN B z p)) hT5 ?_
    refine j_aload_n X dX9_isWord_12 rfl ?_
    refine j_getF X 9 6 (by decide) (by decide) rfl u141 (o51 np) (k51 np) (mem 51) rfl dX9_isWord_13 ?_
    refine j_nrm (nI (tF B z p)) hT6 ?_
    refine j_isub X dX9_isWord_16 ?_
    refine j_nrm (nI (tN B z p - tF B z p)) (pk_sub hfn) ?_
    refine j_aload_n X dX9_isWord_17 rfl ?_
    refine s_callTi (i := 4) (by omega) X hR (t_length np _ 4 (by omega)) rfl rfl u674 u671 u672 u673 u16 hyJ0_length_8abf5 (by decide) (by decide) (Nat.le_of_ble_eq_true rfl) dX9_isWord_18 (fun v_18 m_18 h_18 => ?_)
    obtain ⟨e1, e2⟩ := h_18; have e1 := e1.symm; have e2 := e2.symm; subst e1; subst e2
    refine j_nrm 4 (by decide) ?_
    refine j_icmp_eq X 26 dX9_isWord_21 (by decide) (fun c_21 => ?_) (fun c_21 => ?_)
    · have hlen : tN B z p - tF B z p = 4 := (nI_eq (by omega) (by omega)).mp (show nI (tN B z p - tF B z p) = nI 4 from c_21)
      refine j_iconst X dX9_isWord_26 0 (by decide) ?_
      refine j_istore_n X dX9_isWord_27 (by decide) ?_
      refine j_iload_n X dX9_isWord_28 rfl ?_
      refine j_aload_n X dX9_isWord_29 rfl ?_
      refine s_callTi (i := 4) (by omega) X hR (t_length np _ 4 (by omega)) rfl rfl u674 u671 u672 u673 u16 hyJ0_length_8abf5 (by decide) (by decide) (Nat.le_of_ble_eq_true rfl) dX9_isWord_30 (fun v_30 m_30 h_30 => ?_)
      obtain ⟨e1, e2⟩ := h_30; have e1 := e1.symm; have e2 := e2.symm; subst e1; subst e2
      refine j_nrm 4 (by decide) ?_
      refine j_icmp_ge X 63 dX9_isWord_33 (by decide) (fun c_33 => absurd c_33 (by decide)) (fun c_33 => ?_)
      refine j_aload_n X dX9_isWord_36 rfl ?_
      refine j_getR X 9 0 (by decide) (by decide) rfl u133 (o51 np) (k51 np) _ (p51_0 np) dX9_isWord_37 ?_
      refine j_aload_n X dX9_isWord_40 rfl ?_
      refine j_getF X 9 6 (by decide) (by decide) rfl u141 (o51 np) (k51 np) (mem 51) rfl dX9_isWord_41 ?_
      refine j_nrm (nI (tF B z p)) hT6 ?_
      refine j_iload_n X dX9_isWord_44 rfl ?_
      refine j_iadd X dX9_isWord_45 ?_
      refine j_nrm (nI (tF B z p + 0)) (by rw [show (0 : Int32) = nI 0 from by decide, nI_add]) ?_
      refine j_baldN X (o52 np) (k52 np) (by rw [l52]; omega) (by rw [l52]; decide) (mem 52) rfl dX9_isWord_46 ?_
      refine j_nrm (sb (B (tF B z p + 0))) (h8.2 _ (by omega)).1 ?_
      refine j_aload_n X dX9_isWord_47 rfl ?_
      refine j_iload_n X dX9_isWord_48 rfl ?_
      refine j_nrm (nI 0) (by decide) ?_
      refine s_callTi (i := 4) (by omega) X hR (t_charAt np _ 4 0 (by omega) (by decide) (by decide) hnp) rfl rfl u684 u681 u682 u683 u16 hyJ0_charAt_5068e (by decide) (by decide) (Nat.le_of_ble_eq_true rfl) dX9_isWord_49 (fun v_49 m_49 h_49 => ?_)
      obtain ⟨e1, e2⟩ := h_49; have e1 := e1.symm; have e2 := e2.symm; subst e1; subst e2
      refine j_nrm (nI 111) (by decide) ?_
      refine j_icmp_eq X 57 dX9_isWord_52 (by decide) (fun c_52 => ?_) (fun c_52 => ?_)
      · have hq0 : B (tF B z p + 0) = 111 := (sb_e (h8.2 _ (by omega)).2 (by omega)).mp c_52
        refine j_iinc X dX9_isWord_57 rfl 1 rfl ?_
        refine j_goto X 28 dX9_isWord_60 (by decide) ?_
        refine j_iload_n X dX9_isWord_28 rfl ?_
        refine j_aload_n X dX9_isWord_29 rfl ?_
        refine s_callTi (i := 4) (by omega) X hR (t_length np _ 4 (by omega)) rfl rfl u674 u671 u672 u673 u16 hyJ0_length_8abf5 (by decide) (by decide) (Nat.le_of_ble_eq_true rfl) dX9_isWord_30 (fun v_30 m_30 h_30 => ?_)
        obtain ⟨e1, e2⟩ := h_30; have e1 := e1.symm; have e2 := e2.symm; subst e1; subst e2
        refine j_nrm 4 (by decide) ?_
        refine j_icmp_ge X 63 dX9_isWord_33 (by decide) (fun c_33 => absurd c_33 (by decide)) (fun c_33 => ?_)
        refine j_aload_n X dX9_isWord_36 rfl ?_
        refine j_getR X 9 0 (by decide) (by decide) rfl u133 (o51 np) (k51 np) _ (p51_0 np) dX9_isWord_37 ?_
        refine j_aload_n X dX9_isWord_40 rfl ?_
        refine j_getF X 9 6 (by decide) (by decide) rfl u141 (o51 np) (k51 np) (mem 51) rfl dX9_isWord_41 ?_
        refine j_nrm (nI (tF B z p)) hT6 ?_
        refine j_iload_n X dX9_isWord_44 rfl ?_
        refine j_iadd X dX9_isWord_45 ?_
        refine j_nrm (nI (tF B z p + 1)) (by rw [show (0 + 1 : Int32) = nI 1 from by decide, nI_add]) ?_
        refine j_baldN X (o52 np) (k52 np) (by rw [l52]; omega) (by rw [l52]; decide) (mem 52) rfl dX9_isWord_46 ?_
        refine j_nrm (sb (B (tF B z p + 1))) (h8.2 _ (by omega)).1 ?_
        refine j_aload_n X dX9_isWord_47 rfl ?_
        refine j_iload_n X dX9_isWord_48 rfl ?_
        refine j_nrm (nI 1) (by decide) ?_
        refine s_callTi (i := 4) (by omega) X hR (t_charAt np _ 4 1 (by omega) (by decide) (by decide) hnp) rfl rfl u684 u681 u682 u683 u16 hyJ0_charAt_5068e (by decide) (by decide) (Nat.le_of_ble_eq_true rfl) dX9_isWord_49 (fun v_49 m_49 h_49 => ?_)
        obtain ⟨e1, e2⟩ := h_49; have e1 := e1.symm; have e2 := e2.symm; subst e1; subst e2
        refine j_nrm (nI 118) (by decide) ?_
        refine j_icmp_eq X 57 dX9_isWord_52 (by decide) (fun c_52 => ?_) (fun c_52 => ?_)
        · have hq1 : B (tF B z p + 1) = 118 := (sb_e (h8.2 _ (by omega)).2 (by omega)).mp c_52
          refine j_iinc X dX9_isWord_57 rfl 1 rfl ?_
          refine j_goto X 28 dX9_isWord_60 (by decide) ?_
          refine j_iload_n X dX9_isWord_28 rfl ?_
          refine j_aload_n X dX9_isWord_29 rfl ?_
          refine s_callTi (i := 4) (by omega) X hR (t_length np _ 4 (by omega)) rfl rfl u674 u671 u672 u673 u16 hyJ0_length_8abf5 (by decide) (by decide) (Nat.le_of_ble_eq_true rfl) dX9_isWord_30 (fun v_30 m_30 h_30 => ?_)
          obtain ⟨e1, e2⟩ := h_30; have e1 := e1.symm; have e2 := e2.symm; subst e1; subst e2
          refine j_nrm 4 (by decide) ?_
          refine j_icmp_ge X 63 dX9_isWord_33 (by decide) (fun c_33 => absurd c_33 (by decide)) (fun c_33 => ?_)
          refine j_aload_n X dX9_isWord_36 rfl ?_
          refine j_getR X 9 0 (by decide) (by decide) rfl u133 (o51 np) (k51 np) _ (p51_0 np) dX9_isWord_37 ?_
          refine j_aload_n X dX9_isWord_40 rfl ?_
          refine j_getF X 9 6 (by decide) (by decide) rfl u141 (o51 np) (k51 np) (mem 51) rfl dX9_isWord_41 ?_
          refine j_nrm (nI (tF B z p)) hT6 ?_
          refine j_iload_n X dX9_isWord_44 rfl ?_
          refine j_iadd X dX9_isWord_45 ?_
          refine j_nrm (nI (tF B z p + 2)) (by rw [show (0 + 1 + 1 : Int32) = nI 2 from by decide, nI_add]) ?_
          refine j_baldN X (o52 np) (k52 np) (by rw [l52]; omega) (by rw [l52]; decide) (mem 52) rfl dX9_isWord_46 ?_
          refine j_nrm (sb (B (tF B z p + 2))) (h8.2 _ (by omega)).1 ?_
          refine j_aload_n X dX9_isWord_47 rfl ?_
          refine j_iload_n X dX9_isWord_48 rfl ?_
          refine j_nrm (nI 2) (by decide) ?_
          refine s_callTi (i := 4) (by omega) X hR (t_charAt np _ 4 2 (by omega) (by decide) (by decide) hnp) rfl rfl u684 u681 u682 u683 u16 hyJ0_charAt_5068e (by decide) (by decide) (Nat.le_of_ble_eq_true rfl) dX9_isWord_49 (fun v_49 m_49 h_49 => ?_)
          obtain ⟨e1, e2⟩ := h_49; have e1 := e1.symm; have e2 := e2.symm; subst e1; subst e2
          refine j_nrm (nI 101) (by decide) ?_
          refine j_icmp_eq X 57 dX9_isWord_52 (by decide) (fun c_52 => ?_) (fun c_52 => ?_)
          · have hq2 : B (tF B z p + 2) = 101 := (sb_e (h8.2 _ (by omega)).2 (by omega)).mp c_52
            refine j_iinc X dX9_isWord_57 rfl 1 rfl ?_
            refine j_goto X 28 dX9_isWord_60 (by decide) ?_
            refine j_iload_n X dX9_isWord_28 rfl ?_
            refine j_aload_n X dX9_isWord_29 rfl ?_
            refine s_callTi (i := 4) (by omega) X hR (t_length np _ 4 (by omega)) rfl rfl u674 u671 u672 u673 u16 hyJ0_length_8abf5 (by decide) (by decide) (Nat.le_of_ble_eq_true rfl) dX9_isWord_30 (fun v_30 m_30 h_30 => ?_)
            obtain ⟨e1, e2⟩ := h_30; have e1 := e1.symm; have e2 := e2.symm; subst e1; subst e2
            refine j_nrm 4 (by decide) ?_
            refine j_icmp_ge X 63 dX9_isWord_33 (by decide) (fun c_33 => absurd c_33 (by decide)) (fun c_33 => ?_)
            refine j_aload_n X dX9_isWord_36 rfl ?_
            refine j_getR X 9 0 (by decide) (by decide) rfl u133 (o51 np) (k51 np) _ (p51_0 np) dX9_isWord_37 ?_
            refine j_aload_n X dX9_isWord_40 rfl ?_
            refine j_getF X 9 6 (by decide) (by decide) rfl u141 (o51 np) (k51 np) (mem 51) rfl dX9_isWord_41 ?_
            refine j_nrm (nI (tF B z p)) hT6 ?_
            refine j_iload_n X dX9_isWord_44 rfl ?_
            refine j_iadd X dX9_isWord_45 ?_
            refine j_nrm (nI (tF B z p + 3)) (by rw [show (0 + 1 + 1 + 1 : Int32) = nI 3 from by decide, nI_add]) ?_
            refine j_baldN X (o52 np) (k52 np) (by rw [l52]; omega) (by rw [l52]; decide) (mem 52) rfl dX9_isWord_46 ?_
            refine j_nrm (sb (B (tF B z p + 3))) (h8.2 _ (by omega)).1 ?_
            refine j_aload_n X dX9_isWord_47 rfl ?_
            refine j_iload_n X dX9_isWord_48 rfl ?_
            refine j_nrm (nI 3) (by decide) ?_
            refine s_callTi (i := 4) (by omega) X hR (t_charAt np _ 4 3 (by omega) (by decide) (by decide) hnp) rfl rfl u684 u681 u682 u683 u16 hyJ0_charAt_5068e (by decide) (by decide) (Nat.le_of_ble_eq_true rfl) dX9_isWord_49 (fun v_49 m_49 h_49 => ?_)
            obtain ⟨e1, e2⟩ := h_49; have e1 := e1.symm; have e2 := e2.symm; subst e1; subst e2
            refine j_nrm (nI 114) (by decide) ?_
            refine j_icmp_eq X 57 dX9_isWord_52 (by decide) (fun c_52 => ?_) (fun c_52 => ?_)
            · have hq3 : B (tF B z p + 3) = 114 := (sb_e (h8.2 _ (by omega)).2 (by omega)).mp c_52
              refine j_iinc X dX9_isWord_57 rfl 1 rfl ?_
              refine j_goto X 28 dX9_isWord_60 (by decide) ?_
              refine j_iload_n X dX9_isWord_28 rfl ?_
              refine j_aload_n X dX9_isWord_29 rfl ?_
              refine s_callTi (i := 4) (by omega) X hR (t_length np _ 4 (by omega)) rfl rfl u674 u671 u672 u673 u16 hyJ0_length_8abf5 (by decide) (by decide) (Nat.le_of_ble_eq_true rfl) dX9_isWord_30 (fun v_30 m_30 h_30 => ?_)
              obtain ⟨e1, e2⟩ := h_30; have e1 := e1.symm; have e2 := e2.symm; subst e1; subst e2
              refine j_nrm 4 (by decide) ?_
              refine j_icmp_ge X 63 dX9_isWord_33 (by decide) (fun c_33 => ?_) (fun c_33 => absurd c_33 (by decide))
              refine j_iconst X dX9_isWord_63 1 (by decide) ?_
              refine s_iret X hE hr dX9_isWord_64 (by first | exact jb_nar | rfl) ?_
              exact ⟨(jb_t ((tw_4 hp).mpr ⟨hk2, hlen, hq0, hq1, hq2, hq3⟩)).symm, rfl⟩
            · refine j_iconst X dX9_isWord_55 0 (by decide) ?_
              refine s_iret X hE hr dX9_isWord_56 (by first | exact jb_nar | rfl) ?_
              exact ⟨(jb_f (fun e => c_52 (by rw [((tw_4 hp).mp e).2.2.2.2.2]; decide))).symm, rfl⟩
          · refine j_iconst X dX9_isWord_55 0 (by decide) ?_
            refine s_iret X hE hr dX9_isWord_56 (by first | exact jb_nar | rfl) ?_
            exact ⟨(jb_f (fun e => c_52 (by rw [((tw_4 hp).mp e).2.2.2.2.1]; decide))).symm, rfl⟩
        · refine j_iconst X dX9_isWord_55 0 (by decide) ?_
          refine s_iret X hE hr dX9_isWord_56 (by first | exact jb_nar | rfl) ?_
          exact ⟨(jb_f (fun e => c_52 (by rw [((tw_4 hp).mp e).2.2.2.1]; decide))).symm, rfl⟩
      · refine j_iconst X dX9_isWord_55 0 (by decide) ?_
        refine s_iret X hE hr dX9_isWord_56 (by first | exact jb_nar | rfl) ?_
        exact ⟨(jb_f (fun e => c_52 (by rw [((tw_4 hp).mp e).2.2.1]; decide))).symm, rfl⟩
    · refine j_iconst X dX9_isWord_24 0 (by decide) ?_
      refine s_iret X hE hr dX9_isWord_25 (by first | exact jb_nar | rfl) ?_
      exact ⟨(jb_f (fun e => c_21 (by rw [((tw_4 hp).mp e).2.1]; decide))).symm, rfl⟩
