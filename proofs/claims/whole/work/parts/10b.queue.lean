theorem nCh_all {q : Nat} (h1 : 1 ≤ q) (h7 : q ≤ 7) : nCh q (qP q q 0 []) = true := by
  have h : q = 1 ∨ q = 2 ∨ q = 3 ∨ q = 4 ∨ q = 5 ∨ q = 6 ∨ q = 7 := by omega
  rcases h with rfl | rfl | rfl | rfl | rfl | rfl | rfl
  · exact nCh_1
  · exact nCh_2
  · exact nCh_3
  · exact nCh_4
  · exact nCh_5
  · exact nCh_6
  · exact nCh_7
theorem nCh_at {q : Nat} {a : List Nat} {rest : List (List Nat)} : ∀ pr, nCh q (pr ++ a :: rest) = true → nOk q a = true ∧ ((rest = [] ∧ nN q (nF a) = none) ∨ ∃ b r2 g, rest = b :: r2 ∧ nN q (nF a) = some g ∧ nL q g = b)
  | [], h => by
    rw [List.nil_append] at h
    unfold nCh at h
    rw [Bool.and_eq_true, Bool.and_eq_true] at h
    refine ⟨h.1.1, ?_⟩
    have h3 := h.1.2
    clear h
    revert h3
    generalize nN q (nF a) = o
    cases rest with
    | nil => cases o with
      | none => exact fun _ => Or.inl ⟨rfl, rfl⟩
      | some g => exact fun z => absurd z (by simp)
    | cons b r2 => cases o with
      | none => exact fun z => absurd z (by simp)
      | some g => exact fun z => Or.inr ⟨b, r2, g, rfl, rfl, eq_of_beq z⟩
  | x :: pr, h => by
    rw [List.cons_append] at h
    unfold nCh at h
    rw [Bool.and_eq_true] at h
    exact nCh_at pr h.2
theorem nOk_e {q : Nat} {a : List Nat} (h : nOk q a = true) : a.length = q ∧ ∀ i, i < q → nF a i < q := by
  unfold nOk at h
  rw [Bool.and_eq_true] at h
  have h1 : a.length = q := eq_of_beq h.1
  refine ⟨h1, fun i hi => ?_⟩
  have h2 := List.all_eq_true.mp h.2
  unfold nF
  have hi2 : i < a.length := by omega
  rw [List.getD_eq_getElem?_getD, List.getElem?_eq_getElem hi2, Option.getD_some]
  exact of_decide_eq_true (h2 _ (List.getElem_mem hi2))
theorem nL_F {q : Nat} {a : List Nat} (h : a.length = q) : nL q (nF a) = a := by
  subst h
  unfold nL
  apply List.ext_getElem
  · rw [List.length_map, List.length_range]
  · intro i h1 h2
    rw [List.getElem_map, List.getElem_range]
    unfold nF
    rw [List.getD_eq_getElem?_getD, List.getElem?_eq_getElem h2, Option.getD_some]
theorem nF_L {q i : Nat} {f : Nat → Nat} (h : i < q) : nF (nL q f) i = f i := by
  unfold nF nL
  rw [List.getD_eq_getElem?_getD, List.getElem?_eq_getElem (by rw [List.length_map, List.length_range]; exact h), Option.getD_some, List.getElem_map, List.getElem_range]
theorem nL_s {k : Nat} {f : Nat → Nat} : nL (k + 1) f = nL k f ++ [f k] := by
  unfold nL
  rw [List.range_succ, List.map_append]
  rfl
theorem qP_hd : ∀ q, 1 ≤ q → q ≤ 7 → ∃ rest, qP q q 0 [] = List.range q :: rest := by
  intro q h1 h7
  have h : q = 1 ∨ q = 2 ∨ q = 3 ∨ q = 4 ∨ q = 5 ∨ q = 6 ∨ q = 7 := by omega
  have e : ∀ (L : List (List Nat)) (a : List Nat), L.head? = some a → ∃ rest, L = a :: rest := by
    intro L a hL
    cases L with
    | nil => cases hL
    | cons b t => exact ⟨t, by cases hL; rfl⟩
  rcases h with rfl | rfl | rfl | rfl | rfl | rfl | rfl <;> exact e _ _ (by decide +kernel)
theorem nF_range {q i : Nat} (h : i < q) : nF (List.range q) i = i := by
  unfold nF
  rw [List.getD_eq_getElem?_getD, List.getElem?_eq_getElem (by rw [List.length_range]; exact h), Option.getD_some, List.getElem_range]
theorem jneg1 (x : Int32) : x + (-1) = x - 1 := (Int32.sub_eq_add_neg x 1).symm
theorem jqm2 {q : Nat} (h : 1 ≤ q) : nI q - 2 = nI (q - 1) - 1 := by
  obtain ⟨r, rfl⟩ : ∃ r, q = r + 1 := ⟨q - 1, by omega⟩
  rw [Nat.add_sub_cancel, Int32.sub_eq_add_neg, show (-2 : Int32) = (-1) + (-1) by decide, ← Int32.add_assoc, pk_m1, jneg1]
theorem nJ_stop {f : Nat → Nat} {v : Nat} : ∀ j, ¬ f j < v → nJ f v j = j
  | 0, _ => rfl
  | j + 1, h => if_neg h
theorem nK_some {f : Nat → Nat} {k : Nat} (h : ¬ f (k + 1) < f k) : nK f (k + 1) = some k := if_neg h
theorem nK_next {f : Nat → Nat} {k : Nat} (h : f (k + 1) < f k) : nK f (k + 1) = nK f k := if_pos h
theorem jmaxN {a b : Nat} : max a b = if a < b then b else a := by
  by_cases h : a < b
  · rw [if_pos h]; omega
  · rw [if_neg h]; omega
theorem jsubq {q : Int32} (h : jin q 1 7) : (q - 1).toInt64.toInt = q.toInt - 1 ∧ (q - 1).toInt = q.toInt - 1 := by
  obtain ⟨n, h1, h2, rfl⟩ := jin_n (c := 7) (x := q) ⟨by have := h.1; omega, h.2⟩
  have h3 := jsub1 h2
  rw [nI_toInt h2]
  exact ⟨h3, by rw [Int32.toInt_toInt64] at h3; exact h3⟩
set_option maxRecDepth 4000 in
set_option maxHeartbeats 1000000 in
theorem m_waitsOf (np : Nat) (mem : jMem) (t q : Nat) (c l f : Nat → Nat) (hq : q ≤ 7) (ht : t + 2 * q ≤ 480) (hc : ∀ w, c w ≤ 999) (hl : ∀ w, l w ≤ 99) (hcm : ∀ w, w < q → mem 69 (t + 2 * w) = nI (c w)) (hlm : ∀ w, w < q → mem 69 (t + 2 * w + 1) = nI (l w)) (hf : ∀ i, i < q → mem 89 i = nI (f i) ∧ f i < q) : jPi yX11_waitsOf cX11_waitsOf 8 .int 1 [.ref 66, .int (nI t), .int (nI q)] np mem (fun v c2 => v = nI (qSum c l (nL q f)) ∧ c2 = mem) := by
  refine jPi.of (own := RX11) rfl rfl (Nat.le_of_ble_eq_true rfl) (fun G X hR hr hE => ?_)
  refine j_iconst X dX11_waitsOf_0 0 (by decide) ?_
  refine j_istore_n X dX11_waitsOf_1 (by decide) ?_
  refine j_iconst X dX11_waitsOf_2 0 (by decide) ?_
  refine j_istore X dX11_waitsOf_3 (by decide) ?_
  refine j_iconst X dX11_waitsOf_5 0 (by decide) ?_
  refine j_istore X dX11_waitsOf_6 (by decide) ?_
  have lp8 : ∀ (n : Nat) (k : Nat), k ≤ q → q + 1 ≤ k + n → J G RX11 cX11_waitsOf 8 0 0 8 (jlv [some (.ref 66), some (.int (nI t)), some (.int (nI q)), some (.int (nI (qW c l (nL k f) (0, 0)).1)), some (.int (nI (qW c l (nL k f) (0, 0)).2)), some (.int (nI k))]) [] (jS np) (mem) := by
    intro n
    induction n with
    | zero =>
      intro k hk hn
      exact absurd hn (by omega)
    | succ n ih8 =>
      intro k hk hn
      refine j_iload X dX11_waitsOf_8 rfl ?_
      refine j_iload_n X dX11_waitsOf_10 rfl ?_
      refine j_icmp_ge X 84 dX11_waitsOf_11 (by decide) (fun c_11 => ?_) (fun c_11 => ?_)
      · obtain rfl : k = q := by clear hc hl hcm hlm hf hE hr hR X; (try simp only [lg_cmp_lt, lg_cmp_gt, lg_cmp_le, lg_cmp_ge] at *); (try simp (disch := omega) only [Int64.le_iff_toInt_le, Int64.lt_iff_toInt_lt, Int32.le_iff_toInt_le, Int32.lt_iff_toInt_lt, fa_eq, fa_lit, fa_litL, nI_toInt, pk_lT, Int32.toInt_toInt64, jadd64, jin, jnoneT] at *); omega
        refine j_iload X dX11_waitsOf_84 rfl ?_
        refine s_iret X hE hr dX11_waitsOf_86 rfl ?_
        first | exact ⟨rfl, rfl⟩ | (exfalso; clear hE hr hR X; (try simp only [lg_cmp_lt, lg_cmp_gt, lg_cmp_le, lg_cmp_ge] at *); (try simp (disch := omega) only [Int64.le_iff_toInt_le, Int64.lt_iff_toInt_lt, Int32.le_iff_toInt_le, Int32.lt_iff_toInt_lt, fa_eq, fa_lit, fa_litL, nI_toInt, pk_lT, Int32.toInt_toInt64, jadd64, jin, jnoneT] at *); omega)
      · have hk2 : k < q := by clear hc hl hcm hlm hf hE hr hR X; (try simp only [lg_cmp_lt, lg_cmp_gt, lg_cmp_le, lg_cmp_ge] at *); (try simp (disch := omega) only [Int64.le_iff_toInt_le, Int64.lt_iff_toInt_lt, Int32.le_iff_toInt_le, Int32.lt_iff_toInt_lt, fa_eq, fa_lit, fa_litL, nI_toInt, pk_lT, Int32.toInt_toInt64, jadd64, jin, jnoneT] at *); omega
        obtain ⟨hf1, hf2⟩ := hf k hk2
        have hb := qW_le0 hc hl (p := nL k f) (by unfold nL; rw [List.length_map, List.length_range]; omega)
        have hlen : (nL k f).length = k := by unfold nL; rw [List.length_map, List.length_range]
        rw [hlen] at hb
        obtain ⟨now, sum, hqw⟩ : ∃ now sum, (qW c l (nL k f) (0, 0)) = (now, sum) := ⟨_, _, rfl⟩
        rw [hqw] at hb ⊢
        have hcf := hc (f k)
        have hlf := hl (f k)
        refine j_aload_n X dX11_waitsOf_14 rfl ?_
        refine j_getR X 11 4 (by decide) (by decide) rfl u954 (o66 np) (k66 np) _ (p66_4 np) dX11_waitsOf_15 ?_
        refine j_iload_n X dX11_waitsOf_18 rfl ?_
        refine j_iconst X dX11_waitsOf_19 2 (by decide) ?_
        refine j_aload_n X dX11_waitsOf_20 rfl ?_
        refine j_getR X 11 37 (by decide) (by decide) rfl u987 (o66 np) (k66 np) _ (p66_37 np) dX11_waitsOf_21 ?_
        refine j_iload X dX11_waitsOf_24 rfl ?_
        refine j_nrm _ (by first | (simp only [fa_lit, pk_mul, nI_add]; done) | (simp only [fa_lit, pk_mul, nI_add]; rfl) | rfl) ?_
        refine j_ialdN X (o89 np) (k89 np) (by rw [l89]; omega) (by rw [l89]; decide) (mem 89) rfl dX11_waitsOf_26 ?_
        refine j_nrm (nI (f k)) hf1 ?_
        refine j_imul X dX11_waitsOf_27 ?_
        refine j_iadd X dX11_waitsOf_28 ?_
        refine j_nrm _ (by first | (simp only [fa_lit, pk_mul, nI_add]; done) | (simp only [fa_lit, pk_mul, nI_add]; rfl) | rfl) ?_
        refine j_ialdN X (o69 np) (k69 np) (by rw [l69]; omega) (by rw [l69]; decide) (mem 69) rfl dX11_waitsOf_29 ?_
        refine j_nrm (nI (c (f k))) (hcm _ hf2) ?_
        refine j_istore X dX11_waitsOf_30 (by decide) ?_
        refine j_iload X dX11_waitsOf_32 rfl ?_
        refine j_iload_n X dX11_waitsOf_34 rfl ?_
        refine j_icmp_le X 43 dX11_waitsOf_35 (by decide) (fun c_35 => ?_) (fun c_35 => ?_)
        · refine j_iload_n X dX11_waitsOf_43 rfl ?_
          refine j_nrm (nI (max now (c (f k)))) (by rw [jmaxN]; first | rw [if_pos (by clear hc hl hcm hlm hf hE hr hR X hqw; (try simp only [lg_cmp_lt, lg_cmp_gt, lg_cmp_le, lg_cmp_ge] at *); (try simp (disch := omega) only [Int64.le_iff_toInt_le, Int64.lt_iff_toInt_lt, Int32.le_iff_toInt_le, Int32.lt_iff_toInt_lt, fa_eq, fa_lit, fa_litL, nI_toInt, pk_lT, Int32.toInt_toInt64, jadd64, jin, jnoneT] at *); omega)] | rw [if_neg (by clear hc hl hcm hlm hf hE hr hR X hqw; (try simp only [lg_cmp_lt, lg_cmp_gt, lg_cmp_le, lg_cmp_ge] at *); (try simp (disch := omega) only [Int64.le_iff_toInt_le, Int64.lt_iff_toInt_lt, Int32.le_iff_toInt_le, Int32.lt_iff_toInt_lt, fa_eq, fa_lit, fa_litL, nI_toInt, pk_lT, Int32.toInt_toInt64, jadd64, jin, jnoneT] at *); omega)]) ?_
          refine j_istore X dX11_waitsOf_44 (by decide) ?_
          refine j_iload X dX11_waitsOf_46 rfl ?_
          refine j_iload X dX11_waitsOf_48 rfl ?_
          refine j_iload X dX11_waitsOf_50 rfl ?_
          refine j_isub X dX11_waitsOf_52 ?_
          refine j_nrm (nI (max now (c (f k)) - c (f k))) (pk_sub (by omega)) ?_
          refine j_iadd X dX11_waitsOf_53 ?_
          refine j_nrm (nI (sum + (max now (c (f k)) - c (f k)))) (nI_add _ _) ?_
          refine j_istore X dX11_waitsOf_54 (by decide) ?_
          refine j_iload X dX11_waitsOf_56 rfl ?_
          refine j_aload_n X dX11_waitsOf_58 rfl ?_
          refine j_getR X 11 4 (by decide) (by decide) rfl u954 (o66 np) (k66 np) _ (p66_4 np) dX11_waitsOf_59 ?_
          refine j_iload_n X dX11_waitsOf_62 rfl ?_
          refine j_iconst X dX11_waitsOf_63 2 (by decide) ?_
          refine j_aload_n X dX11_waitsOf_64 rfl ?_
          refine j_getR X 11 37 (by decide) (by decide) rfl u987 (o66 np) (k66 np) _ (p66_37 np) dX11_waitsOf_65 ?_
          refine j_iload X dX11_waitsOf_68 rfl ?_
          refine j_nrm _ (by first | (simp only [fa_lit, pk_mul, nI_add]; done) | (simp only [fa_lit, pk_mul, nI_add]; rfl) | rfl) ?_
          refine j_ialdN X (o89 np) (k89 np) (by rw [l89]; omega) (by rw [l89]; decide) (mem 89) rfl dX11_waitsOf_70 ?_
          refine j_nrm (nI (f k)) hf1 ?_
          refine j_imul X dX11_waitsOf_71 ?_
          refine j_iadd X dX11_waitsOf_72 ?_
          refine j_iconst X dX11_waitsOf_73 1 (by decide) ?_
          refine j_iadd X dX11_waitsOf_74 ?_
          refine j_nrm _ (by first | (simp only [fa_lit, pk_mul, nI_add]; done) | (simp only [fa_lit, pk_mul, nI_add]; rfl) | rfl) ?_
          refine j_ialdN X (o69 np) (k69 np) (by rw [l69]; omega) (by rw [l69]; decide) (mem 69) rfl dX11_waitsOf_75 ?_
          refine j_nrm (nI (l (f k))) (hlm _ hf2) ?_
          refine j_iadd X dX11_waitsOf_76 ?_
          refine j_nrm (nI (max now (c (f k)) + l (f k))) (nI_add _ _) ?_
          refine j_istore_n X dX11_waitsOf_77 (by decide) ?_
          refine j_iinc X dX11_waitsOf_78 rfl 1 rfl ?_
          refine j_goto X 8 dX11_waitsOf_81 (by decide) ?_
          refine j_lv [some (.ref 66), some (.int (nI t)), some (.int (nI q)), some (.int (nI (qW c l (nL (k + 1) f) (0, 0)).1)), some (.int (nI (qW c l (nL (k + 1) f) (0, 0)).2)), some (.int (nI (k + 1)))] ⟨rfl, rfl, rfl, (by rw [nL_s, qW_app, hqw]; rfl), (by rw [nL_s, qW_app, hqw]; rfl), (congrArg (fun z => some (Value.int z)) (nI_1 _)), trivial⟩ ?_
          exact ih8 (k + 1) (by omega) (by omega)
        · refine j_iload X dX11_waitsOf_38 rfl ?_
          refine j_goto X 44 dX11_waitsOf_40 (by decide) ?_
          refine j_nrm (nI (max now (c (f k)))) (by rw [jmaxN]; first | rw [if_pos (by clear hc hl hcm hlm hf hE hr hR X hqw; (try simp only [lg_cmp_lt, lg_cmp_gt, lg_cmp_le, lg_cmp_ge] at *); (try simp (disch := omega) only [Int64.le_iff_toInt_le, Int64.lt_iff_toInt_lt, Int32.le_iff_toInt_le, Int32.lt_iff_toInt_lt, fa_eq, fa_lit, fa_litL, nI_toInt, pk_lT, Int32.toInt_toInt64, jadd64, jin, jnoneT] at *); omega)] | rw [if_neg (by clear hc hl hcm hlm hf hE hr hR X hqw; (try simp only [lg_cmp_lt, lg_cmp_gt, lg_cmp_le, lg_cmp_ge] at *); (try simp (disch := omega) only [Int64.le_iff_toInt_le, Int64.lt_iff_toInt_lt, Int32.le_iff_toInt_le, Int32.lt_iff_toInt_lt, fa_eq, fa_lit, fa_litL, nI_toInt, pk_lT, Int32.toInt_toInt64, jadd64, jin, jnoneT] at *); omega)]) ?_
          refine j_istore X dX11_waitsOf_44 (by decide) ?_
          refine j_iload X dX11_waitsOf_46 rfl ?_
          refine j_iload X dX11_waitsOf_48 rfl ?_
          refine j_iload X dX11_waitsOf_50 rfl ?_
          refine j_isub X dX11_waitsOf_52 ?_
          refine j_nrm (nI (max now (c (f k)) - c (f k))) (pk_sub (by omega)) ?_
          refine j_iadd X dX11_waitsOf_53 ?_
          refine j_nrm (nI (sum + (max now (c (f k)) - c (f k)))) (nI_add _ _) ?_
          refine j_istore X dX11_waitsOf_54 (by decide) ?_
          refine j_iload X dX11_waitsOf_56 rfl ?_
          refine j_aload_n X dX11_waitsOf_58 rfl ?_
          refine j_getR X 11 4 (by decide) (by decide) rfl u954 (o66 np) (k66 np) _ (p66_4 np) dX11_waitsOf_59 ?_
          refine j_iload_n X dX11_waitsOf_62 rfl ?_
          refine j_iconst X dX11_waitsOf_63 2 (by decide) ?_
          refine j_aload_n X dX11_waitsOf_64 rfl ?_
          refine j_getR X 11 37 (by decide) (by decide) rfl u987 (o66 np) (k66 np) _ (p66_37 np) dX11_waitsOf_65 ?_
          refine j_iload X dX11_waitsOf_68 rfl ?_
          refine j_nrm _ (by first | (simp only [fa_lit, pk_mul, nI_add]; done) | (simp only [fa_lit, pk_mul, nI_add]; rfl) | rfl) ?_
          refine j_ialdN X (o89 np) (k89 np) (by rw [l89]; omega) (by rw [l89]; decide) (mem 89) rfl dX11_waitsOf_70 ?_
          refine j_nrm (nI (f k)) hf1 ?_
          refine j_imul X dX11_waitsOf_71 ?_
          refine j_iadd X dX11_waitsOf_72 ?_
          refine j_iconst X dX11_waitsOf_73 1 (by decide) ?_
          refine j_iadd X dX11_waitsOf_74 ?_
          refine j_nrm _ (by first | (simp only [fa_lit, pk_mul, nI_add]; done) | (simp only [fa_lit, pk_mul, nI_add]; rfl) | rfl) ?_
          refine j_ialdN X (o69 np) (k69 np) (by rw [l69]; omega) (by rw [l69]; decide) (mem 69) rfl dX11_waitsOf_75 ?_
          refine j_nrm (nI (l (f k))) (hlm _ hf2) ?_
          refine j_iadd X dX11_waitsOf_76 ?_
          refine j_nrm (nI (max now (c (f k)) + l (f k))) (nI_add _ _) ?_
          refine j_istore_n X dX11_waitsOf_77 (by decide) ?_
          refine j_iinc X dX11_waitsOf_78 rfl 1 rfl ?_
          refine j_goto X 8 dX11_waitsOf_81 (by decide) ?_
          refine j_lv [some (.ref 66), some (.int (nI t)), some (.int (nI q)), some (.int (nI (qW c l (nL (k + 1) f) (0, 0)).1)), some (.int (nI (qW c l (nL (k + 1) f) (0, 0)).2)), some (.int (nI (k + 1)))] ⟨rfl, rfl, rfl, (by rw [nL_s, qW_app, hqw]; rfl), (by rw [nL_s, qW_app, hqw]; rfl), (congrArg (fun z => some (Value.int z)) (nI_1 _)), trivial⟩ ?_
          exact ih8 (k + 1) (by omega) (by omega)
  refine j_lv [some (.ref 66), some (.int (nI t)), some (.int (nI q)), some (.int (nI (qW c l (nL 0 f) (0, 0)).1)), some (.int (nI (qW c l (nL 0 f) (0, 0)).2)), some (.int (nI 0))] ⟨rfl, rfl, rfl, rfl, rfl, rfl, trivial⟩ ?_
  exact lp8 (q + 1) 0 (by omega) (by omega)
set_option maxRecDepth 4000 in
set_option maxHeartbeats 1000000 in
theorem m_nextOrder_no (np : Nat) (mem : jMem) (q : Nat) (f : Nat → Nat) (hq1 : 1 ≤ q) (hq : q ≤ 7) (hf : ∀ i, i < q → mem 89 i = nI (f i)) (hf2 : ∀ i, i < q → f i < q) (hN : nN q f = none) : jPi yX11_nextOrder cX11_nextOrder 7 .boolean 1 [.ref 66, .int (nI q)] np mem (fun v c => v = 0 ∧ c = mem) := by
  refine jPi.of (own := RX11) rfl rfl (Nat.le_of_ble_eq_true rfl) (fun G X hR hr hE => ?_)
  refine j_iload_n X dX11_nextOrder_0 rfl ?_
  refine j_iconst X dX11_nextOrder_1 2 (by decide) ?_
  refine j_isub X dX11_nextOrder_2 ?_
  refine j_nrm (nI (q - 1) - 1) (jqm2 hq1) ?_
  refine j_istore_n X dX11_nextOrder_3 (by decide) ?_
  have lp4 : ∀ (n : Nat) (r : Nat), r + 1 ≤ q → r + 1 ≤ n → nK f r = nK f (q - 1) → J G RX11 cX11_nextOrder 7 0 0 4 (jlv [some (.ref 66), some (.int (nI q)), some (.int (nI r - 1))]) [] (jS np) (mem) := by
    intro n
    induction n with
    | zero =>
      intro r hr1 hn hK
      exact absurd hn (by omega)
    | succ n ih4 =>
      intro r hr1 hn hK
      refine j_iload_n X dX11_nextOrder_4 rfl ?_
      refine j_if_lt X 31 dX11_nextOrder_5 (by decide) (fun c_5 => ?_) (fun c_5 => ?_)
      · refine j_iload_n X dX11_nextOrder_31 rfl ?_
        refine j_if_ge X 37 dX11_nextOrder_32 (by decide) (fun c_32 => ?_) (fun c_32 => ?_)
        · exfalso
          obtain rfl : r = 0 := (jm1_lt (by omega)).mp c_5
          exact absurd c_32 (by decide)
        · refine j_iconst X dX11_nextOrder_35 0 (by decide) ?_
          refine s_iret X hE hr dX11_nextOrder_36 (by first | exact jb_nar | rfl) ?_
          first | exact ⟨rfl, rfl⟩ | (exfalso; clear hE hr hR X; (try simp only [lg_cmp_lt, lg_cmp_gt, lg_cmp_le, lg_cmp_ge] at *); (try simp (disch := omega) only [Int64.le_iff_toInt_le, Int64.lt_iff_toInt_lt, Int32.le_iff_toInt_le, Int32.lt_iff_toInt_lt, fa_eq, fa_lit, fa_litL, nI_toInt, pk_lT, Int32.toInt_toInt64, jadd64, jin, jnoneT] at *); omega)
      · have hr0 : ¬ r = 0 := fun e => c_5 ((jm1_lt (by omega)).mpr e)
        obtain ⟨k, rfl⟩ : ∃ k, r = k + 1 := ⟨r - 1, by omega⟩
        have hfk := hf2 k (by omega)
        have hfk1 := hf2 (k + 1) (by omega)
        refine j_lv [some (.ref 66), some (.int (nI q)), some (.int (nI k))] ⟨rfl, rfl, congrArg (fun z => some (Value.int z)) (nI_pred k), trivial⟩ ?_
        refine j_aload_n X dX11_nextOrder_8 rfl ?_
        refine j_getR X 11 37 (by decide) (by decide) rfl u987 (o66 np) (k66 np) _ (p66_37 np) dX11_nextOrder_9 ?_
        refine j_iload_n X dX11_nextOrder_12 rfl ?_
        refine j_nrm _ (by first | (simp only [fa_lit, pk_mul, nI_add]; done) | (simp only [fa_lit, pk_mul, nI_add]; rfl) | rfl) ?_
        refine j_ialdN X (o89 np) (k89 np) (by rw [l89]; omega) (by rw [l89]; decide) (mem 89) rfl dX11_nextOrder_13 ?_
        refine j_nrm (nI (f k)) (hf k (by omega)) ?_
        refine j_aload_n X dX11_nextOrder_14 rfl ?_
        refine j_getR X 11 37 (by decide) (by decide) rfl u987 (o66 np) (k66 np) _ (p66_37 np) dX11_nextOrder_15 ?_
        refine j_iload_n X dX11_nextOrder_18 rfl ?_
        refine j_iconst X dX11_nextOrder_19 1 (by decide) ?_
        refine j_iadd X dX11_nextOrder_20 ?_
        refine j_nrm _ (by first | (simp only [fa_lit, pk_mul, nI_add]; done) | (simp only [fa_lit, pk_mul, nI_add]; rfl) | rfl) ?_
        refine j_ialdN X (o89 np) (k89 np) (by rw [l89]; omega) (by rw [l89]; decide) (mem 89) rfl dX11_nextOrder_21 ?_
        refine j_nrm (nI (f (k + 1))) (hf (k + 1) (by omega)) ?_
        refine j_icmp_le X 31 dX11_nextOrder_22 (by decide) (fun c_22 => ?_) (fun c_22 => ?_)
        · refine j_iload_n X dX11_nextOrder_31 rfl ?_
          refine j_if_ge X 37 dX11_nextOrder_32 (by decide) (fun c_32 => ?_) (fun c_32 => ?_)
          · exfalso
            have hK2 : nK f (q - 1) = some k := hK.symm.trans (nK_some (fun z => absurd c_22 (Int32.not_le.mpr ((nI_ltI (by omega) (by omega)).mpr z))))
            unfold nN at hN
            rw [hK2] at hN
            cases hN
          · refine j_iconst X dX11_nextOrder_35 0 (by decide) ?_
            refine s_iret X hE hr dX11_nextOrder_36 (by first | exact jb_nar | rfl) ?_
            first | exact ⟨rfl, rfl⟩ | (exfalso; clear hE hr hR X; (try simp only [lg_cmp_lt, lg_cmp_gt, lg_cmp_le, lg_cmp_ge] at *); (try simp (disch := omega) only [Int64.le_iff_toInt_le, Int64.lt_iff_toInt_lt, Int32.le_iff_toInt_le, Int32.lt_iff_toInt_lt, fa_eq, fa_lit, fa_litL, nI_toInt, pk_lT, Int32.toInt_toInt64, jadd64, jin, jnoneT] at *); omega)
        · refine j_iinc X dX11_nextOrder_25 rfl (-1) rfl ?_
          refine j_goto X 4 dX11_nextOrder_28 (by decide) ?_
          refine j_lv [some (.ref 66), some (.int (nI q)), some (.int (nI k - 1))] ⟨rfl, rfl, (congrArg (fun z => some (Value.int z)) (jneg1 _)), trivial⟩ ?_
          exact ih4 k (by omega) (by omega) ((nK_next ((nI_ltI (by omega) (by omega)).mp (Int32.not_le.mp c_22))).symm.trans hK)
  refine j_lv [some (.ref 66), some (.int (nI q)), some (.int (nI (q - 1) - 1))] ⟨rfl, rfl, rfl, trivial⟩ ?_
  exact lp4 q (q - 1) (by omega) (by omega) rfl
set_option maxRecDepth 4000 in
set_option maxHeartbeats 1000000 in
theorem m_nextOrder_yes (np : Nat) (mem : jMem) (q : Nat) (f g : Nat → Nat) (hq1 : 1 ≤ q) (hq : q ≤ 7) (hf : ∀ i, i < q → mem 89 i = nI (f i)) (hf2 : ∀ i, i < q → f i < q) (hN : nN q f = some g) : jPi yX11_nextOrder cX11_nextOrder 7 .boolean 1 [.ref 66, .int (nI q)] np mem (fun v c => v = 1 ∧ jeq [89] mem c ∧ ∀ i, i < q → c 89 i = nI (g i)) := by
  refine jPi.of (own := RX11) rfl rfl (Nat.le_of_ble_eq_true rfl) (fun G X hR hr hE => ?_)
  refine j_iload_n X dX11_nextOrder_0 rfl ?_
  refine j_iconst X dX11_nextOrder_1 2 (by decide) ?_
  refine j_isub X dX11_nextOrder_2 ?_
  refine j_nrm (nI (q - 1) - 1) (jqm2 hq1) ?_
  refine j_istore_n X dX11_nextOrder_3 (by decide) ?_
  have lp4 : ∀ (n : Nat) (r : Nat), r + 1 ≤ q → r + 1 ≤ n → nK f r = nK f (q - 1) → J G RX11 cX11_nextOrder 7 0 0 4 (jlv [some (.ref 66), some (.int (nI q)), some (.int (nI r - 1))]) [] (jS np) (mem) := by
    intro n
    induction n with
    | zero =>
      intro r hr1 hn hK
      exact absurd hn (by omega)
    | succ n ih4 =>
      intro r hr1 hn hK
      refine j_iload_n X dX11_nextOrder_4 rfl ?_
      refine j_if_lt X 31 dX11_nextOrder_5 (by decide) (fun c_5 => ?_) (fun c_5 => ?_)
      · exfalso
        have hK2 : nK f (q - 1) = none := ((jm1_lt (by omega)).mp c_5 ▸ hK).symm
        unfold nN at hN
        rw [hK2] at hN
        cases hN
      · have hr0 : ¬ r = 0 := fun e => c_5 ((jm1_lt (by omega)).mpr e)
        obtain ⟨k, rfl⟩ : ∃ k, r = k + 1 := ⟨r - 1, by omega⟩
        have hfk := hf2 k (by omega)
        have hfk1 := hf2 (k + 1) (by omega)
        refine j_lv [some (.ref 66), some (.int (nI q)), some (.int (nI k))] ⟨rfl, rfl, congrArg (fun z => some (Value.int z)) (nI_pred k), trivial⟩ ?_
        refine j_aload_n X dX11_nextOrder_8 rfl ?_
        refine j_getR X 11 37 (by decide) (by decide) rfl u987 (o66 np) (k66 np) _ (p66_37 np) dX11_nextOrder_9 ?_
        refine j_iload_n X dX11_nextOrder_12 rfl ?_
        refine j_nrm _ (by first | (simp only [fa_lit, pk_mul, nI_add]; done) | (simp only [fa_lit, pk_mul, nI_add]; rfl) | rfl) ?_
        refine j_ialdN X (o89 np) (k89 np) (by rw [l89]; omega) (by rw [l89]; decide) (mem 89) rfl dX11_nextOrder_13 ?_
        refine j_nrm (nI (f k)) (hf k (by omega)) ?_
        refine j_aload_n X dX11_nextOrder_14 rfl ?_
        refine j_getR X 11 37 (by decide) (by decide) rfl u987 (o66 np) (k66 np) _ (p66_37 np) dX11_nextOrder_15 ?_
        refine j_iload_n X dX11_nextOrder_18 rfl ?_
        refine j_iconst X dX11_nextOrder_19 1 (by decide) ?_
        refine j_iadd X dX11_nextOrder_20 ?_
        refine j_nrm _ (by first | (simp only [fa_lit, pk_mul, nI_add]; done) | (simp only [fa_lit, pk_mul, nI_add]; rfl) | rfl) ?_
        refine j_ialdN X (o89 np) (k89 np) (by rw [l89]; omega) (by rw [l89]; decide) (mem 89) rfl dX11_nextOrder_21 ?_
        refine j_nrm (nI (f (k + 1))) (hf (k + 1) (by omega)) ?_
        refine j_icmp_le X 31 dX11_nextOrder_22 (by decide) (fun c_22 => ?_) (fun c_22 => ?_)
        · refine j_iload_n X dX11_nextOrder_31 rfl ?_
          refine j_if_ge X 37 dX11_nextOrder_32 (by decide) (fun c_32 => ?_) (fun c_32 => ?_)
          · have hK2 : nK f (q - 1) = some k := hK.symm.trans (nK_some (fun z => absurd c_22 (Int32.not_le.mpr ((nI_ltI (by omega) (by omega)).mpr z))))
            have hkq : k + 1 < q := by omega
            have hN2 : nR (nW f k (nJ f (f k) (q - 1))) q (k + 1) (q - 1) = g := by
              unfold nN at hN
              rw [hK2] at hN
              exact Option.some.inj hN
            refine j_iload_n X dX11_nextOrder_37 rfl ?_
            refine j_iconst X dX11_nextOrder_38 1 (by decide) ?_
            refine j_isub X dX11_nextOrder_39 ?_
            refine j_nrm (nI (q - 1)) (pk_sub (a := q) (b := 1) (by omega)) ?_
            refine j_istore_n X dX11_nextOrder_40 (by decide) ?_
            have lp41 : ∀ (n : Nat) (j : Nat), k ≤ j → j + 1 ≤ q → j + 1 ≤ n → nJ f (f k) j = nJ f (f k) (q - 1) → J G RX11 cX11_nextOrder 7 0 0 41 (jlv [some (.ref 66), some (.int (nI q)), some (.int (nI k)), some (.int (nI j))]) [] (jS np) (mem) := by
              intro n
              induction n with
              | zero =>
                intro j hkj hjq hnj hJj
                exact absurd hnj (by omega)
              | succ n ih41 =>
                intro j hkj hjq hnj hJj
                refine j_aload_n X dX11_nextOrder_41 rfl ?_
                refine j_getR X 11 37 (by decide) (by decide) rfl u987 (o66 np) (k66 np) _ (p66_37 np) dX11_nextOrder_42 ?_
                refine j_iload_n X dX11_nextOrder_45 rfl ?_
                refine j_nrm _ (by first | (simp only [fa_lit, pk_mul, nI_add]; done) | (simp only [fa_lit, pk_mul, nI_add]; rfl) | rfl) ?_
                refine j_ialdN X (o89 np) (k89 np) (by rw [l89]; omega) (by rw [l89]; decide) (mem 89) rfl dX11_nextOrder_46 ?_
                refine j_nrm (nI (f j)) (hf j (by omega)) ?_
                refine j_aload_n X dX11_nextOrder_47 rfl ?_
                refine j_getR X 11 37 (by decide) (by decide) rfl u987 (o66 np) (k66 np) _ (p66_37 np) dX11_nextOrder_48 ?_
                refine j_iload_n X dX11_nextOrder_51 rfl ?_
                refine j_nrm _ (by first | (simp only [fa_lit, pk_mul, nI_add]; done) | (simp only [fa_lit, pk_mul, nI_add]; rfl) | rfl) ?_
                refine j_ialdN X (o89 np) (k89 np) (by rw [l89]; omega) (by rw [l89]; decide) (mem 89) rfl dX11_nextOrder_52 ?_
                refine j_nrm (nI (f k)) (hf k (by omega)) ?_
                have hfj := hf2 j (by omega)
                refine j_icmp_ge X 62 dX11_nextOrder_53 (by decide) (fun c_53 => ?_) (fun c_53 => ?_)
                · have hJ2 : nJ f (f k) (q - 1) = j := by
                    rw [← hJj]
                    refine nJ_stop j (fun z => ?_)
                    exact absurd ((nI_leI (by omega) (by omega)).mp c_53) (by omega)
                  rw [hJ2] at hN2
                  refine j_aload_n X dX11_nextOrder_62 rfl ?_
                  refine j_getR X 11 37 (by decide) (by decide) rfl u987 (o66 np) (k66 np) _ (p66_37 np) dX11_nextOrder_63 ?_
                  refine j_iload_n X dX11_nextOrder_66 rfl ?_
                  refine j_nrm _ (by first | (simp only [fa_lit, pk_mul, nI_add]; done) | (simp only [fa_lit, pk_mul, nI_add]; rfl) | rfl) ?_
                  refine j_ialdN X (o89 np) (k89 np) (by rw [l89]; omega) (by rw [l89]; decide) (mem 89) rfl dX11_nextOrder_67 ?_
                  refine j_nrm (nI (f k)) (hf k (by omega)) ?_
                  refine j_istore X dX11_nextOrder_68 (by decide) ?_
                  refine j_aload_n X dX11_nextOrder_70 rfl ?_
                  refine j_getR X 11 37 (by decide) (by decide) rfl u987 (o66 np) (k66 np) _ (p66_37 np) dX11_nextOrder_71 ?_
                  refine j_iload_n X dX11_nextOrder_74 rfl ?_
                  refine j_aload_n X dX11_nextOrder_75 rfl ?_
                  refine j_getR X 11 37 (by decide) (by decide) rfl u987 (o66 np) (k66 np) _ (p66_37 np) dX11_nextOrder_76 ?_
                  refine j_iload_n X dX11_nextOrder_79 rfl ?_
                  refine j_nrm _ (by first | (simp only [fa_lit, pk_mul, nI_add]; done) | (simp only [fa_lit, pk_mul, nI_add]; rfl) | rfl) ?_
                  refine j_ialdN X (o89 np) (k89 np) (by rw [l89]; omega) (by rw [l89]; decide) (mem 89) rfl dX11_nextOrder_80 ?_
                  refine j_nrm (nI (f j)) (hf j (by omega)) ?_
                  refine j_nrm2 _ (by first | (simp only [fa_lit, pk_mul, nI_add]; done) | (simp only [fa_lit, pk_mul, nI_add]; rfl) | rfl) ?_
                  refine j_iastN X (o89 np) (k89 np) (by rw [l89]; omega) (by rw [l89]; decide) dX11_nextOrder_81 ?_
                  refine j_aload_n X dX11_nextOrder_82 rfl ?_
                  refine j_getR X 11 37 (by decide) (by decide) rfl u987 (o66 np) (k66 np) _ (p66_37 np) dX11_nextOrder_83 ?_
                  refine j_iload_n X dX11_nextOrder_86 rfl ?_
                  refine j_iload X dX11_nextOrder_87 rfl ?_
                  refine j_nrm2 _ (by first | (simp only [fa_lit, pk_mul, nI_add]; done) | (simp only [fa_lit, pk_mul, nI_add]; rfl) | rfl) ?_
                  refine j_iastN X (o89 np) (k89 np) (by rw [l89]; omega) (by rw [l89]; decide) dX11_nextOrder_89 ?_
                  refine j_iload_n X dX11_nextOrder_90 rfl ?_
                  refine j_iconst X dX11_nextOrder_91 1 (by decide) ?_
                  refine j_iadd X dX11_nextOrder_92 ?_
                  refine j_nrm (nI (k + 1)) (nI_1 k) ?_
                  refine j_istore X dX11_nextOrder_93 (by decide) ?_
                  refine j_iload_n X dX11_nextOrder_95 rfl ?_
                  refine j_iconst X dX11_nextOrder_96 1 (by decide) ?_
                  refine j_isub X dX11_nextOrder_97 ?_
                  refine j_nrm (nI (q - 1)) (pk_sub (a := q) (b := 1) (by omega)) ?_
                  refine j_istore X dX11_nextOrder_98 (by decide) ?_
                  have lp100 : ∀ (n : Nat) (t a b : Nat) (h : Nat → Nat) (m2 : jMem), a ≤ q → b < q → b ≤ a + t → t + 1 ≤ n → jeq [89] mem m2 → (∀ i, i < q → m2 89 i = nI (h i)) → nR h t a b = g → J G RX11 cX11_nextOrder 7 0 0 100 (jlv [some (.ref 66), some (.int (nI q)), some (.int (nI k)), some (.int (nI j)), none, some (.int (nI a)), some (.int (nI b))]) [] (jS np) (m2) := by
                    intro n
                    induction n with
                    | zero =>
                      intro t a b h m2 haq hb hbt hnt hJ hh hG
                      exact absurd hnt (by omega)
                    | succ n ih100 =>
                      intro t a b h m2 haq hb hbt hnt hJ hh hG
                      refine j_iload X dX11_nextOrder_100 rfl ?_
                      refine j_iload X dX11_nextOrder_102 rfl ?_
                      refine j_icmp_ge X 148 dX11_nextOrder_104 (by decide) (fun c_104 => ?_) (fun c_104 => ?_)
                      · have hab : ¬ a < b := fun z => absurd c_104 (nI_ge z (by omega))
                        have hG3 : h = g := by
                          cases t with
                          | zero => exact hG
                          | succ t2 => exact (show nR h (t2 + 1) a b = _ from if_neg hab).symm.trans hG
                        refine j_iconst X dX11_nextOrder_148 1 (by decide) ?_
                        refine s_iret X hE hr dX11_nextOrder_149 (by first | exact jb_nar | rfl) ?_
                        exact ⟨rfl, hJ, fun i hi => by rw [← hG3]; exact hh i hi⟩
                      · have hab : a < b := by
                          rcases Nat.lt_or_ge a b with z | z
                          · exact z
                          · exact absurd ((nI_leI (by omega) (by omega)).mpr z) c_104
                        obtain ⟨t2, rfl⟩ : ∃ t2, t = t2 + 1 := ⟨t - 1, by omega⟩
                        obtain ⟨b2, rfl⟩ : ∃ b2, b = b2 + 1 := ⟨b - 1, by omega⟩
                        have hG2 : nR (nW h a (b2 + 1)) t2 (a + 1) b2 = g := (show nR h (t2 + 1) a (b2 + 1) = _ from if_pos hab).symm.trans hG
                        refine j_aload_n X dX11_nextOrder_107 rfl ?_
                        refine j_getR X 11 37 (by decide) (by decide) rfl u987 (o66 np) (k66 np) _ (p66_37 np) dX11_nextOrder_108 ?_
                        refine j_iload X dX11_nextOrder_111 rfl ?_
                        refine j_nrm _ (by first | (simp only [fa_lit, pk_mul, nI_add]; done) | (simp only [fa_lit, pk_mul, nI_add]; rfl) | rfl) ?_
                        refine j_ialdN X (o89 np) (k89 np) (by rw [l89]; omega) (by rw [l89]; decide) (m2 89) rfl dX11_nextOrder_113 ?_
                        refine j_nrm (nI (h a)) (hh a (by omega)) ?_
                        refine j_istore X dX11_nextOrder_114 (by decide) ?_
                        refine j_aload_n X dX11_nextOrder_116 rfl ?_
                        refine j_getR X 11 37 (by decide) (by decide) rfl u987 (o66 np) (k66 np) _ (p66_37 np) dX11_nextOrder_117 ?_
                        refine j_iload X dX11_nextOrder_120 rfl ?_
                        refine j_aload_n X dX11_nextOrder_122 rfl ?_
                        refine j_getR X 11 37 (by decide) (by decide) rfl u987 (o66 np) (k66 np) _ (p66_37 np) dX11_nextOrder_123 ?_
                        refine j_iload X dX11_nextOrder_126 rfl ?_
                        refine j_nrm _ (by first | (simp only [fa_lit, pk_mul, nI_add]; done) | (simp only [fa_lit, pk_mul, nI_add]; rfl) | rfl) ?_
                        refine j_ialdN X (o89 np) (k89 np) (by rw [l89]; omega) (by rw [l89]; decide) (m2 89) rfl dX11_nextOrder_128 ?_
                        refine j_nrm (nI (h (b2 + 1))) (hh (b2 + 1) (by omega)) ?_
                        refine j_nrm2 _ (by first | (simp only [fa_lit, pk_mul, nI_add]; done) | (simp only [fa_lit, pk_mul, nI_add]; rfl) | rfl) ?_
                        refine j_iastN X (o89 np) (k89 np) (by rw [l89]; omega) (by rw [l89]; decide) dX11_nextOrder_129 ?_
                        refine j_aload_n X dX11_nextOrder_130 rfl ?_
                        refine j_getR X 11 37 (by decide) (by decide) rfl u987 (o66 np) (k66 np) _ (p66_37 np) dX11_nextOrder_131 ?_
                        refine j_iload X dX11_nextOrder_134 rfl ?_
                        refine j_iload X dX11_nextOrder_136 rfl ?_
                        refine j_nrm2 _ (by first | (simp only [fa_lit, pk_mul, nI_add]; done) | (simp only [fa_lit, pk_mul, nI_add]; rfl) | rfl) ?_
                        refine j_iastN X (o89 np) (k89 np) (by rw [l89]; omega) (by rw [l89]; decide) dX11_nextOrder_138 ?_
                        refine j_iinc X dX11_nextOrder_139 rfl 1 rfl ?_
                        refine j_iinc X dX11_nextOrder_142 rfl (-1) rfl ?_
                        refine j_goto X 100 dX11_nextOrder_145 (by decide) ?_
                        refine j_lv [some (.ref 66), some (.int (nI q)), some (.int (nI k)), some (.int (nI j)), none, some (.int (nI (a + 1))), some (.int (nI b2))] ⟨rfl, rfl, rfl, rfl, (congrArg (fun z => some (Value.int z)) (nI_1 _)), (congrArg (fun z => some (Value.int z)) (pk_m1 _)), trivial⟩ ?_
                        exact ih100 t2 (a + 1) b2 _ _ (by omega) (by omega) (by omega) (by omega) (jeq.up (jeq.up hJ (by decide)) (by decide)) (fun i hi => by
                                by_cases e2 : i = (b2 + 1)
                                · subst e2; simp [jup, va_up, nW]
                                · by_cases e1 : i = a
                                  · subst e1; simp [jup, va_up, nW, e2]
                                  · have := hh i hi
                                    simp only [jup, va_up, nW, e1, e2, if_true, if_false]
                                    exact this) hG2
                  refine j_lv [some (.ref 66), some (.int (nI q)), some (.int (nI k)), some (.int (nI j)), none, some (.int (nI (k + 1))), some (.int (nI (q - 1)))] ⟨rfl, rfl, rfl, rfl, rfl, rfl, trivial⟩ ?_
                  exact lp100 (q + 1) q (k + 1) (q - 1) _ _ (by omega) (by omega) (by omega) (by omega) (jeq.up (jeq.up jeq.rf (by decide)) (by decide)) (fun i hi => by
        by_cases e2 : i = j
        · subst e2; simp [jup, va_up, nW]
        · by_cases e1 : i = k
          · subst e1; simp [jup, va_up, nW, e2]
          · have := hf i hi
            simp only [jup, va_up, nW, e1, e2, if_true, if_false]
            exact this) hN2
                · have hlt : f j < f k := by
                    rcases Nat.lt_or_ge (f j) (f k) with z | z
                    · exact z
                    · exact absurd ((nI_leI (by omega) (by omega)).mpr z) c_53
                  have hjk : ¬ j = k := fun e => by rw [e] at hlt; omega
                  obtain ⟨i, rfl⟩ : ∃ i, j = i + 1 := ⟨j - 1, by omega⟩
                  refine j_iinc X dX11_nextOrder_56 rfl (-1) rfl ?_
                  refine j_goto X 41 dX11_nextOrder_59 (by decide) ?_
                  refine j_lv [some (.ref 66), some (.int (nI q)), some (.int (nI k)), some (.int (nI i))] ⟨rfl, rfl, rfl, (congrArg (fun z => some (Value.int z)) (pk_m1 _)), trivial⟩ ?_
                  exact ih41 i (by omega) (by omega) (by omega) ((show nJ f (f k) (i + 1) = _ from if_pos hlt).symm.trans hJj)
            refine j_lv [some (.ref 66), some (.int (nI q)), some (.int (nI k)), some (.int (nI (q - 1)))] ⟨rfl, rfl, rfl, rfl, trivial⟩ ?_
            exact lp41 q (q - 1) (by omega) (by omega) (by omega) rfl
          · exfalso
            exact c_32 (nI_pos' (by omega))
        · refine j_iinc X dX11_nextOrder_25 rfl (-1) rfl ?_
          refine j_goto X 4 dX11_nextOrder_28 (by decide) ?_
          refine j_lv [some (.ref 66), some (.int (nI q)), some (.int (nI k - 1))] ⟨rfl, rfl, (congrArg (fun z => some (Value.int z)) (jneg1 _)), trivial⟩ ?_
          exact ih4 k (by omega) (by omega) ((nK_next ((nI_ltI (by omega) (by omega)).mp (Int32.not_le.mp c_22))).symm.trans hK)
  refine j_lv [some (.ref 66), some (.int (nI q)), some (.int (nI (q - 1) - 1))] ⟨rfl, rfl, rfl, trivial⟩ ?_
  exact lp4 q (q - 1) (by omega) (by omega) rfl
