set_option maxRecDepth 4000 in
set_option maxHeartbeats 2000000 in
theorem la_loop {G : jG} {L : Nat} {xs : Nat → Int32} (X : jOk G RL code 4) (hR : jRm G 60 600000 7302250) (hG : jLaw G L xs) (hL : L ≤ 3072) : ∀ (n i np : Nat) (mem : jMem), i ≤ L + 6 → L + 7 ≤ i + n → Inv np mem → J G RL code 4 (92 + 2 * i) (3000 + 12 * i) 18 (jlv [some (.ref (jB + 20)), some (.ref 0), some (.ref 66), some (.int (nI i))]) [] (jS np) mem := by
  intro n
  induction n with
  | zero => intro i np mem h1 h2; exact absurd h2 (by omega)
  | succ n ih =>
    intro i np mem hi0 hin h
    refine j_iload_n X dL_law_18 rfl ?_
    refine j_aload_n X dL_law_19 rfl ?_
    refine j_scl X hG dL_law_20 ?_
    refine j_bipush X dL_law_21 6 (by decide) ?_
    refine j_isub X dL_law_23 ?_
    have h6 : (nI L - 6).toInt = (L : Int) - 6 := jsubz (by omega) (by decide)
    refine j_icmp_gt X 1650 dL_law_24 (by decide) (fun c9 => ?_) (fun c9 => ?_)
    · refine j_iconst X dL_law_1650 1 (by decide) ?_
      exact j_lend X hG (by omega) (by omega) dL_law_1651
    · have hi : i + 6 ≤ L := by
        rw [Int32.lt_iff_toInt_lt, h6, nI_toInt (by omega)] at c9
        omega
      have kk : ∀ np2 m2, Inv np2 m2 → J G RL code 4 (92 + 2 * i + 2) (3000 + 12 * i + 12) 1644 (jlv [some (.ref (jB + 20)), some (.ref 0), some (.ref 66), some (.int (nI i))]) [] (jS np2) m2 := fun np2 m2 h2 => by
        refine j_iinc X dL_law_1644 rfl 6 rfl ?_
        refine j_goto X 18 dL_law_1647 (by decide) ?_
        refine j_lv [some (.ref (jB + 20)), some (.ref 0), some (.ref 66), some (.int (nI (i + 6)))] ⟨rfl, rfl, rfl, congrArg (fun z => some (Value.int z)) (nI_add i 6), trivial⟩ ?_
        exact j_widen (by omega) (by omega) (ih (i + 6) np2 m2 (by omega) (by omega) h2)
      refine j_aload_n X dL_law_27 rfl ?_
      refine j_iload_n X dL_law_28 rfl ?_
      refine j_sld X hG (vp_in_nI (show i < L by omega) (by omega)) dL_law_29 ?_
      refine j_bipush X dL_law_30 63 (by decide) ?_
      refine j_iand X dL_law_32 ?_
      generalize xs (nI i).toNatClampNeg &&& 63 = x
      by_cases hx : x.toInt < 0 ∨ 37 < x.toInt
      · exact j_tabOut X 1644 dL_law_33 hx (by decide) (j_widen (by omega) (by omega) (kk np mem h))
      · rcases (show x.toInt = 0 ∨ x.toInt = 1 ∨ x.toInt = 2 ∨ x.toInt = 3 ∨ x.toInt = 4 ∨ x.toInt = 5 ∨ x.toInt = 6 ∨ x.toInt = 7 ∨ x.toInt = 8 ∨ x.toInt = 9 ∨ x.toInt = 10 ∨ x.toInt = 11 ∨ x.toInt = 12 ∨ x.toInt = 13 ∨ x.toInt = 14 ∨ x.toInt = 15 ∨ x.toInt = 16 ∨ x.toInt = 17 ∨ x.toInt = 18 ∨ x.toInt = 19 ∨ x.toInt = 20 ∨ x.toInt = 21 ∨ x.toInt = 22 ∨ x.toInt = 23 ∨ x.toInt = 24 ∨ x.toInt = 25 ∨ x.toInt = 26 ∨ x.toInt = 27 ∨ x.toInt = 28 ∨ x.toInt = 29 ∨ x.toInt = 30 ∨ x.toInt = 31 ∨ x.toInt = 32 ∨ x.toInt = 33 ∨ x.toInt = 34 ∨ x.toInt = 35 ∨ x.toInt = 36 ∨ x.toInt = 37 by omega) with hk | hk | hk | hk | hk | hk | hk | hk | hk | hk | hk | hk | hk | hk | hk | hk | hk | hk | hk | hk | hk | hk | hk | hk | hk | hk | hk | hk | hk | hk | hk | hk | hk | hk | hk | hk | hk | hk
        · exact j_tabIn X 200 dL_law_33 (by omega) (by omega) (by rw [hk]; rfl) (by decide) (la_sheet X hR hG (by omega) (by omega) hi hL h kk)
        · exact j_tabIn X 243 dL_law_33 (by omega) (by omega) (by rw [hk]; rfl) (by decide) (la_set X hR hG (by omega) (by omega) hi hL h kk)
        · exact j_tabIn X 286 dL_law_33 (by omega) (by omega) (by rw [hk]; rfl) (by decide) (la_copy X hR hG (by omega) (by omega) hi hL h kk)
        · exact j_tabIn X 349 dL_law_33 (by omega) (by omega) (by rw [hk]; rfl) (by decide) (la_drop X hR hG (by omega) (by omega) hi hL h kk)
        · exact j_tabIn X 372 dL_law_33 (by omega) (by omega) (by rw [hk]; rfl) (by decide) (la_key X hR hG (by omega) (by omega) hi hL h kk)
        · exact j_tabIn X 415 dL_law_33 (by omega) (by omega) (by rw [hk]; rfl) (by decide) (la_keyOn X hR hG (by omega) (by omega) hi hL h kk)
        · exact j_tabIn X 448 dL_law_33 (by omega) (by omega) (by rw [hk]; rfl) (by decide) (la_close X hR hG (by omega) (by omega) hi hL h kk)
        · exact j_tabIn X 491 dL_law_33 (by omega) (by omega) (by rw [hk]; rfl) (by decide) (la_paper X hR hG (by omega) (by omega) hi hL h kk)
        · exact j_tabIn X 524 dL_law_33 (by omega) (by omega) (by rw [hk]; rfl) (by decide) (la_told X hR hG (by omega) (by omega) hi hL h kk)
        · exact j_tabIn X 557 dL_law_33 (by omega) (by omega) (by rw [hk]; rfl) (by decide) (la_show X hR hG (by omega) (by omega) hi hL h kk)
        · exact j_tabIn X 600 dL_law_33 (by omega) (by omega) (by rw [hk]; rfl) (by decide) (la_check X hR hG (by omega) (by omega) hi hL h kk)
        · exact j_tabIn X 663 dL_law_33 (by omega) (by omega) (by rw [hk]; rfl) (by decide) (la_lies X hR hG (by omega) (by omega) hi hL h kk)
        · exact j_tabIn X 696 dL_law_33 (by omega) (by omega) (by rw [hk]; rfl) (by decide) (la_over X hR hG (by omega) (by omega) hi hL h kk)
        · exact j_tabIn X 739 dL_law_33 (by omega) (by omega) (by rw [hk]; rfl) (by decide) (la_isOver X hR hG (by omega) (by omega) hi hL h kk)
        · exact j_tabIn X 792 dL_law_33 (by omega) (by omega) (by rw [hk]; rfl) (by decide) (la_secret X hR hG (by omega) (by omega) hi hL h kk)
        · exact j_tabIn X 825 dL_law_33 (by omega) (by omega) (by rw [hk]; rfl) (by decide) (la_answer X hR hG (by omega) (by omega) hi hL h kk)
        · exact j_tabIn X 878 dL_law_33 (by omega) (by omega) (by rw [hk]; rfl) (by decide) (la_taken X hR hG (by omega) (by omega) hi hL h kk)
        · exact j_tabIn X 931 dL_law_33 (by omega) (by omega) (by rw [hk]; rfl) (by decide) (la_odds X hR hG (by omega) (by omega) hi hL h kk)
        · exact j_tabIn X 974 dL_law_33 (by omega) (by omega) (by rw [hk]; rfl) (by decide) (la_part X hR hG (by omega) (by omega) hi hL h kk)
        · exact j_tabIn X 1017 dL_law_33 (by omega) (by omega) (by rw [hk]; rfl) (by decide) (la_friends X hR hG (by omega) (by omega) hi hL h kk)
        · exact j_tabIn X 1070 dL_law_33 (by omega) (by omega) (by rw [hk]; rfl) (by decide) (la_book X hR hG (by omega) (by omega) hi hL h kk)
        · exact j_tabIn X 1103 dL_law_33 (by omega) (by omega) (by rw [hk]; rfl) (by decide) (la_revoke X hR hG (by omega) (by omega) hi hL h kk)
        · exact j_tabIn X 1136 dL_law_33 (by omega) (by omega) (by rw [hk]; rfl) (by decide) (la_holds X hR hG (by omega) (by omega) hi hL h kk)
        · exact j_tabIn X 1179 dL_law_33 (by omega) (by omega) (by rw [hk]; rfl) (by decide) (la_feed X hR hG (by omega) (by omega) hi hL h kk)
        · exact j_tabIn X 1242 dL_law_33 (by omega) (by omega) (by rw [hk]; rfl) (by decide) (la_doors X hR hG (by omega) (by omega) hi hL h kk)
        · exact j_tabIn X 1255 dL_law_33 (by omega) (by omega) (by rw [hk]; rfl) (by decide) (la_fault X hR hG (by omega) (by omega) hi hL h kk)
        · exact j_tabIn X 1268 dL_law_33 (by omega) (by omega) (by rw [hk]; rfl) (by decide) (la_door X hR hG (by omega) (by omega) hi hL h kk)
        · exact j_tabIn X 1301 dL_law_33 (by omega) (by omega) (by rw [hk]; rfl) (by decide) (la_least X hR hG (by omega) (by omega) hi hL h kk)
        · exact j_tabIn X 1354 dL_law_33 (by omega) (by omega) (by rw [hk]; rfl) (by decide) (la_seen X hR hG (by omega) (by omega) hi hL h kk)
        · exact j_tabIn X 1397 dL_law_33 (by omega) (by omega) (by rw [hk]; rfl) (by decide) (la_together X hR hG (by omega) (by omega) hi hL h kk)
        · exact j_tabIn X 1420 dL_law_33 (by omega) (by omega) (by rw [hk]; rfl) (by decide) (la_queue X hR hG (by omega) (by omega) hi hL h kk)
        · exact j_tabIn X 1473 dL_law_33 (by omega) (by omega) (by rw [hk]; rfl) (by decide) (la_day X hR hG (by omega) (by omega) hi hL h kk)
        · exact j_tabIn X 1496 dL_law_33 (by omega) (by omega) (by rw [hk]; rfl) (by decide) (la_kind X hR hG (by omega) (by omega) hi hL h kk)
        · exact j_tabIn X 1519 dL_law_33 (by omega) (by omega) (by rw [hk]; rfl) (by decide) (la_as X hR hG (by omega) (by omega) hi hL h kk)
        · exact j_tabIn X 1552 dL_law_33 (by omega) (by omega) (by rw [hk]; rfl) (by decide) (la_ask X hR hG (by omega) (by omega) hi hL h kk)
        · exact j_tabIn X 1585 dL_law_33 (by omega) (by omega) (by rw [hk]; rfl) (by decide) (la_trace X hR hG (by omega) (by omega) hi hL h kk)
        · exact j_tabIn X 1608 dL_law_33 (by omega) (by omega) (by rw [hk]; rfl) (by decide) (la_count X hR hG (by omega) (by omega) hi hL h kk)
        · exact j_tabIn X 1631 dL_law_33 (by omega) (by omega) (by rw [hk]; rfl) (by decide) (la_status X hR hG (by omega) (by omega) hi hL h kk)
set_option maxRecDepth 8000 in
set_option maxHeartbeats 4000000 in
theorem la_start {G : jG} {L : Nat} {xs : Nat → Int32} (X : jOk G RL code 4) (hR : jRm G 60 600000 7302250) (hG : jLaw G L xs) (hL : L ≤ 3072) : J G RL code 4 0 0 0 (jlv [some (.ref (jB + 20))]) [] (jK 0 []) (fun _ _ => 0) := by
  refine j_newO X hR 10 (by decide) u21 u22 u1 (Nat.le_of_ble_eq_true rfl) (Nat.le_of_ble_eq_true rfl) rfl rfl rfl (Nat.le_of_ble_eq_true rfl) (jvo_b (by decide) (by decide)) dL_law_0 ?_
  refine j_as (jK 1 []) rfl ?_
  refine j_dup X dL_law_3 rfl ?_
  refine j_callI X hR (i_Pocket (fun _ _ => 0) (fun _ _ => rfl)) rfl u25 u23 u24 rfl u1 hyX10_init (by decide) (by decide) (Nat.le_of_ble_eq_true rfl) ⟨Nat.le_of_ble_eq_true rfl, Nat.le_of_ble_eq_true rfl⟩ dL_law_4 (fun r sh2 mem2 hp => ?_)
  obtain ⟨rfl, rfl, rfl⟩ := hp
  refine ⟨Or.inr (jvo_b (by decide) (by decide)), ?_⟩
  refine j_mem mPk rfl ?_
  refine j_astore_n X dL_law_7 (by decide) ?_
  refine j_lv [some (.ref (jB + 20)), some (.ref 0)] ⟨rfl, rfl, trivial⟩ ?_
  refine j_newO X hR 11 (by decide) u943 u944 u12 (Nat.le_of_ble_eq_true rfl) (Nat.le_of_ble_eq_true rfl) rfl rfl (mPk_o (by decide) (by decide) (by decide) (by decide) (by decide)) (Nat.le_of_ble_eq_true rfl) (jvo_b (by decide) (by decide)) dL_law_8 ?_
  refine j_as (jK 67 [(0, 11, 65), (0, 10, 63), (63, 0, 64), (0, 9, 58), (58, 3, 62), (58, 2, 61), (58, 1, 60), (58, 0, 59), (0, 8, 55), (55, 1, 57), (55, 0, 56), (0, 7, 53), (53, 0, 54), (0, 6, 51), (51, 0, 52), (0, 5, 32), (32, 5, 46), (32, 4, 41), (32, 3, 36), (32, 2, 35), (32, 1, 34), (32, 0, 33), (0, 4, 29), (29, 1, 31), (29, 0, 30), (0, 3, 28), (0, 2, 27), (0, 1, 13), (13, 4, 26), (13, 3, 25), (13, 2, 24), (13, 1, 19), (13, 0, 14), (0, 0, 1), (1, 2, 12), (1, 1, 11), (1, 0, 2)]) rfl ?_
  refine j_dup X dL_law_11 rfl ?_
  refine j_callI X hR (i_Model mPk (fun i hi => mPk_o (by omega) (by omega) (by omega) (by omega) (by omega))) rfl u947 u945 u946 rfl u12 hyX11_init (by decide) (by decide) (Nat.le_of_ble_eq_true rfl) ⟨Nat.le_of_ble_eq_true rfl, Nat.le_of_ble_eq_true rfl⟩ dL_law_12 (fun r sh2 mem2 hp => ?_)
  obtain ⟨rfl, rfl, rfl⟩ := hp
  refine ⟨Or.inr (jvo_b (by decide) (by decide)), ?_⟩
  refine j_mem mSt rfl ?_
  refine j_shape (jS 0) mSt rfl (fun i hi => ⟨rfl, rfl, fun j => jpt_st i j hi, rfl⟩) ?_
  refine j_astore_n X dL_law_15 (by decide) ?_
  refine j_iconst X dL_law_16 0 (by decide) ?_
  refine j_istore_n X dL_law_17 (by decide) ?_
  refine j_lv [some (.ref (jB + 20)), some (.ref 0), some (.ref 66), some (.int (nI 0))] ⟨rfl, rfl, rfl, rfl, trivial⟩ ?_
  exact j_widen (Nat.le_of_ble_eq_true rfl) (Nat.le_of_ble_eq_true rfl) (la_loop X hR hG hL (L + 7) 0 0 mSt (Nat.zero_le _) (by omega) inv_st)
