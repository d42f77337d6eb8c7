theorem jfill_s0 {mem : jMem} {o k : Nat} {v : Int32} : jup (jfill mem o 0 (0 + k) v) o k v = jfill mem o 0 (0 + (k + 1)) v := by
  rw [Nat.zero_add, Nat.zero_add]
  exact jfill_s (Nat.zero_le _)
set_option maxRecDepth 8000 in
set_option maxHeartbeats 8000000 in
theorem i_Model (mem : jMem) (hm : ∀ i, 67 ≤ i → mem i = fun _ => 0) : jCt yX11_init cX11_init 2 none 1 25 1198 [.ref 66] (jK 67 [(0, 11, 65), (0, 10, 63), (63, 0, 64), (0, 9, 58), (58, 3, 62), (58, 2, 61), (58, 1, 60), (58, 0, 59), (0, 8, 55), (55, 1, 57), (55, 0, 56), (0, 7, 53), (53, 0, 54), (0, 6, 51), (51, 0, 52), (0, 5, 32), (32, 5, 46), (32, 4, 41), (32, 3, 36), (32, 2, 35), (32, 1, 34), (32, 0, 33), (0, 4, 29), (29, 1, 31), (29, 0, 30), (0, 3, 28), (0, 2, 27), (0, 1, 13), (13, 4, 26), (13, 3, 25), (13, 2, 24), (13, 1, 19), (13, 0, 14), (0, 0, 1), (1, 2, 12), (1, 1, 11), (1, 0, 2)]) mem (fun a b c => a = none ∧ b = (jK 92 [(66, 40, 91), (66, 38, 90), (66, 37, 89), (66, 36, 88), (66, 35, 87), (66, 33, 86), (66, 21, 85), (66, 20, 84), (66, 19, 83), (66, 18, 82), (66, 17, 81), (66, 16, 80), (66, 15, 79), (66, 14, 78), (66, 13, 77), (66, 12, 76), (66, 11, 75), (66, 10, 74), (66, 8, 73), (66, 7, 72), (66, 6, 71), (66, 5, 70), (66, 4, 69), (66, 3, 68), (66, 2, 67), (0, 11, 65), (0, 10, 63), (63, 0, 64), (0, 9, 58), (58, 3, 62), (58, 2, 61), (58, 1, 60), (58, 0, 59), (0, 8, 55), (55, 1, 57), (55, 0, 56), (0, 7, 53), (53, 0, 54), (0, 6, 51), (51, 0, 52), (0, 5, 32), (32, 5, 46), (32, 4, 41), (32, 3, 36), (32, 2, 35), (32, 1, 34), (32, 0, 33), (0, 4, 29), (29, 1, 31), (29, 0, 30), (0, 3, 28), (0, 2, 27), (0, 1, 13), (13, 4, 26), (13, 3, 25), (13, 2, 24), (13, 1, 19), (13, 0, 14), (0, 0, 1), (1, 2, 12), (1, 1, 11), (1, 0, 2)]) ∧ c = (jfill (jfill (jup (jup (jup (jup (jup (jup (jup (jup (jup (jup (jup (jup (jup (jup (jup (jup (jup (jup mem 67 0 (-1)) 67 1 (-1)) 67 2 (-1)) 67 3 (-1)) 67 4 (-1)) 67 5 (-1)) 67 6 (-1)) 67 7 (-1)) 78 0 2) 78 1 3) 78 2 4) 78 3 5) 78 4 6) 78 5 7) 80 0 15) 80 1 15) 80 2 15) 80 3 15) 75 0 (0 + 12) (-1000000)) 73 0 (0 + 8) (-1000000))) := by
  refine jCt.of rfl (Nat.le_of_ble_eq_true rfl) (fun G X hR hr hin hE => ?_)
  have hi := hin rfl
  refine j_lv [some (.ref 66)] ⟨rfl, trivial⟩ ?_
  refine j_aload_n X dX11_init_0 rfl ?_
  refine j_objI X hR (by decide) u948 (Nat.le_of_ble_eq_true rfl) dX11_init_1 ?_
  refine j_aload_n X dX11_init_4 rfl ?_
  refine j_bipush X dX11_init_5 8 (by decide) ?_
  refine j_nrm (nI 8) rfl ?_
  refine j_newI X hR (Nat.le_of_ble_eq_true rfl) (Nat.le_of_ble_eq_true rfl) rfl rfl rfl (by exact hm 67 (by decide)) (Nat.le_of_ble_eq_true rfl) (by decide) (jvo_b (by decide) (by decide)) dX11_init_7 ?_
  refine j_as (jK 68 [(0, 11, 65), (0, 10, 63), (63, 0, 64), (0, 9, 58), (58, 3, 62), (58, 2, 61), (58, 1, 60), (58, 0, 59), (0, 8, 55), (55, 1, 57), (55, 0, 56), (0, 7, 53), (53, 0, 54), (0, 6, 51), (51, 0, 52), (0, 5, 32), (32, 5, 46), (32, 4, 41), (32, 3, 36), (32, 2, 35), (32, 1, 34), (32, 0, 33), (0, 4, 29), (29, 1, 31), (29, 0, 30), (0, 3, 28), (0, 2, 27), (0, 1, 13), (13, 4, 26), (13, 3, 25), (13, 2, 24), (13, 1, 19), (13, 0, 14), (0, 0, 1), (1, 2, 12), (1, 1, 11), (1, 0, 2)]) rfl ?_
  refine j_dup X dX11_init_9 rfl ?_
  refine j_iconst X dX11_init_10 0 (by decide) ?_
  refine j_iconst X dX11_init_11 (-1) (by decide) ?_
  refine j_nrm2 (nI 0) rfl ?_
  refine j_iastN X (by decide) rfl (by decide) (by decide) dX11_init_12 ?_
  refine j_dup X dX11_init_13 rfl ?_
  refine j_iconst X dX11_init_14 1 (by decide) ?_
  refine j_iconst X dX11_init_15 (-1) (by decide) ?_
  refine j_nrm2 (nI 1) rfl ?_
  refine j_iastN X (by decide) rfl (by decide) (by decide) dX11_init_16 ?_
  refine j_dup X dX11_init_17 rfl ?_
  refine j_iconst X dX11_init_18 2 (by decide) ?_
  refine j_iconst X dX11_init_19 (-1) (by decide) ?_
  refine j_nrm2 (nI 2) rfl ?_
  refine j_iastN X (by decide) rfl (by decide) (by decide) dX11_init_20 ?_
  refine j_dup X dX11_init_21 rfl ?_
  refine j_iconst X dX11_init_22 3 (by decide) ?_
  refine j_iconst X dX11_init_23 (-1) (by decide) ?_
  refine j_nrm2 (nI 3) rfl ?_
  refine j_iastN X (by decide) rfl (by decide) (by decide) dX11_init_24 ?_
  refine j_dup X dX11_init_25 rfl ?_
  refine j_iconst X dX11_init_26 4 (by decide) ?_
  refine j_iconst X dX11_init_27 (-1) (by decide) ?_
  refine j_nrm2 (nI 4) rfl ?_
  refine j_iastN X (by decide) rfl (by decide) (by decide) dX11_init_28 ?_
  refine j_dup X dX11_init_29 rfl ?_
  refine j_iconst X dX11_init_30 5 (by decide) ?_
  refine j_iconst X dX11_init_31 (-1) (by decide) ?_
  refine j_nrm2 (nI 5) rfl ?_
  refine j_iastN X (by decide) rfl (by decide) (by decide) dX11_init_32 ?_
  refine j_dup X dX11_init_33 rfl ?_
  refine j_bipush X dX11_init_34 6 (by decide) ?_
  refine j_iconst X dX11_init_36 (-1) (by decide) ?_
  refine j_nrm2 (nI 6) rfl ?_
  refine j_iastN X (by decide) rfl (by decide) (by decide) dX11_init_37 ?_
  refine j_dup X dX11_init_38 rfl ?_
  refine j_bipush X dX11_init_39 7 (by decide) ?_
  refine j_iconst X dX11_init_41 (-1) (by decide) ?_
  refine j_nrm2 (nI 7) rfl ?_
  refine j_iastN X (by decide) rfl (by decide) (by decide) dX11_init_42 ?_
  refine j_putRF X 11 2 (by decide) (by decide) hi rfl 67 (by decide) rfl rfl rfl rfl u952 (by decide) rfl dX11_init_43 ?_
  refine j_as (jK 68 [(66, 2, 67), (0, 11, 65), (0, 10, 63), (63, 0, 64), (0, 9, 58), (58, 3, 62), (58, 2, 61), (58, 1, 60), (58, 0, 59), (0, 8, 55), (55, 1, 57), (55, 0, 56), (0, 7, 53), (53, 0, 54), (0, 6, 51), (51, 0, 52), (0, 5, 32), (32, 5, 46), (32, 4, 41), (32, 3, 36), (32, 2, 35), (32, 1, 34), (32, 0, 33), (0, 4, 29), (29, 1, 31), (29, 0, 30), (0, 3, 28), (0, 2, 27), (0, 1, 13), (13, 4, 26), (13, 3, 25), (13, 2, 24), (13, 1, 19), (13, 0, 14), (0, 0, 1), (1, 2, 12), (1, 1, 11), (1, 0, 2)]) rfl ?_
  refine j_aload_n X dX11_init_46 rfl ?_
  refine j_bipush X dX11_init_47 8 (by decide) ?_
  refine j_nrm (nI 8) rfl ?_
  refine j_newI X hR (Nat.le_of_ble_eq_true rfl) (Nat.le_of_ble_eq_true rfl) rfl rfl rfl (by rw [jup_o (by decide), jup_o (by decide), jup_o (by decide), jup_o (by decide), jup_o (by decide), jup_o (by decide), jup_o (by decide), jup_o (by decide)]; exact hm 68 (by decide)) (Nat.le_of_ble_eq_true rfl) (by decide) (jvo_b (by decide) (by decide)) dX11_init_49 ?_
  refine j_as (jK 69 [(66, 2, 67), (0, 11, 65), (0, 10, 63), (63, 0, 64), (0, 9, 58), (58, 3, 62), (58, 2, 61), (58, 1, 60), (58, 0, 59), (0, 8, 55), (55, 1, 57), (55, 0, 56), (0, 7, 53), (53, 0, 54), (0, 6, 51), (51, 0, 52), (0, 5, 32), (32, 5, 46), (32, 4, 41), (32, 3, 36), (32, 2, 35), (32, 1, 34), (32, 0, 33), (0, 4, 29), (29, 1, 31), (29, 0, 30), (0, 3, 28), (0, 2, 27), (0, 1, 13), (13, 4, 26), (13, 3, 25), (13, 2, 24), (13, 1, 19), (13, 0, 14), (0, 0, 1), (1, 2, 12), (1, 1, 11), (1, 0, 2)]) rfl ?_
  refine j_putRF X 11 3 (by decide) (by decide) hi rfl 68 (by decide) rfl rfl rfl rfl u953 (by decide) rfl dX11_init_51 ?_
  refine j_as (jK 69 [(66, 3, 68), (66, 2, 67), (0, 11, 65), (0, 10, 63), (63, 0, 64), (0, 9, 58), (58, 3, 62), (58, 2, 61), (58, 1, 60), (58, 0, 59), (0, 8, 55), (55, 1, 57), (55, 0, 56), (0, 7, 53), (53, 0, 54), (0, 6, 51), (51, 0, 52), (0, 5, 32), (32, 5, 46), (32, 4, 41), (32, 3, 36), (32, 2, 35), (32, 1, 34), (32, 0, 33), (0, 4, 29), (29, 1, 31), (29, 0, 30), (0, 3, 28), (0, 2, 27), (0, 1, 13), (13, 4, 26), (13, 3, 25), (13, 2, 24), (13, 1, 19), (13, 0, 14), (0, 0, 1), (1, 2, 12), (1, 1, 11), (1, 0, 2)]) rfl ?_
  refine j_aload_n X dX11_init_54 rfl ?_
  refine j_sipush X dX11_init_55 480 (by decide) ?_
  refine j_nrm (nI 480) rfl ?_
  refine j_newI X hR (Nat.le_of_ble_eq_true rfl) (Nat.le_of_ble_eq_true rfl) rfl rfl rfl (by rw [jup_o (by decide), jup_o (by decide), jup_o (by decide), jup_o (by decide), jup_o (by decide), jup_o (by decide), jup_o (by decide), jup_o (by decide)]; exact hm 69 (by decide)) (Nat.le_of_ble_eq_true rfl) (by decide) (jvo_b (by decide) (by decide)) dX11_init_58 ?_
  refine j_as (jK 70 [(66, 3, 68), (66, 2, 67), (0, 11, 65), (0, 10, 63), (63, 0, 64), (0, 9, 58), (58, 3, 62), (58, 2, 61), (58, 1, 60), (58, 0, 59), (0, 8, 55), (55, 1, 57), (55, 0, 56), (0, 7, 53), (53, 0, 54), (0, 6, 51), (51, 0, 52), (0, 5, 32), (32, 5, 46), (32, 4, 41), (32, 3, 36), (32, 2, 35), (32, 1, 34), (32, 0, 33), (0, 4, 29), (29, 1, 31), (29, 0, 30), (0, 3, 28), (0, 2, 27), (0, 1, 13), (13, 4, 26), (13, 3, 25), (13, 2, 24), (13, 1, 19), (13, 0, 14), (0, 0, 1), (1, 2, 12), (1, 1, 11), (1, 0, 2)]) rfl ?_
  refine j_putRF X 11 4 (by decide) (by decide) hi rfl 69 (by decide) rfl rfl rfl rfl u954 (by decide) rfl dX11_init_60 ?_
  refine j_as (jK 70 [(66, 4, 69), (66, 3, 68), (66, 2, 67), (0, 11, 65), (0, 10, 63), (63, 0, 64), (0, 9, 58), (58, 3, 62), (58, 2, 61), (58, 1, 60), (58, 0, 59), (0, 8, 55), (55, 1, 57), (55, 0, 56), (0, 7, 53), (53, 0, 54), (0, 6, 51), (51, 0, 52), (0, 5, 32), (32, 5, 46), (32, 4, 41), (32, 3, 36), (32, 2, 35), (32, 1, 34), (32, 0, 33), (0, 4, 29), (29, 1, 31), (29, 0, 30), (0, 3, 28), (0, 2, 27), (0, 1, 13), (13, 4, 26), (13, 3, 25), (13, 2, 24), (13, 1, 19), (13, 0, 14), (0, 0, 1), (1, 2, 12), (1, 1, 11), (1, 0, 2)]) rfl ?_
  refine j_aload_n X dX11_init_63 rfl ?_
  refine j_iconst X dX11_init_64 4 (by decide) ?_
  refine j_nrm (nI 4) rfl ?_
  refine j_newI X hR (Nat.le_of_ble_eq_true rfl) (Nat.le_of_ble_eq_true rfl) rfl rfl rfl (by rw [jup_o (by decide), jup_o (by decide), jup_o (by decide), jup_o (by decide), jup_o (by decide), jup_o (by decide), jup_o (by decide), jup_o (by decide)]; exact hm 70 (by decide)) (Nat.le_of_ble_eq_true rfl) (by decide) (jvo_b (by decide) (by decide)) dX11_init_65 ?_
  refine j_as (jK 71 [(66, 4, 69), (66, 3, 68), (66, 2, 67), (0, 11, 65), (0, 10, 63), (63, 0, 64), (0, 9, 58), (58, 3, 62), (58, 2, 61), (58, 1, 60), (58, 0, 59), (0, 8, 55), (55, 1, 57), (55, 0, 56), (0, 7, 53), (53, 0, 54), (0, 6, 51), (51, 0, 52), (0, 5, 32), (32, 5, 46), (32, 4, 41), (32, 3, 36), (32, 2, 35), (32, 1, 34), (32, 0, 33), (0, 4, 29), (29, 1, 31), (29, 0, 30), (0, 3, 28), (0, 2, 27), (0, 1, 13), (13, 4, 26), (13, 3, 25), (13, 2, 24), (13, 1, 19), (13, 0, 14), (0, 0, 1), (1, 2, 12), (1, 1, 11), (1, 0, 2)]) rfl ?_
  refine j_putRF X 11 5 (by decide) (by decide) hi rfl 70 (by decide) rfl rfl rfl rfl u955 (by decide) rfl dX11_init_67 ?_
  refine j_as (jK 71 [(66, 5, 70), (66, 4, 69), (66, 3, 68), (66, 2, 67), (0, 11, 65), (0, 10, 63), (63, 0, 64), (0, 9, 58), (58, 3, 62), (58, 2, 61), (58, 1, 60), (58, 0, 59), (0, 8, 55), (55, 1, 57), (55, 0, 56), (0, 7, 53), (53, 0, 54), (0, 6, 51), (51, 0, 52), (0, 5, 32), (32, 5, 46), (32, 4, 41), (32, 3, 36), (32, 2, 35), (32, 1, 34), (32, 0, 33), (0, 4, 29), (29, 1, 31), (29, 0, 30), (0, 3, 28), (0, 2, 27), (0, 1, 13), (13, 4, 26), (13, 3, 25), (13, 2, 24), (13, 1, 19), (13, 0, 14), (0, 0, 1), (1, 2, 12), (1, 1, 11), (1, 0, 2)]) rfl ?_
  refine j_aload_n X dX11_init_70 rfl ?_
  refine j_bipush X dX11_init_71 24 (by decide) ?_
  refine j_nrm (nI 24) rfl ?_
  refine j_newI X hR (Nat.le_of_ble_eq_true rfl) (Nat.le_of_ble_eq_true rfl) rfl rfl rfl (by rw [jup_o (by decide), jup_o (by decide), jup_o (by decide), jup_o (by decide), jup_o (by decide), jup_o (by decide), jup_o (by decide), jup_o (by decide)]; exact hm 71 (by decide)) (Nat.le_of_ble_eq_true rfl) (by decide) (jvo_b (by decide) (by decide)) dX11_init_73 ?_
  refine j_as (jK 72 [(66, 5, 70), (66, 4, 69), (66, 3, 68), (66, 2, 67), (0, 11, 65), (0, 10, 63), (63, 0, 64), (0, 9, 58), (58, 3, 62), (58, 2, 61), (58, 1, 60), (58, 0, 59), (0, 8, 55), (55, 1, 57), (55, 0, 56), (0, 7, 53), (53, 0, 54), (0, 6, 51), (51, 0, 52), (0, 5, 32), (32, 5, 46), (32, 4, 41), (32, 3, 36), (32, 2, 35), (32, 1, 34), (32, 0, 33), (0, 4, 29), (29, 1, 31), (29, 0, 30), (0, 3, 28), (0, 2, 27), (0, 1, 13), (13, 4, 26), (13, 3, 25), (13, 2, 24), (13, 1, 19), (13, 0, 14), (0, 0, 1), (1, 2, 12), (1, 1, 11), (1, 0, 2)]) rfl ?_
  refine j_putRF X 11 6 (by decide) (by decide) hi rfl 71 (by decide) rfl rfl rfl rfl u956 (by decide) rfl dX11_init_75 ?_
  refine j_as (jK 72 [(66, 6, 71), (66, 5, 70), (66, 4, 69), (66, 3, 68), (66, 2, 67), (0, 11, 65), (0, 10, 63), (63, 0, 64), (0, 9, 58), (58, 3, 62), (58, 2, 61), (58, 1, 60), (58, 0, 59), (0, 8, 55), (55, 1, 57), (55, 0, 56), (0, 7, 53), (53, 0, 54), (0, 6, 51), (51, 0, 52), (0, 5, 32), (32, 5, 46), (32, 4, 41), (32, 3, 36), (32, 2, 35), (32, 1, 34), (32, 0, 33), (0, 4, 29), (29, 1, 31), (29, 0, 30), (0, 3, 28), (0, 2, 27), (0, 1, 13), (13, 4, 26), (13, 3, 25), (13, 2, 24), (13, 1, 19), (13, 0, 14), (0, 0, 1), (1, 2, 12), (1, 1, 11), (1, 0, 2)]) rfl ?_
  refine j_aload_n X dX11_init_78 rfl ?_
  refine j_bipush X dX11_init_79 24 (by decide) ?_
  refine j_nrm (nI 24) rfl ?_
  refine j_newI X hR (Nat.le_of_ble_eq_true rfl) (Nat.le_of_ble_eq_true rfl) rfl rfl rfl (by rw [jup_o (by decide), jup_o (by decide), jup_o (by decide), jup_o (by decide), jup_o (by decide), jup_o (by decide), jup_o (by decide), jup_o (by decide)]; exact hm 72 (by decide)) (Nat.le_of_ble_eq_true rfl) (by decide) (jvo_b (by decide) (by decide)) dX11_init_81 ?_
  refine j_as (jK 73 [(66, 6, 71), (66, 5, 70), (66, 4, 69), (66, 3, 68), (66, 2, 67), (0, 11, 65), (0, 10, 63), (63, 0, 64), (0, 9, 58), (58, 3, 62), (58, 2, 61), (58, 1, 60), (58, 0, 59), (0, 8, 55), (55, 1, 57), (55, 0, 56), (0, 7, 53), (53, 0, 54), (0, 6, 51), (51, 0, 52), (0, 5, 32), (32, 5, 46), (32, 4, 41), (32, 3, 36), (32, 2, 35), (32, 1, 34), (32, 0, 33), (0, 4, 29), (29, 1, 31), (29, 0, 30), (0, 3, 28), (0, 2, 27), (0, 1, 13), (13, 4, 26), (13, 3, 25), (13, 2, 24), (13, 1, 19), (13, 0, 14), (0, 0, 1), (1, 2, 12), (1, 1, 11), (1, 0, 2)]) rfl ?_
  refine j_putRF X 11 7 (by decide) (by decide) hi rfl 72 (by decide) rfl rfl rfl rfl u957 (by decide) rfl dX11_init_83 ?_
  refine j_as (jK 73 [(66, 7, 72), (66, 6, 71), (66, 5, 70), (66, 4, 69), (66, 3, 68), (66, 2, 67), (0, 11, 65), (0, 10, 63), (63, 0, 64), (0, 9, 58), (58, 3, 62), (58, 2, 61), (58, 1, 60), (58, 0, 59), (0, 8, 55), (55, 1, 57), (55, 0, 56), (0, 7, 53), (53, 0, 54), (0, 6, 51), (51, 0, 52), (0, 5, 32), (32, 5, 46), (32, 4, 41), (32, 3, 36), (32, 2, 35), (32, 1, 34), (32, 0, 33), (0, 4, 29), (29, 1, 31), (29, 0, 30), (0, 3, 28), (0, 2, 27), (0, 1, 13), (13, 4, 26), (13, 3, 25), (13, 2, 24), (13, 1, 19), (13, 0, 14), (0, 0, 1), (1, 2, 12), (1, 1, 11), (1, 0, 2)]) rfl ?_
  refine j_aload_n X dX11_init_86 rfl ?_
  refine j_bipush X dX11_init_87 8 (by decide) ?_
  refine j_nrm (nI 8) rfl ?_
  refine j_newI X hR (Nat.le_of_ble_eq_true rfl) (Nat.le_of_ble_eq_true rfl) rfl rfl rfl (by rw [jup_o (by decide), jup_o (by decide), jup_o (by decide), jup_o (by decide), jup_o (by decide), jup_o (by decide), jup_o (by decide), jup_o (by decide)]; exact hm 73 (by decide)) (Nat.le_of_ble_eq_true rfl) (by decide) (jvo_b (by decide) (by decide)) dX11_init_89 ?_
  refine j_as (jK 74 [(66, 7, 72), (66, 6, 71), (66, 5, 70), (66, 4, 69), (66, 3, 68), (66, 2, 67), (0, 11, 65), (0, 10, 63), (63, 0, 64), (0, 9, 58), (58, 3, 62), (58, 2, 61), (58, 1, 60), (58, 0, 59), (0, 8, 55), (55, 1, 57), (55, 0, 56), (0, 7, 53), (53, 0, 54), (0, 6, 51), (51, 0, 52), (0, 5, 32), (32, 5, 46), (32, 4, 41), (32, 3, 36), (32, 2, 35), (32, 1, 34), (32, 0, 33), (0, 4, 29), (29, 1, 31), (29, 0, 30), (0, 3, 28), (0, 2, 27), (0, 1, 13), (13, 4, 26), (13, 3, 25), (13, 2, 24), (13, 1, 19), (13, 0, 14), (0, 0, 1), (1, 2, 12), (1, 1, 11), (1, 0, 2)]) rfl ?_
  refine j_putRF X 11 8 (by decide) (by decide) hi rfl 73 (by decide) rfl rfl rfl rfl u958 (by decide) rfl dX11_init_91 ?_
  refine j_as (jK 74 [(66, 8, 73), (66, 7, 72), (66, 6, 71), (66, 5, 70), (66, 4, 69), (66, 3, 68), (66, 2, 67), (0, 11, 65), (0, 10, 63), (63, 0, 64), (0, 9, 58), (58, 3, 62), (58, 2, 61), (58, 1, 60), (58, 0, 59), (0, 8, 55), (55, 1, 57), (55, 0, 56), (0, 7, 53), (53, 0, 54), (0, 6, 51), (51, 0, 52), (0, 5, 32), (32, 5, 46), (32, 4, 41), (32, 3, 36), (32, 2, 35), (32, 1, 34), (32, 0, 33), (0, 4, 29), (29, 1, 31), (29, 0, 30), (0, 3, 28), (0, 2, 27), (0, 1, 13), (13, 4, 26), (13, 3, 25), (13, 2, 24), (13, 1, 19), (13, 0, 14), (0, 0, 1), (1, 2, 12), (1, 1, 11), (1, 0, 2)]) rfl ?_
  refine j_aload_n X dX11_init_94 rfl ?_
  refine j_bipush X dX11_init_95 108 (by decide) ?_
  refine j_nrm (nI 108) rfl ?_
  refine j_newI X hR (Nat.le_of_ble_eq_true rfl) (Nat.le_of_ble_eq_true rfl) rfl rfl rfl (by rw [jup_o (by decide), jup_o (by decide), jup_o (by decide), jup_o (by decide), jup_o (by decide), jup_o (by decide), jup_o (by decide), jup_o (by decide)]; exact hm 74 (by decide)) (Nat.le_of_ble_eq_true rfl) (by decide) (jvo_b (by decide) (by decide)) dX11_init_97 ?_
  refine j_as (jK 75 [(66, 8, 73), (66, 7, 72), (66, 6, 71), (66, 5, 70), (66, 4, 69), (66, 3, 68), (66, 2, 67), (0, 11, 65), (0, 10, 63), (63, 0, 64), (0, 9, 58), (58, 3, 62), (58, 2, 61), (58, 1, 60), (58, 0, 59), (0, 8, 55), (55, 1, 57), (55, 0, 56), (0, 7, 53), (53, 0, 54), (0, 6, 51), (51, 0, 52), (0, 5, 32), (32, 5, 46), (32, 4, 41), (32, 3, 36), (32, 2, 35), (32, 1, 34), (32, 0, 33), (0, 4, 29), (29, 1, 31), (29, 0, 30), (0, 3, 28), (0, 2, 27), (0, 1, 13), (13, 4, 26), (13, 3, 25), (13, 2, 24), (13, 1, 19), (13, 0, 14), (0, 0, 1), (1, 2, 12), (1, 1, 11), (1, 0, 2)]) rfl ?_
  refine j_putRF X 11 10 (by decide) (by decide) hi rfl 74 (by decide) rfl rfl rfl rfl u960 (by decide) rfl dX11_init_99 ?_
  refine j_as (jK 75 [(66, 10, 74), (66, 8, 73), (66, 7, 72), (66, 6, 71), (66, 5, 70), (66, 4, 69), (66, 3, 68), (66, 2, 67), (0, 11, 65), (0, 10, 63), (63, 0, 64), (0, 9, 58), (58, 3, 62), (58, 2, 61), (58, 1, 60), (58, 0, 59), (0, 8, 55), (55, 1, 57), (55, 0, 56), (0, 7, 53), (53, 0, 54), (0, 6, 51), (51, 0, 52), (0, 5, 32), (32, 5, 46), (32, 4, 41), (32, 3, 36), (32, 2, 35), (32, 1, 34), (32, 0, 33), (0, 4, 29), (29, 1, 31), (29, 0, 30), (0, 3, 28), (0, 2, 27), (0, 1, 13), (13, 4, 26), (13, 3, 25), (13, 2, 24), (13, 1, 19), (13, 0, 14), (0, 0, 1), (1, 2, 12), (1, 1, 11), (1, 0, 2)]) rfl ?_
  refine j_aload_n X dX11_init_102 rfl ?_
  refine j_bipush X dX11_init_103 12 (by decide) ?_
  refine j_nrm (nI 12) rfl ?_
  refine j_newI X hR (Nat.le_of_ble_eq_true rfl) (Nat.le_of_ble_eq_true rfl) rfl rfl rfl (by rw [jup_o (by decide), jup_o (by decide), jup_o (by decide), jup_o (by decide), jup_o (by decide), jup_o (by decide), jup_o (by decide), jup_o (by decide)]; exact hm 75 (by decide)) (Nat.le_of_ble_eq_true rfl) (by decide) (jvo_b (by decide) (by decide)) dX11_init_105 ?_
  refine j_as (jK 76 [(66, 10, 74), (66, 8, 73), (66, 7, 72), (66, 6, 71), (66, 5, 70), (66, 4, 69), (66, 3, 68), (66, 2, 67), (0, 11, 65), (0, 10, 63), (63, 0, 64), (0, 9, 58), (58, 3, 62), (58, 2, 61), (58, 1, 60), (58, 0, 59), (0, 8, 55), (55, 1, 57), (55, 0, 56), (0, 7, 53), (53, 0, 54), (0, 6, 51), (51, 0, 52), (0, 5, 32), (32, 5, 46), (32, 4, 41), (32, 3, 36), (32, 2, 35), (32, 1, 34), (32, 0, 33), (0, 4, 29), (29, 1, 31), (29, 0, 30), (0, 3, 28), (0, 2, 27), (0, 1, 13), (13, 4, 26), (13, 3, 25), (13, 2, 24), (13, 1, 19), (13, 0, 14), (0, 0, 1), (1, 2, 12), (1, 1, 11), (1, 0, 2)]) rfl ?_
  refine j_putRF X 11 11 (by decide) (by decide) hi rfl 75 (by decide) rfl rfl rfl rfl u961 (by decide) rfl dX11_init_107 ?_
  refine j_as (jK 76 [(66, 11, 75), (66, 10, 74), (66, 8, 73), (66, 7, 72), (66, 6, 71), (66, 5, 70), (66, 4, 69), (66, 3, 68), (66, 2, 67), (0, 11, 65), (0, 10, 63), (63, 0, 64), (0, 9, 58), (58, 3, 62), (58, 2, 61), (58, 1, 60), (58, 0, 59), (0, 8, 55), (55, 1, 57), (55, 0, 56), (0, 7, 53), (53, 0, 54), (0, 6, 51), (51, 0, 52), (0, 5, 32), (32, 5, 46), (32, 4, 41), (32, 3, 36), (32, 2, 35), (32, 1, 34), (32, 0, 33), (0, 4, 29), (29, 1, 31), (29, 0, 30), (0, 3, 28), (0, 2, 27), (0, 1, 13), (13, 4, 26), (13, 3, 25), (13, 2, 24), (13, 1, 19), (13, 0, 14), (0, 0, 1), (1, 2, 12), (1, 1, 11), (1, 0, 2)]) rfl ?_
  refine j_aload_n X dX11_init_110 rfl ?_
  refine j_iconst X dX11_init_111 4 (by decide) ?_
  refine j_nrm (nI 4) rfl ?_
  refine j_newI X hR (Nat.le_of_ble_eq_true rfl) (Nat.le_of_ble_eq_true rfl) rfl rfl rfl (by rw [jup_o (by decide), jup_o (by decide), jup_o (by decide), jup_o (by decide), jup_o (by decide), jup_o (by decide), jup_o (by decide), jup_o (by decide)]; exact hm 76 (by decide)) (Nat.le_of_ble_eq_true rfl) (by decide) (jvo_b (by decide) (by decide)) dX11_init_112 ?_
  refine j_as (jK 77 [(66, 11, 75), (66, 10, 74), (66, 8, 73), (66, 7, 72), (66, 6, 71), (66, 5, 70), (66, 4, 69), (66, 3, 68), (66, 2, 67), (0, 11, 65), (0, 10, 63), (63, 0, 64), (0, 9, 58), (58, 3, 62), (58, 2, 61), (58, 1, 60), (58, 0, 59), (0, 8, 55), (55, 1, 57), (55, 0, 56), (0, 7, 53), (53, 0, 54), (0, 6, 51), (51, 0, 52), (0, 5, 32), (32, 5, 46), (32, 4, 41), (32, 3, 36), (32, 2, 35), (32, 1, 34), (32, 0, 33), (0, 4, 29), (29, 1, 31), (29, 0, 30), (0, 3, 28), (0, 2, 27), (0, 1, 13), (13, 4, 26), (13, 3, 25), (13, 2, 24), (13, 1, 19), (13, 0, 14), (0, 0, 1), (1, 2, 12), (1, 1, 11), (1, 0, 2)]) rfl ?_
  refine j_putRF X 11 12 (by decide) (by decide) hi rfl 76 (by decide) rfl rfl rfl rfl u962 (by decide) rfl dX11_init_114 ?_
  refine j_as (jK 77 [(66, 12, 76), (66, 11, 75), (66, 10, 74), (66, 8, 73), (66, 7, 72), (66, 6, 71), (66, 5, 70), (66, 4, 69), (66, 3, 68), (66, 2, 67), (0, 11, 65), (0, 10, 63), (63, 0, 64), (0, 9, 58), (58, 3, 62), (58, 2, 61), (58, 1, 60), (58, 0, 59), (0, 8, 55), (55, 1, 57), (55, 0, 56), (0, 7, 53), (53, 0, 54), (0, 6, 51), (51, 0, 52), (0, 5, 32), (32, 5, 46), (32, 4, 41), (32, 3, 36), (32, 2, 35), (32, 1, 34), (32, 0, 33), (0, 4, 29), (29, 1, 31), (29, 0, 30), (0, 3, 28), (0, 2, 27), (0, 1, 13), (13, 4, 26), (13, 3, 25), (13, 2, 24), (13, 1, 19), (13, 0, 14), (0, 0, 1), (1, 2, 12), (1, 1, 11), (1, 0, 2)]) rfl ?_
  refine j_aload_n X dX11_init_117 rfl ?_
  refine j_iconst X dX11_init_118 2 (by decide) ?_
  refine j_nrm (nI 2) rfl ?_
  refine j_newI X hR (Nat.le_of_ble_eq_true rfl) (Nat.le_of_ble_eq_true rfl) rfl rfl rfl (by rw [jup_o (by decide), jup_o (by decide), jup_o (by decide), jup_o (by decide), jup_o (by decide), jup_o (by decide), jup_o (by decide), jup_o (by decide)]; exact hm 77 (by decide)) (Nat.le_of_ble_eq_true rfl) (by decide) (jvo_b (by decide) (by decide)) dX11_init_119 ?_
  refine j_as (jK 78 [(66, 12, 76), (66, 11, 75), (66, 10, 74), (66, 8, 73), (66, 7, 72), (66, 6, 71), (66, 5, 70), (66, 4, 69), (66, 3, 68), (66, 2, 67), (0, 11, 65), (0, 10, 63), (63, 0, 64), (0, 9, 58), (58, 3, 62), (58, 2, 61), (58, 1, 60), (58, 0, 59), (0, 8, 55), (55, 1, 57), (55, 0, 56), (0, 7, 53), (53, 0, 54), (0, 6, 51), (51, 0, 52), (0, 5, 32), (32, 5, 46), (32, 4, 41), (32, 3, 36), (32, 2, 35), (32, 1, 34), (32, 0, 33), (0, 4, 29), (29, 1, 31), (29, 0, 30), (0, 3, 28), (0, 2, 27), (0, 1, 13), (13, 4, 26), (13, 3, 25), (13, 2, 24), (13, 1, 19), (13, 0, 14), (0, 0, 1), (1, 2, 12), (1, 1, 11), (1, 0, 2)]) rfl ?_
  refine j_putRF X 11 13 (by decide) (by decide) hi rfl 77 (by decide) rfl rfl rfl rfl u963 (by decide) rfl dX11_init_121 ?_
  refine j_as (jK 78 [(66, 13, 77), (66, 12, 76), (66, 11, 75), (66, 10, 74), (66, 8, 73), (66, 7, 72), (66, 6, 71), (66, 5, 70), (66, 4, 69), (66, 3, 68), (66, 2, 67), (0, 11, 65), (0, 10, 63), (63, 0, 64), (0, 9, 58), (58, 3, 62), (58, 2, 61), (58, 1, 60), (58, 0, 59), (0, 8, 55), (55, 1, 57), (55, 0, 56), (0, 7, 53), (53, 0, 54), (0, 6, 51), (51, 0, 52), (0, 5, 32), (32, 5, 46), (32, 4, 41), (32, 3, 36), (32, 2, 35), (32, 1, 34), (32, 0, 33), (0, 4, 29), (29, 1, 31), (29, 0, 30), (0, 3, 28), (0, 2, 27), (0, 1, 13), (13, 4, 26), (13, 3, 25), (13, 2, 24), (13, 1, 19), (13, 0, 14), (0, 0, 1), (1, 2, 12), (1, 1, 11), (1, 0, 2)]) rfl ?_
  refine j_aload_n X dX11_init_124 rfl ?_
  refine j_bipush X dX11_init_125 6 (by decide) ?_
  refine j_nrm (nI 6) rfl ?_
  refine j_newI X hR (Nat.le_of_ble_eq_true rfl) (Nat.le_of_ble_eq_true rfl) rfl rfl rfl (by rw [jup_o (by decide), jup_o (by decide), jup_o (by decide), jup_o (by decide), jup_o (by decide), jup_o (by decide), jup_o (by decide), jup_o (by decide)]; exact hm 78 (by decide)) (Nat.le_of_ble_eq_true rfl) (by decide) (jvo_b (by decide) (by decide)) dX11_init_127 ?_
  refine j_as (jK 79 [(66, 13, 77), (66, 12, 76), (66, 11, 75), (66, 10, 74), (66, 8, 73), (66, 7, 72), (66, 6, 71), (66, 5, 70), (66, 4, 69), (66, 3, 68), (66, 2, 67), (0, 11, 65), (0, 10, 63), (63, 0, 64), (0, 9, 58), (58, 3, 62), (58, 2, 61), (58, 1, 60), (58, 0, 59), (0, 8, 55), (55, 1, 57), (55, 0, 56), (0, 7, 53), (53, 0, 54), (0, 6, 51), (51, 0, 52), (0, 5, 32), (32, 5, 46), (32, 4, 41), (32, 3, 36), (32, 2, 35), (32, 1, 34), (32, 0, 33), (0, 4, 29), (29, 1, 31), (29, 0, 30), (0, 3, 28), (0, 2, 27), (0, 1, 13), (13, 4, 26), (13, 3, 25), (13, 2, 24), (13, 1, 19), (13, 0, 14), (0, 0, 1), (1, 2, 12), (1, 1, 11), (1, 0, 2)]) rfl ?_
  refine j_dup X dX11_init_129 rfl ?_
  refine j_iconst X dX11_init_130 0 (by decide) ?_
  refine j_iconst X dX11_init_131 2 (by decide) ?_
  refine j_nrm2 (nI 0) rfl ?_
  refine j_iastN X (by decide) rfl (by decide) (by decide) dX11_init_132 ?_
  refine j_dup X dX11_init_133 rfl ?_
  refine j_iconst X dX11_init_134 1 (by decide) ?_
  refine j_iconst X dX11_init_135 3 (by decide) ?_
  refine j_nrm2 (nI 1) rfl ?_
  refine j_iastN X (by decide) rfl (by decide) (by decide) dX11_init_136 ?_
  refine j_dup X dX11_init_137 rfl ?_
  refine j_iconst X dX11_init_138 2 (by decide) ?_
  refine j_iconst X dX11_init_139 4 (by decide) ?_
  refine j_nrm2 (nI 2) rfl ?_
  refine j_iastN X (by decide) rfl (by decide) (by decide) dX11_init_140 ?_
  refine j_dup X dX11_init_141 rfl ?_
  refine j_iconst X dX11_init_142 3 (by decide) ?_
  refine j_iconst X dX11_init_143 5 (by decide) ?_
  refine j_nrm2 (nI 3) rfl ?_
  refine j_iastN X (by decide) rfl (by decide) (by decide) dX11_init_144 ?_
  refine j_dup X dX11_init_145 rfl ?_
  refine j_iconst X dX11_init_146 4 (by decide) ?_
  refine j_bipush X dX11_init_147 6 (by decide) ?_
  refine j_nrm2 (nI 4) rfl ?_
  refine j_iastN X (by decide) rfl (by decide) (by decide) dX11_init_149 ?_
  refine j_dup X dX11_init_150 rfl ?_
  refine j_iconst X dX11_init_151 5 (by decide) ?_
  refine j_bipush X dX11_init_152 7 (by decide) ?_
  refine j_nrm2 (nI 5) rfl ?_
  refine j_iastN X (by decide) rfl (by decide) (by decide) dX11_init_154 ?_
  refine j_putRF X 11 14 (by decide) (by decide) hi rfl 78 (by decide) rfl rfl rfl rfl u964 (by decide) rfl dX11_init_155 ?_
  refine j_as (jK 79 [(66, 14, 78), (66, 13, 77), (66, 12, 76), (66, 11, 75), (66, 10, 74), (66, 8, 73), (66, 7, 72), (66, 6, 71), (66, 5, 70), (66, 4, 69), (66, 3, 68), (66, 2, 67), (0, 11, 65), (0, 10, 63), (63, 0, 64), (0, 9, 58), (58, 3, 62), (58, 2, 61), (58, 1, 60), (58, 0, 59), (0, 8, 55), (55, 1, 57), (55, 0, 56), (0, 7, 53), (53, 0, 54), (0, 6, 51), (51, 0, 52), (0, 5, 32), (32, 5, 46), (32, 4, 41), (32, 3, 36), (32, 2, 35), (32, 1, 34), (32, 0, 33), (0, 4, 29), (29, 1, 31), (29, 0, 30), (0, 3, 28), (0, 2, 27), (0, 1, 13), (13, 4, 26), (13, 3, 25), (13, 2, 24), (13, 1, 19), (13, 0, 14), (0, 0, 1), (1, 2, 12), (1, 1, 11), (1, 0, 2)]) rfl ?_
  refine j_aload_n X dX11_init_158 rfl ?_
  refine j_iconst X dX11_init_159 4 (by decide) ?_
  refine j_nrm (nI 4) rfl ?_
  refine j_newI X hR (Nat.le_of_ble_eq_true rfl) (Nat.le_of_ble_eq_true rfl) rfl rfl rfl (by rw [jup_o (by decide), jup_o (by decide), jup_o (by decide), jup_o (by decide), jup_o (by decide), jup_o (by decide), jup_o (by decide), jup_o (by decide), jup_o (by decide), jup_o (by decide), jup_o (by decide), jup_o (by decide), jup_o (by decide), jup_o (by decide)]; exact hm 79 (by decide)) (Nat.le_of_ble_eq_true rfl) (by decide) (jvo_b (by decide) (by decide)) dX11_init_160 ?_
  refine j_as (jK 80 [(66, 14, 78), (66, 13, 77), (66, 12, 76), (66, 11, 75), (66, 10, 74), (66, 8, 73), (66, 7, 72), (66, 6, 71), (66, 5, 70), (66, 4, 69), (66, 3, 68), (66, 2, 67), (0, 11, 65), (0, 10, 63), (63, 0, 64), (0, 9, 58), (58, 3, 62), (58, 2, 61), (58, 1, 60), (58, 0, 59), (0, 8, 55), (55, 1, 57), (55, 0, 56), (0, 7, 53), (53, 0, 54), (0, 6, 51), (51, 0, 52), (0, 5, 32), (32, 5, 46), (32, 4, 41), (32, 3, 36), (32, 2, 35), (32, 1, 34), (32, 0, 33), (0, 4, 29), (29, 1, 31), (29, 0, 30), (0, 3, 28), (0, 2, 27), (0, 1, 13), (13, 4, 26), (13, 3, 25), (13, 2, 24), (13, 1, 19), (13, 0, 14), (0, 0, 1), (1, 2, 12), (1, 1, 11), (1, 0, 2)]) rfl ?_
  refine j_putRF X 11 15 (by decide) (by decide) hi rfl 79 (by decide) rfl rfl rfl rfl u965 (by decide) rfl dX11_init_162 ?_
  refine j_as (jK 80 [(66, 15, 79), (66, 14, 78), (66, 13, 77), (66, 12, 76), (66, 11, 75), (66, 10, 74), (66, 8, 73), (66, 7, 72), (66, 6, 71), (66, 5, 70), (66, 4, 69), (66, 3, 68), (66, 2, 67), (0, 11, 65), (0, 10, 63), (63, 0, 64), (0, 9, 58), (58, 3, 62), (58, 2, 61), (58, 1, 60), (58, 0, 59), (0, 8, 55), (55, 1, 57), (55, 0, 56), (0, 7, 53), (53, 0, 54), (0, 6, 51), (51, 0, 52), (0, 5, 32), (32, 5, 46), (32, 4, 41), (32, 3, 36), (32, 2, 35), (32, 1, 34), (32, 0, 33), (0, 4, 29), (29, 1, 31), (29, 0, 30), (0, 3, 28), (0, 2, 27), (0, 1, 13), (13, 4, 26), (13, 3, 25), (13, 2, 24), (13, 1, 19), (13, 0, 14), (0, 0, 1), (1, 2, 12), (1, 1, 11), (1, 0, 2)]) rfl ?_
  refine j_aload_n X dX11_init_165 rfl ?_
  refine j_iconst X dX11_init_166 4 (by decide) ?_
  refine j_nrm (nI 4) rfl ?_
  refine j_newI X hR (Nat.le_of_ble_eq_true rfl) (Nat.le_of_ble_eq_true rfl) rfl rfl rfl (by rw [jup_o (by decide), jup_o (by decide), jup_o (by decide), jup_o (by decide), jup_o (by decide), jup_o (by decide), jup_o (by decide), jup_o (by decide), jup_o (by decide), jup_o (by decide), jup_o (by decide), jup_o (by decide), jup_o (by decide), jup_o (by decide)]; exact hm 80 (by decide)) (Nat.le_of_ble_eq_true rfl) (by decide) (jvo_b (by decide) (by decide)) dX11_init_167 ?_
  refine j_as (jK 81 [(66, 15, 79), (66, 14, 78), (66, 13, 77), (66, 12, 76), (66, 11, 75), (66, 10, 74), (66, 8, 73), (66, 7, 72), (66, 6, 71), (66, 5, 70), (66, 4, 69), (66, 3, 68), (66, 2, 67), (0, 11, 65), (0, 10, 63), (63, 0, 64), (0, 9, 58), (58, 3, 62), (58, 2, 61), (58, 1, 60), (58, 0, 59), (0, 8, 55), (55, 1, 57), (55, 0, 56), (0, 7, 53), (53, 0, 54), (0, 6, 51), (51, 0, 52), (0, 5, 32), (32, 5, 46), (32, 4, 41), (32, 3, 36), (32, 2, 35), (32, 1, 34), (32, 0, 33), (0, 4, 29), (29, 1, 31), (29, 0, 30), (0, 3, 28), (0, 2, 27), (0, 1, 13), (13, 4, 26), (13, 3, 25), (13, 2, 24), (13, 1, 19), (13, 0, 14), (0, 0, 1), (1, 2, 12), (1, 1, 11), (1, 0, 2)]) rfl ?_
  refine j_dup X dX11_init_169 rfl ?_
  refine j_iconst X dX11_init_170 0 (by decide) ?_
  refine j_bipush X dX11_init_171 15 (by decide) ?_
  refine j_nrm2 (nI 0) rfl ?_
  refine j_iastN X (by decide) rfl (by decide) (by decide) dX11_init_173 ?_
  refine j_dup X dX11_init_174 rfl ?_
  refine j_iconst X dX11_init_175 1 (by decide) ?_
  refine j_bipush X dX11_init_176 15 (by decide) ?_
  refine j_nrm2 (nI 1) rfl ?_
  refine j_iastN X (by decide) rfl (by decide) (by decide) dX11_init_178 ?_
  refine j_dup X dX11_init_179 rfl ?_
  refine j_iconst X dX11_init_180 2 (by decide) ?_
  refine j_bipush X dX11_init_181 15 (by decide) ?_
  refine j_nrm2 (nI 2) rfl ?_
  refine j_iastN X (by decide) rfl (by decide) (by decide) dX11_init_183 ?_
  refine j_dup X dX11_init_184 rfl ?_
  refine j_iconst X dX11_init_185 3 (by decide) ?_
  refine j_bipush X dX11_init_186 15 (by decide) ?_
  refine j_nrm2 (nI 3) rfl ?_
  refine j_iastN X (by decide) rfl (by decide) (by decide) dX11_init_188 ?_
  refine j_putRF X 11 16 (by decide) (by decide) hi rfl 80 (by decide) rfl rfl rfl rfl u966 (by decide) rfl dX11_init_189 ?_
  refine j_as (jK 81 [(66, 16, 80), (66, 15, 79), (66, 14, 78), (66, 13, 77), (66, 12, 76), (66, 11, 75), (66, 10, 74), (66, 8, 73), (66, 7, 72), (66, 6, 71), (66, 5, 70), (66, 4, 69), (66, 3, 68), (66, 2, 67), (0, 11, 65), (0, 10, 63), (63, 0, 64), (0, 9, 58), (58, 3, 62), (58, 2, 61), (58, 1, 60), (58, 0, 59), (0, 8, 55), (55, 1, 57), (55, 0, 56), (0, 7, 53), (53, 0, 54), (0, 6, 51), (51, 0, 52), (0, 5, 32), (32, 5, 46), (32, 4, 41), (32, 3, 36), (32, 2, 35), (32, 1, 34), (32, 0, 33), (0, 4, 29), (29, 1, 31), (29, 0, 30), (0, 3, 28), (0, 2, 27), (0, 1, 13), (13, 4, 26), (13, 3, 25), (13, 2, 24), (13, 1, 19), (13, 0, 14), (0, 0, 1), (1, 2, 12), (1, 1, 11), (1, 0, 2)]) rfl ?_
  refine j_aload_n X dX11_init_192 rfl ?_
  refine j_iconst X dX11_init_193 4 (by decide) ?_
  refine j_nrm (nI 4) rfl ?_
  refine j_newI X hR (Nat.le_of_ble_eq_true rfl) (Nat.le_of_ble_eq_true rfl) rfl rfl rfl (by rw [jup_o (by decide), jup_o (by decide), jup_o (by decide), jup_o (by decide), jup_o (by decide), jup_o (by decide), jup_o (by decide), jup_o (by decide), jup_o (by decide), jup_o (by decide), jup_o (by decide), jup_o (by decide), jup_o (by decide), jup_o (by decide), jup_o (by decide), jup_o (by decide), jup_o (by decide), jup_o (by decide)]; exact hm 81 (by decide)) (Nat.le_of_ble_eq_true rfl) (by decide) (jvo_b (by decide) (by decide)) dX11_init_194 ?_
  refine j_as (jK 82 [(66, 16, 80), (66, 15, 79), (66, 14, 78), (66, 13, 77), (66, 12, 76), (66, 11, 75), (66, 10, 74), (66, 8, 73), (66, 7, 72), (66, 6, 71), (66, 5, 70), (66, 4, 69), (66, 3, 68), (66, 2, 67), (0, 11, 65), (0, 10, 63), (63, 0, 64), (0, 9, 58), (58, 3, 62), (58, 2, 61), (58, 1, 60), (58, 0, 59), (0, 8, 55), (55, 1, 57), (55, 0, 56), (0, 7, 53), (53, 0, 54), (0, 6, 51), (51, 0, 52), (0, 5, 32), (32, 5, 46), (32, 4, 41), (32, 3, 36), (32, 2, 35), (32, 1, 34), (32, 0, 33), (0, 4, 29), (29, 1, 31), (29, 0, 30), (0, 3, 28), (0, 2, 27), (0, 1, 13), (13, 4, 26), (13, 3, 25), (13, 2, 24), (13, 1, 19), (13, 0, 14), (0, 0, 1), (1, 2, 12), (1, 1, 11), (1, 0, 2)]) rfl ?_
  refine j_putRF X 11 17 (by decide) (by decide) hi rfl 81 (by decide) rfl rfl rfl rfl u967 (by decide) rfl dX11_init_196 ?_
  refine j_as (jK 82 [(66, 17, 81), (66, 16, 80), (66, 15, 79), (66, 14, 78), (66, 13, 77), (66, 12, 76), (66, 11, 75), (66, 10, 74), (66, 8, 73), (66, 7, 72), (66, 6, 71), (66, 5, 70), (66, 4, 69), (66, 3, 68), (66, 2, 67), (0, 11, 65), (0, 10, 63), (63, 0, 64), (0, 9, 58), (58, 3, 62), (58, 2, 61), (58, 1, 60), (58, 0, 59), (0, 8, 55), (55, 1, 57), (55, 0, 56), (0, 7, 53), (53, 0, 54), (0, 6, 51), (51, 0, 52), (0, 5, 32), (32, 5, 46), (32, 4, 41), (32, 3, 36), (32, 2, 35), (32, 1, 34), (32, 0, 33), (0, 4, 29), (29, 1, 31), (29, 0, 30), (0, 3, 28), (0, 2, 27), (0, 1, 13), (13, 4, 26), (13, 3, 25), (13, 2, 24), (13, 1, 19), (13, 0, 14), (0, 0, 1), (1, 2, 12), (1, 1, 11), (1, 0, 2)]) rfl ?_
  refine j_aload_n X dX11_init_199 rfl ?_
  refine j_bipush X dX11_init_200 32 (by decide) ?_
  refine j_nrm (nI 32) rfl ?_
  refine j_newI X hR (Nat.le_of_ble_eq_true rfl) (Nat.le_of_ble_eq_true rfl) rfl rfl rfl (by rw [jup_o (by decide), jup_o (by decide), jup_o (by decide), jup_o (by decide), jup_o (by decide), jup_o (by decide), jup_o (by decide), jup_o (by decide), jup_o (by decide), jup_o (by decide), jup_o (by decide), jup_o (by decide), jup_o (by decide), jup_o (by decide), jup_o (by decide), jup_o (by decide), jup_o (by decide), jup_o (by decide)]; exact hm 82 (by decide)) (Nat.le_of_ble_eq_true rfl) (by decide) (jvo_b (by decide) (by decide)) dX11_init_202 ?_
  refine j_as (jK 83 [(66, 17, 81), (66, 16, 80), (66, 15, 79), (66, 14, 78), (66, 13, 77), (66, 12, 76), (66, 11, 75), (66, 10, 74), (66, 8, 73), (66, 7, 72), (66, 6, 71), (66, 5, 70), (66, 4, 69), (66, 3, 68), (66, 2, 67), (0, 11, 65), (0, 10, 63), (63, 0, 64), (0, 9, 58), (58, 3, 62), (58, 2, 61), (58, 1, 60), (58, 0, 59), (0, 8, 55), (55, 1, 57), (55, 0, 56), (0, 7, 53), (53, 0, 54), (0, 6, 51), (51, 0, 52), (0, 5, 32), (32, 5, 46), (32, 4, 41), (32, 3, 36), (32, 2, 35), (32, 1, 34), (32, 0, 33), (0, 4, 29), (29, 1, 31), (29, 0, 30), (0, 3, 28), (0, 2, 27), (0, 1, 13), (13, 4, 26), (13, 3, 25), (13, 2, 24), (13, 1, 19), (13, 0, 14), (0, 0, 1), (1, 2, 12), (1, 1, 11), (1, 0, 2)]) rfl ?_
  refine j_putRF X 11 18 (by decide) (by decide) hi rfl 82 (by decide) rfl rfl rfl rfl u968 (by decide) rfl dX11_init_204 ?_
  refine j_as (jK 83 [(66, 18, 82), (66, 17, 81), (66, 16, 80), (66, 15, 79), (66, 14, 78), (66, 13, 77), (66, 12, 76), (66, 11, 75), (66, 10, 74), (66, 8, 73), (66, 7, 72), (66, 6, 71), (66, 5, 70), (66, 4, 69), (66, 3, 68), (66, 2, 67), (0, 11, 65), (0, 10, 63), (63, 0, 64), (0, 9, 58), (58, 3, 62), (58, 2, 61), (58, 1, 60), (58, 0, 59), (0, 8, 55), (55, 1, 57), (55, 0, 56), (0, 7, 53), (53, 0, 54), (0, 6, 51), (51, 0, 52), (0, 5, 32), (32, 5, 46), (32, 4, 41), (32, 3, 36), (32, 2, 35), (32, 1, 34), (32, 0, 33), (0, 4, 29), (29, 1, 31), (29, 0, 30), (0, 3, 28), (0, 2, 27), (0, 1, 13), (13, 4, 26), (13, 3, 25), (13, 2, 24), (13, 1, 19), (13, 0, 14), (0, 0, 1), (1, 2, 12), (1, 1, 11), (1, 0, 2)]) rfl ?_
  refine j_aload_n X dX11_init_207 rfl ?_
  refine j_bipush X dX11_init_208 32 (by decide) ?_
  refine j_nrm (nI 32) rfl ?_
  refine j_newI X hR (Nat.le_of_ble_eq_true rfl) (Nat.le_of_ble_eq_true rfl) rfl rfl rfl (by rw [jup_o (by decide), jup_o (by decide), jup_o (by decide), jup_o (by decide), jup_o (by decide), jup_o (by decide), jup_o (by decide), jup_o (by decide), jup_o (by decide), jup_o (by decide), jup_o (by decide), jup_o (by decide), jup_o (by decide), jup_o (by decide), jup_o (by decide), jup_o (by decide), jup_o (by decide), jup_o (by decide)]; exact hm 83 (by decide)) (Nat.le_of_ble_eq_true rfl) (by decide) (jvo_b (by decide) (by decide)) dX11_init_210 ?_
  refine j_as (jK 84 [(66, 18, 82), (66, 17, 81), (66, 16, 80), (66, 15, 79), (66, 14, 78), (66, 13, 77), (66, 12, 76), (66, 11, 75), (66, 10, 74), (66, 8, 73), (66, 7, 72), (66, 6, 71), (66, 5, 70), (66, 4, 69), (66, 3, 68), (66, 2, 67), (0, 11, 65), (0, 10, 63), (63, 0, 64), (0, 9, 58), (58, 3, 62), (58, 2, 61), (58, 1, 60), (58, 0, 59), (0, 8, 55), (55, 1, 57), (55, 0, 56), (0, 7, 53), (53, 0, 54), (0, 6, 51), (51, 0, 52), (0, 5, 32), (32, 5, 46), (32, 4, 41), (32, 3, 36), (32, 2, 35), (32, 1, 34), (32, 0, 33), (0, 4, 29), (29, 1, 31), (29, 0, 30), (0, 3, 28), (0, 2, 27), (0, 1, 13), (13, 4, 26), (13, 3, 25), (13, 2, 24), (13, 1, 19), (13, 0, 14), (0, 0, 1), (1, 2, 12), (1, 1, 11), (1, 0, 2)]) rfl ?_
  refine j_putRF X 11 19 (by decide) (by decide) hi rfl 83 (by decide) rfl rfl rfl rfl u969 (by decide) rfl dX11_init_212 ?_
  refine j_as (jK 84 [(66, 19, 83), (66, 18, 82), (66, 17, 81), (66, 16, 80), (66, 15, 79), (66, 14, 78), (66, 13, 77), (66, 12, 76), (66, 11, 75), (66, 10, 74), (66, 8, 73), (66, 7, 72), (66, 6, 71), (66, 5, 70), (66, 4, 69), (66, 3, 68), (66, 2, 67), (0, 11, 65), (0, 10, 63), (63, 0, 64), (0, 9, 58), (58, 3, 62), (58, 2, 61), (58, 1, 60), (58, 0, 59), (0, 8, 55), (55, 1, 57), (55, 0, 56), (0, 7, 53), (53, 0, 54), (0, 6, 51), (51, 0, 52), (0, 5, 32), (32, 5, 46), (32, 4, 41), (32, 3, 36), (32, 2, 35), (32, 1, 34), (32, 0, 33), (0, 4, 29), (29, 1, 31), (29, 0, 30), (0, 3, 28), (0, 2, 27), (0, 1, 13), (13, 4, 26), (13, 3, 25), (13, 2, 24), (13, 1, 19), (13, 0, 14), (0, 0, 1), (1, 2, 12), (1, 1, 11), (1, 0, 2)]) rfl ?_
  refine j_aload_n X dX11_init_215 rfl ?_
  refine j_bipush X dX11_init_216 32 (by decide) ?_
  refine j_nrm (nI 32) rfl ?_
  refine j_newI X hR (Nat.le_of_ble_eq_true rfl) (Nat.le_of_ble_eq_true rfl) rfl rfl rfl (by rw [jup_o (by decide), jup_o (by decide), jup_o (by decide), jup_o (by decide), jup_o (by decide), jup_o (by decide), jup_o (by decide), jup_o (by decide), jup_o (by decide), jup_o (by decide), jup_o (by decide), jup_o (by decide), jup_o (by decide), jup_o (by decide), jup_o (by decide), jup_o (by decide), jup_o (by decide), jup_o (by decide)]; exact hm 84 (by decide)) (Nat.le_of_ble_eq_true rfl) (by decide) (jvo_b (by decide) (by decide)) dX11_init_218 ?_
  refine j_as (jK 85 [(66, 19, 83), (66, 18, 82), (66, 17, 81), (66, 16, 80), (66, 15, 79), (66, 14, 78), (66, 13, 77), (66, 12, 76), (66, 11, 75), (66, 10, 74), (66, 8, 73), (66, 7, 72), (66, 6, 71), (66, 5, 70), (66, 4, 69), (66, 3, 68), (66, 2, 67), (0, 11, 65), (0, 10, 63), (63, 0, 64), (0, 9, 58), (58, 3, 62), (58, 2, 61), (58, 1, 60), (58, 0, 59), (0, 8, 55), (55, 1, 57), (55, 0, 56), (0, 7, 53), (53, 0, 54), (0, 6, 51), (51, 0, 52), (0, 5, 32), (32, 5, 46), (32, 4, 41), (32, 3, 36), (32, 2, 35), (32, 1, 34), (32, 0, 33), (0, 4, 29), (29, 1, 31), (29, 0, 30), (0, 3, 28), (0, 2, 27), (0, 1, 13), (13, 4, 26), (13, 3, 25), (13, 2, 24), (13, 1, 19), (13, 0, 14), (0, 0, 1), (1, 2, 12), (1, 1, 11), (1, 0, 2)]) rfl ?_
  refine j_putRF X 11 20 (by decide) (by decide) hi rfl 84 (by decide) rfl rfl rfl rfl u970 (by decide) rfl dX11_init_220 ?_
  refine j_as (jK 85 [(66, 20, 84), (66, 19, 83), (66, 18, 82), (66, 17, 81), (66, 16, 80), (66, 15, 79), (66, 14, 78), (66, 13, 77), (66, 12, 76), (66, 11, 75), (66, 10, 74), (66, 8, 73), (66, 7, 72), (66, 6, 71), (66, 5, 70), (66, 4, 69), (66, 3, 68), (66, 2, 67), (0, 11, 65), (0, 10, 63), (63, 0, 64), (0, 9, 58), (58, 3, 62), (58, 2, 61), (58, 1, 60), (58, 0, 59), (0, 8, 55), (55, 1, 57), (55, 0, 56), (0, 7, 53), (53, 0, 54), (0, 6, 51), (51, 0, 52), (0, 5, 32), (32, 5, 46), (32, 4, 41), (32, 3, 36), (32, 2, 35), (32, 1, 34), (32, 0, 33), (0, 4, 29), (29, 1, 31), (29, 0, 30), (0, 3, 28), (0, 2, 27), (0, 1, 13), (13, 4, 26), (13, 3, 25), (13, 2, 24), (13, 1, 19), (13, 0, 14), (0, 0, 1), (1, 2, 12), (1, 1, 11), (1, 0, 2)]) rfl ?_
  refine j_aload_n X dX11_init_223 rfl ?_
  refine j_sipush X dX11_init_224 300 (by decide) ?_
  refine j_nrm (nI 300) rfl ?_
  refine j_newI X hR (Nat.le_of_ble_eq_true rfl) (Nat.le_of_ble_eq_true rfl) rfl rfl rfl (by rw [jup_o (by decide), jup_o (by decide), jup_o (by decide), jup_o (by decide), jup_o (by decide), jup_o (by decide), jup_o (by decide), jup_o (by decide), jup_o (by decide), jup_o (by decide), jup_o (by decide), jup_o (by decide), jup_o (by decide), jup_o (by decide), jup_o (by decide), jup_o (by decide), jup_o (by decide), jup_o (by decide)]; exact hm 85 (by decide)) (Nat.le_of_ble_eq_true rfl) (by decide) (jvo_b (by decide) (by decide)) dX11_init_227 ?_
  refine j_as (jK 86 [(66, 20, 84), (66, 19, 83), (66, 18, 82), (66, 17, 81), (66, 16, 80), (66, 15, 79), (66, 14, 78), (66, 13, 77), (66, 12, 76), (66, 11, 75), (66, 10, 74), (66, 8, 73), (66, 7, 72), (66, 6, 71), (66, 5, 70), (66, 4, 69), (66, 3, 68), (66, 2, 67), (0, 11, 65), (0, 10, 63), (63, 0, 64), (0, 9, 58), (58, 3, 62), (58, 2, 61), (58, 1, 60), (58, 0, 59), (0, 8, 55), (55, 1, 57), (55, 0, 56), (0, 7, 53), (53, 0, 54), (0, 6, 51), (51, 0, 52), (0, 5, 32), (32, 5, 46), (32, 4, 41), (32, 3, 36), (32, 2, 35), (32, 1, 34), (32, 0, 33), (0, 4, 29), (29, 1, 31), (29, 0, 30), (0, 3, 28), (0, 2, 27), (0, 1, 13), (13, 4, 26), (13, 3, 25), (13, 2, 24), (13, 1, 19), (13, 0, 14), (0, 0, 1), (1, 2, 12), (1, 1, 11), (1, 0, 2)]) rfl ?_
  refine j_putRF X 11 21 (by decide) (by decide) hi rfl 85 (by decide) rfl rfl rfl rfl u971 (by decide) rfl dX11_init_229 ?_
  refine j_as (jK 86 [(66, 21, 85), (66, 20, 84), (66, 19, 83), (66, 18, 82), (66, 17, 81), (66, 16, 80), (66, 15, 79), (66, 14, 78), (66, 13, 77), (66, 12, 76), (66, 11, 75), (66, 10, 74), (66, 8, 73), (66, 7, 72), (66, 6, 71), (66, 5, 70), (66, 4, 69), (66, 3, 68), (66, 2, 67), (0, 11, 65), (0, 10, 63), (63, 0, 64), (0, 9, 58), (58, 3, 62), (58, 2, 61), (58, 1, 60), (58, 0, 59), (0, 8, 55), (55, 1, 57), (55, 0, 56), (0, 7, 53), (53, 0, 54), (0, 6, 51), (51, 0, 52), (0, 5, 32), (32, 5, 46), (32, 4, 41), (32, 3, 36), (32, 2, 35), (32, 1, 34), (32, 0, 33), (0, 4, 29), (29, 1, 31), (29, 0, 30), (0, 3, 28), (0, 2, 27), (0, 1, 13), (13, 4, 26), (13, 3, 25), (13, 2, 24), (13, 1, 19), (13, 0, 14), (0, 0, 1), (1, 2, 12), (1, 1, 11), (1, 0, 2)]) rfl ?_
  refine j_aload_n X dX11_init_232 rfl ?_
  refine j_bipush X dX11_init_233 12 (by decide) ?_
  refine j_nrm (nI 12) rfl ?_
  refine j_newI X hR (Nat.le_of_ble_eq_true rfl) (Nat.le_of_ble_eq_true rfl) rfl rfl rfl (by rw [jup_o (by decide), jup_o (by decide), jup_o (by decide), jup_o (by decide), jup_o (by decide), jup_o (by decide), jup_o (by decide), jup_o (by decide), jup_o (by decide), jup_o (by decide), jup_o (by decide), jup_o (by decide), jup_o (by decide), jup_o (by decide), jup_o (by decide), jup_o (by decide), jup_o (by decide), jup_o (by decide)]; exact hm 86 (by decide)) (Nat.le_of_ble_eq_true rfl) (by decide) (jvo_b (by decide) (by decide)) dX11_init_235 ?_
  refine j_as (jK 87 [(66, 21, 85), (66, 20, 84), (66, 19, 83), (66, 18, 82), (66, 17, 81), (66, 16, 80), (66, 15, 79), (66, 14, 78), (66, 13, 77), (66, 12, 76), (66, 11, 75), (66, 10, 74), (66, 8, 73), (66, 7, 72), (66, 6, 71), (66, 5, 70), (66, 4, 69), (66, 3, 68), (66, 2, 67), (0, 11, 65), (0, 10, 63), (63, 0, 64), (0, 9, 58), (58, 3, 62), (58, 2, 61), (58, 1, 60), (58, 0, 59), (0, 8, 55), (55, 1, 57), (55, 0, 56), (0, 7, 53), (53, 0, 54), (0, 6, 51), (51, 0, 52), (0, 5, 32), (32, 5, 46), (32, 4, 41), (32, 3, 36), (32, 2, 35), (32, 1, 34), (32, 0, 33), (0, 4, 29), (29, 1, 31), (29, 0, 30), (0, 3, 28), (0, 2, 27), (0, 1, 13), (13, 4, 26), (13, 3, 25), (13, 2, 24), (13, 1, 19), (13, 0, 14), (0, 0, 1), (1, 2, 12), (1, 1, 11), (1, 0, 2)]) rfl ?_
  refine j_putRF X 11 33 (by decide) (by decide) hi rfl 86 (by decide) rfl rfl rfl rfl u983 (by decide) rfl dX11_init_237 ?_
  refine j_as (jK 87 [(66, 33, 86), (66, 21, 85), (66, 20, 84), (66, 19, 83), (66, 18, 82), (66, 17, 81), (66, 16, 80), (66, 15, 79), (66, 14, 78), (66, 13, 77), (66, 12, 76), (66, 11, 75), (66, 10, 74), (66, 8, 73), (66, 7, 72), (66, 6, 71), (66, 5, 70), (66, 4, 69), (66, 3, 68), (66, 2, 67), (0, 11, 65), (0, 10, 63), (63, 0, 64), (0, 9, 58), (58, 3, 62), (58, 2, 61), (58, 1, 60), (58, 0, 59), (0, 8, 55), (55, 1, 57), (55, 0, 56), (0, 7, 53), (53, 0, 54), (0, 6, 51), (51, 0, 52), (0, 5, 32), (32, 5, 46), (32, 4, 41), (32, 3, 36), (32, 2, 35), (32, 1, 34), (32, 0, 33), (0, 4, 29), (29, 1, 31), (29, 0, 30), (0, 3, 28), (0, 2, 27), (0, 1, 13), (13, 4, 26), (13, 3, 25), (13, 2, 24), (13, 1, 19), (13, 0, 14), (0, 0, 1), (1, 2, 12), (1, 1, 11), (1, 0, 2)]) rfl ?_
  refine j_aload_n X dX11_init_240 rfl ?_
  refine j_bipush X dX11_init_241 30 (by decide) ?_
  refine j_nrm (nI 30) rfl ?_
  refine j_newI X hR (Nat.le_of_ble_eq_true rfl) (Nat.le_of_ble_eq_true rfl) rfl rfl rfl (by rw [jup_o (by decide), jup_o (by decide), jup_o (by decide), jup_o (by decide), jup_o (by decide), jup_o (by decide), jup_o (by decide), jup_o (by decide), jup_o (by decide), jup_o (by decide), jup_o (by decide), jup_o (by decide), jup_o (by decide), jup_o (by decide), jup_o (by decide), jup_o (by decide), jup_o (by decide), jup_o (by decide)]; exact hm 87 (by decide)) (Nat.le_of_ble_eq_true rfl) (by decide) (jvo_b (by decide) (by decide)) dX11_init_243 ?_
  refine j_as (jK 88 [(66, 33, 86), (66, 21, 85), (66, 20, 84), (66, 19, 83), (66, 18, 82), (66, 17, 81), (66, 16, 80), (66, 15, 79), (66, 14, 78), (66, 13, 77), (66, 12, 76), (66, 11, 75), (66, 10, 74), (66, 8, 73), (66, 7, 72), (66, 6, 71), (66, 5, 70), (66, 4, 69), (66, 3, 68), (66, 2, 67), (0, 11, 65), (0, 10, 63), (63, 0, 64), (0, 9, 58), (58, 3, 62), (58, 2, 61), (58, 1, 60), (58, 0, 59), (0, 8, 55), (55, 1, 57), (55, 0, 56), (0, 7, 53), (53, 0, 54), (0, 6, 51), (51, 0, 52), (0, 5, 32), (32, 5, 46), (32, 4, 41), (32, 3, 36), (32, 2, 35), (32, 1, 34), (32, 0, 33), (0, 4, 29), (29, 1, 31), (29, 0, 30), (0, 3, 28), (0, 2, 27), (0, 1, 13), (13, 4, 26), (13, 3, 25), (13, 2, 24), (13, 1, 19), (13, 0, 14), (0, 0, 1), (1, 2, 12), (1, 1, 11), (1, 0, 2)]) rfl ?_
  refine j_putRF X 11 35 (by decide) (by decide) hi rfl 87 (by decide) rfl rfl rfl rfl u985 (by decide) rfl dX11_init_245 ?_
  refine j_as (jK 88 [(66, 35, 87), (66, 33, 86), (66, 21, 85), (66, 20, 84), (66, 19, 83), (66, 18, 82), (66, 17, 81), (66, 16, 80), (66, 15, 79), (66, 14, 78), (66, 13, 77), (66, 12, 76), (66, 11, 75), (66, 10, 74), (66, 8, 73), (66, 7, 72), (66, 6, 71), (66, 5, 70), (66, 4, 69), (66, 3, 68), (66, 2, 67), (0, 11, 65), (0, 10, 63), (63, 0, 64), (0, 9, 58), (58, 3, 62), (58, 2, 61), (58, 1, 60), (58, 0, 59), (0, 8, 55), (55, 1, 57), (55, 0, 56), (0, 7, 53), (53, 0, 54), (0, 6, 51), (51, 0, 52), (0, 5, 32), (32, 5, 46), (32, 4, 41), (32, 3, 36), (32, 2, 35), (32, 1, 34), (32, 0, 33), (0, 4, 29), (29, 1, 31), (29, 0, 30), (0, 3, 28), (0, 2, 27), (0, 1, 13), (13, 4, 26), (13, 3, 25), (13, 2, 24), (13, 1, 19), (13, 0, 14), (0, 0, 1), (1, 2, 12), (1, 1, 11), (1, 0, 2)]) rfl ?_
  refine j_aload_n X dX11_init_248 rfl ?_
  refine j_bipush X dX11_init_249 30 (by decide) ?_
  refine j_nrm (nI 30) rfl ?_
  refine j_newI X hR (Nat.le_of_ble_eq_true rfl) (Nat.le_of_ble_eq_true rfl) rfl rfl rfl (by rw [jup_o (by decide), jup_o (by decide), jup_o (by decide), jup_o (by decide), jup_o (by decide), jup_o (by decide), jup_o (by decide), jup_o (by decide), jup_o (by decide), jup_o (by decide), jup_o (by decide), jup_o (by decide), jup_o (by decide), jup_o (by decide), jup_o (by decide), jup_o (by decide), jup_o (by decide), jup_o (by decide)]; exact hm 88 (by decide)) (Nat.le_of_ble_eq_true rfl) (by decide) (jvo_b (by decide) (by decide)) dX11_init_251 ?_
  refine j_as (jK 89 [(66, 35, 87), (66, 33, 86), (66, 21, 85), (66, 20, 84), (66, 19, 83), (66, 18, 82), (66, 17, 81), (66, 16, 80), (66, 15, 79), (66, 14, 78), (66, 13, 77), (66, 12, 76), (66, 11, 75), (66, 10, 74), (66, 8, 73), (66, 7, 72), (66, 6, 71), (66, 5, 70), (66, 4, 69), (66, 3, 68), (66, 2, 67), (0, 11, 65), (0, 10, 63), (63, 0, 64), (0, 9, 58), (58, 3, 62), (58, 2, 61), (58, 1, 60), (58, 0, 59), (0, 8, 55), (55, 1, 57), (55, 0, 56), (0, 7, 53), (53, 0, 54), (0, 6, 51), (51, 0, 52), (0, 5, 32), (32, 5, 46), (32, 4, 41), (32, 3, 36), (32, 2, 35), (32, 1, 34), (32, 0, 33), (0, 4, 29), (29, 1, 31), (29, 0, 30), (0, 3, 28), (0, 2, 27), (0, 1, 13), (13, 4, 26), (13, 3, 25), (13, 2, 24), (13, 1, 19), (13, 0, 14), (0, 0, 1), (1, 2, 12), (1, 1, 11), (1, 0, 2)]) rfl ?_
  refine j_putRF X 11 36 (by decide) (by decide) hi rfl 88 (by decide) rfl rfl rfl rfl u986 (by decide) rfl dX11_init_253 ?_
  refine j_as (jK 89 [(66, 36, 88), (66, 35, 87), (66, 33, 86), (66, 21, 85), (66, 20, 84), (66, 19, 83), (66, 18, 82), (66, 17, 81), (66, 16, 80), (66, 15, 79), (66, 14, 78), (66, 13, 77), (66, 12, 76), (66, 11, 75), (66, 10, 74), (66, 8, 73), (66, 7, 72), (66, 6, 71), (66, 5, 70), (66, 4, 69), (66, 3, 68), (66, 2, 67), (0, 11, 65), (0, 10, 63), (63, 0, 64), (0, 9, 58), (58, 3, 62), (58, 2, 61), (58, 1, 60), (58, 0, 59), (0, 8, 55), (55, 1, 57), (55, 0, 56), (0, 7, 53), (53, 0, 54), (0, 6, 51), (51, 0, 52), (0, 5, 32), (32, 5, 46), (32, 4, 41), (32, 3, 36), (32, 2, 35), (32, 1, 34), (32, 0, 33), (0, 4, 29), (29, 1, 31), (29, 0, 30), (0, 3, 28), (0, 2, 27), (0, 1, 13), (13, 4, 26), (13, 3, 25), (13, 2, 24), (13, 1, 19), (13, 0, 14), (0, 0, 1), (1, 2, 12), (1, 1, 11), (1, 0, 2)]) rfl ?_
  refine j_aload_n X dX11_init_256 rfl ?_
  refine j_bipush X dX11_init_257 7 (by decide) ?_
  refine j_nrm (nI 7) rfl ?_
  refine j_newI X hR (Nat.le_of_ble_eq_true rfl) (Nat.le_of_ble_eq_true rfl) rfl rfl rfl (by rw [jup_o (by decide), jup_o (by decide), jup_o (by decide), jup_o (by decide), jup_o (by decide), jup_o (by decide), jup_o (by decide), jup_o (by decide), jup_o (by decide), jup_o (by decide), jup_o (by decide), jup_o (by decide), jup_o (by decide), jup_o (by decide), jup_o (by decide), jup_o (by decide), jup_o (by decide), jup_o (by decide)]; exact hm 89 (by decide)) (Nat.le_of_ble_eq_true rfl) (by decide) (jvo_b (by decide) (by decide)) dX11_init_259 ?_
  refine j_as (jK 90 [(66, 36, 88), (66, 35, 87), (66, 33, 86), (66, 21, 85), (66, 20, 84), (66, 19, 83), (66, 18, 82), (66, 17, 81), (66, 16, 80), (66, 15, 79), (66, 14, 78), (66, 13, 77), (66, 12, 76), (66, 11, 75), (66, 10, 74), (66, 8, 73), (66, 7, 72), (66, 6, 71), (66, 5, 70), (66, 4, 69), (66, 3, 68), (66, 2, 67), (0, 11, 65), (0, 10, 63), (63, 0, 64), (0, 9, 58), (58, 3, 62), (58, 2, 61), (58, 1, 60), (58, 0, 59), (0, 8, 55), (55, 1, 57), (55, 0, 56), (0, 7, 53), (53, 0, 54), (0, 6, 51), (51, 0, 52), (0, 5, 32), (32, 5, 46), (32, 4, 41), (32, 3, 36), (32, 2, 35), (32, 1, 34), (32, 0, 33), (0, 4, 29), (29, 1, 31), (29, 0, 30), (0, 3, 28), (0, 2, 27), (0, 1, 13), (13, 4, 26), (13, 3, 25), (13, 2, 24), (13, 1, 19), (13, 0, 14), (0, 0, 1), (1, 2, 12), (1, 1, 11), (1, 0, 2)]) rfl ?_
  refine j_putRF X 11 37 (by decide) (by decide) hi rfl 89 (by decide) rfl rfl rfl rfl u987 (by decide) rfl dX11_init_261 ?_
  refine j_as (jK 90 [(66, 37, 89), (66, 36, 88), (66, 35, 87), (66, 33, 86), (66, 21, 85), (66, 20, 84), (66, 19, 83), (66, 18, 82), (66, 17, 81), (66, 16, 80), (66, 15, 79), (66, 14, 78), (66, 13, 77), (66, 12, 76), (66, 11, 75), (66, 10, 74), (66, 8, 73), (66, 7, 72), (66, 6, 71), (66, 5, 70), (66, 4, 69), (66, 3, 68), (66, 2, 67), (0, 11, 65), (0, 10, 63), (63, 0, 64), (0, 9, 58), (58, 3, 62), (58, 2, 61), (58, 1, 60), (58, 0, 59), (0, 8, 55), (55, 1, 57), (55, 0, 56), (0, 7, 53), (53, 0, 54), (0, 6, 51), (51, 0, 52), (0, 5, 32), (32, 5, 46), (32, 4, 41), (32, 3, 36), (32, 2, 35), (32, 1, 34), (32, 0, 33), (0, 4, 29), (29, 1, 31), (29, 0, 30), (0, 3, 28), (0, 2, 27), (0, 1, 13), (13, 4, 26), (13, 3, 25), (13, 2, 24), (13, 1, 19), (13, 0, 14), (0, 0, 1), (1, 2, 12), (1, 1, 11), (1, 0, 2)]) rfl ?_
  refine j_aload_n X dX11_init_264 rfl ?_
  refine j_bipush X dX11_init_265 7 (by decide) ?_
  refine j_nrm (nI 7) rfl ?_
  refine j_newI X hR (Nat.le_of_ble_eq_true rfl) (Nat.le_of_ble_eq_true rfl) rfl rfl rfl (by rw [jup_o (by decide), jup_o (by decide), jup_o (by decide), jup_o (by decide), jup_o (by decide), jup_o (by decide), jup_o (by decide), jup_o (by decide), jup_o (by decide), jup_o (by decide), jup_o (by decide), jup_o (by decide), jup_o (by decide), jup_o (by decide), jup_o (by decide), jup_o (by decide), jup_o (by decide), jup_o (by decide)]; exact hm 90 (by decide)) (Nat.le_of_ble_eq_true rfl) (by decide) (jvo_b (by decide) (by decide)) dX11_init_267 ?_
  refine j_as (jK 91 [(66, 37, 89), (66, 36, 88), (66, 35, 87), (66, 33, 86), (66, 21, 85), (66, 20, 84), (66, 19, 83), (66, 18, 82), (66, 17, 81), (66, 16, 80), (66, 15, 79), (66, 14, 78), (66, 13, 77), (66, 12, 76), (66, 11, 75), (66, 10, 74), (66, 8, 73), (66, 7, 72), (66, 6, 71), (66, 5, 70), (66, 4, 69), (66, 3, 68), (66, 2, 67), (0, 11, 65), (0, 10, 63), (63, 0, 64), (0, 9, 58), (58, 3, 62), (58, 2, 61), (58, 1, 60), (58, 0, 59), (0, 8, 55), (55, 1, 57), (55, 0, 56), (0, 7, 53), (53, 0, 54), (0, 6, 51), (51, 0, 52), (0, 5, 32), (32, 5, 46), (32, 4, 41), (32, 3, 36), (32, 2, 35), (32, 1, 34), (32, 0, 33), (0, 4, 29), (29, 1, 31), (29, 0, 30), (0, 3, 28), (0, 2, 27), (0, 1, 13), (13, 4, 26), (13, 3, 25), (13, 2, 24), (13, 1, 19), (13, 0, 14), (0, 0, 1), (1, 2, 12), (1, 1, 11), (1, 0, 2)]) rfl ?_
  refine j_putRF X 11 38 (by decide) (by decide) hi rfl 90 (by decide) rfl rfl rfl rfl u988 (by decide) rfl dX11_init_269 ?_
  refine j_as (jK 91 [(66, 38, 90), (66, 37, 89), (66, 36, 88), (66, 35, 87), (66, 33, 86), (66, 21, 85), (66, 20, 84), (66, 19, 83), (66, 18, 82), (66, 17, 81), (66, 16, 80), (66, 15, 79), (66, 14, 78), (66, 13, 77), (66, 12, 76), (66, 11, 75), (66, 10, 74), (66, 8, 73), (66, 7, 72), (66, 6, 71), (66, 5, 70), (66, 4, 69), (66, 3, 68), (66, 2, 67), (0, 11, 65), (0, 10, 63), (63, 0, 64), (0, 9, 58), (58, 3, 62), (58, 2, 61), (58, 1, 60), (58, 0, 59), (0, 8, 55), (55, 1, 57), (55, 0, 56), (0, 7, 53), (53, 0, 54), (0, 6, 51), (51, 0, 52), (0, 5, 32), (32, 5, 46), (32, 4, 41), (32, 3, 36), (32, 2, 35), (32, 1, 34), (32, 0, 33), (0, 4, 29), (29, 1, 31), (29, 0, 30), (0, 3, 28), (0, 2, 27), (0, 1, 13), (13, 4, 26), (13, 3, 25), (13, 2, 24), (13, 1, 19), (13, 0, 14), (0, 0, 1), (1, 2, 12), (1, 1, 11), (1, 0, 2)]) rfl ?_
  refine j_aload_n X dX11_init_272 rfl ?_
  refine j_bipush X dX11_init_273 16 (by decide) ?_
  refine j_nrm (nI 16) rfl ?_
  refine j_newI X hR (Nat.le_of_ble_eq_true rfl) (Nat.le_of_ble_eq_true rfl) rfl rfl rfl (by rw [jup_o (by decide), jup_o (by decide), jup_o (by decide), jup_o (by decide), jup_o (by decide), jup_o (by decide), jup_o (by decide), jup_o (by decide), jup_o (by decide), jup_o (by decide), jup_o (by decide), jup_o (by decide), jup_o (by decide), jup_o (by decide), jup_o (by decide), jup_o (by decide), jup_o (by decide), jup_o (by decide)]; exact hm 91 (by decide)) (Nat.le_of_ble_eq_true rfl) (by decide) (jvo_b (by decide) (by decide)) dX11_init_275 ?_
  refine j_as (jK 92 [(66, 38, 90), (66, 37, 89), (66, 36, 88), (66, 35, 87), (66, 33, 86), (66, 21, 85), (66, 20, 84), (66, 19, 83), (66, 18, 82), (66, 17, 81), (66, 16, 80), (66, 15, 79), (66, 14, 78), (66, 13, 77), (66, 12, 76), (66, 11, 75), (66, 10, 74), (66, 8, 73), (66, 7, 72), (66, 6, 71), (66, 5, 70), (66, 4, 69), (66, 3, 68), (66, 2, 67), (0, 11, 65), (0, 10, 63), (63, 0, 64), (0, 9, 58), (58, 3, 62), (58, 2, 61), (58, 1, 60), (58, 0, 59), (0, 8, 55), (55, 1, 57), (55, 0, 56), (0, 7, 53), (53, 0, 54), (0, 6, 51), (51, 0, 52), (0, 5, 32), (32, 5, 46), (32, 4, 41), (32, 3, 36), (32, 2, 35), (32, 1, 34), (32, 0, 33), (0, 4, 29), (29, 1, 31), (29, 0, 30), (0, 3, 28), (0, 2, 27), (0, 1, 13), (13, 4, 26), (13, 3, 25), (13, 2, 24), (13, 1, 19), (13, 0, 14), (0, 0, 1), (1, 2, 12), (1, 1, 11), (1, 0, 2)]) rfl ?_
  refine j_putRF X 11 40 (by decide) (by decide) hi rfl 91 (by decide) rfl rfl rfl rfl u990 (by decide) rfl dX11_init_277 ?_
  refine j_as (jK 92 [(66, 40, 91), (66, 38, 90), (66, 37, 89), (66, 36, 88), (66, 35, 87), (66, 33, 86), (66, 21, 85), (66, 20, 84), (66, 19, 83), (66, 18, 82), (66, 17, 81), (66, 16, 80), (66, 15, 79), (66, 14, 78), (66, 13, 77), (66, 12, 76), (66, 11, 75), (66, 10, 74), (66, 8, 73), (66, 7, 72), (66, 6, 71), (66, 5, 70), (66, 4, 69), (66, 3, 68), (66, 2, 67), (0, 11, 65), (0, 10, 63), (63, 0, 64), (0, 9, 58), (58, 3, 62), (58, 2, 61), (58, 1, 60), (58, 0, 59), (0, 8, 55), (55, 1, 57), (55, 0, 56), (0, 7, 53), (53, 0, 54), (0, 6, 51), (51, 0, 52), (0, 5, 32), (32, 5, 46), (32, 4, 41), (32, 3, 36), (32, 2, 35), (32, 1, 34), (32, 0, 33), (0, 4, 29), (29, 1, 31), (29, 0, 30), (0, 3, 28), (0, 2, 27), (0, 1, 13), (13, 4, 26), (13, 3, 25), (13, 2, 24), (13, 1, 19), (13, 0, 14), (0, 0, 1), (1, 2, 12), (1, 1, 11), (1, 0, 2)]) rfl ?_
  have lp304 : ∀ (n k : Nat), k ≤ 8 → 9 ≤ k + n → J G RX11 cX11_init 2 25 1198 304 (jlv [some (.ref 66), some (.int (nI k))]) [] (jK 92 [(66, 40, 91), (66, 38, 90), (66, 37, 89), (66, 36, 88), (66, 35, 87), (66, 33, 86), (66, 21, 85), (66, 20, 84), (66, 19, 83), (66, 18, 82), (66, 17, 81), (66, 16, 80), (66, 15, 79), (66, 14, 78), (66, 13, 77), (66, 12, 76), (66, 11, 75), (66, 10, 74), (66, 8, 73), (66, 7, 72), (66, 6, 71), (66, 5, 70), (66, 4, 69), (66, 3, 68), (66, 2, 67), (0, 11, 65), (0, 10, 63), (63, 0, 64), (0, 9, 58), (58, 3, 62), (58, 2, 61), (58, 1, 60), (58, 0, 59), (0, 8, 55), (55, 1, 57), (55, 0, 56), (0, 7, 53), (53, 0, 54), (0, 6, 51), (51, 0, 52), (0, 5, 32), (32, 5, 46), (32, 4, 41), (32, 3, 36), (32, 2, 35), (32, 1, 34), (32, 0, 33), (0, 4, 29), (29, 1, 31), (29, 0, 30), (0, 3, 28), (0, 2, 27), (0, 1, 13), (13, 4, 26), (13, 3, 25), (13, 2, 24), (13, 1, 19), (13, 0, 14), (0, 0, 1), (1, 2, 12), (1, 1, 11), (1, 0, 2)]) (jfill (jfill (jup (jup (jup (jup (jup (jup (jup (jup (jup (jup (jup (jup (jup (jup (jup (jup (jup (jup mem 67 0 (-1)) 67 1 (-1)) 67 2 (-1)) 67 3 (-1)) 67 4 (-1)) 67 5 (-1)) 67 6 (-1)) 67 7 (-1)) 78 0 2) 78 1 3) 78 2 4) 78 3 5) 78 4 6) 78 5 7) 80 0 15) 80 1 15) 80 2 15) 80 3 15) 75 0 (0 + 12) (-1000000)) 73 0 (0 + k) (-1000000)) := by
    intro n
    induction n with
    | zero => intro k h1 h2; exact absurd h2 (by omega)
    | succ n ih =>
      intro k h1 h2
      refine j_iload_n X dX11_init_304 rfl ?_
      refine j_bipush X dX11_init_305 8 (by decide) ?_
      refine j_icmp_ge X 324 dX11_init_307 (by decide) (fun c_9 => ?_) (fun c_9 => ?_)
      · obtain rfl : k = 8 := by have := (nI_leI (a := 8) (by omega) (by omega)).mp c_9; omega
        exact j_return X hE hr (Nat.le_of_ble_eq_true rfl) (Nat.le_of_ble_eq_true rfl) dX11_init_324 ⟨rfl, rfl, rfl⟩
      · have hk : k < 8 := by
          rcases Nat.lt_or_ge k 8 with q | q
          · exact q
          · exact absurd ((nI_leI (a := 8) (by omega) (by omega)).mpr q) c_9
        refine j_aload_n X dX11_init_310 rfl ?_
        refine j_getR X 11 8 (by decide) (by decide) rfl u958 (by decide) rfl 73 rfl dX11_init_311 ?_
        refine j_iload_n X dX11_init_314 rfl ?_
        refine j_ldc X dX11_init_315 u949 ?_
        refine j_iastN X (by decide) rfl (show k < 8 from hk) (by decide) dX11_init_317 ?_
        refine j_iinc X dX11_init_318 rfl 1 rfl ?_
        refine j_goto X 304 dX11_init_321 (by decide) ?_
        refine j_mem (jfill (jfill (jup (jup (jup (jup (jup (jup (jup (jup (jup (jup (jup (jup (jup (jup (jup (jup (jup (jup mem 67 0 (-1)) 67 1 (-1)) 67 2 (-1)) 67 3 (-1)) 67 4 (-1)) 67 5 (-1)) 67 6 (-1)) 67 7 (-1)) 78 0 2) 78 1 3) 78 2 4) 78 3 5) 78 4 6) 78 5 7) 80 0 15) 80 1 15) 80 2 15) 80 3 15) 75 0 (0 + 12) (-1000000)) 73 0 (0 + (k + 1)) (-1000000)) jfill_s0 ?_
        refine j_lv [some (.ref 66), some (.int (nI (k + 1)))] ⟨rfl, congrArg (fun z => some (Value.int z)) (nI_1 _), trivial⟩ ?_
        exact ih (k + 1) (by omega) (by omega)
  have lp282 : ∀ (n k : Nat), k ≤ 12 → 13 ≤ k + n → J G RX11 cX11_init 2 25 1198 282 (jlv [some (.ref 66), some (.int (nI k))]) [] (jK 92 [(66, 40, 91), (66, 38, 90), (66, 37, 89), (66, 36, 88), (66, 35, 87), (66, 33, 86), (66, 21, 85), (66, 20, 84), (66, 19, 83), (66, 18, 82), (66, 17, 81), (66, 16, 80), (66, 15, 79), (66, 14, 78), (66, 13, 77), (66, 12, 76), (66, 11, 75), (66, 10, 74), (66, 8, 73), (66, 7, 72), (66, 6, 71), (66, 5, 70), (66, 4, 69), (66, 3, 68), (66, 2, 67), (0, 11, 65), (0, 10, 63), (63, 0, 64), (0, 9, 58), (58, 3, 62), (58, 2, 61), (58, 1, 60), (58, 0, 59), (0, 8, 55), (55, 1, 57), (55, 0, 56), (0, 7, 53), (53, 0, 54), (0, 6, 51), (51, 0, 52), (0, 5, 32), (32, 5, 46), (32, 4, 41), (32, 3, 36), (32, 2, 35), (32, 1, 34), (32, 0, 33), (0, 4, 29), (29, 1, 31), (29, 0, 30), (0, 3, 28), (0, 2, 27), (0, 1, 13), (13, 4, 26), (13, 3, 25), (13, 2, 24), (13, 1, 19), (13, 0, 14), (0, 0, 1), (1, 2, 12), (1, 1, 11), (1, 0, 2)]) (jfill (jup (jup (jup (jup (jup (jup (jup (jup (jup (jup (jup (jup (jup (jup (jup (jup (jup (jup mem 67 0 (-1)) 67 1 (-1)) 67 2 (-1)) 67 3 (-1)) 67 4 (-1)) 67 5 (-1)) 67 6 (-1)) 67 7 (-1)) 78 0 2) 78 1 3) 78 2 4) 78 3 5) 78 4 6) 78 5 7) 80 0 15) 80 1 15) 80 2 15) 80 3 15) 75 0 (0 + k) (-1000000)) := by
    intro n
    induction n with
    | zero => intro k h1 h2; exact absurd h2 (by omega)
    | succ n ih =>
      intro k h1 h2
      refine j_iload_n X dX11_init_282 rfl ?_
      refine j_bipush X dX11_init_283 12 (by decide) ?_
      refine j_icmp_ge X 302 dX11_init_285 (by decide) (fun c_9 => ?_) (fun c_9 => ?_)
      · obtain rfl : k = 12 := by have := (nI_leI (a := 12) (by omega) (by omega)).mp c_9; omega
        refine j_iconst X dX11_init_302 0 (by decide) ?_
        refine j_istore_n X dX11_init_303 (by decide) ?_
        refine j_mem (jfill (jfill (jup (jup (jup (jup (jup (jup (jup (jup (jup (jup (jup (jup (jup (jup (jup (jup (jup (jup mem 67 0 (-1)) 67 1 (-1)) 67 2 (-1)) 67 3 (-1)) 67 4 (-1)) 67 5 (-1)) 67 6 (-1)) 67 7 (-1)) 78 0 2) 78 1 3) 78 2 4) 78 3 5) 78 4 6) 78 5 7) 80 0 15) 80 1 15) 80 2 15) 80 3 15) 75 0 (0 + 12) (-1000000)) 73 0 (0 + 0) (-1000000)) (jfill_0 _ _ _ _).symm ?_
        refine j_lv [some (.ref 66), some (.int (nI 0))] ⟨rfl, rfl, trivial⟩ ?_
        exact lp304 9 0 (by omega) (by omega)
      · have hk : k < 12 := by
          rcases Nat.lt_or_ge k 12 with q | q
          · exact q
          · exact absurd ((nI_leI (a := 12) (by omega) (by omega)).mpr q) c_9
        refine j_aload_n X dX11_init_288 rfl ?_
        refine j_getR X 11 11 (by decide) (by decide) rfl u961 (by decide) rfl 75 rfl dX11_init_289 ?_
        refine j_iload_n X dX11_init_292 rfl ?_
        refine j_ldc X dX11_init_293 u949 ?_
        refine j_iastN X (by decide) rfl (show k < 12 from hk) (by decide) dX11_init_295 ?_
        refine j_iinc X dX11_init_296 rfl 1 rfl ?_
        refine j_goto X 282 dX11_init_299 (by decide) ?_
        refine j_mem (jfill (jup (jup (jup (jup (jup (jup (jup (jup (jup (jup (jup (jup (jup (jup (jup (jup (jup (jup mem 67 0 (-1)) 67 1 (-1)) 67 2 (-1)) 67 3 (-1)) 67 4 (-1)) 67 5 (-1)) 67 6 (-1)) 67 7 (-1)) 78 0 2) 78 1 3) 78 2 4) 78 3 5) 78 4 6) 78 5 7) 80 0 15) 80 1 15) 80 2 15) 80 3 15) 75 0 (0 + (k + 1)) (-1000000)) jfill_s0 ?_
        refine j_lv [some (.ref 66), some (.int (nI (k + 1)))] ⟨rfl, congrArg (fun z => some (Value.int z)) (nI_1 _), trivial⟩ ?_
        exact ih (k + 1) (by omega) (by omega)
  refine j_iconst X dX11_init_280 0 (by decide) ?_
  refine j_istore_n X dX11_init_281 (by decide) ?_
  refine j_mem (jfill (jup (jup (jup (jup (jup (jup (jup (jup (jup (jup (jup (jup (jup (jup (jup (jup (jup (jup mem 67 0 (-1)) 67 1 (-1)) 67 2 (-1)) 67 3 (-1)) 67 4 (-1)) 67 5 (-1)) 67 6 (-1)) 67 7 (-1)) 78 0 2) 78 1 3) 78 2 4) 78 3 5) 78 4 6) 78 5 7) 80 0 15) 80 1 15) 80 2 15) 80 3 15) 75 0 (0 + 0) (-1000000)) (jfill_0 _ _ _ _).symm ?_
  refine j_lv [some (.ref 66), some (.int (nI 0))] ⟨rfl, rfl, trivial⟩ ?_
  exact lp282 13 0 (by omega) (by omega)
