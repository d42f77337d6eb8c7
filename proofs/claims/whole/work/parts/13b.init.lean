/-! THE CONSTRUCTORS: n cells, the references as they are set -/
def jpt0 : Nat → Nat → Option Nat := fun i => if jkd i = 15 then jpt 0 i else fun _ => none
def ptL : List (Nat × Nat × Nat) → Nat → Nat → Option Nat
  | [] => jpt0
  | (o, k, t) :: L => va_up (ptL L) o (va_up (ptL L o) k (some t))
def jK (n : Nat) (L : List (Nat × Nat × Nat)) : jSh := (n, jkd, jln, ptL L)
theorem j_as {G : jG} {own : String} {cc : ByteArray} {nL u us pc : Nat} {lv : Nat → Option Value} {st : List Value} {sh : jSh} {mem : jMem} (sh2 : jSh) (h : sh = sh2) (k : J G own cc nL u us pc lv st sh2 mem) : J G own cc nL u us pc lv st sh mem := by rw [h]; exact k
theorem jfill_o {mem : jMem} {o a b i : Nat} {v : Int32} (h : ¬ i = o) : jfill mem o a b v i = mem i := if_neg h
set_option maxRecDepth 8000 in
set_option maxHeartbeats 4000000 in
theorem i_Sheets (mem : jMem) (hm : ∀ i, 2 ≤ i → mem i = fun _ => 0) : jCt yX7_init cX7_init 1 none 2 11 504 [.ref 1] (jK 2 []) mem (fun a b c => a = none ∧ b = (jK 13 [(1, 2, 12), (1, 1, 11), (1, 0, 2)]) ∧ c = (jfill mem 12 0 8 (-1))) := by
  refine jCt.of rfl (Nat.le_of_ble_eq_true rfl) (fun G X hR hr hin hE => ?_)
  have hi := hin rfl
  refine j_lv [some (.ref 1)] ⟨rfl, trivial⟩ ?_
  refine j_aload_n X dX7_init_0 rfl ?_
  refine j_objI X hR (by decide) u34 (Nat.le_of_ble_eq_true rfl) dX7_init_1 ?_
  refine j_aload_n X dX7_init_4 rfl ?_
  refine j_bipush X dX7_init_5 8 (by decide) ?_
  refine j_bipush X dX7_init_7 60 (by decide) ?_
  refine j_nrm (nI 60) rfl ?_
  refine j_nrm2 (nI 8) rfl ?_
  refine j_newM X hR u35 (Nat.le_of_ble_eq_true rfl) (Nat.le_of_ble_eq_true rfl) rfl rfl (fun j => rfl) (fun j hj => ?_) (Nat.le_of_ble_eq_true rfl) (by decide) (by decide) (jvo_b (by decide) (by decide)) dX7_init_9 ?_
  · rcases (show j = 0 ∨ j = 1 ∨ j = 2 ∨ j = 3 ∨ j = 4 ∨ j = 5 ∨ j = 6 ∨ j = 7 by omega) with rfl | rfl | rfl | rfl | rfl | rfl | rfl | rfl
    · exact ⟨rfl, rfl, rfl, (hm 3 (by decide))⟩
    · exact ⟨rfl, rfl, rfl, (hm 4 (by decide))⟩
    · exact ⟨rfl, rfl, rfl, (hm 5 (by decide))⟩
    · exact ⟨rfl, rfl, rfl, (hm 6 (by decide))⟩
    · exact ⟨rfl, rfl, rfl, (hm 7 (by decide))⟩
    · exact ⟨rfl, rfl, rfl, (hm 8 (by decide))⟩
    · exact ⟨rfl, rfl, rfl, (hm 9 (by decide))⟩
    · exact ⟨rfl, rfl, rfl, (hm 10 (by decide))⟩
  refine j_as (jK 11 []) rfl ?_
  refine j_putRF X 7 0 (by decide) (by decide) hi rfl 2 (by decide) rfl rfl rfl rfl u40 (by decide) rfl dX7_init_13 ?_
  refine j_as (jK 11 [(1, 0, 2)]) rfl ?_
  refine j_aload_n X dX7_init_16 rfl ?_
  refine j_bipush X dX7_init_17 8 (by decide) ?_
  refine j_nrm (nI 8) rfl ?_
  refine j_newI X hR (Nat.le_of_ble_eq_true rfl) (Nat.le_of_ble_eq_true rfl) rfl rfl rfl (hm 11 (by decide)) (Nat.le_of_ble_eq_true rfl) (by decide) (jvo_b (by decide) (by decide)) dX7_init_19 ?_
  refine j_as (jK 12 [(1, 0, 2)]) rfl ?_
  refine j_putRF X 7 1 (by decide) (by decide) hi rfl 11 (by decide) rfl rfl rfl rfl u42 (by decide) rfl dX7_init_21 ?_
  refine j_as (jK 12 [(1, 1, 11), (1, 0, 2)]) rfl ?_
  refine j_aload_n X dX7_init_24 rfl ?_
  refine j_bipush X dX7_init_25 8 (by decide) ?_
  refine j_nrm (nI 8) rfl ?_
  refine j_newI X hR (Nat.le_of_ble_eq_true rfl) (Nat.le_of_ble_eq_true rfl) rfl rfl rfl (hm 12 (by decide)) (Nat.le_of_ble_eq_true rfl) (by decide) (jvo_b (by decide) (by decide)) dX7_init_27 ?_
  refine j_as (jK 13 [(1, 1, 11), (1, 0, 2)]) rfl ?_
  refine j_putRF X 7 2 (by decide) (by decide) hi rfl 12 (by decide) rfl rfl rfl rfl u44 (by decide) rfl dX7_init_29 ?_
  refine j_as (jK 13 [(1, 2, 12), (1, 1, 11), (1, 0, 2)]) rfl ?_
  refine j_aload_n X dX7_init_32 rfl ?_
  refine j_getR X 7 2 (by decide) (by decide) rfl u44 (by decide) rfl 12 rfl dX7_init_33 ?_
  refine j_iconst X dX7_init_36 (-1) (by decide) ?_
  refine j_callS X hR (c_fillG (jK 13 [(1, 2, 12), (1, 1, 11), (1, 0, 2)]) _ 12 8 (-1) (by decide) rfl rfl (by decide)) rfl u39 u37 u38 u3 hyJ7_fill_53178 (by decide) (by decide) (Nat.le_of_ble_eq_true rfl) ⟨Nat.le_of_ble_eq_true rfl, Nat.le_of_ble_eq_true rfl⟩ dX7_init_37 (fun r sh2 mem2 hp => ?_)
  obtain ⟨rfl, rfl, rfl⟩ := hp
  refine ⟨Or.inl rfl, ?_⟩
  refine j_return X hE hr (Nat.le_of_ble_eq_true rfl) (Nat.le_of_ble_eq_true rfl) dX7_init_40 ⟨rfl, rfl, rfl⟩
set_option maxRecDepth 8000 in
set_option maxHeartbeats 4000000 in
theorem i_Offices (mem : jMem) (hm : ∀ i, 14 ≤ i → mem i = fun _ => 0) : jCt yX5_init cX5_init 1 none 2 13 68 [.ref 13] (jK 14 [(0, 0, 1), (1, 2, 12), (1, 1, 11), (1, 0, 2)]) mem (fun a b c => a = none ∧ b = (jK 27 [(13, 4, 26), (13, 3, 25), (13, 2, 24), (13, 1, 19), (13, 0, 14), (0, 0, 1), (1, 2, 12), (1, 1, 11), (1, 0, 2)]) ∧ c = (jfill (jfill mem 25 0 4 1000) 26 0 4 1000)) := by
  refine jCt.of rfl (Nat.le_of_ble_eq_true rfl) (fun G X hR hr hin hE => ?_)
  have hi := hin rfl
  refine j_lv [some (.ref 13)] ⟨rfl, trivial⟩ ?_
  refine j_aload_n X dX5_init_0 rfl ?_
  refine j_objI X hR (by decide) u58 (Nat.le_of_ble_eq_true rfl) dX5_init_1 ?_
  refine j_aload_n X dX5_init_4 rfl ?_
  refine j_iconst X dX5_init_5 4 (by decide) ?_
  refine j_bipush X dX5_init_6 6 (by decide) ?_
  refine j_nrm (nI 6) rfl ?_
  refine j_nrm2 (nI 4) rfl ?_
  refine j_newM X hR u59 (Nat.le_of_ble_eq_true rfl) (Nat.le_of_ble_eq_true rfl) rfl rfl (fun j => rfl) (fun j hj => ?_) (Nat.le_of_ble_eq_true rfl) (by decide) (by decide) (jvo_b (by decide) (by decide)) dX5_init_8 ?_
  · rcases (show j = 0 ∨ j = 1 ∨ j = 2 ∨ j = 3 by omega) with rfl | rfl | rfl | rfl
    · exact ⟨rfl, rfl, rfl, (hm 15 (by decide))⟩
    · exact ⟨rfl, rfl, rfl, (hm 16 (by decide))⟩
    · exact ⟨rfl, rfl, rfl, (hm 17 (by decide))⟩
    · exact ⟨rfl, rfl, rfl, (hm 18 (by decide))⟩
  refine j_as (jK 19 [(0, 0, 1), (1, 2, 12), (1, 1, 11), (1, 0, 2)]) rfl ?_
  refine j_putRF X 5 0 (by decide) (by decide) hi rfl 14 (by decide) rfl rfl rfl rfl u61 (by decide) rfl dX5_init_12 ?_
  refine j_as (jK 19 [(13, 0, 14), (0, 0, 1), (1, 2, 12), (1, 1, 11), (1, 0, 2)]) rfl ?_
  refine j_aload_n X dX5_init_15 rfl ?_
  refine j_iconst X dX5_init_16 4 (by decide) ?_
  refine j_bipush X dX5_init_17 6 (by decide) ?_
  refine j_nrm (nI 6) rfl ?_
  refine j_nrm2 (nI 4) rfl ?_
  refine j_newM X hR u59 (Nat.le_of_ble_eq_true rfl) (Nat.le_of_ble_eq_true rfl) rfl rfl (fun j => rfl) (fun j hj => ?_) (Nat.le_of_ble_eq_true rfl) (by decide) (by decide) (jvo_b (by decide) (by decide)) dX5_init_19 ?_
  · rcases (show j = 0 ∨ j = 1 ∨ j = 2 ∨ j = 3 by omega) with rfl | rfl | rfl | rfl
    · exact ⟨rfl, rfl, rfl, (hm 20 (by decide))⟩
    · exact ⟨rfl, rfl, rfl, (hm 21 (by decide))⟩
    · exact ⟨rfl, rfl, rfl, (hm 22 (by decide))⟩
    · exact ⟨rfl, rfl, rfl, (hm 23 (by decide))⟩
  refine j_as (jK 24 [(13, 0, 14), (0, 0, 1), (1, 2, 12), (1, 1, 11), (1, 0, 2)]) rfl ?_
  refine j_putRF X 5 1 (by decide) (by decide) hi rfl 19 (by decide) rfl rfl rfl rfl u62 (by decide) rfl dX5_init_23 ?_
  refine j_as (jK 24 [(13, 1, 19), (13, 0, 14), (0, 0, 1), (1, 2, 12), (1, 1, 11), (1, 0, 2)]) rfl ?_
  refine j_aload_n X dX5_init_26 rfl ?_
  refine j_iconst X dX5_init_27 4 (by decide) ?_
  refine j_nrm (nI 4) rfl ?_
  refine j_newI X hR (Nat.le_of_ble_eq_true rfl) (Nat.le_of_ble_eq_true rfl) rfl rfl rfl (hm 24 (by decide)) (Nat.le_of_ble_eq_true rfl) (by decide) (jvo_b (by decide) (by decide)) dX5_init_28 ?_
  refine j_as (jK 25 [(13, 1, 19), (13, 0, 14), (0, 0, 1), (1, 2, 12), (1, 1, 11), (1, 0, 2)]) rfl ?_
  refine j_putRF X 5 2 (by decide) (by decide) hi rfl 24 (by decide) rfl rfl rfl rfl u63 (by decide) rfl dX5_init_30 ?_
  refine j_as (jK 25 [(13, 2, 24), (13, 1, 19), (13, 0, 14), (0, 0, 1), (1, 2, 12), (1, 1, 11), (1, 0, 2)]) rfl ?_
  refine j_aload_n X dX5_init_33 rfl ?_
  refine j_iconst X dX5_init_34 4 (by decide) ?_
  refine j_nrm (nI 4) rfl ?_
  refine j_newI X hR (Nat.le_of_ble_eq_true rfl) (Nat.le_of_ble_eq_true rfl) rfl rfl rfl (hm 25 (by decide)) (Nat.le_of_ble_eq_true rfl) (by decide) (jvo_b (by decide) (by decide)) dX5_init_35 ?_
  refine j_as (jK 26 [(13, 2, 24), (13, 1, 19), (13, 0, 14), (0, 0, 1), (1, 2, 12), (1, 1, 11), (1, 0, 2)]) rfl ?_
  refine j_putRF X 5 3 (by decide) (by decide) hi rfl 25 (by decide) rfl rfl rfl rfl u65 (by decide) rfl dX5_init_37 ?_
  refine j_as (jK 26 [(13, 3, 25), (13, 2, 24), (13, 1, 19), (13, 0, 14), (0, 0, 1), (1, 2, 12), (1, 1, 11), (1, 0, 2)]) rfl ?_
  refine j_aload_n X dX5_init_40 rfl ?_
  refine j_iconst X dX5_init_41 4 (by decide) ?_
  refine j_nrm (nI 4) rfl ?_
  refine j_newI X hR (Nat.le_of_ble_eq_true rfl) (Nat.le_of_ble_eq_true rfl) rfl rfl rfl (hm 26 (by decide)) (Nat.le_of_ble_eq_true rfl) (by decide) (jvo_b (by decide) (by decide)) dX5_init_42 ?_
  refine j_as (jK 27 [(13, 3, 25), (13, 2, 24), (13, 1, 19), (13, 0, 14), (0, 0, 1), (1, 2, 12), (1, 1, 11), (1, 0, 2)]) rfl ?_
  refine j_putRF X 5 4 (by decide) (by decide) hi rfl 26 (by decide) rfl rfl rfl rfl u67 (by decide) rfl dX5_init_44 ?_
  refine j_as (jK 27 [(13, 4, 26), (13, 3, 25), (13, 2, 24), (13, 1, 19), (13, 0, 14), (0, 0, 1), (1, 2, 12), (1, 1, 11), (1, 0, 2)]) rfl ?_
  refine j_aload_n X dX5_init_47 rfl ?_
  refine j_getR X 5 3 (by decide) (by decide) rfl u65 (by decide) rfl 25 rfl dX5_init_48 ?_
  refine j_sipush X dX5_init_51 1000 (by decide) ?_
  refine j_callS X hR (c_fillG (jK 27 [(13, 4, 26), (13, 3, 25), (13, 2, 24), (13, 1, 19), (13, 0, 14), (0, 0, 1), (1, 2, 12), (1, 1, 11), (1, 0, 2)]) _ 25 4 1000 (by decide) rfl rfl (by decide)) rfl u39 u60 u38 u3 hyJ7_fill_53178 (by decide) (by decide) (Nat.le_of_ble_eq_true rfl) ⟨Nat.le_of_ble_eq_true rfl, Nat.le_of_ble_eq_true rfl⟩ dX5_init_54 (fun r sh2 mem2 hp => ?_)
  obtain ⟨rfl, rfl, rfl⟩ := hp
  refine ⟨Or.inl rfl, ?_⟩
  refine j_aload_n X dX5_init_57 rfl ?_
  refine j_getR X 5 4 (by decide) (by decide) rfl u67 (by decide) rfl 26 rfl dX5_init_58 ?_
  refine j_sipush X dX5_init_61 1000 (by decide) ?_
  refine j_callS X hR (c_fillG (jK 27 [(13, 4, 26), (13, 3, 25), (13, 2, 24), (13, 1, 19), (13, 0, 14), (0, 0, 1), (1, 2, 12), (1, 1, 11), (1, 0, 2)]) _ 26 4 1000 (by decide) rfl rfl (by decide)) rfl u39 u60 u38 u3 hyJ7_fill_53178 (by decide) (by decide) (Nat.le_of_ble_eq_true rfl) ⟨Nat.le_of_ble_eq_true rfl, Nat.le_of_ble_eq_true rfl⟩ dX5_init_64 (fun r sh2 mem2 hp => ?_)
  obtain ⟨rfl, rfl, rfl⟩ := hp
  refine ⟨Or.inl rfl, ?_⟩
  refine j_return X hE hr (Nat.le_of_ble_eq_true rfl) (Nat.le_of_ble_eq_true rfl) dX5_init_67 ⟨rfl, rfl, rfl⟩
set_option maxRecDepth 8000 in
set_option maxHeartbeats 4000000 in
theorem i_Circle (mem : jMem) (hm : ∀ i, 30 ≤ i → mem i = fun _ => 0) : jCt yX2_init cX2_init 1 none 1 2 12 [.ref 29] (jK 30 [(0, 3, 28), (0, 2, 27), (0, 1, 13), (13, 4, 26), (13, 3, 25), (13, 2, 24), (13, 1, 19), (13, 0, 14), (0, 0, 1), (1, 2, 12), (1, 1, 11), (1, 0, 2)]) mem (fun a b c => a = none ∧ b = (jK 32 [(29, 1, 31), (29, 0, 30), (0, 3, 28), (0, 2, 27), (0, 1, 13), (13, 4, 26), (13, 3, 25), (13, 2, 24), (13, 1, 19), (13, 0, 14), (0, 0, 1), (1, 2, 12), (1, 1, 11), (1, 0, 2)]) ∧ c = mem) := by
  refine jCt.of rfl (Nat.le_of_ble_eq_true rfl) (fun G X hR hr hin hE => ?_)
  have hi := hin rfl
  refine j_lv [some (.ref 29)] ⟨rfl, trivial⟩ ?_
  refine j_aload_n X dX2_init_0 rfl ?_
  refine j_objI X hR (by decide) u87 (Nat.le_of_ble_eq_true rfl) dX2_init_1 ?_
  refine j_aload_n X dX2_init_4 rfl ?_
  refine j_bipush X dX2_init_5 6 (by decide) ?_
  refine j_nrm (nI 6) rfl ?_
  refine j_newI X hR (Nat.le_of_ble_eq_true rfl) (Nat.le_of_ble_eq_true rfl) rfl rfl rfl (hm 30 (by decide)) (Nat.le_of_ble_eq_true rfl) (by decide) (jvo_b (by decide) (by decide)) dX2_init_7 ?_
  refine j_as (jK 31 [(0, 3, 28), (0, 2, 27), (0, 1, 13), (13, 4, 26), (13, 3, 25), (13, 2, 24), (13, 1, 19), (13, 0, 14), (0, 0, 1), (1, 2, 12), (1, 1, 11), (1, 0, 2)]) rfl ?_
  refine j_putRF X 2 0 (by decide) (by decide) hi rfl 30 (by decide) rfl rfl rfl rfl u88 (by decide) rfl dX2_init_9 ?_
  refine j_as (jK 31 [(29, 0, 30), (0, 3, 28), (0, 2, 27), (0, 1, 13), (13, 4, 26), (13, 3, 25), (13, 2, 24), (13, 1, 19), (13, 0, 14), (0, 0, 1), (1, 2, 12), (1, 1, 11), (1, 0, 2)]) rfl ?_
  refine j_aload_n X dX2_init_12 rfl ?_
  refine j_bipush X dX2_init_13 6 (by decide) ?_
  refine j_nrm (nI 6) rfl ?_
  refine j_newI X hR (Nat.le_of_ble_eq_true rfl) (Nat.le_of_ble_eq_true rfl) rfl rfl rfl (hm 31 (by decide)) (Nat.le_of_ble_eq_true rfl) (by decide) (jvo_b (by decide) (by decide)) dX2_init_15 ?_
  refine j_as (jK 32 [(29, 0, 30), (0, 3, 28), (0, 2, 27), (0, 1, 13), (13, 4, 26), (13, 3, 25), (13, 2, 24), (13, 1, 19), (13, 0, 14), (0, 0, 1), (1, 2, 12), (1, 1, 11), (1, 0, 2)]) rfl ?_
  refine j_putRF X 2 1 (by decide) (by decide) hi rfl 31 (by decide) rfl rfl rfl rfl u89 (by decide) rfl dX2_init_17 ?_
  refine j_as (jK 32 [(29, 1, 31), (29, 0, 30), (0, 3, 28), (0, 2, 27), (0, 1, 13), (13, 4, 26), (13, 3, 25), (13, 2, 24), (13, 1, 19), (13, 0, 14), (0, 0, 1), (1, 2, 12), (1, 1, 11), (1, 0, 2)]) rfl ?_
  refine j_return X hE hr (Nat.le_of_ble_eq_true rfl) (Nat.le_of_ble_eq_true rfl) dX2_init_20 ⟨rfl, rfl, rfl⟩
set_option maxRecDepth 8000 in
set_option maxHeartbeats 4000000 in
theorem i_Gates (mem : jMem) (hm : ∀ i, 33 ≤ i → mem i = fun _ => 0) : jCt yX3_init cX3_init 1 none 2 18 120 [.ref 32] (jK 33 [(0, 4, 29), (29, 1, 31), (29, 0, 30), (0, 3, 28), (0, 2, 27), (0, 1, 13), (13, 4, 26), (13, 3, 25), (13, 2, 24), (13, 1, 19), (13, 0, 14), (0, 0, 1), (1, 2, 12), (1, 1, 11), (1, 0, 2)]) mem (fun a b c => a = none ∧ b = (jK 51 [(32, 5, 46), (32, 4, 41), (32, 3, 36), (32, 2, 35), (32, 1, 34), (32, 0, 33), (0, 4, 29), (29, 1, 31), (29, 0, 30), (0, 3, 28), (0, 2, 27), (0, 1, 13), (13, 4, 26), (13, 3, 25), (13, 2, 24), (13, 1, 19), (13, 0, 14), (0, 0, 1), (1, 2, 12), (1, 1, 11), (1, 0, 2)]) ∧ c = (jfill mem 34 0 4 15)) := by
  refine jCt.of rfl (Nat.le_of_ble_eq_true rfl) (fun G X hR hr hin hE => ?_)
  have hi := hin rfl
  refine j_lv [some (.ref 32)] ⟨rfl, trivial⟩ ?_
  refine j_aload_n X dX3_init_0 rfl ?_
  refine j_objI X hR (by decide) u100 (Nat.le_of_ble_eq_true rfl) dX3_init_1 ?_
  refine j_aload_n X dX3_init_4 rfl ?_
  refine j_iconst X dX3_init_5 4 (by decide) ?_
  refine j_nrm (nI 4) rfl ?_
  refine j_newI X hR (Nat.le_of_ble_eq_true rfl) (Nat.le_of_ble_eq_true rfl) rfl rfl rfl (hm 33 (by decide)) (Nat.le_of_ble_eq_true rfl) (by decide) (jvo_b (by decide) (by decide)) dX3_init_6 ?_
  refine j_as (jK 34 [(0, 4, 29), (29, 1, 31), (29, 0, 30), (0, 3, 28), (0, 2, 27), (0, 1, 13), (13, 4, 26), (13, 3, 25), (13, 2, 24), (13, 1, 19), (13, 0, 14), (0, 0, 1), (1, 2, 12), (1, 1, 11), (1, 0, 2)]) rfl ?_
  refine j_putRF X 3 0 (by decide) (by decide) hi rfl 33 (by decide) rfl rfl rfl rfl u103 (by decide) rfl dX3_init_8 ?_
  refine j_as (jK 34 [(32, 0, 33), (0, 4, 29), (29, 1, 31), (29, 0, 30), (0, 3, 28), (0, 2, 27), (0, 1, 13), (13, 4, 26), (13, 3, 25), (13, 2, 24), (13, 1, 19), (13, 0, 14), (0, 0, 1), (1, 2, 12), (1, 1, 11), (1, 0, 2)]) rfl ?_
  refine j_aload_n X dX3_init_11 rfl ?_
  refine j_iconst X dX3_init_12 4 (by decide) ?_
  refine j_nrm (nI 4) rfl ?_
  refine j_newI X hR (Nat.le_of_ble_eq_true rfl) (Nat.le_of_ble_eq_true rfl) rfl rfl rfl (hm 34 (by decide)) (Nat.le_of_ble_eq_true rfl) (by decide) (jvo_b (by decide) (by decide)) dX3_init_13 ?_
  refine j_as (jK 35 [(32, 0, 33), (0, 4, 29), (29, 1, 31), (29, 0, 30), (0, 3, 28), (0, 2, 27), (0, 1, 13), (13, 4, 26), (13, 3, 25), (13, 2, 24), (13, 1, 19), (13, 0, 14), (0, 0, 1), (1, 2, 12), (1, 1, 11), (1, 0, 2)]) rfl ?_
  refine j_putRF X 3 1 (by decide) (by decide) hi rfl 34 (by decide) rfl rfl rfl rfl u105 (by decide) rfl dX3_init_15 ?_
  refine j_as (jK 35 [(32, 1, 34), (32, 0, 33), (0, 4, 29), (29, 1, 31), (29, 0, 30), (0, 3, 28), (0, 2, 27), (0, 1, 13), (13, 4, 26), (13, 3, 25), (13, 2, 24), (13, 1, 19), (13, 0, 14), (0, 0, 1), (1, 2, 12), (1, 1, 11), (1, 0, 2)]) rfl ?_
  refine j_aload_n X dX3_init_18 rfl ?_
  refine j_iconst X dX3_init_19 4 (by decide) ?_
  refine j_nrm (nI 4) rfl ?_
  refine j_newI X hR (Nat.le_of_ble_eq_true rfl) (Nat.le_of_ble_eq_true rfl) rfl rfl rfl (hm 35 (by decide)) (Nat.le_of_ble_eq_true rfl) (by decide) (jvo_b (by decide) (by decide)) dX3_init_20 ?_
  refine j_as (jK 36 [(32, 1, 34), (32, 0, 33), (0, 4, 29), (29, 1, 31), (29, 0, 30), (0, 3, 28), (0, 2, 27), (0, 1, 13), (13, 4, 26), (13, 3, 25), (13, 2, 24), (13, 1, 19), (13, 0, 14), (0, 0, 1), (1, 2, 12), (1, 1, 11), (1, 0, 2)]) rfl ?_
  refine j_putRF X 3 2 (by decide) (by decide) hi rfl 35 (by decide) rfl rfl rfl rfl u108 (by decide) rfl dX3_init_22 ?_
  refine j_as (jK 36 [(32, 2, 35), (32, 1, 34), (32, 0, 33), (0, 4, 29), (29, 1, 31), (29, 0, 30), (0, 3, 28), (0, 2, 27), (0, 1, 13), (13, 4, 26), (13, 3, 25), (13, 2, 24), (13, 1, 19), (13, 0, 14), (0, 0, 1), (1, 2, 12), (1, 1, 11), (1, 0, 2)]) rfl ?_
  refine j_aload_n X dX3_init_25 rfl ?_
  refine j_iconst X dX3_init_26 4 (by decide) ?_
  refine j_bipush X dX3_init_27 8 (by decide) ?_
  refine j_nrm (nI 8) rfl ?_
  refine j_nrm2 (nI 4) rfl ?_
  refine j_newM X hR u101 (Nat.le_of_ble_eq_true rfl) (Nat.le_of_ble_eq_true rfl) rfl rfl (fun j => rfl) (fun j hj => ?_) (Nat.le_of_ble_eq_true rfl) (by decide) (by decide) (jvo_b (by decide) (by decide)) dX3_init_29 ?_
  · rcases (show j = 0 ∨ j = 1 ∨ j = 2 ∨ j = 3 by omega) with rfl | rfl | rfl | rfl
    · exact ⟨rfl, rfl, rfl, (hm 37 (by decide))⟩
    · exact ⟨rfl, rfl, rfl, (hm 38 (by decide))⟩
    · exact ⟨rfl, rfl, rfl, (hm 39 (by decide))⟩
    · exact ⟨rfl, rfl, rfl, (hm 40 (by decide))⟩
  refine j_as (jK 41 [(32, 2, 35), (32, 1, 34), (32, 0, 33), (0, 4, 29), (29, 1, 31), (29, 0, 30), (0, 3, 28), (0, 2, 27), (0, 1, 13), (13, 4, 26), (13, 3, 25), (13, 2, 24), (13, 1, 19), (13, 0, 14), (0, 0, 1), (1, 2, 12), (1, 1, 11), (1, 0, 2)]) rfl ?_
  refine j_putRF X 3 3 (by decide) (by decide) hi rfl 36 (by decide) rfl rfl rfl rfl u111 (by decide) rfl dX3_init_33 ?_
  refine j_as (jK 41 [(32, 3, 36), (32, 2, 35), (32, 1, 34), (32, 0, 33), (0, 4, 29), (29, 1, 31), (29, 0, 30), (0, 3, 28), (0, 2, 27), (0, 1, 13), (13, 4, 26), (13, 3, 25), (13, 2, 24), (13, 1, 19), (13, 0, 14), (0, 0, 1), (1, 2, 12), (1, 1, 11), (1, 0, 2)]) rfl ?_
  refine j_aload_n X dX3_init_36 rfl ?_
  refine j_iconst X dX3_init_37 4 (by decide) ?_
  refine j_bipush X dX3_init_38 8 (by decide) ?_
  refine j_nrm (nI 8) rfl ?_
  refine j_nrm2 (nI 4) rfl ?_
  refine j_newM X hR u101 (Nat.le_of_ble_eq_true rfl) (Nat.le_of_ble_eq_true rfl) rfl rfl (fun j => rfl) (fun j hj => ?_) (Nat.le_of_ble_eq_true rfl) (by decide) (by decide) (jvo_b (by decide) (by decide)) dX3_init_40 ?_
  · rcases (show j = 0 ∨ j = 1 ∨ j = 2 ∨ j = 3 by omega) with rfl | rfl | rfl | rfl
    · exact ⟨rfl, rfl, rfl, (hm 42 (by decide))⟩
    · exact ⟨rfl, rfl, rfl, (hm 43 (by decide))⟩
    · exact ⟨rfl, rfl, rfl, (hm 44 (by decide))⟩
    · exact ⟨rfl, rfl, rfl, (hm 45 (by decide))⟩
  refine j_as (jK 46 [(32, 3, 36), (32, 2, 35), (32, 1, 34), (32, 0, 33), (0, 4, 29), (29, 1, 31), (29, 0, 30), (0, 3, 28), (0, 2, 27), (0, 1, 13), (13, 4, 26), (13, 3, 25), (13, 2, 24), (13, 1, 19), (13, 0, 14), (0, 0, 1), (1, 2, 12), (1, 1, 11), (1, 0, 2)]) rfl ?_
  refine j_putRF X 3 4 (by decide) (by decide) hi rfl 41 (by decide) rfl rfl rfl rfl u112 (by decide) rfl dX3_init_44 ?_
  refine j_as (jK 46 [(32, 4, 41), (32, 3, 36), (32, 2, 35), (32, 1, 34), (32, 0, 33), (0, 4, 29), (29, 1, 31), (29, 0, 30), (0, 3, 28), (0, 2, 27), (0, 1, 13), (13, 4, 26), (13, 3, 25), (13, 2, 24), (13, 1, 19), (13, 0, 14), (0, 0, 1), (1, 2, 12), (1, 1, 11), (1, 0, 2)]) rfl ?_
  refine j_aload_n X dX3_init_47 rfl ?_
  refine j_iconst X dX3_init_48 4 (by decide) ?_
  refine j_bipush X dX3_init_49 8 (by decide) ?_
  refine j_nrm (nI 8) rfl ?_
  refine j_nrm2 (nI 4) rfl ?_
  refine j_newM X hR u101 (Nat.le_of_ble_eq_true rfl) (Nat.le_of_ble_eq_true rfl) rfl rfl (fun j => rfl) (fun j hj => ?_) (Nat.le_of_ble_eq_true rfl) (by decide) (by decide) (jvo_b (by decide) (by decide)) dX3_init_51 ?_
  · rcases (show j = 0 ∨ j = 1 ∨ j = 2 ∨ j = 3 by omega) with rfl | rfl | rfl | rfl
    · exact ⟨rfl, rfl, rfl, (hm 47 (by decide))⟩
    · exact ⟨rfl, rfl, rfl, (hm 48 (by decide))⟩
    · exact ⟨rfl, rfl, rfl, (hm 49 (by decide))⟩
    · exact ⟨rfl, rfl, rfl, (hm 50 (by decide))⟩
  refine j_as (jK 51 [(32, 4, 41), (32, 3, 36), (32, 2, 35), (32, 1, 34), (32, 0, 33), (0, 4, 29), (29, 1, 31), (29, 0, 30), (0, 3, 28), (0, 2, 27), (0, 1, 13), (13, 4, 26), (13, 3, 25), (13, 2, 24), (13, 1, 19), (13, 0, 14), (0, 0, 1), (1, 2, 12), (1, 1, 11), (1, 0, 2)]) rfl ?_
  refine j_putRF X 3 5 (by decide) (by decide) hi rfl 46 (by decide) rfl rfl rfl rfl u113 (by decide) rfl dX3_init_55 ?_
  refine j_as (jK 51 [(32, 5, 46), (32, 4, 41), (32, 3, 36), (32, 2, 35), (32, 1, 34), (32, 0, 33), (0, 4, 29), (29, 1, 31), (29, 0, 30), (0, 3, 28), (0, 2, 27), (0, 1, 13), (13, 4, 26), (13, 3, 25), (13, 2, 24), (13, 1, 19), (13, 0, 14), (0, 0, 1), (1, 2, 12), (1, 1, 11), (1, 0, 2)]) rfl ?_
  refine j_aload_n X dX3_init_58 rfl ?_
  refine j_getR X 3 1 (by decide) (by decide) rfl u105 (by decide) rfl 34 rfl dX3_init_59 ?_
  refine j_bipush X dX3_init_62 15 (by decide) ?_
  refine j_callS X hR (c_fillG (jK 51 [(32, 5, 46), (32, 4, 41), (32, 3, 36), (32, 2, 35), (32, 1, 34), (32, 0, 33), (0, 4, 29), (29, 1, 31), (29, 0, 30), (0, 3, 28), (0, 2, 27), (0, 1, 13), (13, 4, 26), (13, 3, 25), (13, 2, 24), (13, 1, 19), (13, 0, 14), (0, 0, 1), (1, 2, 12), (1, 1, 11), (1, 0, 2)]) _ 34 4 15 (by decide) rfl rfl (by decide)) rfl u39 u102 u38 u3 hyJ7_fill_53178 (by decide) (by decide) (Nat.le_of_ble_eq_true rfl) ⟨Nat.le_of_ble_eq_true rfl, Nat.le_of_ble_eq_true rfl⟩ dX3_init_64 (fun r sh2 mem2 hp => ?_)
  obtain ⟨rfl, rfl, rfl⟩ := hp
  refine ⟨Or.inl rfl, ?_⟩
  refine j_return X hE hr (Nat.le_of_ble_eq_true rfl) (Nat.le_of_ble_eq_true rfl) dX3_init_67 ⟨rfl, rfl, rfl⟩
set_option maxRecDepth 8000 in
set_option maxHeartbeats 4000000 in
theorem i_Tape (mem : jMem) (hm : ∀ i, 52 ≤ i → mem i = fun _ => 0) : jCt yX9_init cX9_init 1 none 1 1 300 [.ref 51] (jK 52 [(0, 5, 32), (32, 5, 46), (32, 4, 41), (32, 3, 36), (32, 2, 35), (32, 1, 34), (32, 0, 33), (0, 4, 29), (29, 1, 31), (29, 0, 30), (0, 3, 28), (0, 2, 27), (0, 1, 13), (13, 4, 26), (13, 3, 25), (13, 2, 24), (13, 1, 19), (13, 0, 14), (0, 0, 1), (1, 2, 12), (1, 1, 11), (1, 0, 2)]) mem (fun a b c => a = none ∧ b = (jK 53 [(51, 0, 52), (0, 5, 32), (32, 5, 46), (32, 4, 41), (32, 3, 36), (32, 2, 35), (32, 1, 34), (32, 0, 33), (0, 4, 29), (29, 1, 31), (29, 0, 30), (0, 3, 28), (0, 2, 27), (0, 1, 13), (13, 4, 26), (13, 3, 25), (13, 2, 24), (13, 1, 19), (13, 0, 14), (0, 0, 1), (1, 2, 12), (1, 1, 11), (1, 0, 2)]) ∧ c = mem) := by
  refine jCt.of rfl (Nat.le_of_ble_eq_true rfl) (fun G X hR hr hin hE => ?_)
  have hi := hin rfl
  refine j_lv [some (.ref 51)] ⟨rfl, trivial⟩ ?_
  refine j_aload_n X dX9_init_0 rfl ?_
  refine j_objI X hR (by decide) u132 (Nat.le_of_ble_eq_true rfl) dX9_init_1 ?_
  refine j_aload_n X dX9_init_4 rfl ?_
  refine j_sipush X dX9_init_5 300 (by decide) ?_
  refine j_nrm (nI 300) rfl ?_
  refine j_newB X hR (Nat.le_of_ble_eq_true rfl) (Nat.le_of_ble_eq_true rfl) rfl rfl rfl (hm 52 (by decide)) (Nat.le_of_ble_eq_true rfl) (by decide) (jvo_b (by decide) (by decide)) dX9_init_8 ?_
  refine j_as (jK 53 [(0, 5, 32), (32, 5, 46), (32, 4, 41), (32, 3, 36), (32, 2, 35), (32, 1, 34), (32, 0, 33), (0, 4, 29), (29, 1, 31), (29, 0, 30), (0, 3, 28), (0, 2, 27), (0, 1, 13), (13, 4, 26), (13, 3, 25), (13, 2, 24), (13, 1, 19), (13, 0, 14), (0, 0, 1), (1, 2, 12), (1, 1, 11), (1, 0, 2)]) rfl ?_
  refine j_putRF X 9 0 (by decide) (by decide) hi rfl 52 (by decide) rfl rfl rfl rfl u133 (by decide) rfl dX9_init_10 ?_
  refine j_as (jK 53 [(51, 0, 52), (0, 5, 32), (32, 5, 46), (32, 4, 41), (32, 3, 36), (32, 2, 35), (32, 1, 34), (32, 0, 33), (0, 4, 29), (29, 1, 31), (29, 0, 30), (0, 3, 28), (0, 2, 27), (0, 1, 13), (13, 4, 26), (13, 3, 25), (13, 2, 24), (13, 1, 19), (13, 0, 14), (0, 0, 1), (1, 2, 12), (1, 1, 11), (1, 0, 2)]) rfl ?_
  refine j_return X hE hr (Nat.le_of_ble_eq_true rfl) (Nat.le_of_ble_eq_true rfl) dX9_init_13 ⟨rfl, rfl, rfl⟩
set_option maxRecDepth 8000 in
set_option maxHeartbeats 4000000 in
theorem i_Choice (mem : jMem) (hm : ∀ i, 54 ≤ i → mem i = fun _ => 0) : jCt yX1_init cX1_init 1 none 1 1 256 [.ref 53] (jK 54 [(0, 6, 51), (51, 0, 52), (0, 5, 32), (32, 5, 46), (32, 4, 41), (32, 3, 36), (32, 2, 35), (32, 1, 34), (32, 0, 33), (0, 4, 29), (29, 1, 31), (29, 0, 30), (0, 3, 28), (0, 2, 27), (0, 1, 13), (13, 4, 26), (13, 3, 25), (13, 2, 24), (13, 1, 19), (13, 0, 14), (0, 0, 1), (1, 2, 12), (1, 1, 11), (1, 0, 2)]) mem (fun a b c => a = none ∧ b = (jK 55 [(53, 0, 54), (0, 6, 51), (51, 0, 52), (0, 5, 32), (32, 5, 46), (32, 4, 41), (32, 3, 36), (32, 2, 35), (32, 1, 34), (32, 0, 33), (0, 4, 29), (29, 1, 31), (29, 0, 30), (0, 3, 28), (0, 2, 27), (0, 1, 13), (13, 4, 26), (13, 3, 25), (13, 2, 24), (13, 1, 19), (13, 0, 14), (0, 0, 1), (1, 2, 12), (1, 1, 11), (1, 0, 2)]) ∧ c = mem) := by
  refine jCt.of rfl (Nat.le_of_ble_eq_true rfl) (fun G X hR hr hin hE => ?_)
  have hi := hin rfl
  refine j_lv [some (.ref 53)] ⟨rfl, trivial⟩ ?_
  refine j_aload_n X dX1_init_0 rfl ?_
  refine j_objI X hR (by decide) u169 (Nat.le_of_ble_eq_true rfl) dX1_init_1 ?_
  refine j_aload_n X dX1_init_4 rfl ?_
  refine j_sipush X dX1_init_5 256 (by decide) ?_
  refine j_nrm (nI 256) rfl ?_
  refine j_newI X hR (Nat.le_of_ble_eq_true rfl) (Nat.le_of_ble_eq_true rfl) rfl rfl rfl (hm 54 (by decide)) (Nat.le_of_ble_eq_true rfl) (by decide) (jvo_b (by decide) (by decide)) dX1_init_8 ?_
  refine j_as (jK 55 [(0, 6, 51), (51, 0, 52), (0, 5, 32), (32, 5, 46), (32, 4, 41), (32, 3, 36), (32, 2, 35), (32, 1, 34), (32, 0, 33), (0, 4, 29), (29, 1, 31), (29, 0, 30), (0, 3, 28), (0, 2, 27), (0, 1, 13), (13, 4, 26), (13, 3, 25), (13, 2, 24), (13, 1, 19), (13, 0, 14), (0, 0, 1), (1, 2, 12), (1, 1, 11), (1, 0, 2)]) rfl ?_
  refine j_putRF X 1 0 (by decide) (by decide) hi rfl 54 (by decide) rfl rfl rfl rfl u170 (by decide) rfl dX1_init_10 ?_
  refine j_as (jK 55 [(53, 0, 54), (0, 6, 51), (51, 0, 52), (0, 5, 32), (32, 5, 46), (32, 4, 41), (32, 3, 36), (32, 2, 35), (32, 1, 34), (32, 0, 33), (0, 4, 29), (29, 1, 31), (29, 0, 30), (0, 3, 28), (0, 2, 27), (0, 1, 13), (13, 4, 26), (13, 3, 25), (13, 2, 24), (13, 1, 19), (13, 0, 14), (0, 0, 1), (1, 2, 12), (1, 1, 11), (1, 0, 2)]) rfl ?_
  refine j_return X hE hr (Nat.le_of_ble_eq_true rfl) (Nat.le_of_ble_eq_true rfl) dX1_init_13 ⟨rfl, rfl, rfl⟩
set_option maxRecDepth 8000 in
set_option maxHeartbeats 4000000 in
theorem i_Sightings (mem : jMem) (hm : ∀ i, 56 ≤ i → mem i = fun _ => 0) : jCt yX8_init cX8_init 1 none 1 2 60 [.ref 55] (jK 56 [(0, 7, 53), (53, 0, 54), (0, 6, 51), (51, 0, 52), (0, 5, 32), (32, 5, 46), (32, 4, 41), (32, 3, 36), (32, 2, 35), (32, 1, 34), (32, 0, 33), (0, 4, 29), (29, 1, 31), (29, 0, 30), (0, 3, 28), (0, 2, 27), (0, 1, 13), (13, 4, 26), (13, 3, 25), (13, 2, 24), (13, 1, 19), (13, 0, 14), (0, 0, 1), (1, 2, 12), (1, 1, 11), (1, 0, 2)]) mem (fun a b c => a = none ∧ b = (jK 58 [(55, 1, 57), (55, 0, 56), (0, 7, 53), (53, 0, 54), (0, 6, 51), (51, 0, 52), (0, 5, 32), (32, 5, 46), (32, 4, 41), (32, 3, 36), (32, 2, 35), (32, 1, 34), (32, 0, 33), (0, 4, 29), (29, 1, 31), (29, 0, 30), (0, 3, 28), (0, 2, 27), (0, 1, 13), (13, 4, 26), (13, 3, 25), (13, 2, 24), (13, 1, 19), (13, 0, 14), (0, 0, 1), (1, 2, 12), (1, 1, 11), (1, 0, 2)]) ∧ c = mem) := by
  refine jCt.of rfl (Nat.le_of_ble_eq_true rfl) (fun G X hR hr hin hE => ?_)
  have hi := hin rfl
  refine j_lv [some (.ref 55)] ⟨rfl, trivial⟩ ?_
  refine j_aload_n X dX8_init_0 rfl ?_
  refine j_objI X hR (by decide) u182 (Nat.le_of_ble_eq_true rfl) dX8_init_1 ?_
  refine j_aload_n X dX8_init_4 rfl ?_
  refine j_bipush X dX8_init_5 30 (by decide) ?_
  refine j_nrm (nI 30) rfl ?_
  refine j_newI X hR (Nat.le_of_ble_eq_true rfl) (Nat.le_of_ble_eq_true rfl) rfl rfl rfl (hm 56 (by decide)) (Nat.le_of_ble_eq_true rfl) (by decide) (jvo_b (by decide) (by decide)) dX8_init_7 ?_
  refine j_as (jK 57 [(0, 7, 53), (53, 0, 54), (0, 6, 51), (51, 0, 52), (0, 5, 32), (32, 5, 46), (32, 4, 41), (32, 3, 36), (32, 2, 35), (32, 1, 34), (32, 0, 33), (0, 4, 29), (29, 1, 31), (29, 0, 30), (0, 3, 28), (0, 2, 27), (0, 1, 13), (13, 4, 26), (13, 3, 25), (13, 2, 24), (13, 1, 19), (13, 0, 14), (0, 0, 1), (1, 2, 12), (1, 1, 11), (1, 0, 2)]) rfl ?_
  refine j_putRF X 8 0 (by decide) (by decide) hi rfl 56 (by decide) rfl rfl rfl rfl u183 (by decide) rfl dX8_init_9 ?_
  refine j_as (jK 57 [(55, 0, 56), (0, 7, 53), (53, 0, 54), (0, 6, 51), (51, 0, 52), (0, 5, 32), (32, 5, 46), (32, 4, 41), (32, 3, 36), (32, 2, 35), (32, 1, 34), (32, 0, 33), (0, 4, 29), (29, 1, 31), (29, 0, 30), (0, 3, 28), (0, 2, 27), (0, 1, 13), (13, 4, 26), (13, 3, 25), (13, 2, 24), (13, 1, 19), (13, 0, 14), (0, 0, 1), (1, 2, 12), (1, 1, 11), (1, 0, 2)]) rfl ?_
  refine j_aload_n X dX8_init_12 rfl ?_
  refine j_bipush X dX8_init_13 30 (by decide) ?_
  refine j_nrm (nI 30) rfl ?_
  refine j_newI X hR (Nat.le_of_ble_eq_true rfl) (Nat.le_of_ble_eq_true rfl) rfl rfl rfl (hm 57 (by decide)) (Nat.le_of_ble_eq_true rfl) (by decide) (jvo_b (by decide) (by decide)) dX8_init_15 ?_
  refine j_as (jK 58 [(55, 0, 56), (0, 7, 53), (53, 0, 54), (0, 6, 51), (51, 0, 52), (0, 5, 32), (32, 5, 46), (32, 4, 41), (32, 3, 36), (32, 2, 35), (32, 1, 34), (32, 0, 33), (0, 4, 29), (29, 1, 31), (29, 0, 30), (0, 3, 28), (0, 2, 27), (0, 1, 13), (13, 4, 26), (13, 3, 25), (13, 2, 24), (13, 1, 19), (13, 0, 14), (0, 0, 1), (1, 2, 12), (1, 1, 11), (1, 0, 2)]) rfl ?_
  refine j_putRF X 8 1 (by decide) (by decide) hi rfl 57 (by decide) rfl rfl rfl rfl u185 (by decide) rfl dX8_init_17 ?_
  refine j_as (jK 58 [(55, 1, 57), (55, 0, 56), (0, 7, 53), (53, 0, 54), (0, 6, 51), (51, 0, 52), (0, 5, 32), (32, 5, 46), (32, 4, 41), (32, 3, 36), (32, 2, 35), (32, 1, 34), (32, 0, 33), (0, 4, 29), (29, 1, 31), (29, 0, 30), (0, 3, 28), (0, 2, 27), (0, 1, 13), (13, 4, 26), (13, 3, 25), (13, 2, 24), (13, 1, 19), (13, 0, 14), (0, 0, 1), (1, 2, 12), (1, 1, 11), (1, 0, 2)]) rfl ?_
  refine j_return X hE hr (Nat.le_of_ble_eq_true rfl) (Nat.le_of_ble_eq_true rfl) dX8_init_20 ⟨rfl, rfl, rfl⟩
set_option maxRecDepth 8000 in
set_option maxHeartbeats 4000000 in
theorem i_Line (mem : jMem) (hm : ∀ i, 59 ≤ i → mem i = fun _ => 0) : jCt yX4_init cX4_init 1 none 1 4 28 [.ref 58] (jK 59 [(0, 8, 55), (55, 1, 57), (55, 0, 56), (0, 7, 53), (53, 0, 54), (0, 6, 51), (51, 0, 52), (0, 5, 32), (32, 5, 46), (32, 4, 41), (32, 3, 36), (32, 2, 35), (32, 1, 34), (32, 0, 33), (0, 4, 29), (29, 1, 31), (29, 0, 30), (0, 3, 28), (0, 2, 27), (0, 1, 13), (13, 4, 26), (13, 3, 25), (13, 2, 24), (13, 1, 19), (13, 0, 14), (0, 0, 1), (1, 2, 12), (1, 1, 11), (1, 0, 2)]) mem (fun a b c => a = none ∧ b = (jK 63 [(58, 3, 62), (58, 2, 61), (58, 1, 60), (58, 0, 59), (0, 8, 55), (55, 1, 57), (55, 0, 56), (0, 7, 53), (53, 0, 54), (0, 6, 51), (51, 0, 52), (0, 5, 32), (32, 5, 46), (32, 4, 41), (32, 3, 36), (32, 2, 35), (32, 1, 34), (32, 0, 33), (0, 4, 29), (29, 1, 31), (29, 0, 30), (0, 3, 28), (0, 2, 27), (0, 1, 13), (13, 4, 26), (13, 3, 25), (13, 2, 24), (13, 1, 19), (13, 0, 14), (0, 0, 1), (1, 2, 12), (1, 1, 11), (1, 0, 2)]) ∧ c = mem) := by
  refine jCt.of rfl (Nat.le_of_ble_eq_true rfl) (fun G X hR hr hin hE => ?_)
  have hi := hin rfl
  refine j_lv [some (.ref 58)] ⟨rfl, trivial⟩ ?_
  refine j_aload_n X dX4_init_0 rfl ?_
  refine j_objI X hR (by decide) u201 (Nat.le_of_ble_eq_true rfl) dX4_init_1 ?_
  refine j_aload_n X dX4_init_4 rfl ?_
  refine j_bipush X dX4_init_5 7 (by decide) ?_
  refine j_nrm (nI 7) rfl ?_
  refine j_newI X hR (Nat.le_of_ble_eq_true rfl) (Nat.le_of_ble_eq_true rfl) rfl rfl rfl (hm 59 (by decide)) (Nat.le_of_ble_eq_true rfl) (by decide) (jvo_b (by decide) (by decide)) dX4_init_7 ?_
  refine j_as (jK 60 [(0, 8, 55), (55, 1, 57), (55, 0, 56), (0, 7, 53), (53, 0, 54), (0, 6, 51), (51, 0, 52), (0, 5, 32), (32, 5, 46), (32, 4, 41), (32, 3, 36), (32, 2, 35), (32, 1, 34), (32, 0, 33), (0, 4, 29), (29, 1, 31), (29, 0, 30), (0, 3, 28), (0, 2, 27), (0, 1, 13), (13, 4, 26), (13, 3, 25), (13, 2, 24), (13, 1, 19), (13, 0, 14), (0, 0, 1), (1, 2, 12), (1, 1, 11), (1, 0, 2)]) rfl ?_
  refine j_putRF X 4 0 (by decide) (by decide) hi rfl 59 (by decide) rfl rfl rfl rfl u202 (by decide) rfl dX4_init_9 ?_
  refine j_as (jK 60 [(58, 0, 59), (0, 8, 55), (55, 1, 57), (55, 0, 56), (0, 7, 53), (53, 0, 54), (0, 6, 51), (51, 0, 52), (0, 5, 32), (32, 5, 46), (32, 4, 41), (32, 3, 36), (32, 2, 35), (32, 1, 34), (32, 0, 33), (0, 4, 29), (29, 1, 31), (29, 0, 30), (0, 3, 28), (0, 2, 27), (0, 1, 13), (13, 4, 26), (13, 3, 25), (13, 2, 24), (13, 1, 19), (13, 0, 14), (0, 0, 1), (1, 2, 12), (1, 1, 11), (1, 0, 2)]) rfl ?_
  refine j_aload_n X dX4_init_12 rfl ?_
  refine j_bipush X dX4_init_13 7 (by decide) ?_
  refine j_nrm (nI 7) rfl ?_
  refine j_newI X hR (Nat.le_of_ble_eq_true rfl) (Nat.le_of_ble_eq_true rfl) rfl rfl rfl (hm 60 (by decide)) (Nat.le_of_ble_eq_true rfl) (by decide) (jvo_b (by decide) (by decide)) dX4_init_15 ?_
  refine j_as (jK 61 [(58, 0, 59), (0, 8, 55), (55, 1, 57), (55, 0, 56), (0, 7, 53), (53, 0, 54), (0, 6, 51), (51, 0, 52), (0, 5, 32), (32, 5, 46), (32, 4, 41), (32, 3, 36), (32, 2, 35), (32, 1, 34), (32, 0, 33), (0, 4, 29), (29, 1, 31), (29, 0, 30), (0, 3, 28), (0, 2, 27), (0, 1, 13), (13, 4, 26), (13, 3, 25), (13, 2, 24), (13, 1, 19), (13, 0, 14), (0, 0, 1), (1, 2, 12), (1, 1, 11), (1, 0, 2)]) rfl ?_
  refine j_putRF X 4 1 (by decide) (by decide) hi rfl 60 (by decide) rfl rfl rfl rfl u203 (by decide) rfl dX4_init_17 ?_
  refine j_as (jK 61 [(58, 1, 60), (58, 0, 59), (0, 8, 55), (55, 1, 57), (55, 0, 56), (0, 7, 53), (53, 0, 54), (0, 6, 51), (51, 0, 52), (0, 5, 32), (32, 5, 46), (32, 4, 41), (32, 3, 36), (32, 2, 35), (32, 1, 34), (32, 0, 33), (0, 4, 29), (29, 1, 31), (29, 0, 30), (0, 3, 28), (0, 2, 27), (0, 1, 13), (13, 4, 26), (13, 3, 25), (13, 2, 24), (13, 1, 19), (13, 0, 14), (0, 0, 1), (1, 2, 12), (1, 1, 11), (1, 0, 2)]) rfl ?_
  refine j_aload_n X dX4_init_20 rfl ?_
  refine j_bipush X dX4_init_21 7 (by decide) ?_
  refine j_nrm (nI 7) rfl ?_
  refine j_newI X hR (Nat.le_of_ble_eq_true rfl) (Nat.le_of_ble_eq_true rfl) rfl rfl rfl (hm 61 (by decide)) (Nat.le_of_ble_eq_true rfl) (by decide) (jvo_b (by decide) (by decide)) dX4_init_23 ?_
  refine j_as (jK 62 [(58, 1, 60), (58, 0, 59), (0, 8, 55), (55, 1, 57), (55, 0, 56), (0, 7, 53), (53, 0, 54), (0, 6, 51), (51, 0, 52), (0, 5, 32), (32, 5, 46), (32, 4, 41), (32, 3, 36), (32, 2, 35), (32, 1, 34), (32, 0, 33), (0, 4, 29), (29, 1, 31), (29, 0, 30), (0, 3, 28), (0, 2, 27), (0, 1, 13), (13, 4, 26), (13, 3, 25), (13, 2, 24), (13, 1, 19), (13, 0, 14), (0, 0, 1), (1, 2, 12), (1, 1, 11), (1, 0, 2)]) rfl ?_
  refine j_putRF X 4 2 (by decide) (by decide) hi rfl 61 (by decide) rfl rfl rfl rfl u204 (by decide) rfl dX4_init_25 ?_
  refine j_as (jK 62 [(58, 2, 61), (58, 1, 60), (58, 0, 59), (0, 8, 55), (55, 1, 57), (55, 0, 56), (0, 7, 53), (53, 0, 54), (0, 6, 51), (51, 0, 52), (0, 5, 32), (32, 5, 46), (32, 4, 41), (32, 3, 36), (32, 2, 35), (32, 1, 34), (32, 0, 33), (0, 4, 29), (29, 1, 31), (29, 0, 30), (0, 3, 28), (0, 2, 27), (0, 1, 13), (13, 4, 26), (13, 3, 25), (13, 2, 24), (13, 1, 19), (13, 0, 14), (0, 0, 1), (1, 2, 12), (1, 1, 11), (1, 0, 2)]) rfl ?_
  refine j_aload_n X dX4_init_28 rfl ?_
  refine j_bipush X dX4_init_29 7 (by decide) ?_
  refine j_nrm (nI 7) rfl ?_
  refine j_newI X hR (Nat.le_of_ble_eq_true rfl) (Nat.le_of_ble_eq_true rfl) rfl rfl rfl (hm 62 (by decide)) (Nat.le_of_ble_eq_true rfl) (by decide) (jvo_b (by decide) (by decide)) dX4_init_31 ?_
  refine j_as (jK 63 [(58, 2, 61), (58, 1, 60), (58, 0, 59), (0, 8, 55), (55, 1, 57), (55, 0, 56), (0, 7, 53), (53, 0, 54), (0, 6, 51), (51, 0, 52), (0, 5, 32), (32, 5, 46), (32, 4, 41), (32, 3, 36), (32, 2, 35), (32, 1, 34), (32, 0, 33), (0, 4, 29), (29, 1, 31), (29, 0, 30), (0, 3, 28), (0, 2, 27), (0, 1, 13), (13, 4, 26), (13, 3, 25), (13, 2, 24), (13, 1, 19), (13, 0, 14), (0, 0, 1), (1, 2, 12), (1, 1, 11), (1, 0, 2)]) rfl ?_
  refine j_putRF X 4 3 (by decide) (by decide) hi rfl 62 (by decide) rfl rfl rfl rfl u205 (by decide) rfl dX4_init_33 ?_
  refine j_as (jK 63 [(58, 3, 62), (58, 2, 61), (58, 1, 60), (58, 0, 59), (0, 8, 55), (55, 1, 57), (55, 0, 56), (0, 7, 53), (53, 0, 54), (0, 6, 51), (51, 0, 52), (0, 5, 32), (32, 5, 46), (32, 4, 41), (32, 3, 36), (32, 2, 35), (32, 1, 34), (32, 0, 33), (0, 4, 29), (29, 1, 31), (29, 0, 30), (0, 3, 28), (0, 2, 27), (0, 1, 13), (13, 4, 26), (13, 3, 25), (13, 2, 24), (13, 1, 19), (13, 0, 14), (0, 0, 1), (1, 2, 12), (1, 1, 11), (1, 0, 2)]) rfl ?_
  refine j_return X hE hr (Nat.le_of_ble_eq_true rfl) (Nat.le_of_ble_eq_true rfl) dX4_init_36 ⟨rfl, rfl, rfl⟩
set_option maxRecDepth 8000 in
set_option maxHeartbeats 4000000 in
theorem i_Bodies (mem : jMem) (hm : ∀ i, 64 ≤ i → mem i = fun _ => 0) : jCt yX0_init cX0_init 1 none 1 1 16 [.ref 63] (jK 64 [(0, 9, 58), (58, 3, 62), (58, 2, 61), (58, 1, 60), (58, 0, 59), (0, 8, 55), (55, 1, 57), (55, 0, 56), (0, 7, 53), (53, 0, 54), (0, 6, 51), (51, 0, 52), (0, 5, 32), (32, 5, 46), (32, 4, 41), (32, 3, 36), (32, 2, 35), (32, 1, 34), (32, 0, 33), (0, 4, 29), (29, 1, 31), (29, 0, 30), (0, 3, 28), (0, 2, 27), (0, 1, 13), (13, 4, 26), (13, 3, 25), (13, 2, 24), (13, 1, 19), (13, 0, 14), (0, 0, 1), (1, 2, 12), (1, 1, 11), (1, 0, 2)]) mem (fun a b c => a = none ∧ b = (jK 65 [(63, 0, 64), (0, 9, 58), (58, 3, 62), (58, 2, 61), (58, 1, 60), (58, 0, 59), (0, 8, 55), (55, 1, 57), (55, 0, 56), (0, 7, 53), (53, 0, 54), (0, 6, 51), (51, 0, 52), (0, 5, 32), (32, 5, 46), (32, 4, 41), (32, 3, 36), (32, 2, 35), (32, 1, 34), (32, 0, 33), (0, 4, 29), (29, 1, 31), (29, 0, 30), (0, 3, 28), (0, 2, 27), (0, 1, 13), (13, 4, 26), (13, 3, 25), (13, 2, 24), (13, 1, 19), (13, 0, 14), (0, 0, 1), (1, 2, 12), (1, 1, 11), (1, 0, 2)]) ∧ c = mem) := by
  refine jCt.of rfl (Nat.le_of_ble_eq_true rfl) (fun G X hR hr hin hE => ?_)
  have hi := hin rfl
  refine j_lv [some (.ref 63)] ⟨rfl, trivial⟩ ?_
  refine j_aload_n X dX0_init_0 rfl ?_
  refine j_objI X hR (by decide) u228 (Nat.le_of_ble_eq_true rfl) dX0_init_1 ?_
  refine j_aload_n X dX0_init_4 rfl ?_
  refine j_bipush X dX0_init_5 16 (by decide) ?_
  refine j_nrm (nI 16) rfl ?_
  refine j_newI X hR (Nat.le_of_ble_eq_true rfl) (Nat.le_of_ble_eq_true rfl) rfl rfl rfl (hm 64 (by decide)) (Nat.le_of_ble_eq_true rfl) (by decide) (jvo_b (by decide) (by decide)) dX0_init_7 ?_
  refine j_as (jK 65 [(0, 9, 58), (58, 3, 62), (58, 2, 61), (58, 1, 60), (58, 0, 59), (0, 8, 55), (55, 1, 57), (55, 0, 56), (0, 7, 53), (53, 0, 54), (0, 6, 51), (51, 0, 52), (0, 5, 32), (32, 5, 46), (32, 4, 41), (32, 3, 36), (32, 2, 35), (32, 1, 34), (32, 0, 33), (0, 4, 29), (29, 1, 31), (29, 0, 30), (0, 3, 28), (0, 2, 27), (0, 1, 13), (13, 4, 26), (13, 3, 25), (13, 2, 24), (13, 1, 19), (13, 0, 14), (0, 0, 1), (1, 2, 12), (1, 1, 11), (1, 0, 2)]) rfl ?_
  refine j_putRF X 0 0 (by decide) (by decide) hi rfl 64 (by decide) rfl rfl rfl rfl u229 (by decide) rfl dX0_init_9 ?_
  refine j_as (jK 65 [(63, 0, 64), (0, 9, 58), (58, 3, 62), (58, 2, 61), (58, 1, 60), (58, 0, 59), (0, 8, 55), (55, 1, 57), (55, 0, 56), (0, 7, 53), (53, 0, 54), (0, 6, 51), (51, 0, 52), (0, 5, 32), (32, 5, 46), (32, 4, 41), (32, 3, 36), (32, 2, 35), (32, 1, 34), (32, 0, 33), (0, 4, 29), (29, 1, 31), (29, 0, 30), (0, 3, 28), (0, 2, 27), (0, 1, 13), (13, 4, 26), (13, 3, 25), (13, 2, 24), (13, 1, 19), (13, 0, 14), (0, 0, 1), (1, 2, 12), (1, 1, 11), (1, 0, 2)]) rfl ?_
  refine j_return X hE hr (Nat.le_of_ble_eq_true rfl) (Nat.le_of_ble_eq_true rfl) dX0_init_12 ⟨rfl, rfl, rfl⟩
def jsec (mem : jMem) : Nat → jMem
  | 0 => mem
  | k + 1 => jup (jsec mem k) 28 k (nI k + 2)
set_option maxRecDepth 8000 in
set_option maxHeartbeats 8000000 in
theorem i_Pocket (mem : jMem) (hm : ∀ i, 0 ≤ i → mem i = fun _ => 0) : jCt yX10_init cX10_init 2 none 3 65 1424 [.ref 0] (jK 1 []) mem (fun a b c => a = none ∧ b = (jK 66 [(0, 11, 65), (0, 10, 63), (63, 0, 64), (0, 9, 58), (58, 3, 62), (58, 2, 61), (58, 1, 60), (58, 0, 59), (0, 8, 55), (55, 1, 57), (55, 0, 56), (0, 7, 53), (53, 0, 54), (0, 6, 51), (51, 0, 52), (0, 5, 32), (32, 5, 46), (32, 4, 41), (32, 3, 36), (32, 2, 35), (32, 1, 34), (32, 0, 33), (0, 4, 29), (29, 1, 31), (29, 0, 30), (0, 3, 28), (0, 2, 27), (0, 1, 13), (13, 4, 26), (13, 3, 25), (13, 2, 24), (13, 1, 19), (13, 0, 14), (0, 0, 1), (1, 2, 12), (1, 1, 11), (1, 0, 2)]) ∧ c = jsec (jfill (jfill (jfill (jfill mem 12 0 8 (-1)) 25 0 4 1000) 26 0 4 1000) 34 0 4 15) 6) := by
  refine jCt.of rfl (Nat.le_of_ble_eq_true rfl) (fun G X hR hr hin hE => ?_)
  have hi := hin rfl
  refine j_lv [some (.ref 0)] ⟨rfl, trivial⟩ ?_
  refine j_aload_n X dX10_init_0 rfl ?_
  refine j_objI X hR (by decide) u26 (Nat.le_of_ble_eq_true rfl) dX10_init_1 ?_
  refine j_aload_n X dX10_init_4 rfl ?_
  refine j_newO X hR 7 (by decide) u29 u30 u2 (Nat.le_of_ble_eq_true rfl) (Nat.le_of_ble_eq_true rfl) rfl rfl (by exact hm 1 (by decide)) (Nat.le_of_ble_eq_true rfl) (jvo_b (by decide) (by decide)) dX10_init_5 ?_
  refine j_as (jK 2 []) rfl ?_
  refine j_dup X dX10_init_8 rfl ?_
  refine j_callI X hR (i_Sheets _ (fun i hi => by exact hm i (by omega))) rfl u33 u31 u32 rfl u2 hyX7_init (by decide) (by decide) (Nat.le_of_ble_eq_true rfl) ⟨Nat.le_of_ble_eq_true rfl, Nat.le_of_ble_eq_true rfl⟩ dX10_init_9 (fun r sh2 mem2 hp => ?_)
  obtain ⟨rfl, rfl, rfl⟩ := hp
  refine ⟨Or.inr (jvo_b (by decide) (by decide)), ?_⟩
  refine j_putRF X 10 0 (by decide) (by decide) hi rfl 1 (by decide) rfl rfl rfl rfl u238 (by decide) rfl dX10_init_12 ?_
  refine j_as (jK 13 [(0, 0, 1), (1, 2, 12), (1, 1, 11), (1, 0, 2)]) rfl ?_
  refine j_aload_n X dX10_init_15 rfl ?_
  refine j_newO X hR 5 (by decide) u53 u54 u4 (Nat.le_of_ble_eq_true rfl) (Nat.le_of_ble_eq_true rfl) rfl rfl (by rw [jfill_o (by decide)]; exact hm 13 (by decide)) (Nat.le_of_ble_eq_true rfl) (jvo_b (by decide) (by decide)) dX10_init_16 ?_
  refine j_as (jK 14 [(0, 0, 1), (1, 2, 12), (1, 1, 11), (1, 0, 2)]) rfl ?_
  refine j_dup X dX10_init_19 rfl ?_
  refine j_callI X hR (i_Offices _ (fun i hi => by rw [jfill_o (by omega)]; exact hm i (by omega))) rfl u57 u55 u56 rfl u4 hyX5_init (by decide) (by decide) (Nat.le_of_ble_eq_true rfl) ⟨Nat.le_of_ble_eq_true rfl, Nat.le_of_ble_eq_true rfl⟩ dX10_init_20 (fun r sh2 mem2 hp => ?_)
  obtain ⟨rfl, rfl, rfl⟩ := hp
  refine ⟨Or.inr (jvo_b (by decide) (by decide)), ?_⟩
  refine j_putRF X 10 1 (by decide) (by decide) hi rfl 13 (by decide) rfl rfl rfl rfl u239 (by decide) rfl dX10_init_23 ?_
  refine j_as (jK 27 [(0, 1, 13), (13, 4, 26), (13, 3, 25), (13, 2, 24), (13, 1, 19), (13, 0, 14), (0, 0, 1), (1, 2, 12), (1, 1, 11), (1, 0, 2)]) rfl ?_
  refine j_aload_n X dX10_init_26 rfl ?_
  refine j_bipush X dX10_init_27 12 (by decide) ?_
  refine j_nrm (nI 12) rfl ?_
  refine j_newP X hR (Nat.le_of_ble_eq_true rfl) (Nat.le_of_ble_eq_true rfl) rfl rfl rfl (Nat.le_of_ble_eq_true rfl) (by decide) (jvo_b (by decide) (by decide)) dX10_init_29 ?_
  refine j_as (jK 28 [(0, 1, 13), (13, 4, 26), (13, 3, 25), (13, 2, 24), (13, 1, 19), (13, 0, 14), (0, 0, 1), (1, 2, 12), (1, 1, 11), (1, 0, 2)]) rfl ?_
  refine j_putRF X 10 2 (by decide) (by decide) hi rfl 27 (by decide) rfl rfl rfl rfl u240 (by decide) rfl dX10_init_32 ?_
  refine j_as (jK 28 [(0, 2, 27), (0, 1, 13), (13, 4, 26), (13, 3, 25), (13, 2, 24), (13, 1, 19), (13, 0, 14), (0, 0, 1), (1, 2, 12), (1, 1, 11), (1, 0, 2)]) rfl ?_
  refine j_aload_n X dX10_init_35 rfl ?_
  refine j_bipush X dX10_init_36 6 (by decide) ?_
  refine j_nrm (nI 6) rfl ?_
  refine j_newI X hR (Nat.le_of_ble_eq_true rfl) (Nat.le_of_ble_eq_true rfl) rfl rfl rfl (by rw [jfill_o (by decide), jfill_o (by decide), jfill_o (by decide)]; exact hm 28 (by decide)) (Nat.le_of_ble_eq_true rfl) (by decide) (jvo_b (by decide) (by decide)) dX10_init_38 ?_
  refine j_as (jK 29 [(0, 2, 27), (0, 1, 13), (13, 4, 26), (13, 3, 25), (13, 2, 24), (13, 1, 19), (13, 0, 14), (0, 0, 1), (1, 2, 12), (1, 1, 11), (1, 0, 2)]) rfl ?_
  refine j_putRF X 10 3 (by decide) (by decide) hi rfl 28 (by decide) rfl rfl rfl rfl u241 (by decide) rfl dX10_init_40 ?_
  refine j_as (jK 29 [(0, 3, 28), (0, 2, 27), (0, 1, 13), (13, 4, 26), (13, 3, 25), (13, 2, 24), (13, 1, 19), (13, 0, 14), (0, 0, 1), (1, 2, 12), (1, 1, 11), (1, 0, 2)]) rfl ?_
  refine j_aload_n X dX10_init_43 rfl ?_
  refine j_newO X hR 2 (by decide) u82 u83 u5 (Nat.le_of_ble_eq_true rfl) (Nat.le_of_ble_eq_true rfl) rfl rfl (by rw [jfill_o (by decide), jfill_o (by decide), jfill_o (by decide)]; exact hm 29 (by decide)) (Nat.le_of_ble_eq_true rfl) (jvo_b (by decide) (by decide)) dX10_init_44 ?_
  refine j_as (jK 30 [(0, 3, 28), (0, 2, 27), (0, 1, 13), (13, 4, 26), (13, 3, 25), (13, 2, 24), (13, 1, 19), (13, 0, 14), (0, 0, 1), (1, 2, 12), (1, 1, 11), (1, 0, 2)]) rfl ?_
  refine j_dup X dX10_init_47 rfl ?_
  refine j_callIN X hR (i_Circle _ (fun i hi => by rw [jfill_o (by omega), jfill_o (by omega), jfill_o (by omega)]; exact hm i (by omega))) rfl u86 (by decide) u85 rfl u5 hyX2_init (by decide) (by decide) (Nat.le_of_ble_eq_true rfl) ⟨Nat.le_of_ble_eq_true rfl, Nat.le_of_ble_eq_true rfl⟩ dX10_init_48 (fun r sh2 mem2 hp => ?_)
  obtain ⟨rfl, rfl, rfl⟩ := hp
  refine ⟨Or.inr (jvo_b (by decide) (by decide)), ?_⟩
  refine j_putRF X 10 4 (by decide) (by decide) hi rfl 29 (by decide) rfl rfl rfl rfl u242 (by decide) rfl dX10_init_51 ?_
  refine j_as (jK 32 [(0, 4, 29), (29, 1, 31), (29, 0, 30), (0, 3, 28), (0, 2, 27), (0, 1, 13), (13, 4, 26), (13, 3, 25), (13, 2, 24), (13, 1, 19), (13, 0, 14), (0, 0, 1), (1, 2, 12), (1, 1, 11), (1, 0, 2)]) rfl ?_
  refine j_aload_n X dX10_init_54 rfl ?_
  refine j_newO X hR 3 (by decide) u95 u96 u6 (Nat.le_of_ble_eq_true rfl) (Nat.le_of_ble_eq_true rfl) rfl rfl (by rw [jfill_o (by decide), jfill_o (by decide), jfill_o (by decide)]; exact hm 32 (by decide)) (Nat.le_of_ble_eq_true rfl) (jvo_b (by decide) (by decide)) dX10_init_55 ?_
  refine j_as (jK 33 [(0, 4, 29), (29, 1, 31), (29, 0, 30), (0, 3, 28), (0, 2, 27), (0, 1, 13), (13, 4, 26), (13, 3, 25), (13, 2, 24), (13, 1, 19), (13, 0, 14), (0, 0, 1), (1, 2, 12), (1, 1, 11), (1, 0, 2)]) rfl ?_
  refine j_dup X dX10_init_58 rfl ?_
  refine j_callI X hR (i_Gates _ (fun i hi => by rw [jfill_o (by omega), jfill_o (by omega), jfill_o (by omega)]; exact hm i (by omega))) rfl u99 u97 u98 rfl u6 hyX3_init (by decide) (by decide) (Nat.le_of_ble_eq_true rfl) ⟨Nat.le_of_ble_eq_true rfl, Nat.le_of_ble_eq_true rfl⟩ dX10_init_59 (fun r sh2 mem2 hp => ?_)
  obtain ⟨rfl, rfl, rfl⟩ := hp
  refine ⟨Or.inr (jvo_b (by decide) (by decide)), ?_⟩
  refine j_putRF X 10 5 (by decide) (by decide) hi rfl 32 (by decide) rfl rfl rfl rfl u243 (by decide) rfl dX10_init_62 ?_
  refine j_as (jK 51 [(0, 5, 32), (32, 5, 46), (32, 4, 41), (32, 3, 36), (32, 2, 35), (32, 1, 34), (32, 0, 33), (0, 4, 29), (29, 1, 31), (29, 0, 30), (0, 3, 28), (0, 2, 27), (0, 1, 13), (13, 4, 26), (13, 3, 25), (13, 2, 24), (13, 1, 19), (13, 0, 14), (0, 0, 1), (1, 2, 12), (1, 1, 11), (1, 0, 2)]) rfl ?_
  refine j_aload_n X dX10_init_65 rfl ?_
  refine j_newO X hR 9 (by decide) u127 u128 u7 (Nat.le_of_ble_eq_true rfl) (Nat.le_of_ble_eq_true rfl) rfl rfl (by rw [jfill_o (by decide), jfill_o (by decide), jfill_o (by decide), jfill_o (by decide)]; exact hm 51 (by decide)) (Nat.le_of_ble_eq_true rfl) (jvo_b (by decide) (by decide)) dX10_init_66 ?_
  refine j_as (jK 52 [(0, 5, 32), (32, 5, 46), (32, 4, 41), (32, 3, 36), (32, 2, 35), (32, 1, 34), (32, 0, 33), (0, 4, 29), (29, 1, 31), (29, 0, 30), (0, 3, 28), (0, 2, 27), (0, 1, 13), (13, 4, 26), (13, 3, 25), (13, 2, 24), (13, 1, 19), (13, 0, 14), (0, 0, 1), (1, 2, 12), (1, 1, 11), (1, 0, 2)]) rfl ?_
  refine j_dup X dX10_init_69 rfl ?_
  refine j_callIN X hR (i_Tape _ (fun i hi => by rw [jfill_o (by omega), jfill_o (by omega), jfill_o (by omega), jfill_o (by omega)]; exact hm i (by omega))) rfl u131 (by decide) u130 rfl u7 hyX9_init (by decide) (by decide) (Nat.le_of_ble_eq_true rfl) ⟨Nat.le_of_ble_eq_true rfl, Nat.le_of_ble_eq_true rfl⟩ dX10_init_70 (fun r sh2 mem2 hp => ?_)
  obtain ⟨rfl, rfl, rfl⟩ := hp
  refine ⟨Or.inr (jvo_b (by decide) (by decide)), ?_⟩
  refine j_putRF X 10 6 (by decide) (by decide) hi rfl 51 (by decide) rfl rfl rfl rfl u244 (by decide) rfl dX10_init_73 ?_
  refine j_as (jK 53 [(0, 6, 51), (51, 0, 52), (0, 5, 32), (32, 5, 46), (32, 4, 41), (32, 3, 36), (32, 2, 35), (32, 1, 34), (32, 0, 33), (0, 4, 29), (29, 1, 31), (29, 0, 30), (0, 3, 28), (0, 2, 27), (0, 1, 13), (13, 4, 26), (13, 3, 25), (13, 2, 24), (13, 1, 19), (13, 0, 14), (0, 0, 1), (1, 2, 12), (1, 1, 11), (1, 0, 2)]) rfl ?_
  refine j_aload_n X dX10_init_76 rfl ?_
  refine j_newO X hR 1 (by decide) u164 u165 u8 (Nat.le_of_ble_eq_true rfl) (Nat.le_of_ble_eq_true rfl) rfl rfl (by rw [jfill_o (by decide), jfill_o (by decide), jfill_o (by decide), jfill_o (by decide)]; exact hm 53 (by decide)) (Nat.le_of_ble_eq_true rfl) (jvo_b (by decide) (by decide)) dX10_init_77 ?_
  refine j_as (jK 54 [(0, 6, 51), (51, 0, 52), (0, 5, 32), (32, 5, 46), (32, 4, 41), (32, 3, 36), (32, 2, 35), (32, 1, 34), (32, 0, 33), (0, 4, 29), (29, 1, 31), (29, 0, 30), (0, 3, 28), (0, 2, 27), (0, 1, 13), (13, 4, 26), (13, 3, 25), (13, 2, 24), (13, 1, 19), (13, 0, 14), (0, 0, 1), (1, 2, 12), (1, 1, 11), (1, 0, 2)]) rfl ?_
  refine j_dup X dX10_init_80 rfl ?_
  refine j_callIN X hR (i_Choice _ (fun i hi => by rw [jfill_o (by omega), jfill_o (by omega), jfill_o (by omega), jfill_o (by omega)]; exact hm i (by omega))) rfl u168 (by decide) u167 rfl u8 hyX1_init (by decide) (by decide) (Nat.le_of_ble_eq_true rfl) ⟨Nat.le_of_ble_eq_true rfl, Nat.le_of_ble_eq_true rfl⟩ dX10_init_81 (fun r sh2 mem2 hp => ?_)
  obtain ⟨rfl, rfl, rfl⟩ := hp
  refine ⟨Or.inr (jvo_b (by decide) (by decide)), ?_⟩
  refine j_putRF X 10 7 (by decide) (by decide) hi rfl 53 (by decide) rfl rfl rfl rfl u245 (by decide) rfl dX10_init_84 ?_
  refine j_as (jK 55 [(0, 7, 53), (53, 0, 54), (0, 6, 51), (51, 0, 52), (0, 5, 32), (32, 5, 46), (32, 4, 41), (32, 3, 36), (32, 2, 35), (32, 1, 34), (32, 0, 33), (0, 4, 29), (29, 1, 31), (29, 0, 30), (0, 3, 28), (0, 2, 27), (0, 1, 13), (13, 4, 26), (13, 3, 25), (13, 2, 24), (13, 1, 19), (13, 0, 14), (0, 0, 1), (1, 2, 12), (1, 1, 11), (1, 0, 2)]) rfl ?_
  refine j_aload_n X dX10_init_87 rfl ?_
  refine j_newO X hR 8 (by decide) u177 u178 u9 (Nat.le_of_ble_eq_true rfl) (Nat.le_of_ble_eq_true rfl) rfl rfl (by rw [jfill_o (by decide), jfill_o (by decide), jfill_o (by decide), jfill_o (by decide)]; exact hm 55 (by decide)) (Nat.le_of_ble_eq_true rfl) (jvo_b (by decide) (by decide)) dX10_init_88 ?_
  refine j_as (jK 56 [(0, 7, 53), (53, 0, 54), (0, 6, 51), (51, 0, 52), (0, 5, 32), (32, 5, 46), (32, 4, 41), (32, 3, 36), (32, 2, 35), (32, 1, 34), (32, 0, 33), (0, 4, 29), (29, 1, 31), (29, 0, 30), (0, 3, 28), (0, 2, 27), (0, 1, 13), (13, 4, 26), (13, 3, 25), (13, 2, 24), (13, 1, 19), (13, 0, 14), (0, 0, 1), (1, 2, 12), (1, 1, 11), (1, 0, 2)]) rfl ?_
  refine j_dup X dX10_init_91 rfl ?_
  refine j_callIN X hR (i_Sightings _ (fun i hi => by rw [jfill_o (by omega), jfill_o (by omega), jfill_o (by omega), jfill_o (by omega)]; exact hm i (by omega))) rfl u181 (by decide) u180 rfl u9 hyX8_init (by decide) (by decide) (Nat.le_of_ble_eq_true rfl) ⟨Nat.le_of_ble_eq_true rfl, Nat.le_of_ble_eq_true rfl⟩ dX10_init_92 (fun r sh2 mem2 hp => ?_)
  obtain ⟨rfl, rfl, rfl⟩ := hp
  refine ⟨Or.inr (jvo_b (by decide) (by decide)), ?_⟩
  refine j_putRF X 10 8 (by decide) (by decide) hi rfl 55 (by decide) rfl rfl rfl rfl u246 (by decide) rfl dX10_init_95 ?_
  refine j_as (jK 58 [(0, 8, 55), (55, 1, 57), (55, 0, 56), (0, 7, 53), (53, 0, 54), (0, 6, 51), (51, 0, 52), (0, 5, 32), (32, 5, 46), (32, 4, 41), (32, 3, 36), (32, 2, 35), (32, 1, 34), (32, 0, 33), (0, 4, 29), (29, 1, 31), (29, 0, 30), (0, 3, 28), (0, 2, 27), (0, 1, 13), (13, 4, 26), (13, 3, 25), (13, 2, 24), (13, 1, 19), (13, 0, 14), (0, 0, 1), (1, 2, 12), (1, 1, 11), (1, 0, 2)]) rfl ?_
  refine j_aload_n X dX10_init_98 rfl ?_
  refine j_newO X hR 4 (by decide) u196 u197 u10 (Nat.le_of_ble_eq_true rfl) (Nat.le_of_ble_eq_true rfl) rfl rfl (by rw [jfill_o (by decide), jfill_o (by decide), jfill_o (by decide), jfill_o (by decide)]; exact hm 58 (by decide)) (Nat.le_of_ble_eq_true rfl) (jvo_b (by decide) (by decide)) dX10_init_99 ?_
  refine j_as (jK 59 [(0, 8, 55), (55, 1, 57), (55, 0, 56), (0, 7, 53), (53, 0, 54), (0, 6, 51), (51, 0, 52), (0, 5, 32), (32, 5, 46), (32, 4, 41), (32, 3, 36), (32, 2, 35), (32, 1, 34), (32, 0, 33), (0, 4, 29), (29, 1, 31), (29, 0, 30), (0, 3, 28), (0, 2, 27), (0, 1, 13), (13, 4, 26), (13, 3, 25), (13, 2, 24), (13, 1, 19), (13, 0, 14), (0, 0, 1), (1, 2, 12), (1, 1, 11), (1, 0, 2)]) rfl ?_
  refine j_dup X dX10_init_102 rfl ?_
  refine j_callIN X hR (i_Line _ (fun i hi => by rw [jfill_o (by omega), jfill_o (by omega), jfill_o (by omega), jfill_o (by omega)]; exact hm i (by omega))) rfl u200 (by decide) u199 rfl u10 hyX4_init (by decide) (by decide) (Nat.le_of_ble_eq_true rfl) ⟨Nat.le_of_ble_eq_true rfl, Nat.le_of_ble_eq_true rfl⟩ dX10_init_103 (fun r sh2 mem2 hp => ?_)
  obtain ⟨rfl, rfl, rfl⟩ := hp
  refine ⟨Or.inr (jvo_b (by decide) (by decide)), ?_⟩
  refine j_putRF X 10 9 (by decide) (by decide) hi rfl 58 (by decide) rfl rfl rfl rfl u247 (by decide) rfl dX10_init_106 ?_
  refine j_as (jK 63 [(0, 9, 58), (58, 3, 62), (58, 2, 61), (58, 1, 60), (58, 0, 59), (0, 8, 55), (55, 1, 57), (55, 0, 56), (0, 7, 53), (53, 0, 54), (0, 6, 51), (51, 0, 52), (0, 5, 32), (32, 5, 46), (32, 4, 41), (32, 3, 36), (32, 2, 35), (32, 1, 34), (32, 0, 33), (0, 4, 29), (29, 1, 31), (29, 0, 30), (0, 3, 28), (0, 2, 27), (0, 1, 13), (13, 4, 26), (13, 3, 25), (13, 2, 24), (13, 1, 19), (13, 0, 14), (0, 0, 1), (1, 2, 12), (1, 1, 11), (1, 0, 2)]) rfl ?_
  refine j_aload_n X dX10_init_109 rfl ?_
  refine j_newO X hR 0 (by decide) u223 u224 u11 (Nat.le_of_ble_eq_true rfl) (Nat.le_of_ble_eq_true rfl) rfl rfl (by rw [jfill_o (by decide), jfill_o (by decide), jfill_o (by decide), jfill_o (by decide)]; exact hm 63 (by decide)) (Nat.le_of_ble_eq_true rfl) (jvo_b (by decide) (by decide)) dX10_init_110 ?_
  refine j_as (jK 64 [(0, 9, 58), (58, 3, 62), (58, 2, 61), (58, 1, 60), (58, 0, 59), (0, 8, 55), (55, 1, 57), (55, 0, 56), (0, 7, 53), (53, 0, 54), (0, 6, 51), (51, 0, 52), (0, 5, 32), (32, 5, 46), (32, 4, 41), (32, 3, 36), (32, 2, 35), (32, 1, 34), (32, 0, 33), (0, 4, 29), (29, 1, 31), (29, 0, 30), (0, 3, 28), (0, 2, 27), (0, 1, 13), (13, 4, 26), (13, 3, 25), (13, 2, 24), (13, 1, 19), (13, 0, 14), (0, 0, 1), (1, 2, 12), (1, 1, 11), (1, 0, 2)]) rfl ?_
  refine j_dup X dX10_init_113 rfl ?_
  refine j_callIN X hR (i_Bodies _ (fun i hi => by rw [jfill_o (by omega), jfill_o (by omega), jfill_o (by omega), jfill_o (by omega)]; exact hm i (by omega))) rfl u227 (by decide) u226 rfl u11 hyX0_init (by decide) (by decide) (Nat.le_of_ble_eq_true rfl) ⟨Nat.le_of_ble_eq_true rfl, Nat.le_of_ble_eq_true rfl⟩ dX10_init_114 (fun r sh2 mem2 hp => ?_)
  obtain ⟨rfl, rfl, rfl⟩ := hp
  refine ⟨Or.inr (jvo_b (by decide) (by decide)), ?_⟩
  refine j_putRF X 10 10 (by decide) (by decide) hi rfl 63 (by decide) rfl rfl rfl rfl u248 (by decide) rfl dX10_init_117 ?_
  refine j_as (jK 65 [(0, 10, 63), (63, 0, 64), (0, 9, 58), (58, 3, 62), (58, 2, 61), (58, 1, 60), (58, 0, 59), (0, 8, 55), (55, 1, 57), (55, 0, 56), (0, 7, 53), (53, 0, 54), (0, 6, 51), (51, 0, 52), (0, 5, 32), (32, 5, 46), (32, 4, 41), (32, 3, 36), (32, 2, 35), (32, 1, 34), (32, 0, 33), (0, 4, 29), (29, 1, 31), (29, 0, 30), (0, 3, 28), (0, 2, 27), (0, 1, 13), (13, 4, 26), (13, 3, 25), (13, 2, 24), (13, 1, 19), (13, 0, 14), (0, 0, 1), (1, 2, 12), (1, 1, 11), (1, 0, 2)]) rfl ?_
  refine j_aload_n X dX10_init_120 rfl ?_
  refine j_iconst X dX10_init_121 4 (by decide) ?_
  refine j_nrm (nI 4) rfl ?_
  refine j_newI X hR (Nat.le_of_ble_eq_true rfl) (Nat.le_of_ble_eq_true rfl) rfl rfl rfl (by rw [jfill_o (by decide), jfill_o (by decide), jfill_o (by decide), jfill_o (by decide)]; exact hm 65 (by decide)) (Nat.le_of_ble_eq_true rfl) (by decide) (jvo_b (by decide) (by decide)) dX10_init_122 ?_
  refine j_as (jK 66 [(0, 10, 63), (63, 0, 64), (0, 9, 58), (58, 3, 62), (58, 2, 61), (58, 1, 60), (58, 0, 59), (0, 8, 55), (55, 1, 57), (55, 0, 56), (0, 7, 53), (53, 0, 54), (0, 6, 51), (51, 0, 52), (0, 5, 32), (32, 5, 46), (32, 4, 41), (32, 3, 36), (32, 2, 35), (32, 1, 34), (32, 0, 33), (0, 4, 29), (29, 1, 31), (29, 0, 30), (0, 3, 28), (0, 2, 27), (0, 1, 13), (13, 4, 26), (13, 3, 25), (13, 2, 24), (13, 1, 19), (13, 0, 14), (0, 0, 1), (1, 2, 12), (1, 1, 11), (1, 0, 2)]) rfl ?_
  refine j_putRF X 10 11 (by decide) (by decide) hi rfl 65 (by decide) rfl rfl rfl rfl u249 (by decide) rfl dX10_init_124 ?_
  refine j_as (jK 66 [(0, 11, 65), (0, 10, 63), (63, 0, 64), (0, 9, 58), (58, 3, 62), (58, 2, 61), (58, 1, 60), (58, 0, 59), (0, 8, 55), (55, 1, 57), (55, 0, 56), (0, 7, 53), (53, 0, 54), (0, 6, 51), (51, 0, 52), (0, 5, 32), (32, 5, 46), (32, 4, 41), (32, 3, 36), (32, 2, 35), (32, 1, 34), (32, 0, 33), (0, 4, 29), (29, 1, 31), (29, 0, 30), (0, 3, 28), (0, 2, 27), (0, 1, 13), (13, 4, 26), (13, 3, 25), (13, 2, 24), (13, 1, 19), (13, 0, 14), (0, 0, 1), (1, 2, 12), (1, 1, 11), (1, 0, 2)]) rfl ?_
  refine j_iconst X dX10_init_127 0 (by decide) ?_
  refine j_istore_n X dX10_init_128 (by decide) ?_
  have lp : ∀ (n k : Nat) (m2 : jMem), k ≤ 6 → 7 ≤ k + n → m2 = jsec (jfill (jfill (jfill (jfill mem 12 0 8 (-1)) 25 0 4 1000) 26 0 4 1000) 34 0 4 15) k → J G RX10 cX10_init 2 65 1424 129 (jlv [some (.ref 0), some (.int (nI k))]) [] (jK 66 [(0, 11, 65), (0, 10, 63), (63, 0, 64), (0, 9, 58), (58, 3, 62), (58, 2, 61), (58, 1, 60), (58, 0, 59), (0, 8, 55), (55, 1, 57), (55, 0, 56), (0, 7, 53), (53, 0, 54), (0, 6, 51), (51, 0, 52), (0, 5, 32), (32, 5, 46), (32, 4, 41), (32, 3, 36), (32, 2, 35), (32, 1, 34), (32, 0, 33), (0, 4, 29), (29, 1, 31), (29, 0, 30), (0, 3, 28), (0, 2, 27), (0, 1, 13), (13, 4, 26), (13, 3, 25), (13, 2, 24), (13, 1, 19), (13, 0, 14), (0, 0, 1), (1, 2, 12), (1, 1, 11), (1, 0, 2)]) m2 := by
    intro n
    induction n with
    | zero => intro k m2 h1 h2 h3; exact absurd h2 (by omega)
    | succ n ih =>
      intro k m2 h1 h2 h3
      refine j_iload_n X dX10_init_129 rfl ?_
      refine j_bipush X dX10_init_130 6 (by decide) ?_
      refine j_icmp_ge X 150 dX10_init_132 (by decide) (fun c_132 => ?_) (fun c_132 => ?_)
      · obtain rfl : k = 6 := by have := (nI_leI (a := 6) (by omega) (by omega)).mp c_132; omega
        exact j_return X hE hr (Nat.le_of_ble_eq_true rfl) (Nat.le_of_ble_eq_true rfl) dX10_init_150 ⟨rfl, rfl, h3⟩
      · have hk : k < 6 := by
          rcases Nat.lt_or_ge k 6 with q | q
          · exact q
          · exact absurd ((nI_leI (a := 6) (by omega) (by omega)).mpr q) c_132
        refine j_aload_n X dX10_init_135 rfl ?_
        refine j_getR X 10 3 (by decide) (by decide) rfl u241 (by decide) rfl 28 rfl dX10_init_136 ?_
        refine j_iload_n X dX10_init_139 rfl ?_
        refine j_iload_n X dX10_init_140 rfl ?_
        refine j_iconst X dX10_init_141 2 (by decide) ?_
        refine j_iadd X dX10_init_142 ?_
        refine j_iastN X (by decide) rfl (show k < 6 from hk) (by decide) dX10_init_143 ?_
        refine j_iinc X dX10_init_144 rfl 1 rfl ?_
        refine j_goto X 129 dX10_init_147 (by decide) ?_
        refine j_lv [some (.ref 0), some (.int (nI (k + 1)))] ⟨rfl, congrArg (fun z => some (Value.int z)) (nI_1 _), trivial⟩ ?_
        exact ih (k + 1) _ (by omega) (by omega) (by rw [h3]; rfl)
  refine j_lv [some (.ref 0), some (.int (nI 0))] ⟨rfl, rfl, trivial⟩ ?_
  exact lp 7 0 _ (by omega) (by omega) rfl
