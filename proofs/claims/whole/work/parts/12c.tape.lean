/-! the class reads its tape: the picture of the doors, faults -/
abbrev cGl : List Nat := [34, 35, 37, 38, 39, 40, 42, 43, 44, 45, 47, 48, 49, 50]
def cSM (mem : jMem) (S : Nat → Nat) : Prop := (∀ d, d < 4 → mem 35 d = nI (S d) ∧ mem 34 d = nI (S (4 + d))) ∧ ∀ d, d < 4 → ∀ k, k < 8 → mem (37 + d) k = nI (S (8 + 8 * d + k)) ∧ mem (42 + d) k = nI (S (40 + 8 * d + k)) ∧ mem (47 + d) k = nI (S (72 + 8 * d + k))
theorem cSM_c {mem c : jMem} {S : Nat → Nat} (h : cSM mem S) (e : ∀ i, i ∈ cGl → c i = mem i) : cSM c S := by
  have e4 : ∀ d, d < 4 → c (37 + d) = mem (37 + d) ∧ c (42 + d) = mem (42 + d) ∧ c (47 + d) = mem (47 + d) := fun d hd => by
    rcases (show d = 0 ∨ d = 1 ∨ d = 2 ∨ d = 3 by omega) with rfl | rfl | rfl | rfl <;> exact ⟨e _ (by decide), e _ (by decide), e _ (by decide)⟩
  refine ⟨fun d hd => ?_, fun d hd k hk => ?_⟩
  · rw [e 35 (by decide), e 34 (by decide)]; exact h.1 d hd
  · obtain ⟨a, b, c⟩ := e4 d hd
    rw [a, b, c]; exact h.2 d hd k hk
theorem cSM_51 {mem c : jMem} {S : Nat → Nat} (h : cSM mem S) (e : jeq [51] mem c) : cSM c S := cSM_c h (fun i hi => e i (fun q => by
  have : i = 51 := List.mem_singleton.mp q
  subst this
  exact absurd hi (by decide)))
theorem cSM_cn {mem : jMem} {S : Nat → Nat} {d k : Nat} (h : cSM mem S) (hd : d < 4) : cSM (jup mem 35 d (nI k)) (aUp true S d k) := by
  unfold aUp
  rw [if_pos rfl]
  refine ⟨fun d2 hd2 => ?_, fun d2 hd2 k2 hk2 => ?_⟩
  · have := h.1 d2 hd2
    rw [jup_o (i := 34) (by omega)]
    refine ⟨?_, ?_⟩
    · by_cases q : d2 = d
      · subst q; rw [jup_s]; show nI k = nI (if d2 = d2 then k else S d2); rw [if_pos rfl]
      · rw [jup_n q]; show _ = nI (if d2 = d then k else S d2); rw [if_neg q]; exact this.1
    · show _ = nI (if 4 + d2 = d then k else S (4 + d2)); rw [if_neg (by omega)]; exact this.2
  · have := h.2 d2 hd2 k2 hk2
    rw [jup_o (by omega), jup_o (by omega), jup_o (by omega)]
    refine ⟨?_, ?_, ?_⟩
    · show _ = nI (if _ = d then k else _); rw [if_neg (by omega)]; exact this.1
    · show _ = nI (if _ = d then k else _); rw [if_neg (by omega)]; exact this.2.1
    · show _ = nI (if _ = d then k else _); rw [if_neg (by omega)]; exact this.2.2
theorem cSM_rt {mem : jMem} {S : Nat → Nat} {d k : Nat} (h : cSM mem S) (hd : d < 4) : cSM (jup mem 34 d (nI k)) (aUp true S (4 + d) k) := by
  unfold aUp
  rw [if_pos rfl]
  refine ⟨fun d2 hd2 => ?_, fun d2 hd2 k2 hk2 => ?_⟩
  · have := h.1 d2 hd2
    rw [jup_o (i := 35) (by omega)]
    refine ⟨?_, ?_⟩
    · show _ = nI (if d2 = 4 + d then k else S d2); rw [if_neg (by omega)]; exact this.1
    · by_cases q : d2 = d
      · subst q; rw [jup_s]; show nI k = nI (if 4 + d2 = 4 + d2 then k else _); rw [if_pos rfl]
      · rw [jup_n q]; show _ = nI (if 4 + d2 = 4 + d then k else _); rw [if_neg (by omega)]; exact this.2
  · have := h.2 d2 hd2 k2 hk2
    rw [jup_o (by omega), jup_o (by omega), jup_o (by omega)]
    refine ⟨?_, ?_, ?_⟩
    · show _ = nI (if _ = 4 + d then k else _); rw [if_neg (by omega)]; exact this.1
    · show _ = nI (if _ = 4 + d then k else _); rw [if_neg (by omega)]; exact this.2.1
    · show _ = nI (if _ = 4 + d then k else _); rw [if_neg (by omega)]; exact this.2.2
theorem aUp_t {S : Nat → Nat} {i v j : Nat} : aUp true S i v j = if j = i then v else S j := rfl
theorem aWr_t {S : Nat → Nat} {d k w o b j : Nat} : aWr true S d k w o b j = if j = 72 + 8 * d + k then b else if j = 40 + 8 * d + k then o else if j = 8 + 8 * d + k then w else S j := rfl
theorem cSM_wr {mem : jMem} {S : Nat → Nat} {d k w o b : Nat} (h : cSM mem (aUp true S d k)) (hd : d < 4) (hk : k < 8) : cSM (jup (jup (jup (jup mem (37 + d) k (nI w)) (42 + d) k (nI o)) (47 + d) k (nI b)) 35 d (nI (k + 1))) (aUp true (aWr true S d k w o b) d (k + 1)) := by
  refine ⟨fun d2 hd2 => ?_, fun d2 hd2 k2 hk2 => ?_⟩
  · have := h.1 d2 hd2
    rw [aUp_t, aUp_t] at this
    rw [aUp_t, aUp_t, aWr_t, aWr_t]
    refine ⟨?_, ?_⟩
    · by_cases q : d2 = d
      · subst q; rw [jup_s, if_pos rfl]
      · rw [jup_n q, jup_o (by omega), jup_o (by omega), jup_o (by omega), if_neg q, if_neg (by omega), if_neg (by omega), if_neg (by omega)]
        rw [if_neg q] at this
        exact this.1
    · rw [jup_o (by omega), jup_o (by omega), jup_o (by omega), jup_o (by omega), if_neg (by omega), if_neg (by omega), if_neg (by omega), if_neg (by omega)]
      rw [if_neg (show ¬ 4 + d2 = d by omega)] at this
      exact this.2
  · have := h.2 d2 hd2 k2 hk2
    rw [aUp_t, aUp_t, aUp_t, if_neg (by omega), if_neg (by omega), if_neg (by omega)] at this
    rw [aUp_t, aUp_t, aUp_t, aWr_t, aWr_t, aWr_t, if_neg (show ¬ 8 + 8 * d2 + k2 = d by omega), if_neg (show ¬ 40 + 8 * d2 + k2 = d by omega), if_neg (show ¬ 72 + 8 * d2 + k2 = d by omega)]
    rw [jup_o (o := 35) (by omega), jup_o (o := 35) (by omega), jup_o (o := 35) (by omega)]
    by_cases q : d2 = d
    · subst q
      rw [jup_o (i := 37 + d2) (o := 47 + d2) (by omega), jup_o (i := 37 + d2) (o := 42 + d2) (by omega), jup_o (i := 42 + d2) (o := 47 + d2) (by omega)]
      by_cases q2 : k2 = k
      · subst q2
        rw [jup_s, jup_s, jup_s]
        refine ⟨?_, ?_, ?_⟩
        · rw [if_neg (by omega), if_neg (by omega), if_pos rfl]
        · rw [if_neg (by omega), if_pos rfl]
        · rw [if_pos rfl]
      · rw [jup_n q2, jup_n q2, jup_n q2, jup_o (i := 42 + d2) (o := 37 + d2) (by omega), jup_o (i := 47 + d2) (o := 42 + d2) (by omega), jup_o (i := 47 + d2) (o := 37 + d2) (by omega)]
        refine ⟨?_, ?_, ?_⟩
        · rw [if_neg (by omega), if_neg (by omega), if_neg (by omega)]; exact this.1
        · rw [if_neg (by omega), if_neg (by omega), if_neg (by omega)]; exact this.2.1
        · rw [if_neg (by omega), if_neg (by omega), if_neg (by omega)]; exact this.2.2
    · rw [jup_o (i := 37 + d2) (o := 47 + d) (by omega), jup_o (i := 37 + d2) (o := 42 + d) (by omega), jup_o (i := 37 + d2) (o := 37 + d) (by omega), jup_o (i := 42 + d2) (o := 47 + d) (by omega), jup_o (i := 42 + d2) (o := 42 + d) (by omega), jup_o (i := 42 + d2) (o := 37 + d) (by omega), jup_o (i := 47 + d2) (o := 47 + d) (by omega), jup_o (i := 47 + d2) (o := 42 + d) (by omega), jup_o (i := 47 + d2) (o := 37 + d) (by omega)]
      refine ⟨?_, ?_, ?_⟩
      · rw [if_neg (by omega), if_neg (by omega), if_neg (by omega)]; exact this.1
      · rw [if_neg (by omega), if_neg (by omega), if_neg (by omega)]; exact this.2.1
      · rw [if_neg (by omega), if_neg (by omega), if_neg (by omega)]; exact this.2.2
def cFM (mem c : jMem) : Prop := jeq (51 :: cGl) mem c ∧ jso [5, 6, 7, 8] (mem 51) (c 51)
theorem cFM.rf {mem : jMem} : cFM mem mem := ⟨jeq.rf, jso.rf⟩
theorem cFM.tr {a b c : jMem} (h : cFM a b) (h2 : cFM b c) : cFM a c := ⟨h.1.tr h2.1, h.2.tr h2.2⟩
theorem cFM.of {a b : jMem} (h : jeq [51] a b) (h2 : jso [5, 6, 7, 8] (a 51) (b 51)) : cFM a b := ⟨h.mo (fun x hx => by rw [List.mem_singleton.mp hx]; decide), h2⟩
def cDF (B : Nat → Nat) (z : Nat) (dn : Bool) (s0 : aSt) (mem m2 : jMem) : Prop := ∃ code plc, 1 ≤ code ∧ code ≤ 3 ∧ m2 51 2 = nI code ∧ m2 51 3 = nI plc ∧ plc ≤ 300 ∧ aR (aF B z dn) s0 (aFt code plc) ∧ dn = false ∧ jeq [51] mem m2 ∧ jso [2, 3, 5, 6, 7, 8] (mem 51) (m2 51)
def cDA (B : Nat → Nat) (z : Nat) (dn : Bool) (s0 : aSt) (mem : jMem) (p : Nat) (s : aSt) (S : Nat → Nat) (m2 : jMem) : Prop := cTs B z p m2 ∧ aR (aF B z dn) s0 s ∧ cSM m2 S ∧ cFM mem m2 ∧ (dn = false → jeq [51] mem m2)
theorem cDF_mk {B : Nat → Nat} {z p code : Nat} {dn : Bool} {s0 s : aSt} {mem m2 : jMem} {S : Nat → Nat} (hA : cDA B z dn s0 mem p s S m2) (hs : aF B z dn s = some (aFl B z p code)) (hnf : dn = true → ∀ x, aR (aF B z dn) s0 x → x.1 ≠ 7) (h1 : 1 ≤ code) (h3 : code ≤ 3) : cDF B z dn s0 mem (jup (jup m2 51 2 (nI code)) 51 3 (nI (tF B z p))) := by
  obtain ⟨a1, a3, a4, a5, a6⟩ := hA
  have hR := a3.st hs
  have hdn : dn = false := by
    cases hd : dn with
    | false => rfl
    | true => exact absurd rfl (hnf hd _ hR)
  have hz := a1.1.1
  have hf := tF_le (B := B) a1.2.2.1
  exact ⟨code, tF B z p, h1, h3, by rw [jup_n (by decide), jup_s], jup_s, by omega, hR, hdn, (a6 hdn).tr (jeq.up (jeq.up jeq.rf (by decide)) (by decide)), (a5.2.mo (by simp)).tr (jso.up (jso.up jso.rf (by decide)) (by decide))⟩
theorem cDA_st {B : Nat → Nat} {z p : Nat} {dn : Bool} {s0 s s2 : aSt} {mem m2 m3 : jMem} {S : Nat → Nat} (hA : cDA B z dn s0 mem p s S m2) (hs : aF B z dn s = some s2) (hJ : jeq [51] m2 m3) (hS : jso [5, 6, 7, 8] (m2 51) (m3 51)) (hT : cTm B z (tN B z p) (m3 51)) : cDA B z dn s0 mem (tN B z p) s2 S m3 := by
  obtain ⟨a1, a3, a4, a5, a6⟩ := hA
  exact ⟨⟨cBy8_c a1.1 (hJ 52 (by decide)), (hS 1 (by decide)).trans a1.2.1, tN_le a1.2.2.1, hT⟩, a3.st hs, cSM_51 a4 hJ, a5.tr (cFM.of hJ hS), fun e => (a6 e).tr hJ⟩
theorem cDA_w {B : Nat → Nat} {z p : Nat} {dn : Bool} {s0 s : aSt} {mem m2 m3 : jMem} {S S3 : Nat → Nat} (hA : cDA B z dn s0 mem p s S m2) (hdn : dn = true) (hJ : jeq cGl m2 m3) (hS : cSM m3 S3) : cDA B z dn s0 mem p s S3 m3 := by
  obtain ⟨a1, a3, a4, a5, a6⟩ := hA
  have e51 : m3 51 = m2 51 := hJ 51 (by decide)
  refine ⟨⟨cBy8_c a1.1 (hJ 52 (by decide)), by rw [e51]; exact a1.2.1, a1.2.2.1, by rw [e51]; exact a1.2.2.2⟩, a3, hS, a5.tr ⟨hJ.mo (fun x hx => List.mem_cons_of_mem _ hx), by rw [e51]; exact jso.rf⟩, fun e => ?_⟩
  rw [hdn] at e
  cases e
theorem cDA_4 {B : Nat → Nat} {z p : Nat} {dn : Bool} {s0 s : aSt} {mem m2 : jMem} {S : Nat → Nat} (hA : cDA B z dn s0 mem p s S m2) (hD : mem 51 4 = jIsD dn) : m2 51 4 = jIsD dn := (hA.2.2.2.1.2 4 (by decide)).trans hD
/-- what a number's test leaves in the class -/
def cNq (B : Nat → Nat) (z p most : Nat) (mem : jMem) (v : Int32) (c : jMem) : Prop := (aNb B z p most ∧ v = 1 ∧ mem = c) ∨ (¬ aNb B z p most ∧ v = 0 ∧ jup (jup mem 51 2 (nI (aNc B z p))) 51 3 (nI (tF B z p)) = c)
theorem cNq_ok {B : Nat → Nat} {z p most : Nat} {mem c : jMem} {v : Int32} (h : cNq B z p most mem v c) (hv : ¬ v = 0) : aNb B z p most ∧ mem = c := by
  rcases h with h | h
  · exact ⟨h.1, h.2.2⟩
  · exact absurd h.2.1 hv
theorem cNq_no {B : Nat → Nat} {z p most : Nat} {mem c : jMem} {v : Int32} (h : cNq B z p most mem v c) (hv : v = 0) : ¬ aNb B z p most ∧ jup (jup mem 51 2 (nI (aNc B z p))) 51 3 (nI (tF B z p)) = c := by
  rcases h with h | h
  · rw [hv] at h; exact absurd h.2.1 (by decide)
  · exact ⟨h.1, h.2.2⟩
def cSq (B : Nat → Nat) (z p : Nat) (mem : jMem) (v : Int32) (c : jMem) : Prop := (tK B z p = 4 ∧ v = 1 ∧ jeq [51] mem c ∧ jso [5, 6, 7, 8] (mem 51) (c 51) ∧ cTm B z (tN B z p) (c 51)) ∨ (¬ tK B z p = 4 ∧ v = 0 ∧ jup (jup mem 51 2 (nI 1)) 51 3 (nI (tF B z p)) = c)
theorem aF_2w {B : Nat → Nat} {z p d k w o c t : Nat} {dn : Bool} {S : Nat → Nat} (h : tAw B z p = t) (h3 : ¬ t = 3) (hk : ¬ k = 8) : aF B z dn (2, p, d, k, w, o, c, S) = some (3, tN B z p, d, k, t, 0, c, S) := by
  subst h
  exact aF_2a h3 hk
theorem tAw_4 {B : Nat → Nat} {z p : Nat} (h : tK B z p = 4) : tAw B z p = 3 := by
  by_cases q : tAw B z p = 3
  · exact q
  · have := tAw_k q
    omega
theorem tWd_k {B : Nat → Nat} {z p : Nat} (h : ¬ tWd B z p = 0) : tK B z p = 2 := by
  by_cases q : tK B z p = 2
  · exact q
  · exact absurd (if_neg (fun e => q e.1)) h
theorem cK_0 {B : Nat → Nat} {z p x : Nat} (hx : x < 5) : nI ((tK B z p + 4) % 5) = nI x ↔ (tK B z p + 4) % 5 = x := nI_eq (by omega) (by omega)
/-- what a text's reading leaves in the class -/
def cRq (B : Nat → Nat) (z : Nat) (dn : Bool) (s0 : aSt) (m0 : jMem) (c p : Nat) (v : Int32) (m2 : jMem) : Prop := (v = 1 ∧ ∃ p2 S2, p < p2 ∧ cDA B z dn s0 m0 p2 (0, p2, 0, 0, 0, 0, c + 1, S2) S2 m2) ∨ (v = 0 ∧ cDF B z dn s0 m0 m2)
def cAq (B : Nat → Nat) (z : Nat) (dn : Bool) (s0 : aSt) (m0 : jMem) (c p d k : Nat) (v : Int32) (m2 : jMem) : Prop := (v = 1 ∧ k < 8 ∧ ∃ p2 S2, p < p2 ∧ cDA B z dn s0 m0 p2 (2, p2, d, k + 1, 0, 0, c, S2) (aUp dn S2 d (k + 1)) m2) ∨ (v = 0 ∧ cDF B z dn s0 m0 m2)
def cTq (B : Nat → Nat) (z : Nat) (dn : Bool) (S : Nat → Nat) (mem : jMem) (v : Int32) (m2 : jMem) : Prop := (∃ p c S2, v = nI c ∧ c ≤ 300 ∧ cDA B z dn (0, 0, 0, 0, 0, 0, 0, S) mem p (0, p, 0, 0, 0, 0, c, S2) S2 m2 ∧ tK B z p = 1) ∨ (v = -1 ∧ cDF B z dn (0, 0, 0, 0, 0, 0, 0, S) mem m2)
def jDoC (B : Nat → Nat) (z : Nat) (S : Nat → Nat) (mem : jMem) (v : Int32) (c : jMem) : Prop := jso [1, 2, 3, 4, 5, 6, 7, 8] (mem 51) (c 51) ∧ c 51 1 = 0 ∧ ((∃ code plc, aBadR B z S code plc ∧ v = -1000100 - nI plc ∧ c 51 2 = nI code ∧ jeq [51] mem c) ∨ (∃ cnt S2, aOkR B z S cnt S2 ∧ v = nI cnt ∧ c 51 2 = mem 51 2 ∧ cSM c S2 ∧ jeq (51 :: cGl) mem c))
theorem cDF_fr {B : Nat → Nat} {z : Nat} {dn : Bool} {s0 : aSt} {m0 mem m2 : jMem} (h : cDF B z dn s0 mem m2) (hJ : jeq [51] m0 mem) (hS : jso [5, 6, 7, 8] (m0 51) (mem 51)) : cDF B z dn s0 m0 m2 := by
  obtain ⟨code, plc, h1, h3, hc, hp, hpl, hR, hdn, hJ1, hS1⟩ := h
  exact ⟨code, plc, h1, h3, hc, hp, hpl, hR, hdn, hJ.tr hJ1, (hS.mo (by simp)).tr hS1⟩
theorem cDA_fr {B : Nat → Nat} {z p : Nat} {dn : Bool} {s0 s : aSt} {m0 mem m2 : jMem} {S : Nat → Nat} (h : cDA B z dn s0 mem p s S m2) (hJ : jeq [51] m0 mem) (hS : jso [5, 6, 7, 8] (m0 51) (mem 51)) : cDA B z dn s0 m0 p s S m2 := by
  obtain ⟨a1, a3, a4, a5, a6⟩ := h
  exact ⟨a1, a3, a4, (cFM.of hJ hS).tr a5, fun e => hJ.tr (a6 e)⟩
