def jSM (mem : jMem) (S : Nat → Nat) : Prop := (∀ d, d < 4 → mem 81 d = nI (S d) ∧ mem 80 d = nI (S (4 + d))) ∧ ∀ e, e < 32 → mem 82 e = nI (S (8 + e)) ∧ mem 83 e = nI (S (40 + e)) ∧ mem 84 e = nI (S (72 + e))
theorem jSM_c {mem c : jMem} {S : Nat → Nat} (h : jSM mem S) (h80 : c 80 = mem 80) (h81 : c 81 = mem 81) (h82 : c 82 = mem 82) (h83 : c 83 = mem 83) (h84 : c 84 = mem 84) : jSM c S := by
  unfold jSM
  rw [h80, h81, h82, h83, h84]
  exact h
theorem jSM_66 {mem c : jMem} {S : Nat → Nat} (h : jSM mem S) (e : jeq [66] mem c) : jSM c S := jSM_c h (e 80 (by decide)) (e 81 (by decide)) (e 82 (by decide)) (e 83 (by decide)) (e 84 (by decide))
def jFM (mem c : jMem) : Prop := jeq [66, 80, 81, 82, 83, 84] mem c ∧ jso [25, 26, 27, 28, 29, 30] (mem 66) (c 66)
theorem jFM.rf {mem : jMem} : jFM mem mem := ⟨jeq.rf, jso.rf⟩
theorem jFM.tr {a b c : jMem} (h : jFM a b) (h2 : jFM b c) : jFM a c := ⟨h.1.tr h2.1, h.2.tr h2.2⟩
theorem jFM.of {a b : jMem} (h : jeq [66] a b) (h2 : jso [25, 26, 27, 28] (a 66) (b 66)) : jFM a b := ⟨h.mo (by simp), h2.mo (by simp)⟩
theorem jFM.of2 {a b : jMem} (h : jeq [66] a b) (h2 : jso [29, 30] (a 66) (b 66)) : jFM a b := ⟨h.mo (by simp), h2.mo (by simp)⟩
abbrev aFt (code plc : Nat) : aSt := (7, 0, 0, 0, code, plc, 0, fun _ => 0)
/-- the model has found a fault -/
def jDF (B : Nat → Nat) (z : Nat) (dn : Bool) (s0 : aSt) (mem m2 : jMem) : Prop := ∃ code plc, 1 ≤ code ∧ code ≤ 3 ∧ m2 66 29 = nI code ∧ m2 66 30 = nI plc ∧ plc ≤ 300 ∧ aR (aF B z dn) s0 (aFt code plc) ∧ dn = false ∧ jeq [66] mem m2 ∧ jso [25, 26, 27, 28, 29, 30] (mem 66) (m2 66)
/-- the model stands at the token p, without a fault, where the reading stands at s -/
def jDA (B : Nat → Nat) (z : Nat) (dn : Bool) (s0 : aSt) (mem : jMem) (p : Nat) (s : aSt) (S : Nat → Nat) (m2 : jMem) : Prop := jTs B z p m2 ∧ m2 66 29 = 0 ∧ aR (aF B z dn) s0 s ∧ jSM m2 S ∧ jFM mem m2 ∧ (dn = false → jeq [66] mem m2)
def jIsD (dn : Bool) : Int32 := if dn = true then 1 else 0
theorem jIsD_0 {dn : Bool} : jIsD dn = 0 ↔ dn = false := by
  unfold jIsD
  cases dn <;> decide
/-- a fault that the reading has, the model has -/
theorem jDF_mk {B : Nat → Nat} {z p code : Nat} {dn : Bool} {s0 s : aSt} {mem m2 m3 : jMem} {S : Nat → Nat} (hA : jDA B z dn s0 mem p s S m2) (hs : aF B z dn s = some (aFl B z p code)) (hnf : dn = true → ∀ x, aR (aF B z dn) s0 x → x.1 ≠ 7) (h1 : 1 ≤ code) (h3 : code ≤ 3) (hJ : jeq [66] m2 m3) (hS : jso [25, 26, 27, 28, 29, 30] (m2 66) (m3 66)) (hc : m3 66 29 = nI code) (hp : m3 66 30 = nI (tF B z p)) : jDF B z dn s0 mem m3 := by
  obtain ⟨a1, a2, a3, a4, a5, a6⟩ := hA
  have hR := a3.st hs
  have hdn : dn = false := by
    cases hd : dn with
    | false => rfl
    | true => exact absurd rfl (hnf hd _ hR)
  have hz := a1.1.1
  have hf := tF_le (B := B) a1.2.2.1
  exact ⟨code, tF B z p, h1, h3, hc, hp, by omega, hR, hdn, (a6 hdn).tr hJ, a5.2.tr hS⟩
theorem jso_b {S : List Nat} {a b : jMem} {x : Int32} (h : jso S (a 66) (b 66)) : jso S (jup a 66 32 x 66) (jup b 66 32 x 66) := fun j hj => by
  by_cases e : j = 32
  · subst e; rw [jup_s, jup_s]
  · rw [jup_n e, jup_n e]; exact h j hj
theorem jDF_b {B : Nat → Nat} {z : Nat} {dn : Bool} {s0 : aSt} {mem m2 : jMem} {x : Int32} (h : jDF B z dn s0 mem m2) : jDF B z dn s0 (jup mem 66 32 x) (jup m2 66 32 x) := by
  obtain ⟨code, plc, h1, h3, hc, hp, hpl, hR, hdn, hJ1, hS1⟩ := h
  exact ⟨code, plc, h1, h3, (jup_n (by decide)).trans hc, (jup_n (by decide)).trans hp, hpl, hR, hdn, fun i hi => by rw [jup_o (fun e => hi (by simp [e])), jup_o (fun e => hi (by simp [e]))]; exact hJ1 i hi, jso_b hS1⟩
theorem jDA_b {B : Nat → Nat} {z p : Nat} {dn : Bool} {s0 s : aSt} {mem m2 : jMem} {S : Nat → Nat} {x : Int32} (h : jDA B z dn s0 mem p s S m2) : jDA B z dn s0 (jup mem 66 32 x) p s S (jup m2 66 32 x) := by
  obtain ⟨a1, a2, a3, a4, a5, a6⟩ := h
  exact ⟨⟨⟨a1.1.1, fun i hi => by rw [jup_o (by decide)]; exact a1.1.2 i hi⟩, (jup_n (by decide)).trans a1.2.1, a1.2.2.1, (jup_n (by decide)).trans a1.2.2.2.1, (jup_n (by decide)).trans a1.2.2.2.2.1, (jup_n (by decide)).trans a1.2.2.2.2.2.1, (jup_n (by decide)).trans a1.2.2.2.2.2.2⟩, (jup_n (by decide)).trans a2, a3, jSM_c a4 (jup_o (by decide)) (jup_o (by decide)) (jup_o (by decide)) (jup_o (by decide)) (jup_o (by decide)), ⟨fun i hi => by rw [jup_o (fun e => hi (by simp [e])), jup_o (fun e => hi (by simp [e]))]; exact a5.1 i hi, jso_b a5.2⟩, fun e i hi => by rw [jup_o (fun e => hi (by simp [e])), jup_o (fun e => hi (by simp [e]))]; exact a6 e i hi⟩
theorem jDF_29 {B : Nat → Nat} {z : Nat} {dn : Bool} {s0 : aSt} {mem m2 : jMem} (h : jDF B z dn s0 mem m2) : ¬ m2 66 29 = 0 := by
  obtain ⟨code, plc, h1, h3, hc, -⟩ := h
  rw [hc]
  exact nI_ne0 (by omega) (by omega)
theorem jDF_dn {B : Nat → Nat} {z : Nat} {dn : Bool} {s0 : aSt} {mem m2 : jMem} (h : jDF B z dn s0 mem m2) : dn = false := by
  obtain ⟨code, plc, h1, h3, hc, hp, hpl, hR, hdn, -⟩ := h
  exact hdn
theorem jDF_fl {B : Nat → Nat} {z : Nat} {dn : Bool} {s0 : aSt} {mem m2 : jMem} (h : jDF B z dn s0 mem m2) : ∃ k, 0 < k ∧ k < 10 ∧ m2 66 29 = nI k := by
  obtain ⟨code, plc, h1, h3, hc, -⟩ := h
  exact ⟨code, by omega, by omega, hc⟩
/-- the model goes a token on -/
theorem jDA_st {B : Nat → Nat} {z p : Nat} {dn : Bool} {s0 s s2 : aSt} {mem m2 m3 : jMem} {S : Nat → Nat} (hA : jDA B z dn s0 mem p s S m2) (hs : aF B z dn s = some s2) (hJ : jeq [66] m2 m3) (hS : jso [25, 26, 27, 28] (m2 66) (m3 66)) (hT : jTm B z (tN B z p) (m3 66)) : jDA B z dn s0 mem (tN B z p) s2 S m3 := by
  obtain ⟨a1, a2, a3, a4, a5, a6⟩ := hA
  exact ⟨jTs_mv a1 hJ hS hT (tN_le a1.2.2.1), (hS 29 (by decide)).trans a2, a3.st hs, jSM_66 a4 hJ, a5.tr (jFM.of hJ hS), fun e => (a6 e).tr hJ⟩
theorem jNq_ok {B : Nat → Nat} {z p most : Nat} {mem c : jMem} {v : Int32} (h : jNq B z p most mem v c) (hf : mem 66 29 = 0) (h0 : c 66 29 = 0) : aNb B z p most ∧ v = nI (tV B z p) ∧ jeq [66] mem c ∧ jso [25, 26, 27, 28] (mem 66) (c 66) ∧ jTm B z (tN B z p) (c 66) := by
  rcases h with h | ⟨-, -, -, h4, -⟩
  · exact h
  · rcases aNc_12 B z p with e | e <;> rw [e] at h4 <;> exact absurd (h4.symm.trans h0) (by decide)
theorem jNq_no {B : Nat → Nat} {z p most : Nat} {mem c : jMem} {v : Int32} (h : jNq B z p most mem v c) (hf : mem 66 29 = 0) (h0 : ¬ c 66 29 = 0) : ¬ aNb B z p most ∧ jeq [66] mem c ∧ jso [29, 30] (mem 66) (c 66) ∧ c 66 29 = nI (aNc B z p) ∧ c 66 30 = nI (tF B z p) := by
  rcases h with ⟨-, -, -, h4, -⟩ | h
  · exact absurd ((h4 29 (by decide)).trans hf) h0
  · exact h
/-- the reading at a number that is not as told -/
theorem aF_num {B : Nat → Nat} {z p m d k w o c : Nat} {dn : Bool} {S : Nat → Nat} (hm : m = 1 ∨ m = 3 ∨ m = 5) (h : ¬ aNb B z p 3) : aF B z dn (m, p, d, k, w, o, c, S) = some (aFl B z p (aNc B z p)) := by
  unfold aNc
  by_cases h3 : tK B z p = 3
  · have hv : ¬ tV B z p ≤ 3 := fun e => h ⟨h3, e⟩
    rw [if_pos h3]
    rcases hm with rfl | rfl | rfl <;> (unfold aF; simp only [if_pos h3, if_neg hv])
  · rw [if_neg h3]
    rcases hm with rfl | rfl | rfl <;> (unfold aF; simp only [if_neg h3])
theorem aF_num4 {B : Nat → Nat} {z p d k w o c : Nat} {dn : Bool} {S : Nat → Nat} (h : ¬ aNb B z p 999) : aF B z dn (4, p, d, k, w, o, c, S) = some (aFl B z p (aNc B z p)) := by
  unfold aNc
  by_cases h3 : tK B z p = 3
  · have hv : ¬ tV B z p ≤ 999 := fun e => h ⟨h3, e⟩
    rw [if_pos h3]
    unfold aF
    simp only [if_pos h3, if_neg hv]
  · rw [if_neg h3]
    unfold aF
    simp only [if_neg h3]
theorem aF_1 {B : Nat → Nat} {z p d k w o c : Nat} {dn : Bool} {S : Nat → Nat} (h : aNb B z p 3) : aF B z dn (1, p, d, k, w, o, c, S) = some (2, tN B z p, tV B z p, 0, 0, 0, c, S) := by
  unfold aF
  simp only [if_pos h.1, if_pos h.2]
theorem aF_5 {B : Nat → Nat} {z p d k w o c : Nat} {dn : Bool} {S : Nat → Nat} (h : aNb B z p 3) : aF B z dn (5, p, d, k, w, o, c, S) = some (6, tN B z p, tV B z p, 0, 0, 0, c, S) := by
  unfold aF
  simp only [if_pos h.1, if_pos h.2]
theorem aF_6 {B : Nat → Nat} {z p d k w o c : Nat} {dn : Bool} {S : Nat → Nat} (h : aNb B z p 3) : aF B z dn (6, p, d, k, w, o, c, S) = some (6, tN B z p, d, k ||| 2 ^ tV B z p, 0, 0, c, S) := by
  unfold aF
  simp only [if_pos h.1, if_pos h.2]
theorem aF_6n {B : Nat → Nat} {z p d k w o c : Nat} {dn : Bool} {S : Nat → Nat} (h3 : tK B z p = 3) (h : ¬ aNb B z p 3) : aF B z dn (6, p, d, k, w, o, c, S) = some (aFl B z p (aNc B z p)) := by
  have hv : ¬ tV B z p ≤ 3 := fun e => h ⟨h3, e⟩
  unfold aF aNc
  simp only [if_pos h3, if_neg hv]
theorem aF_6s {B : Nat → Nat} {z p d k w o c : Nat} {dn : Bool} {S : Nat → Nat} (h3 : ¬ tK B z p = 3) : aF B z dn (6, p, d, k, w, o, c, S) = if tK B z p = 4 then some (0, tN B z p, 0, 0, 0, 0, c + 1, aUp dn S (4 + d) k) else some (aFl B z p 1) := by
  unfold aF
  simp only [if_neg h3]
theorem aF_3 {B : Nat → Nat} {z p d k w o c : Nat} {dn : Bool} {S : Nat → Nat} (h : aNb B z p 3) (hw : ¬ w = 2) : aF B z dn (3, p, d, k, w, o, c, S) = some (2, tN B z p, d, k + 1, 0, 0, c, aWr dn S d k w (tV B z p) 0) := by
  unfold aF
  simp only [if_pos h.1, if_pos h.2, if_neg hw]
theorem aF_3o {B : Nat → Nat} {z p d k w o c : Nat} {dn : Bool} {S : Nat → Nat} (h : aNb B z p 3) (hw : w = 2) : aF B z dn (3, p, d, k, w, o, c, S) = some (4, tN B z p, d, k, w, tV B z p, c, S) := by
  unfold aF
  simp only [if_pos h.1, if_pos h.2, if_pos hw]
theorem aF_4 {B : Nat → Nat} {z p d k w o c : Nat} {dn : Bool} {S : Nat → Nat} (h : aNb B z p 999) : aF B z dn (4, p, d, k, w, o, c, S) = some (2, tN B z p, d, k + 1, 0, 0, c, aWr dn S d k w o (tV B z p)) := by
  unfold aF
  simp only [if_pos h.1, if_pos h.2]
theorem aF_2a {B : Nat → Nat} {z p d k w o c : Nat} {dn : Bool} {S : Nat → Nat} (h : ¬ tAw B z p = 3) (hk : ¬ k = 8) : aF B z dn (2, p, d, k, w, o, c, S) = some (3, tN B z p, d, k, tAw B z p, 0, c, S) := by
  unfold aF
  simp only [if_neg h, if_neg hk]
theorem aF_2m {B : Nat → Nat} {z p d w o c : Nat} {dn : Bool} {S : Nat → Nat} (h : ¬ tAw B z p = 3) : aF B z dn (2, p, d, 8, w, o, c, S) = some (aFl B z p 3) := by
  unfold aF
  simp only [if_neg h, if_true]
theorem aF_2s {B : Nat → Nat} {z p d k w o c : Nat} {dn : Bool} {S : Nat → Nat} (h : tAw B z p = 3) : aF B z dn (2, p, d, k, w, o, c, S) = if tK B z p = 4 then some (0, tN B z p, 0, 0, 0, 0, c + 1, aUp dn S d k) else some (aFl B z p 1) := by
  unfold aF
  simp only [if_pos h]
theorem tAw_k {B : Nat → Nat} {z p : Nat} (h : ¬ tAw B z p = 3) : tK B z p = 2 := by
  by_cases q : tK B z p = 2
  · exact q
  · exfalso
    apply h
    have : tWd B z p = 0 := if_neg (fun e => q e.1)
    unfold tAw
    rw [this]
    rfl
theorem tAw_lt (B : Nat → Nat) (z p : Nat) : tAw B z p < 4 := by
  unfold tAw
  by_cases h1 : tWd B z p = 1718775661
  · rw [if_pos h1]; omega
  · rw [if_neg h1]
    by_cases h2 : tWd B z p = 439854918756
    · rw [if_pos h2]; omega
    · rw [if_neg h2]
      by_cases h3 : tWd B z p = 1870030194
      · rw [if_pos h3]; omega
      · rw [if_neg h3]; omega
theorem aUp_f {S : Nat → Nat} {i v : Nat} : aUp false S i v = S := rfl
theorem aWr_f {S : Nat → Nat} {d k w o b : Nat} : aWr false S d k w o b = S := rfl
/-- the model lays an ask down -/
theorem jSM_wr {mem : jMem} {S : Nat → Nat} {d k w o b : Nat} (h : jSM mem S) (hd : d < 4) (hk : k < 8) : jSM (jup (jup (jup mem 82 (8 * d + k) (nI w)) 83 (8 * d + k) (nI o)) 84 (8 * d + k) (nI b)) (aWr true S d k w o b) := by
  have e1 : 8 + 8 * d + k = 8 + (8 * d + k) := by omega
  have e2 : 40 + 8 * d + k = 40 + (8 * d + k) := by omega
  have e3 : 72 + 8 * d + k = 72 + (8 * d + k) := by omega
  unfold aWr aUp
  rw [if_pos rfl, if_pos rfl, if_pos rfl, e1, e2, e3]
  have he : 8 * d + k < 32 := by omega
  generalize 8 * d + k = x at *
  refine ⟨fun d2 hd2 => ?_, fun e he2 => ?_⟩
  · have := h.1 d2 hd2
    simp only [jup, va_up, Nat.reduceEqDiff, if_false]
    rw [if_neg (by omega), if_neg (by omega), if_neg (by omega), if_neg (by omega), if_neg (by omega), if_neg (by omega)]
    exact this
  · have := h.2 e he2
    simp only [jup, va_up, Nat.reduceEqDiff, if_false, if_true]
    by_cases q : e = x
    · subst q
      refine ⟨?_, ?_, ?_⟩
      · rw [if_pos rfl, if_neg (by omega), if_neg (by omega), if_pos rfl]
      · rw [if_pos rfl, if_neg (by omega), if_pos rfl]
      · rw [if_pos rfl, if_pos rfl]
    · refine ⟨?_, ?_, ?_⟩
      · rw [if_neg q, if_neg (by omega), if_neg (by omega), if_neg (by omega)]; exact this.1
      · rw [if_neg q, if_neg (by omega), if_neg (by omega), if_neg (by omega)]; exact this.2.1
      · rw [if_neg q, if_neg (by omega), if_neg (by omega), if_neg (by omega)]; exact this.2.2
theorem jSM_cn {mem : jMem} {S : Nat → Nat} {d k : Nat} (h : jSM mem S) (hd : d < 4) : jSM (jup mem 81 d (nI k)) (aUp true S d k) := by
  unfold aUp
  rw [if_pos rfl]
  refine ⟨fun d2 hd2 => ?_, fun e he2 => ?_⟩
  · have := h.1 d2 hd2
    simp only [jup, va_up, Nat.reduceEqDiff, if_false, if_true]
    rw [if_neg (show ¬ 4 + d2 = d by omega)]
    by_cases q : d2 = d
    · subst q; rw [if_pos rfl, if_pos rfl]; exact ⟨rfl, this.2⟩
    · rw [if_neg q, if_neg q]; exact this
  · have := h.2 e he2
    simp only [jup, va_up, Nat.reduceEqDiff, if_false, if_true]
    rw [if_neg (by omega), if_neg (by omega), if_neg (by omega)]
    exact this
theorem jSM_rt {mem : jMem} {S : Nat → Nat} {d k : Nat} (h : jSM mem S) (hd : d < 4) : jSM (jup mem 80 d (nI k)) (aUp true S (4 + d) k) := by
  unfold aUp
  rw [if_pos rfl]
  refine ⟨fun d2 hd2 => ?_, fun e he2 => ?_⟩
  · have := h.1 d2 hd2
    simp only [jup, va_up, Nat.reduceEqDiff, if_false, if_true]
    rw [if_neg (show ¬ d2 = 4 + d by omega)]
    by_cases q : d2 = d
    · subst q; rw [if_pos rfl, if_pos rfl]; exact ⟨this.1, rfl⟩
    · rw [if_neg q, if_neg (by omega)]; exact this
  · have := h.2 e he2
    simp only [jup, va_up, Nat.reduceEqDiff, if_false, if_true]
    rw [if_neg (by omega), if_neg (by omega), if_neg (by omega)]
    exact this
theorem aF_0e {B : Nat → Nat} {z p d k w o c : Nat} {dn : Bool} {S : Nat → Nat} (h : tK B z p = 1) : aF B z dn (0, p, d, k, w, o, c, S) = none := by
  unfold aF
  simp only [if_pos h]
theorem aF_0d {B : Nat → Nat} {z p d k w o c : Nat} {dn : Bool} {S : Nat → Nat} (h1 : ¬ tK B z p = 1) (h : tWd B z p = 1685024626) : aF B z dn (0, p, d, k, w, o, c, S) = some (1, tN B z p, 0, 0, 0, 0, c, S) := by
  unfold aF
  simp only [if_neg h1, if_pos h]
theorem aF_0r {B : Nat → Nat} {z p d k w o c : Nat} {dn : Bool} {S : Nat → Nat} (h1 : ¬ tK B z p = 1) (h : ¬ tWd B z p = 1685024626) (h2 : tWd B z p = 491394656372) : aF B z dn (0, p, d, k, w, o, c, S) = some (5, tN B z p, 0, 0, 0, 0, c, S) := by
  unfold aF
  simp only [if_neg h1, if_neg h, if_pos h2]
theorem aF_0n {B : Nat → Nat} {z p d k w o c : Nat} {dn : Bool} {S : Nat → Nat} (h1 : ¬ tK B z p = 1) (h : ¬ tWd B z p = 1685024626) (h2 : ¬ tWd B z p = 491394656372) : aF B z dn (0, p, d, k, w, o, c, S) = some (aFl B z p 1) := by
  unfold aF
  simp only [if_neg h1, if_neg h, if_neg h2]
theorem aF_7 {B : Nat → Nat} {z code plc : Nat} {dn : Bool} : aF B z dn (aFt code plc) = none := rfl
/-- the reading that does and the one that doesn't go the same way -/
def aE (S0 : Nat → Nat) (s : aSt) : aSt := if s.1 = 7 then s else (s.1, s.2.1, s.2.2.1, s.2.2.2.1, s.2.2.2.2.1, s.2.2.2.2.2.1, s.2.2.2.2.2.2.1, S0)
theorem aE_7 {S0 : Nat → Nat} {s : aSt} (h : s.1 = 7) : aE S0 s = s := if_pos h
theorem aE_n {S0 S : Nat → Nat} {m p d k w o c : Nat} (h : ¬ m = 7) : aE S0 (m, p, d, k, w, o, c, S) = (m, p, d, k, w, o, c, S0) := if_neg h
theorem aE_fl {S0 : Nat → Nat} {B : Nat → Nat} {z p code : Nat} : aE S0 (aFl B z p code) = aFl B z p code := rfl
theorem aF_er {B : Nat → Nat} {z : Nat} {S0 : Nat → Nat} {s t : aSt} (h : aF B z true s = some t) : aF B z false (aE S0 s) = some (aE S0 t) := by
  obtain ⟨m, p, d, k, w, o, c, S⟩ := s
  match m, h with
  | 0, h =>
    rw [aE_n (by decide)]
    unfold aF at h ⊢
    simp only at h ⊢
    split at h
    · cases h
    · rename_i e; rw [if_neg e]
      split at h
      · rename_i e; rw [if_pos e]; cases h; rfl
      · rename_i e; rw [if_neg e]
        split at h
        · rename_i e; rw [if_pos e]; cases h; rfl
        · rename_i e; rw [if_neg e]; cases h; rfl
  | 1, h =>
    rw [aE_n (by decide)]
    unfold aF at h ⊢
    simp only at h ⊢
    split at h
    · rename_i e; rw [if_pos e]
      split at h
      · rename_i e; rw [if_pos e]; cases h; rfl
      · rename_i e; rw [if_neg e]; cases h; rfl
    · rename_i e; rw [if_neg e]; cases h; rfl
  | 2, h =>
    rw [aE_n (by decide)]
    unfold aF at h ⊢
    simp only at h ⊢
    split at h
    · rename_i e; rw [if_pos e]
      split at h
      · rename_i e; rw [if_pos e]; cases h; rfl
      · rename_i e; rw [if_neg e]; cases h; rfl
    · rename_i e; rw [if_neg e]
      split at h
      · rename_i e; rw [if_pos e]; cases h; rfl
      · rename_i e; rw [if_neg e]; cases h; rfl
  | 3, h =>
    rw [aE_n (by decide)]
    unfold aF at h ⊢
    simp only at h ⊢
    split at h
    · rename_i e; rw [if_pos e]
      split at h
      · rename_i e; rw [if_pos e]
        split at h
        · rename_i e; rw [if_pos e]; cases h; rfl
        · rename_i e; rw [if_neg e]; cases h; rfl
      · rename_i e; rw [if_neg e]; cases h; rfl
    · rename_i e; rw [if_neg e]; cases h; rfl
  | 4, h =>
    rw [aE_n (by decide)]
    unfold aF at h ⊢
    simp only at h ⊢
    split at h
    · rename_i e; rw [if_pos e]
      split at h
      · rename_i e; rw [if_pos e]; cases h; rfl
      · rename_i e; rw [if_neg e]; cases h; rfl
    · rename_i e; rw [if_neg e]; cases h; rfl
  | 5, h =>
    rw [aE_n (by decide)]
    unfold aF at h ⊢
    simp only at h ⊢
    split at h
    · rename_i e; rw [if_pos e]
      split at h
      · rename_i e; rw [if_pos e]; cases h; rfl
      · rename_i e; rw [if_neg e]; cases h; rfl
    · rename_i e; rw [if_neg e]; cases h; rfl
  | 6, h =>
    rw [aE_n (by decide)]
    unfold aF at h ⊢
    simp only at h ⊢
    split at h
    · rename_i e; rw [if_pos e]
      split at h
      · rename_i e; rw [if_pos e]; cases h; rfl
      · rename_i e; rw [if_neg e]; cases h; rfl
    · rename_i e; rw [if_neg e]
      split at h
      · rename_i e; rw [if_pos e]; cases h; rfl
      · rename_i e; rw [if_neg e]; cases h; rfl
  | n + 7, h => cases h
theorem aR_er {B : Nat → Nat} {z : Nat} {S0 : Nat → Nat} {s : aSt} : ∀ (k : Nat) (t : aSt), aIt (aF B z true) k s = some t → aR (aF B z false) (aE S0 s) (aE S0 t)
  | 0, t, h => by cases h; exact aR.rf
  | k + 1, t, h => by
    have h2 : (aIt (aF B z true) k s).bind (aF B z true) = some t := h
    cases hk : aIt (aF B z true) k s with
    | none => rw [hk] at h2; cases h2
    | some u =>
      rw [hk] at h2
      exact (aR_er k u hk).st (aF_er h2)
theorem aR_nf {B : Nat → Nat} {z p c : Nat} {S S2 : Nat → Nat} (h : aR (aF B z false) (0, 0, 0, 0, 0, 0, 0, S) (0, p, 0, 0, 0, 0, c, S2)) (he : tK B z p = 1) : ∀ x, aR (aF B z true) (0, 0, 0, 0, 0, 0, 0, S) x → x.1 ≠ 7 := by
  intro x ⟨k, hk⟩ h7
  have h1 := aR_er (S0 := S) k x hk
  rw [aE_7 h7, aE_n (by decide)] at h1
  obtain ⟨m, r⟩ := x
  have e7 : m = 7 := h7
  subst e7
  have := aR_u h (aF_0e he) h1 rfl
  cases this
