def jkd : Nat → Nat
  | 0 => 10
  | 1 => 7
  | 2 => 15
  | 3 => 13
  | 4 => 13
  | 5 => 13
  | 6 => 13
  | 7 => 13
  | 8 => 13
  | 9 => 13
  | 10 => 13
  | 11 => 13
  | 12 => 13
  | 13 => 5
  | 14 => 15
  | 15 => 13
  | 16 => 13
  | 17 => 13
  | 18 => 13
  | 19 => 15
  | 20 => 13
  | 21 => 13
  | 22 => 13
  | 23 => 13
  | 24 => 13
  | 25 => 13
  | 26 => 13
  | 27 => 14
  | 28 => 13
  | 29 => 2
  | 30 => 13
  | 31 => 13
  | 32 => 3
  | 33 => 13
  | 34 => 13
  | 35 => 13
  | 36 => 15
  | 37 => 13
  | 38 => 13
  | 39 => 13
  | 40 => 13
  | 41 => 15
  | 42 => 13
  | 43 => 13
  | 44 => 13
  | 45 => 13
  | 46 => 15
  | 47 => 13
  | 48 => 13
  | 49 => 13
  | 50 => 13
  | 51 => 9
  | 52 => 12
  | 53 => 1
  | 54 => 13
  | 55 => 8
  | 56 => 13
  | 57 => 13
  | 58 => 4
  | 59 => 13
  | 60 => 13
  | 61 => 13
  | 62 => 13
  | 63 => 0
  | 64 => 13
  | 65 => 13
  | 66 => 11
  | 67 => 13
  | 68 => 13
  | 69 => 13
  | 70 => 13
  | 71 => 13
  | 72 => 13
  | 73 => 13
  | 74 => 13
  | 75 => 13
  | 76 => 13
  | 77 => 13
  | 78 => 13
  | 79 => 13
  | 80 => 13
  | 81 => 13
  | 82 => 13
  | 83 => 13
  | 84 => 13
  | 85 => 13
  | 86 => 13
  | 87 => 13
  | 88 => 13
  | 89 => 13
  | 90 => 13
  | 91 => 13
  | i => if i % 2 = 0 then 6 else 13
def jln : Nat → Nat
  | 0 => 15
  | 1 => 3
  | 2 => 8
  | 3 => 60
  | 4 => 60
  | 5 => 60
  | 6 => 60
  | 7 => 60
  | 8 => 60
  | 9 => 60
  | 10 => 60
  | 11 => 8
  | 12 => 8
  | 13 => 5
  | 14 => 4
  | 15 => 6
  | 16 => 6
  | 17 => 6
  | 18 => 6
  | 19 => 4
  | 20 => 6
  | 21 => 6
  | 22 => 6
  | 23 => 6
  | 24 => 4
  | 25 => 4
  | 26 => 4
  | 27 => 12
  | 28 => 6
  | 29 => 2
  | 30 => 6
  | 31 => 6
  | 32 => 6
  | 33 => 4
  | 34 => 4
  | 35 => 4
  | 36 => 4
  | 37 => 8
  | 38 => 8
  | 39 => 8
  | 40 => 8
  | 41 => 4
  | 42 => 8
  | 43 => 8
  | 44 => 8
  | 45 => 8
  | 46 => 4
  | 47 => 8
  | 48 => 8
  | 49 => 8
  | 50 => 8
  | 51 => 9
  | 52 => 300
  | 53 => 2
  | 54 => 256
  | 55 => 3
  | 56 => 30
  | 57 => 30
  | 58 => 6
  | 59 => 7
  | 60 => 7
  | 61 => 7
  | 62 => 7
  | 63 => 2
  | 64 => 16
  | 65 => 4
  | 66 => 42
  | 67 => 8
  | 68 => 8
  | 69 => 480
  | 70 => 4
  | 71 => 24
  | 72 => 24
  | 73 => 8
  | 74 => 108
  | 75 => 12
  | 76 => 4
  | 77 => 2
  | 78 => 6
  | 79 => 4
  | 80 => 4
  | 81 => 4
  | 82 => 32
  | 83 => 32
  | 84 => 32
  | 85 => 300
  | 86 => 12
  | 87 => 30
  | 88 => 30
  | 89 => 7
  | 90 => 7
  | 91 => 16
  | i => if i % 2 = 0 then 8 else 4
/-- the references: of papers by how many there are -/
def jpt (np : Nat) : Nat → Nat → Option Nat
  | 0 => fun j => match j with
    | 0 => some 1
    | 1 => some 13
    | 2 => some 27
    | 3 => some 28
    | 4 => some 29
    | 5 => some 32
    | 6 => some 51
    | 7 => some 53
    | 8 => some 55
    | 9 => some 58
    | 10 => some 63
    | 11 => some 65
    | _ => none
  | 1 => fun j => match j with
    | 0 => some 2
    | 1 => some 11
    | 2 => some 12
    | _ => none
  | 2 => fun j => if j < 8 then some (3 + j) else none
  | 13 => fun j => match j with
    | 0 => some 14
    | 1 => some 19
    | 2 => some 24
    | 3 => some 25
    | 4 => some 26
    | _ => none
  | 14 => fun j => if j < 4 then some (15 + j) else none
  | 19 => fun j => if j < 4 then some (20 + j) else none
  | 27 => fun j => if j < np then some (92 + 2 * j) else none
  | 29 => fun j => match j with
    | 0 => some 30
    | 1 => some 31
    | _ => none
  | 32 => fun j => match j with
    | 0 => some 33
    | 1 => some 34
    | 2 => some 35
    | 3 => some 36
    | 4 => some 41
    | 5 => some 46
    | _ => none
  | 36 => fun j => if j < 4 then some (37 + j) else none
  | 41 => fun j => if j < 4 then some (42 + j) else none
  | 46 => fun j => if j < 4 then some (47 + j) else none
  | 51 => fun j => match j with
    | 0 => some 52
    | _ => none
  | 53 => fun j => match j with
    | 0 => some 54
    | _ => none
  | 55 => fun j => match j with
    | 0 => some 56
    | 1 => some 57
    | _ => none
  | 58 => fun j => match j with
    | 0 => some 59
    | 1 => some 60
    | 2 => some 61
    | 3 => some 62
    | _ => none
  | 63 => fun j => match j with
    | 0 => some 64
    | _ => none
  | 66 => fun j => match j with
    | 2 => some 67
    | 3 => some 68
    | 4 => some 69
    | 5 => some 70
    | 6 => some 71
    | 7 => some 72
    | 8 => some 73
    | 10 => some 74
    | 11 => some 75
    | 12 => some 76
    | 13 => some 77
    | 14 => some 78
    | 15 => some 79
    | 16 => some 80
    | 17 => some 81
    | 18 => some 82
    | 19 => some 83
    | 20 => some 84
    | 21 => some 85
    | 33 => some 86
    | 35 => some 87
    | 36 => some 88
    | 37 => some 89
    | 38 => some 90
    | 40 => some 91
    | _ => none
  | i => fun j => if 92 ≤ i ∧ i % 2 = 0 ∧ j = 6 then some (i + 1) else none
def jS (np : Nat) : jSh := (92 + 2 * np, jkd, jln, jpt np)
theorem jS_lt (np : Nat) {o : Nat} (h : o < 92) : o < (jS np).1 := Nat.lt_of_lt_of_le h (Nat.le_add_right _ _)
theorem o0 (np : Nat) : 0 < (jS np).1 := jS_lt np (by decide)
theorem k0 (np : Nat) : (jS np).2.1 0 = 10 := rfl
theorem p0_0 (np : Nat) : (jS np).2.2.2 0 0 = some 1 := rfl
theorem p0_1 (np : Nat) : (jS np).2.2.2 0 1 = some 13 := rfl
theorem p0_2 (np : Nat) : (jS np).2.2.2 0 2 = some 27 := rfl
theorem p0_3 (np : Nat) : (jS np).2.2.2 0 3 = some 28 := rfl
theorem p0_4 (np : Nat) : (jS np).2.2.2 0 4 = some 29 := rfl
theorem p0_5 (np : Nat) : (jS np).2.2.2 0 5 = some 32 := rfl
theorem p0_6 (np : Nat) : (jS np).2.2.2 0 6 = some 51 := rfl
theorem p0_7 (np : Nat) : (jS np).2.2.2 0 7 = some 53 := rfl
theorem p0_8 (np : Nat) : (jS np).2.2.2 0 8 = some 55 := rfl
theorem p0_9 (np : Nat) : (jS np).2.2.2 0 9 = some 58 := rfl
theorem p0_10 (np : Nat) : (jS np).2.2.2 0 10 = some 63 := rfl
theorem p0_11 (np : Nat) : (jS np).2.2.2 0 11 = some 65 := rfl
theorem o1 (np : Nat) : 1 < (jS np).1 := jS_lt np (by decide)
theorem k1 (np : Nat) : (jS np).2.1 1 = 7 := rfl
theorem p1_0 (np : Nat) : (jS np).2.2.2 1 0 = some 2 := rfl
theorem p1_1 (np : Nat) : (jS np).2.2.2 1 1 = some 11 := rfl
theorem p1_2 (np : Nat) : (jS np).2.2.2 1 2 = some 12 := rfl
theorem o2 (np : Nat) : 2 < (jS np).1 := jS_lt np (by decide)
theorem k2 (np : Nat) : (jS np).2.1 2 = 15 := rfl
theorem l2 (np : Nat) : (jS np).2.2.1 2 = 8 := rfl
theorem p2_r (np : Nat) {j : Nat} (h : j < 8) : (jS np).2.2.2 2 j = some (3 + j) := if_pos h
theorem o2_r (np : Nat) {j : Nat} (h : j < 8) : 3 + j < (jS np).1 := jS_lt np (by omega)
theorem k2_r (np : Nat) {j : Nat} (h : j < 8) : (jS np).2.1 (3 + j) = 13 := by
  rcases (show j = 0 ∨ j = 1 ∨ j = 2 ∨ j = 3 ∨ j = 4 ∨ j = 5 ∨ j = 6 ∨ j = 7 by omega) with rfl | rfl | rfl | rfl | rfl | rfl | rfl | rfl <;> rfl
theorem l2_r (np : Nat) {j : Nat} (h : j < 8) : (jS np).2.2.1 (3 + j) = 60 := by
  rcases (show j = 0 ∨ j = 1 ∨ j = 2 ∨ j = 3 ∨ j = 4 ∨ j = 5 ∨ j = 6 ∨ j = 7 by omega) with rfl | rfl | rfl | rfl | rfl | rfl | rfl | rfl <;> rfl
theorem o3 (np : Nat) : 3 < (jS np).1 := jS_lt np (by decide)
theorem k3 (np : Nat) : (jS np).2.1 3 = 13 := rfl
theorem l3 (np : Nat) : (jS np).2.2.1 3 = 60 := rfl
theorem o4 (np : Nat) : 4 < (jS np).1 := jS_lt np (by decide)
theorem k4 (np : Nat) : (jS np).2.1 4 = 13 := rfl
theorem l4 (np : Nat) : (jS np).2.2.1 4 = 60 := rfl
theorem o5 (np : Nat) : 5 < (jS np).1 := jS_lt np (by decide)
theorem k5 (np : Nat) : (jS np).2.1 5 = 13 := rfl
theorem l5 (np : Nat) : (jS np).2.2.1 5 = 60 := rfl
theorem o6 (np : Nat) : 6 < (jS np).1 := jS_lt np (by decide)
theorem k6 (np : Nat) : (jS np).2.1 6 = 13 := rfl
theorem l6 (np : Nat) : (jS np).2.2.1 6 = 60 := rfl
theorem o7 (np : Nat) : 7 < (jS np).1 := jS_lt np (by decide)
theorem k7 (np : Nat) : (jS np).2.1 7 = 13 := rfl
theorem l7 (np : Nat) : (jS np).2.2.1 7 = 60 := rfl
theorem o8 (np : Nat) : 8 < (jS np).1 := jS_lt np (by decide)
theorem k8 (np : Nat) : (jS np).2.1 8 = 13 := rfl
theorem l8 (np : Nat) : (jS np).2.2.1 8 = 60 := rfl
theorem o9 (np : Nat) : 9 < (jS np).1 := jS_lt np (by decide)
theorem k9 (np : Nat) : (jS np).2.1 9 = 13 := rfl
theorem l9 (np : Nat) : (jS np).2.2.1 9 = 60 := rfl
theorem o10 (np : Nat) : 10 < (jS np).1 := jS_lt np (by decide)
theorem k10 (np : Nat) : (jS np).2.1 10 = 13 := rfl
theorem l10 (np : Nat) : (jS np).2.2.1 10 = 60 := rfl
theorem o11 (np : Nat) : 11 < (jS np).1 := jS_lt np (by decide)
theorem k11 (np : Nat) : (jS np).2.1 11 = 13 := rfl
theorem l11 (np : Nat) : (jS np).2.2.1 11 = 8 := rfl
theorem o12 (np : Nat) : 12 < (jS np).1 := jS_lt np (by decide)
theorem k12 (np : Nat) : (jS np).2.1 12 = 13 := rfl
theorem l12 (np : Nat) : (jS np).2.2.1 12 = 8 := rfl
theorem o13 (np : Nat) : 13 < (jS np).1 := jS_lt np (by decide)
theorem k13 (np : Nat) : (jS np).2.1 13 = 5 := rfl
theorem p13_0 (np : Nat) : (jS np).2.2.2 13 0 = some 14 := rfl
theorem p13_1 (np : Nat) : (jS np).2.2.2 13 1 = some 19 := rfl
theorem p13_2 (np : Nat) : (jS np).2.2.2 13 2 = some 24 := rfl
theorem p13_3 (np : Nat) : (jS np).2.2.2 13 3 = some 25 := rfl
theorem p13_4 (np : Nat) : (jS np).2.2.2 13 4 = some 26 := rfl
theorem o14 (np : Nat) : 14 < (jS np).1 := jS_lt np (by decide)
theorem k14 (np : Nat) : (jS np).2.1 14 = 15 := rfl
theorem l14 (np : Nat) : (jS np).2.2.1 14 = 4 := rfl
theorem p14_r (np : Nat) {j : Nat} (h : j < 4) : (jS np).2.2.2 14 j = some (15 + j) := if_pos h
theorem o14_r (np : Nat) {j : Nat} (h : j < 4) : 15 + j < (jS np).1 := jS_lt np (by omega)
theorem k14_r (np : Nat) {j : Nat} (h : j < 4) : (jS np).2.1 (15 + j) = 13 := by
  rcases (show j = 0 ∨ j = 1 ∨ j = 2 ∨ j = 3 by omega) with rfl | rfl | rfl | rfl <;> rfl
theorem l14_r (np : Nat) {j : Nat} (h : j < 4) : (jS np).2.2.1 (15 + j) = 6 := by
  rcases (show j = 0 ∨ j = 1 ∨ j = 2 ∨ j = 3 by omega) with rfl | rfl | rfl | rfl <;> rfl
theorem o15 (np : Nat) : 15 < (jS np).1 := jS_lt np (by decide)
theorem k15 (np : Nat) : (jS np).2.1 15 = 13 := rfl
theorem l15 (np : Nat) : (jS np).2.2.1 15 = 6 := rfl
theorem o16 (np : Nat) : 16 < (jS np).1 := jS_lt np (by decide)
theorem k16 (np : Nat) : (jS np).2.1 16 = 13 := rfl
theorem l16 (np : Nat) : (jS np).2.2.1 16 = 6 := rfl
theorem o17 (np : Nat) : 17 < (jS np).1 := jS_lt np (by decide)
theorem k17 (np : Nat) : (jS np).2.1 17 = 13 := rfl
theorem l17 (np : Nat) : (jS np).2.2.1 17 = 6 := rfl
theorem o18 (np : Nat) : 18 < (jS np).1 := jS_lt np (by decide)
theorem k18 (np : Nat) : (jS np).2.1 18 = 13 := rfl
theorem l18 (np : Nat) : (jS np).2.2.1 18 = 6 := rfl
theorem o19 (np : Nat) : 19 < (jS np).1 := jS_lt np (by decide)
theorem k19 (np : Nat) : (jS np).2.1 19 = 15 := rfl
theorem l19 (np : Nat) : (jS np).2.2.1 19 = 4 := rfl
theorem p19_r (np : Nat) {j : Nat} (h : j < 4) : (jS np).2.2.2 19 j = some (20 + j) := if_pos h
theorem o19_r (np : Nat) {j : Nat} (h : j < 4) : 20 + j < (jS np).1 := jS_lt np (by omega)
theorem k19_r (np : Nat) {j : Nat} (h : j < 4) : (jS np).2.1 (20 + j) = 13 := by
  rcases (show j = 0 ∨ j = 1 ∨ j = 2 ∨ j = 3 by omega) with rfl | rfl | rfl | rfl <;> rfl
theorem l19_r (np : Nat) {j : Nat} (h : j < 4) : (jS np).2.2.1 (20 + j) = 6 := by
  rcases (show j = 0 ∨ j = 1 ∨ j = 2 ∨ j = 3 by omega) with rfl | rfl | rfl | rfl <;> rfl
theorem o20 (np : Nat) : 20 < (jS np).1 := jS_lt np (by decide)
theorem k20 (np : Nat) : (jS np).2.1 20 = 13 := rfl
theorem l20 (np : Nat) : (jS np).2.2.1 20 = 6 := rfl
theorem o21 (np : Nat) : 21 < (jS np).1 := jS_lt np (by decide)
theorem k21 (np : Nat) : (jS np).2.1 21 = 13 := rfl
theorem l21 (np : Nat) : (jS np).2.2.1 21 = 6 := rfl
theorem o22 (np : Nat) : 22 < (jS np).1 := jS_lt np (by decide)
theorem k22 (np : Nat) : (jS np).2.1 22 = 13 := rfl
theorem l22 (np : Nat) : (jS np).2.2.1 22 = 6 := rfl
theorem o23 (np : Nat) : 23 < (jS np).1 := jS_lt np (by decide)
theorem k23 (np : Nat) : (jS np).2.1 23 = 13 := rfl
theorem l23 (np : Nat) : (jS np).2.2.1 23 = 6 := rfl
theorem o24 (np : Nat) : 24 < (jS np).1 := jS_lt np (by decide)
theorem k24 (np : Nat) : (jS np).2.1 24 = 13 := rfl
theorem l24 (np : Nat) : (jS np).2.2.1 24 = 4 := rfl
theorem o25 (np : Nat) : 25 < (jS np).1 := jS_lt np (by decide)
theorem k25 (np : Nat) : (jS np).2.1 25 = 13 := rfl
theorem l25 (np : Nat) : (jS np).2.2.1 25 = 4 := rfl
theorem o26 (np : Nat) : 26 < (jS np).1 := jS_lt np (by decide)
theorem k26 (np : Nat) : (jS np).2.1 26 = 13 := rfl
theorem l26 (np : Nat) : (jS np).2.2.1 26 = 4 := rfl
theorem o27 (np : Nat) : 27 < (jS np).1 := jS_lt np (by decide)
theorem k27 (np : Nat) : (jS np).2.1 27 = 14 := rfl
theorem l27 (np : Nat) : (jS np).2.2.1 27 = 12 := rfl
theorem o28 (np : Nat) : 28 < (jS np).1 := jS_lt np (by decide)
theorem k28 (np : Nat) : (jS np).2.1 28 = 13 := rfl
theorem l28 (np : Nat) : (jS np).2.2.1 28 = 6 := rfl
theorem o29 (np : Nat) : 29 < (jS np).1 := jS_lt np (by decide)
theorem k29 (np : Nat) : (jS np).2.1 29 = 2 := rfl
theorem p29_0 (np : Nat) : (jS np).2.2.2 29 0 = some 30 := rfl
theorem p29_1 (np : Nat) : (jS np).2.2.2 29 1 = some 31 := rfl
theorem o30 (np : Nat) : 30 < (jS np).1 := jS_lt np (by decide)
theorem k30 (np : Nat) : (jS np).2.1 30 = 13 := rfl
theorem l30 (np : Nat) : (jS np).2.2.1 30 = 6 := rfl
theorem o31 (np : Nat) : 31 < (jS np).1 := jS_lt np (by decide)
theorem k31 (np : Nat) : (jS np).2.1 31 = 13 := rfl
theorem l31 (np : Nat) : (jS np).2.2.1 31 = 6 := rfl
theorem o32 (np : Nat) : 32 < (jS np).1 := jS_lt np (by decide)
theorem k32 (np : Nat) : (jS np).2.1 32 = 3 := rfl
theorem p32_0 (np : Nat) : (jS np).2.2.2 32 0 = some 33 := rfl
theorem p32_1 (np : Nat) : (jS np).2.2.2 32 1 = some 34 := rfl
theorem p32_2 (np : Nat) : (jS np).2.2.2 32 2 = some 35 := rfl
theorem p32_3 (np : Nat) : (jS np).2.2.2 32 3 = some 36 := rfl
theorem p32_4 (np : Nat) : (jS np).2.2.2 32 4 = some 41 := rfl
theorem p32_5 (np : Nat) : (jS np).2.2.2 32 5 = some 46 := rfl
theorem o33 (np : Nat) : 33 < (jS np).1 := jS_lt np (by decide)
theorem k33 (np : Nat) : (jS np).2.1 33 = 13 := rfl
theorem l33 (np : Nat) : (jS np).2.2.1 33 = 4 := rfl
theorem o34 (np : Nat) : 34 < (jS np).1 := jS_lt np (by decide)
theorem k34 (np : Nat) : (jS np).2.1 34 = 13 := rfl
theorem l34 (np : Nat) : (jS np).2.2.1 34 = 4 := rfl
theorem o35 (np : Nat) : 35 < (jS np).1 := jS_lt np (by decide)
theorem k35 (np : Nat) : (jS np).2.1 35 = 13 := rfl
theorem l35 (np : Nat) : (jS np).2.2.1 35 = 4 := rfl
theorem o36 (np : Nat) : 36 < (jS np).1 := jS_lt np (by decide)
theorem k36 (np : Nat) : (jS np).2.1 36 = 15 := rfl
theorem l36 (np : Nat) : (jS np).2.2.1 36 = 4 := rfl
theorem p36_r (np : Nat) {j : Nat} (h : j < 4) : (jS np).2.2.2 36 j = some (37 + j) := if_pos h
theorem o36_r (np : Nat) {j : Nat} (h : j < 4) : 37 + j < (jS np).1 := jS_lt np (by omega)
theorem k36_r (np : Nat) {j : Nat} (h : j < 4) : (jS np).2.1 (37 + j) = 13 := by
  rcases (show j = 0 ∨ j = 1 ∨ j = 2 ∨ j = 3 by omega) with rfl | rfl | rfl | rfl <;> rfl
theorem l36_r (np : Nat) {j : Nat} (h : j < 4) : (jS np).2.2.1 (37 + j) = 8 := by
  rcases (show j = 0 ∨ j = 1 ∨ j = 2 ∨ j = 3 by omega) with rfl | rfl | rfl | rfl <;> rfl
theorem o37 (np : Nat) : 37 < (jS np).1 := jS_lt np (by decide)
theorem k37 (np : Nat) : (jS np).2.1 37 = 13 := rfl
theorem l37 (np : Nat) : (jS np).2.2.1 37 = 8 := rfl
theorem o38 (np : Nat) : 38 < (jS np).1 := jS_lt np (by decide)
theorem k38 (np : Nat) : (jS np).2.1 38 = 13 := rfl
theorem l38 (np : Nat) : (jS np).2.2.1 38 = 8 := rfl
theorem o39 (np : Nat) : 39 < (jS np).1 := jS_lt np (by decide)
theorem k39 (np : Nat) : (jS np).2.1 39 = 13 := rfl
theorem l39 (np : Nat) : (jS np).2.2.1 39 = 8 := rfl
theorem o40 (np : Nat) : 40 < (jS np).1 := jS_lt np (by decide)
theorem k40 (np : Nat) : (jS np).2.1 40 = 13 := rfl
theorem l40 (np : Nat) : (jS np).2.2.1 40 = 8 := rfl
theorem o41 (np : Nat) : 41 < (jS np).1 := jS_lt np (by decide)
theorem k41 (np : Nat) : (jS np).2.1 41 = 15 := rfl
theorem l41 (np : Nat) : (jS np).2.2.1 41 = 4 := rfl
theorem p41_r (np : Nat) {j : Nat} (h : j < 4) : (jS np).2.2.2 41 j = some (42 + j) := if_pos h
theorem o41_r (np : Nat) {j : Nat} (h : j < 4) : 42 + j < (jS np).1 := jS_lt np (by omega)
theorem k41_r (np : Nat) {j : Nat} (h : j < 4) : (jS np).2.1 (42 + j) = 13 := by
  rcases (show j = 0 ∨ j = 1 ∨ j = 2 ∨ j = 3 by omega) with rfl | rfl | rfl | rfl <;> rfl
theorem l41_r (np : Nat) {j : Nat} (h : j < 4) : (jS np).2.2.1 (42 + j) = 8 := by
  rcases (show j = 0 ∨ j = 1 ∨ j = 2 ∨ j = 3 by omega) with rfl | rfl | rfl | rfl <;> rfl
theorem o42 (np : Nat) : 42 < (jS np).1 := jS_lt np (by decide)
theorem k42 (np : Nat) : (jS np).2.1 42 = 13 := rfl
theorem l42 (np : Nat) : (jS np).2.2.1 42 = 8 := rfl
theorem o43 (np : Nat) : 43 < (jS np).1 := jS_lt np (by decide)
theorem k43 (np : Nat) : (jS np).2.1 43 = 13 := rfl
theorem l43 (np : Nat) : (jS np).2.2.1 43 = 8 := rfl
theorem o44 (np : Nat) : 44 < (jS np).1 := jS_lt np (by decide)
theorem k44 (np : Nat) : (jS np).2.1 44 = 13 := rfl
theorem l44 (np : Nat) : (jS np).2.2.1 44 = 8 := rfl
theorem o45 (np : Nat) : 45 < (jS np).1 := jS_lt np (by decide)
theorem k45 (np : Nat) : (jS np).2.1 45 = 13 := rfl
theorem l45 (np : Nat) : (jS np).2.2.1 45 = 8 := rfl
theorem o46 (np : Nat) : 46 < (jS np).1 := jS_lt np (by decide)
theorem k46 (np : Nat) : (jS np).2.1 46 = 15 := rfl
theorem l46 (np : Nat) : (jS np).2.2.1 46 = 4 := rfl
theorem p46_r (np : Nat) {j : Nat} (h : j < 4) : (jS np).2.2.2 46 j = some (47 + j) := if_pos h
theorem o46_r (np : Nat) {j : Nat} (h : j < 4) : 47 + j < (jS np).1 := jS_lt np (by omega)
theorem k46_r (np : Nat) {j : Nat} (h : j < 4) : (jS np).2.1 (47 + j) = 13 := by
  rcases (show j = 0 ∨ j = 1 ∨ j = 2 ∨ j = 3 by omega) with rfl | rfl | rfl | rfl <;> rfl
theorem l46_r (np : Nat) {j : Nat} (h : j < 4) : (jS np).2.2.1 (47 + j) = 8 := by
  rcases (show j = 0 ∨ j = 1 ∨ j = 2 ∨ j = 3 by omega) with rfl | rfl | rfl | rfl <;> rfl
theorem o47 (np : Nat) : 47 < (jS np).1 := jS_lt np (by decide)
theorem k47 (np : Nat) : (jS np).2.1 47 = 13 := rfl
theorem l47 (np : Nat) : (jS np).2.2.1 47 = 8 := rfl
theorem o48 (np : Nat) : 48 < (jS np).1 := jS_lt np (by decide)
theorem k48 (np : Nat) : (jS np).2.1 48 = 13 := rfl
theorem l48 (np : Nat) : (jS np).2.2.1 48 = 8 := rfl
theorem o49 (np : Nat) : 49 < (jS np).1 := jS_lt np (by decide)
theorem k49 (np : Nat) : (jS np).2.1 49 = 13 := rfl
theorem l49 (np : Nat) : (jS np).2.2.1 49 = 8 := rfl
theorem o50 (np : Nat) : 50 < (jS np).1 := jS_lt np (by decide)
theorem k50 (np : Nat) : (jS np).2.1 50 = 13 := rfl
theorem l50 (np : Nat) : (jS np).2.2.1 50 = 8 := rfl
theorem o51 (np : Nat) : 51 < (jS np).1 := jS_lt np (by decide)
theorem k51 (np : Nat) : (jS np).2.1 51 = 9 := rfl
theorem p51_0 (np : Nat) : (jS np).2.2.2 51 0 = some 52 := rfl
theorem o52 (np : Nat) : 52 < (jS np).1 := jS_lt np (by decide)
theorem k52 (np : Nat) : (jS np).2.1 52 = 12 := rfl
theorem l52 (np : Nat) : (jS np).2.2.1 52 = 300 := rfl
theorem o53 (np : Nat) : 53 < (jS np).1 := jS_lt np (by decide)
theorem k53 (np : Nat) : (jS np).2.1 53 = 1 := rfl
theorem p53_0 (np : Nat) : (jS np).2.2.2 53 0 = some 54 := rfl
theorem o54 (np : Nat) : 54 < (jS np).1 := jS_lt np (by decide)
theorem k54 (np : Nat) : (jS np).2.1 54 = 13 := rfl
theorem l54 (np : Nat) : (jS np).2.2.1 54 = 256 := rfl
theorem o55 (np : Nat) : 55 < (jS np).1 := jS_lt np (by decide)
theorem k55 (np : Nat) : (jS np).2.1 55 = 8 := rfl
theorem p55_0 (np : Nat) : (jS np).2.2.2 55 0 = some 56 := rfl
theorem p55_1 (np : Nat) : (jS np).2.2.2 55 1 = some 57 := rfl
theorem o56 (np : Nat) : 56 < (jS np).1 := jS_lt np (by decide)
theorem k56 (np : Nat) : (jS np).2.1 56 = 13 := rfl
theorem l56 (np : Nat) : (jS np).2.2.1 56 = 30 := rfl
theorem o57 (np : Nat) : 57 < (jS np).1 := jS_lt np (by decide)
theorem k57 (np : Nat) : (jS np).2.1 57 = 13 := rfl
theorem l57 (np : Nat) : (jS np).2.2.1 57 = 30 := rfl
theorem o58 (np : Nat) : 58 < (jS np).1 := jS_lt np (by decide)
theorem k58 (np : Nat) : (jS np).2.1 58 = 4 := rfl
theorem p58_0 (np : Nat) : (jS np).2.2.2 58 0 = some 59 := rfl
theorem p58_1 (np : Nat) : (jS np).2.2.2 58 1 = some 60 := rfl
theorem p58_2 (np : Nat) : (jS np).2.2.2 58 2 = some 61 := rfl
theorem p58_3 (np : Nat) : (jS np).2.2.2 58 3 = some 62 := rfl
theorem o59 (np : Nat) : 59 < (jS np).1 := jS_lt np (by decide)
theorem k59 (np : Nat) : (jS np).2.1 59 = 13 := rfl
theorem l59 (np : Nat) : (jS np).2.2.1 59 = 7 := rfl
theorem o60 (np : Nat) : 60 < (jS np).1 := jS_lt np (by decide)
theorem k60 (np : Nat) : (jS np).2.1 60 = 13 := rfl
theorem l60 (np : Nat) : (jS np).2.2.1 60 = 7 := rfl
theorem o61 (np : Nat) : 61 < (jS np).1 := jS_lt np (by decide)
theorem k61 (np : Nat) : (jS np).2.1 61 = 13 := rfl
theorem l61 (np : Nat) : (jS np).2.2.1 61 = 7 := rfl
theorem o62 (np : Nat) : 62 < (jS np).1 := jS_lt np (by decide)
theorem k62 (np : Nat) : (jS np).2.1 62 = 13 := rfl
theorem l62 (np : Nat) : (jS np).2.2.1 62 = 7 := rfl
theorem o63 (np : Nat) : 63 < (jS np).1 := jS_lt np (by decide)
theorem k63 (np : Nat) : (jS np).2.1 63 = 0 := rfl
theorem p63_0 (np : Nat) : (jS np).2.2.2 63 0 = some 64 := rfl
theorem o64 (np : Nat) : 64 < (jS np).1 := jS_lt np (by decide)
theorem k64 (np : Nat) : (jS np).2.1 64 = 13 := rfl
theorem l64 (np : Nat) : (jS np).2.2.1 64 = 16 := rfl
theorem o65 (np : Nat) : 65 < (jS np).1 := jS_lt np (by decide)
theorem k65 (np : Nat) : (jS np).2.1 65 = 13 := rfl
theorem l65 (np : Nat) : (jS np).2.2.1 65 = 4 := rfl
theorem o66 (np : Nat) : 66 < (jS np).1 := jS_lt np (by decide)
theorem k66 (np : Nat) : (jS np).2.1 66 = 11 := rfl
theorem p66_2 (np : Nat) : (jS np).2.2.2 66 2 = some 67 := rfl
theorem p66_3 (np : Nat) : (jS np).2.2.2 66 3 = some 68 := rfl
theorem p66_4 (np : Nat) : (jS np).2.2.2 66 4 = some 69 := rfl
theorem p66_5 (np : Nat) : (jS np).2.2.2 66 5 = some 70 := rfl
theorem p66_6 (np : Nat) : (jS np).2.2.2 66 6 = some 71 := rfl
theorem p66_7 (np : Nat) : (jS np).2.2.2 66 7 = some 72 := rfl
theorem p66_8 (np : Nat) : (jS np).2.2.2 66 8 = some 73 := rfl
theorem p66_10 (np : Nat) : (jS np).2.2.2 66 10 = some 74 := rfl
theorem p66_11 (np : Nat) : (jS np).2.2.2 66 11 = some 75 := rfl
theorem p66_12 (np : Nat) : (jS np).2.2.2 66 12 = some 76 := rfl
theorem p66_13 (np : Nat) : (jS np).2.2.2 66 13 = some 77 := rfl
theorem p66_14 (np : Nat) : (jS np).2.2.2 66 14 = some 78 := rfl
theorem p66_15 (np : Nat) : (jS np).2.2.2 66 15 = some 79 := rfl
theorem p66_16 (np : Nat) : (jS np).2.2.2 66 16 = some 80 := rfl
theorem p66_17 (np : Nat) : (jS np).2.2.2 66 17 = some 81 := rfl
theorem p66_18 (np : Nat) : (jS np).2.2.2 66 18 = some 82 := rfl
theorem p66_19 (np : Nat) : (jS np).2.2.2 66 19 = some 83 := rfl
theorem p66_20 (np : Nat) : (jS np).2.2.2 66 20 = some 84 := rfl
theorem p66_21 (np : Nat) : (jS np).2.2.2 66 21 = some 85 := rfl
theorem p66_33 (np : Nat) : (jS np).2.2.2 66 33 = some 86 := rfl
theorem p66_35 (np : Nat) : (jS np).2.2.2 66 35 = some 87 := rfl
theorem p66_36 (np : Nat) : (jS np).2.2.2 66 36 = some 88 := rfl
theorem p66_37 (np : Nat) : (jS np).2.2.2 66 37 = some 89 := rfl
theorem p66_38 (np : Nat) : (jS np).2.2.2 66 38 = some 90 := rfl
theorem p66_40 (np : Nat) : (jS np).2.2.2 66 40 = some 91 := rfl
theorem o67 (np : Nat) : 67 < (jS np).1 := jS_lt np (by decide)
theorem k67 (np : Nat) : (jS np).2.1 67 = 13 := rfl
theorem l67 (np : Nat) : (jS np).2.2.1 67 = 8 := rfl
theorem o68 (np : Nat) : 68 < (jS np).1 := jS_lt np (by decide)
theorem k68 (np : Nat) : (jS np).2.1 68 = 13 := rfl
theorem l68 (np : Nat) : (jS np).2.2.1 68 = 8 := rfl
theorem o69 (np : Nat) : 69 < (jS np).1 := jS_lt np (by decide)
theorem k69 (np : Nat) : (jS np).2.1 69 = 13 := rfl
theorem l69 (np : Nat) : (jS np).2.2.1 69 = 480 := rfl
theorem o70 (np : Nat) : 70 < (jS np).1 := jS_lt np (by decide)
theorem k70 (np : Nat) : (jS np).2.1 70 = 13 := rfl
theorem l70 (np : Nat) : (jS np).2.2.1 70 = 4 := rfl
theorem o71 (np : Nat) : 71 < (jS np).1 := jS_lt np (by decide)
theorem k71 (np : Nat) : (jS np).2.1 71 = 13 := rfl
theorem l71 (np : Nat) : (jS np).2.2.1 71 = 24 := rfl
theorem o72 (np : Nat) : 72 < (jS np).1 := jS_lt np (by decide)
theorem k72 (np : Nat) : (jS np).2.1 72 = 13 := rfl
theorem l72 (np : Nat) : (jS np).2.2.1 72 = 24 := rfl
theorem o73 (np : Nat) : 73 < (jS np).1 := jS_lt np (by decide)
theorem k73 (np : Nat) : (jS np).2.1 73 = 13 := rfl
theorem l73 (np : Nat) : (jS np).2.2.1 73 = 8 := rfl
theorem o74 (np : Nat) : 74 < (jS np).1 := jS_lt np (by decide)
theorem k74 (np : Nat) : (jS np).2.1 74 = 13 := rfl
theorem l74 (np : Nat) : (jS np).2.2.1 74 = 108 := rfl
theorem o75 (np : Nat) : 75 < (jS np).1 := jS_lt np (by decide)
theorem k75 (np : Nat) : (jS np).2.1 75 = 13 := rfl
theorem l75 (np : Nat) : (jS np).2.2.1 75 = 12 := rfl
theorem o76 (np : Nat) : 76 < (jS np).1 := jS_lt np (by decide)
theorem k76 (np : Nat) : (jS np).2.1 76 = 13 := rfl
theorem l76 (np : Nat) : (jS np).2.2.1 76 = 4 := rfl
theorem o77 (np : Nat) : 77 < (jS np).1 := jS_lt np (by decide)
theorem k77 (np : Nat) : (jS np).2.1 77 = 13 := rfl
theorem l77 (np : Nat) : (jS np).2.2.1 77 = 2 := rfl
theorem o78 (np : Nat) : 78 < (jS np).1 := jS_lt np (by decide)
theorem k78 (np : Nat) : (jS np).2.1 78 = 13 := rfl
theorem l78 (np : Nat) : (jS np).2.2.1 78 = 6 := rfl
theorem o79 (np : Nat) : 79 < (jS np).1 := jS_lt np (by decide)
theorem k79 (np : Nat) : (jS np).2.1 79 = 13 := rfl
theorem l79 (np : Nat) : (jS np).2.2.1 79 = 4 := rfl
theorem o80 (np : Nat) : 80 < (jS np).1 := jS_lt np (by decide)
theorem k80 (np : Nat) : (jS np).2.1 80 = 13 := rfl
theorem l80 (np : Nat) : (jS np).2.2.1 80 = 4 := rfl
theorem o81 (np : Nat) : 81 < (jS np).1 := jS_lt np (by decide)
theorem k81 (np : Nat) : (jS np).2.1 81 = 13 := rfl
theorem l81 (np : Nat) : (jS np).2.2.1 81 = 4 := rfl
theorem o82 (np : Nat) : 82 < (jS np).1 := jS_lt np (by decide)
theorem k82 (np : Nat) : (jS np).2.1 82 = 13 := rfl
theorem l82 (np : Nat) : (jS np).2.2.1 82 = 32 := rfl
theorem o83 (np : Nat) : 83 < (jS np).1 := jS_lt np (by decide)
theorem k83 (np : Nat) : (jS np).2.1 83 = 13 := rfl
theorem l83 (np : Nat) : (jS np).2.2.1 83 = 32 := rfl
theorem o84 (np : Nat) : 84 < (jS np).1 := jS_lt np (by decide)
theorem k84 (np : Nat) : (jS np).2.1 84 = 13 := rfl
theorem l84 (np : Nat) : (jS np).2.2.1 84 = 32 := rfl
theorem o85 (np : Nat) : 85 < (jS np).1 := jS_lt np (by decide)
theorem k85 (np : Nat) : (jS np).2.1 85 = 13 := rfl
theorem l85 (np : Nat) : (jS np).2.2.1 85 = 300 := rfl
theorem o86 (np : Nat) : 86 < (jS np).1 := jS_lt np (by decide)
theorem k86 (np : Nat) : (jS np).2.1 86 = 13 := rfl
theorem l86 (np : Nat) : (jS np).2.2.1 86 = 12 := rfl
theorem o87 (np : Nat) : 87 < (jS np).1 := jS_lt np (by decide)
theorem k87 (np : Nat) : (jS np).2.1 87 = 13 := rfl
theorem l87 (np : Nat) : (jS np).2.2.1 87 = 30 := rfl
theorem o88 (np : Nat) : 88 < (jS np).1 := jS_lt np (by decide)
theorem k88 (np : Nat) : (jS np).2.1 88 = 13 := rfl
theorem l88 (np : Nat) : (jS np).2.2.1 88 = 30 := rfl
theorem o89 (np : Nat) : 89 < (jS np).1 := jS_lt np (by decide)
theorem k89 (np : Nat) : (jS np).2.1 89 = 13 := rfl
theorem l89 (np : Nat) : (jS np).2.2.1 89 = 7 := rfl
theorem o90 (np : Nat) : 90 < (jS np).1 := jS_lt np (by decide)
theorem k90 (np : Nat) : (jS np).2.1 90 = 13 := rfl
theorem l90 (np : Nat) : (jS np).2.2.1 90 = 7 := rfl
theorem o91 (np : Nat) : 91 < (jS np).1 := jS_lt np (by decide)
theorem k91 (np : Nat) : (jS np).2.1 91 = 13 := rfl
theorem l91 (np : Nat) : (jS np).2.2.1 91 = 16 := rfl
theorem pP_r (np : Nat) {j : Nat} (h : j < np) : (jS np).2.2.2 27 j = some (92 + 2 * j) := if_pos h
theorem oP (np : Nat) {j : Nat} (h : j < np) : 92 + 2 * j < (jS np).1 := by show _ < 92 + 2 * np; omega
theorem oPf (np : Nat) {j : Nat} (h : j < np) : 93 + 2 * j < (jS np).1 := by show _ < 92 + 2 * np; omega
theorem kP (np j : Nat) : (jS np).2.1 (92 + 2 * j) = 6 := by
  rw [Nat.add_comm]
  show (if (2 * j + 92) % 2 = 0 then 6 else 13) = 6
  rw [if_pos (by omega)]
theorem kPf (np j : Nat) : (jS np).2.1 (93 + 2 * j) = 13 := by
  rw [Nat.add_comm]
  show (if (2 * j + 1 + 92) % 2 = 0 then 6 else 13) = 13
  rw [if_neg (by omega)]
theorem lPf (np j : Nat) : (jS np).2.2.1 (93 + 2 * j) = 4 := by
  rw [Nat.add_comm]
  show (if (2 * j + 1 + 92) % 2 = 0 then 8 else 4) = 4
  rw [if_neg (by omega)]
theorem pP_f (np j : Nat) : (jS np).2.2.2 (92 + 2 * j) 6 = some (93 + 2 * j) := by
  rw [Nat.add_comm 92, Nat.add_comm 93]
  show (if 92 ≤ 2 * j + 92 ∧ (2 * j + 92) % 2 = 0 ∧ 6 = 6 then some (2 * j + 92 + 1) else none) = _
  rw [if_pos ⟨by omega, by omega, rfl⟩]
/-- a truth as the machine has it -/
def jb (P : Prop) [Decidable P] : Int32 := if P then 1 else 0
theorem jb_0 {P : Prop} [Decidable P] : jb P = 0 ↔ ¬ P := by
  unfold jb
  by_cases h : P <;> simp [h]
theorem jb_t {P : Prop} [Decidable P] (h : P) : jb P = 1 := if_pos h
theorem jb_f {P : Prop} [Decidable P] (h : ¬ P) : jb P = 0 := if_neg h
theorem jb_nar {P : Prop} [Decidable P] : narrow .boolean (.int (jb P)) = .int (jb P) := by
  unfold jb
  by_cases h : P <;> simp [h] <;> rfl
theorem jb_c {P Q : Prop} [Decidable P] [Decidable Q] (h : P ↔ Q) : jb P = jb Q := by
  unfold jb
  by_cases hp : P
  · rw [if_pos hp, if_pos (h.mp hp)]
  · rw [if_neg hp, if_neg (fun q => hp (h.mpr q))]
/-- CONTRACTS OVER THE STEADY SHAPE: an int (or a truth), nothing, a paper or null, a long -/
def jPi (y : MethodName) (cc : ByteArray) (nL : Nat) (ty : FieldType) (d : Nat) (av : List Value) (np : Nat) (mem : jMem) (P : Int32 → jMem → Prop) : Prop := jCt y cc nL (some ty) d 0 0 av (jS np) mem (fun a b c => b = jS np ∧ ∃ v, a = some (.int v) ∧ P v c)
def jPv (y : MethodName) (cc : ByteArray) (nL : Nat) (d : Nat) (av : List Value) (np : Nat) (mem : jMem) (P : jMem → Prop) : Prop := jCt y cc nL none d 0 0 av (jS np) mem (fun a b c => b = jS np ∧ a = none ∧ P c)
def jPa (y : MethodName) (cc : ByteArray) (nL : Nat) (C : String) (d : Nat) (av : List Value) (np : Nat) (mem : jMem) (P : Value → jMem → Prop) : Prop := jCt y cc nL (some (.object C)) d 0 0 av (jS np) mem (fun a b c => b = jS np ∧ ∃ v, a = some v ∧ P v c)
def jPl (y : MethodName) (cc : ByteArray) (nL : Nat) (d : Nat) (av : List Value) (np : Nat) (mem : jMem) (P : Int64 → jMem → Prop) : Prop := jCt y cc nL (some .long) d 0 0 av (jS np) mem (fun a b c => b = jS np ∧ ∃ v, a = some (.long v) ∧ P v c)
def jEi (G : jG) (np : Nat) (P : Int32 → jMem → Prop) : Prop := jEnd G 0 0 (fun a b c => b = jS np ∧ ∃ v, a = some (.int v) ∧ P v c)
def jEv (G : jG) (np : Nat) (P : jMem → Prop) : Prop := jEnd G 0 0 (fun a b c => b = jS np ∧ a = none ∧ P c)
def jEa (G : jG) (np : Nat) (P : Value → jMem → Prop) : Prop := jEnd G 0 0 (fun a b c => b = jS np ∧ ∃ v, a = some v ∧ P v c)
def jEl (G : jG) (np : Nat) (P : Int64 → jMem → Prop) : Prop := jEnd G 0 0 (fun a b c => b = jS np ∧ ∃ v, a = some (.long v) ∧ P v c)
section STEADY
variable {y : MethodName} {ccy : ByteArray} {nLy d dd idx np : Nat} {av : List Value} {mem : jMem} {own : String}
theorem jPi.of {ty : FieldType} {P : Int32 → jMem → Prop} (hown : y.cls = own) (hy : plainName own = true) (hn : (lg_sl av).length ≤ nLy) (h : ∀ G : jG, jOk G own ccy nLy → jRm G d 0 0 → jRet G (some ty) → jEi G np P → J G own ccy nLy 0 0 0 (jen av) [] (jS np) mem) : jPi y ccy nLy ty d av np mem P := by
  subst hown
  exact jCt.of hy hn (fun G X hR hr _ hE => h G X hR hr hE)
theorem jPv.of {P : jMem → Prop} (hown : y.cls = own) (hy : plainName own = true) (hn : (lg_sl av).length ≤ nLy) (h : ∀ G : jG, jOk G own ccy nLy → jRm G d 0 0 → jRet G none → jEv G np P → J G own ccy nLy 0 0 0 (jen av) [] (jS np) mem) : jPv y ccy nLy d av np mem P := by
  subst hown
  exact jCt.of hy hn (fun G X hR hr _ hE => h G X hR hr hE)
theorem jPa.of {C : String} {P : Value → jMem → Prop} (hown : y.cls = own) (hy : plainName own = true) (hn : (lg_sl av).length ≤ nLy) (h : ∀ G : jG, jOk G own ccy nLy → jRm G d 0 0 → jRet G (some (.object C)) → jEa G np P → J G own ccy nLy 0 0 0 (jen av) [] (jS np) mem) : jPa y ccy nLy C d av np mem P := by
  subst hown
  exact jCt.of hy hn (fun G X hR hr _ hE => h G X hR hr hE)
theorem jPl.of {P : Int64 → jMem → Prop} (hown : y.cls = own) (hy : plainName own = true) (hn : (lg_sl av).length ≤ nLy) (h : ∀ G : jG, jOk G own ccy nLy → jRm G d 0 0 → jRet G (some .long) → jEl G np P → J G own ccy nLy 0 0 0 (jen av) [] (jS np) mem) : jPl y ccy nLy d av np mem P := by
  subst hown
  exact jCt.of hy hn (fun G X hR hr _ hE => h G X hR hr hE)
variable {G : jG} {cc : ByteArray} {nL pc : Nat} {lv : Nat → Option Value} {rest st : List Value}
theorem s_iret {ty : FieldType} {P : Int32 → jMem → Prop} {v : Int32} (X : jOk G own cc nL) (hE : jEi G np P) (hr : jRet G (some ty)) (hd : decode cc pc = .ok (.ireturn, 1)) (hn : narrow ty (.int v) = .int v) (hp : P v mem) : J G own cc nL 0 0 pc lv [.int v] (jS np) mem := j_ireturn X hE hr hn (Nat.le_refl _) (Nat.le_refl _) hd ⟨rfl, v, rfl, hp⟩
theorem s_vret {P : jMem → Prop} (X : jOk G own cc nL) (hE : jEv G np P) (hr : jRet G none) (hd : decode cc pc = .ok (.return_, 1)) (hp : P mem) : J G own cc nL 0 0 pc lv [] (jS np) mem := j_return X hE hr (Nat.le_refl _) (Nat.le_refl _) hd ⟨rfl, rfl, hp⟩
theorem s_aret {C : String} {P : Value → jMem → Prop} {v : Value} (X : jOk G own cc nL) (hE : jEa G np P) (hr : jRet G (some (.object C))) (hd : decode cc pc = .ok (.areturn, 1)) (hv : v = .null ∨ ∃ a, v = .ref a) (hp : P v mem) : J G own cc nL 0 0 pc lv [v] (jS np) mem := j_areturn X hE hr hv (Nat.le_refl _) (Nat.le_refl _) hd ⟨rfl, v, rfl, hp⟩
theorem s_lret {P : Int64 → jMem → Prop} {v : Int64} (X : jOk G own cc nL) (hE : jEl G np P) (hr : jRet G (some .long)) (hd : decode cc pc = .ok (.lreturn, 1)) (hp : P v mem) : J G own cc nL 0 0 pc lv [.long v] (jS np) mem := j_lreturn X hE hr (Nat.le_refl _) (Nat.le_refl _) hd ⟨rfl, v, rfl, hp⟩
/-- a truth is tested -/
theorem j_ifb_eq {u us : Nat} {sh : jSh} {P : Prop} [Decidable P] {off : Int} (X : jOk G own cc nL) (tgt : Nat) (hd : decode cc pc = .ok (.ifCond .eq off, 3)) (ht : (pc : Int) + off = (tgt : Int)) (kt : ¬ P → J G own cc nL u us tgt lv st sh mem) (kf : P → J G own cc nL u us (pc + 3) lv st sh mem) : J G own cc nL u us pc lv (.int (jb P) :: st) sh mem := j_if_eq X tgt hd ht (fun c => kt (jb_0.mp c)) (fun c => kf (Decidable.of_not_not (fun q => c (jb_0.mpr q))))
theorem j_ifb_ne {u us : Nat} {sh : jSh} {P : Prop} [Decidable P] {off : Int} (X : jOk G own cc nL) (tgt : Nat) (hd : decode cc pc = .ok (.ifCond .ne off, 3)) (ht : (pc : Int) + off = (tgt : Int)) (kt : P → J G own cc nL u us tgt lv st sh mem) (kf : ¬ P → J G own cc nL u us (pc + 3) lv st sh mem) : J G own cc nL u us pc lv (.int (jb P) :: st) sh mem := j_if_ne X tgt hd ht (fun c => kt (Decidable.of_not_not (fun q => c (jb_0.mpr q)))) (fun c => kf (jb_0.mp c))
theorem s_callSi {ty : FieldType} {P : Int32 → jMem → Prop} (X : jOk G own cc nL) (hR : jRm G dd 0 0) (hM : jPi y ccy nLy ty d av np mem P) (hst : st = av.reverse ++ rest) (hc : Cond.code y ccy nLy (some ty) ∈ jW) (hlk : Cond.methodLink own idx y ∈ jW) (hs : Cond.static y ∈ jW) (hini : Cond.initialized y.cls ∈ jW) (hy : y.cls ≠ "java/lang/invoke/MethodHandle" ∧ y.cls ≠ "java/lang/invoke/VarHandle" ∧ (parseMethodDescriptor y.desc).map (fun d => d.parameters.length) = some av.length) (hn : nLy ≤ 45) (hdd : d + 1 ≤ dd) (hW : (rest.map fun v => v.category).sum ≤ 8) (hd : decode cc pc = .ok (.invokestatic idx, 3)) (k : ∀ v m, P v m → J G own cc nL 0 0 (pc + 3) lv (.int v :: rest) (jS np) m) : J G own cc nL 0 0 pc lv st (jS np) mem := j_callS X hR hM hst hc hlk hs hini hy hn hdd hW ⟨Nat.le_refl _, Nat.le_refl _⟩ hd (fun r sh2 m hp => by obtain ⟨rfl, v, rfl, hp⟩ := hp; exact ⟨Or.inl rfl, k v m hp⟩)
theorem s_callNi {ty : FieldType} {P : Int32 → jMem → Prop} (X : jOk G own cc nL) (hR : jRm G dd 0 0) (hM : jPi y ccy nLy ty d av np mem P) (hst : st = av.reverse ++ rest) (hc : Cond.code y ccy nLy (some ty) ∈ jW) (hlk : (own, idx, y) ∈ jnest) (hs : Cond.static y ∈ jW) (hini : Cond.initialized y.cls ∈ jW) (hy : y.cls ≠ "java/lang/invoke/MethodHandle" ∧ y.cls ≠ "java/lang/invoke/VarHandle" ∧ (parseMethodDescriptor y.desc).map (fun d => d.parameters.length) = some av.length) (hn : nLy ≤ 45) (hdd : d + 1 ≤ dd) (hW : (rest.map fun v => v.category).sum ≤ 8) (hd : decode cc pc = .ok (.invokestatic idx, 3)) (k : ∀ v m, P v m → J G own cc nL 0 0 (pc + 3) lv (.int v :: rest) (jS np) m) : J G own cc nL 0 0 pc lv st (jS np) mem := j_callN X hR hM hst hc hlk hs hini hy hn hdd hW ⟨Nat.le_refl _, Nat.le_refl _⟩ hd (fun r sh2 m hp => by obtain ⟨rfl, v, rfl, hp⟩ := hp; exact ⟨Or.inl rfl, k v m hp⟩)
theorem s_callVi {ty : FieldType} {P : Int32 → jMem → Prop} {o : Nat} (X : jOk G own cc nL) (hR : jRm G dd 0 0) (hM : jPi y ccy nLy ty d (.ref o :: av) np mem P) (hst : st = av.reverse ++ .ref o :: rest) (ci : Nat) (hci : ci < 12) (ho : o < (jS np).1) (hkd : (jS np).2.1 o = ci) (hcy : jC ci = y.cls) (hc : Cond.code y ccy nLy (some ty) ∈ jW) (hlk : Cond.methodLink own idx y ∈ jW) (hs : Cond.instanceMethod y ∈ jW) (hse : Cond.selects y.cls y y ∈ jW) (hini : Cond.initialized y.cls ∈ jW) (hy : y.cls ≠ "java/lang/invoke/MethodHandle" ∧ y.cls ≠ "java/lang/invoke/VarHandle" ∧ (parseMethodDescriptor y.desc).map (fun d => d.parameters.length) = some av.length) (hn : nLy ≤ 45) (hdd : d + 1 ≤ dd) (hW : (rest.map fun v => v.category).sum ≤ 8) (hd : decode cc pc = .ok (.invokevirtual idx, 3)) (k : ∀ v m, P v m → J G own cc nL 0 0 (pc + 3) lv (.int v :: rest) (jS np) m) : J G own cc nL 0 0 pc lv st (jS np) mem := j_callV X hR hM hst ci hci ho hkd hcy hc hlk hs hse hini hy hn hdd hW ⟨Nat.le_refl _, Nat.le_refl _⟩ hd (fun r sh2 m hp => by obtain ⟨rfl, v, rfl, hp⟩ := hp; exact ⟨Or.inl rfl, k v m hp⟩)
theorem s_callSv {P : jMem → Prop} (X : jOk G own cc nL) (hR : jRm G dd 0 0) (hM : jPv y ccy nLy d av np mem P) (hst : st = av.reverse ++ rest) (hc : Cond.code y ccy nLy (none) ∈ jW) (hlk : Cond.methodLink own idx y ∈ jW) (hs : Cond.static y ∈ jW) (hini : Cond.initialized y.cls ∈ jW) (hy : y.cls ≠ "java/lang/invoke/MethodHandle" ∧ y.cls ≠ "java/lang/invoke/VarHandle" ∧ (parseMethodDescriptor y.desc).map (fun d => d.parameters.length) = some av.length) (hn : nLy ≤ 45) (hdd : d + 1 ≤ dd) (hW : (rest.map fun v => v.category).sum ≤ 8) (hd : decode cc pc = .ok (.invokestatic idx, 3)) (k : ∀ m, P m → J G own cc nL 0 0 (pc + 3) lv (rest) (jS np) m) : J G own cc nL 0 0 pc lv st (jS np) mem := j_callS X hR hM hst hc hlk hs hini hy hn hdd hW ⟨Nat.le_refl _, Nat.le_refl _⟩ hd (fun r sh2 m hp => by obtain ⟨rfl, rfl, hp⟩ := hp; exact ⟨Or.inl rfl, k m hp⟩)
theorem s_callNv {P : jMem → Prop} (X : jOk G own cc nL) (hR : jRm G dd 0 0) (hM : jPv y ccy nLy d av np mem P) (hst : st = av.reverse ++ rest) (hc : Cond.code y ccy nLy (none) ∈ jW) (hlk : (own, idx, y) ∈ jnest) (hs : Cond.static y ∈ jW) (hini : Cond.initialized y.cls ∈ jW) (hy : y.cls ≠ "java/lang/invoke/MethodHandle" ∧ y.cls ≠ "java/lang/invoke/VarHandle" ∧ (parseMethodDescriptor y.desc).map (fun d => d.parameters.length) = some av.length) (hn : nLy ≤ 45) (hdd : d + 1 ≤ dd) (hW : (rest.map fun v => v.category).sum ≤ 8) (hd : decode cc pc = .ok (.invokestatic idx, 3)) (k : ∀ m, P m → J G own cc nL 0 0 (pc + 3) lv (rest) (jS np) m) : J G own cc nL 0 0 pc lv st (jS np) mem := j_callN X hR hM hst hc hlk hs hini hy hn hdd hW ⟨Nat.le_refl _, Nat.le_refl _⟩ hd (fun r sh2 m hp => by obtain ⟨rfl, rfl, hp⟩ := hp; exact ⟨Or.inl rfl, k m hp⟩)
theorem s_callVv {P : jMem → Prop} {o : Nat} (X : jOk G own cc nL) (hR : jRm G dd 0 0) (hM : jPv y ccy nLy d (.ref o :: av) np mem P) (hst : st = av.reverse ++ .ref o :: rest) (ci : Nat) (hci : ci < 12) (ho : o < (jS np).1) (hkd : (jS np).2.1 o = ci) (hcy : jC ci = y.cls) (hc : Cond.code y ccy nLy (none) ∈ jW) (hlk : Cond.methodLink own idx y ∈ jW) (hs : Cond.instanceMethod y ∈ jW) (hse : Cond.selects y.cls y y ∈ jW) (hini : Cond.initialized y.cls ∈ jW) (hy : y.cls ≠ "java/lang/invoke/MethodHandle" ∧ y.cls ≠ "java/lang/invoke/VarHandle" ∧ (parseMethodDescriptor y.desc).map (fun d => d.parameters.length) = some av.length) (hn : nLy ≤ 45) (hdd : d + 1 ≤ dd) (hW : (rest.map fun v => v.category).sum ≤ 8) (hd : decode cc pc = .ok (.invokevirtual idx, 3)) (k : ∀ m, P m → J G own cc nL 0 0 (pc + 3) lv (rest) (jS np) m) : J G own cc nL 0 0 pc lv st (jS np) mem := j_callV X hR hM hst ci hci ho hkd hcy hc hlk hs hse hini hy hn hdd hW ⟨Nat.le_refl _, Nat.le_refl _⟩ hd (fun r sh2 m hp => by obtain ⟨rfl, rfl, hp⟩ := hp; exact ⟨Or.inl rfl, k m hp⟩)
theorem s_callSa {C : String} {P : Value → jMem → Prop} (X : jOk G own cc nL) (hR : jRm G dd 0 0) (hM : jPa y ccy nLy C d av np mem P) (hst : st = av.reverse ++ rest) (hc : Cond.code y ccy nLy (some (.object C)) ∈ jW) (hlk : Cond.methodLink own idx y ∈ jW) (hs : Cond.static y ∈ jW) (hini : Cond.initialized y.cls ∈ jW) (hy : y.cls ≠ "java/lang/invoke/MethodHandle" ∧ y.cls ≠ "java/lang/invoke/VarHandle" ∧ (parseMethodDescriptor y.desc).map (fun d => d.parameters.length) = some av.length) (hn : nLy ≤ 45) (hdd : d + 1 ≤ dd) (hW : (rest.map fun v => v.category).sum ≤ 8) (hd : decode cc pc = .ok (.invokestatic idx, 3)) (k : ∀ v m, P v m → J G own cc nL 0 0 (pc + 3) lv (v :: rest) (jS np) m) : J G own cc nL 0 0 pc lv st (jS np) mem := j_callS X hR hM hst hc hlk hs hini hy hn hdd hW ⟨Nat.le_refl _, Nat.le_refl _⟩ hd (fun r sh2 m hp => by obtain ⟨rfl, v, rfl, hp⟩ := hp; exact ⟨Or.inl rfl, k v m hp⟩)
theorem s_callNa {C : String} {P : Value → jMem → Prop} (X : jOk G own cc nL) (hR : jRm G dd 0 0) (hM : jPa y ccy nLy C d av np mem P) (hst : st = av.reverse ++ rest) (hc : Cond.code y ccy nLy (some (.object C)) ∈ jW) (hlk : (own, idx, y) ∈ jnest) (hs : Cond.static y ∈ jW) (hini : Cond.initialized y.cls ∈ jW) (hy : y.cls ≠ "java/lang/invoke/MethodHandle" ∧ y.cls ≠ "java/lang/invoke/VarHandle" ∧ (parseMethodDescriptor y.desc).map (fun d => d.parameters.length) = some av.length) (hn : nLy ≤ 45) (hdd : d + 1 ≤ dd) (hW : (rest.map fun v => v.category).sum ≤ 8) (hd : decode cc pc = .ok (.invokestatic idx, 3)) (k : ∀ v m, P v m → J G own cc nL 0 0 (pc + 3) lv (v :: rest) (jS np) m) : J G own cc nL 0 0 pc lv st (jS np) mem := j_callN X hR hM hst hc hlk hs hini hy hn hdd hW ⟨Nat.le_refl _, Nat.le_refl _⟩ hd (fun r sh2 m hp => by obtain ⟨rfl, v, rfl, hp⟩ := hp; exact ⟨Or.inl rfl, k v m hp⟩)
theorem s_callVa {C : String} {P : Value → jMem → Prop} {o : Nat} (X : jOk G own cc nL) (hR : jRm G dd 0 0) (hM : jPa y ccy nLy C d (.ref o :: av) np mem P) (hst : st = av.reverse ++ .ref o :: rest) (ci : Nat) (hci : ci < 12) (ho : o < (jS np).1) (hkd : (jS np).2.1 o = ci) (hcy : jC ci = y.cls) (hc : Cond.code y ccy nLy (some (.object C)) ∈ jW) (hlk : Cond.methodLink own idx y ∈ jW) (hs : Cond.instanceMethod y ∈ jW) (hse : Cond.selects y.cls y y ∈ jW) (hini : Cond.initialized y.cls ∈ jW) (hy : y.cls ≠ "java/lang/invoke/MethodHandle" ∧ y.cls ≠ "java/lang/invoke/VarHandle" ∧ (parseMethodDescriptor y.desc).map (fun d => d.parameters.length) = some av.length) (hn : nLy ≤ 45) (hdd : d + 1 ≤ dd) (hW : (rest.map fun v => v.category).sum ≤ 8) (hd : decode cc pc = .ok (.invokevirtual idx, 3)) (k : ∀ v m, P v m → J G own cc nL 0 0 (pc + 3) lv (v :: rest) (jS np) m) : J G own cc nL 0 0 pc lv st (jS np) mem := j_callV X hR hM hst ci hci ho hkd hcy hc hlk hs hse hini hy hn hdd hW ⟨Nat.le_refl _, Nat.le_refl _⟩ hd (fun r sh2 m hp => by obtain ⟨rfl, v, rfl, hp⟩ := hp; exact ⟨Or.inl rfl, k v m hp⟩)
theorem s_callSl {P : Int64 → jMem → Prop} (X : jOk G own cc nL) (hR : jRm G dd 0 0) (hM : jPl y ccy nLy d av np mem P) (hst : st = av.reverse ++ rest) (hc : Cond.code y ccy nLy (some .long) ∈ jW) (hlk : Cond.methodLink own idx y ∈ jW) (hs : Cond.static y ∈ jW) (hini : Cond.initialized y.cls ∈ jW) (hy : y.cls ≠ "java/lang/invoke/MethodHandle" ∧ y.cls ≠ "java/lang/invoke/VarHandle" ∧ (parseMethodDescriptor y.desc).map (fun d => d.parameters.length) = some av.length) (hn : nLy ≤ 45) (hdd : d + 1 ≤ dd) (hW : (rest.map fun v => v.category).sum ≤ 8) (hd : decode cc pc = .ok (.invokestatic idx, 3)) (k : ∀ v m, P v m → J G own cc nL 0 0 (pc + 3) lv (.long v :: rest) (jS np) m) : J G own cc nL 0 0 pc lv st (jS np) mem := j_callS X hR hM hst hc hlk hs hini hy hn hdd hW ⟨Nat.le_refl _, Nat.le_refl _⟩ hd (fun r sh2 m hp => by obtain ⟨rfl, v, rfl, hp⟩ := hp; exact ⟨Or.inl rfl, k v m hp⟩)
theorem s_callNl {P : Int64 → jMem → Prop} (X : jOk G own cc nL) (hR : jRm G dd 0 0) (hM : jPl y ccy nLy d av np mem P) (hst : st = av.reverse ++ rest) (hc : Cond.code y ccy nLy (some .long) ∈ jW) (hlk : (own, idx, y) ∈ jnest) (hs : Cond.static y ∈ jW) (hini : Cond.initialized y.cls ∈ jW) (hy : y.cls ≠ "java/lang/invoke/MethodHandle" ∧ y.cls ≠ "java/lang/invoke/VarHandle" ∧ (parseMethodDescriptor y.desc).map (fun d => d.parameters.length) = some av.length) (hn : nLy ≤ 45) (hdd : d + 1 ≤ dd) (hW : (rest.map fun v => v.category).sum ≤ 8) (hd : decode cc pc = .ok (.invokestatic idx, 3)) (k : ∀ v m, P v m → J G own cc nL 0 0 (pc + 3) lv (.long v :: rest) (jS np) m) : J G own cc nL 0 0 pc lv st (jS np) mem := j_callN X hR hM hst hc hlk hs hini hy hn hdd hW ⟨Nat.le_refl _, Nat.le_refl _⟩ hd (fun r sh2 m hp => by obtain ⟨rfl, v, rfl, hp⟩ := hp; exact ⟨Or.inl rfl, k v m hp⟩)
theorem s_callVl {P : Int64 → jMem → Prop} {o : Nat} (X : jOk G own cc nL) (hR : jRm G dd 0 0) (hM : jPl y ccy nLy d (.ref o :: av) np mem P) (hst : st = av.reverse ++ .ref o :: rest) (ci : Nat) (hci : ci < 12) (ho : o < (jS np).1) (hkd : (jS np).2.1 o = ci) (hcy : jC ci = y.cls) (hc : Cond.code y ccy nLy (some .long) ∈ jW) (hlk : Cond.methodLink own idx y ∈ jW) (hs : Cond.instanceMethod y ∈ jW) (hse : Cond.selects y.cls y y ∈ jW) (hini : Cond.initialized y.cls ∈ jW) (hy : y.cls ≠ "java/lang/invoke/MethodHandle" ∧ y.cls ≠ "java/lang/invoke/VarHandle" ∧ (parseMethodDescriptor y.desc).map (fun d => d.parameters.length) = some av.length) (hn : nLy ≤ 45) (hdd : d + 1 ≤ dd) (hW : (rest.map fun v => v.category).sum ≤ 8) (hd : decode cc pc = .ok (.invokevirtual idx, 3)) (k : ∀ v m, P v m → J G own cc nL 0 0 (pc + 3) lv (.long v :: rest) (jS np) m) : J G own cc nL 0 0 pc lv st (jS np) mem := j_callV X hR hM hst ci hci ho hkd hcy hc hlk hs hse hini hy hn hdd hW ⟨Nat.le_refl _, Nat.le_refl _⟩ hd (fun r sh2 m hp => by obtain ⟨rfl, v, rfl, hp⟩ := hp; exact ⟨Or.inl rfl, k v m hp⟩)
end STEADY
