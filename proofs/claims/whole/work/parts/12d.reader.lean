/-! ===== the class's reader, the reference's expectations ===== -/
abbrev q_ft (I : Nat → Nat → Int32) (k p : Int32) : Nat → Nat → Int32 := q_u2 (q_u2 I 14 2 k) 14 3 p
abbrev q_thr (α : Type) (b : Nat) (C : q_CT) (M : q_MT) (O : Nat → Int64) (D : q_Mem) (n m : Nat) (k p : Int32) : Option ((α ⊕ q_Exn) × q_St) := some (.inr (RX12, n), (q_H b C M O (q_up D n (q_Fo k p)), n + 1, m + 8))
section QTF
variable {κ : Nat → Nat} {b : Nat} {B : Nat → Int32} {l : List q_Tok} {z t : Nat} {I : Nat → Nat → Int32} {R : Nat → Nat → Option Nat} {X : Nat → Nat → Int32} {Y : Nat → Nat → Int64} {Z : Nat → Nat → Option Nat} {C : q_CT} {M : q_MT} {P : Nat → Int32} {Q : Nat → Nat → Int32} {S : Nat → Nat → Int64} {O : Nat → Int64} {D : q_Mem} {s : Nat × Nat}
theorem q_hasFault : F_X9_hasFault κ (some (b + 14)) (q_H b (I, R, X, Y, Z) M O D, s) = some (.inl (q_b (!decide (I 14 2 = 0))), (q_H b (I, R, X, Y, Z) M O D, s)) := by
  simp (disch := first | rfl | omega | decide | exact Nat.le_of_ble_eq_true rfl) only [↓q_br, q_rt, q_rz, q_gd, q_ca, ↓reduceIte, F_X9_hasFault_12, F_X9_hasFault, ↓q_gI_14_2]
  by_cases h : I 14 2 = 0 <;> simp [h, q_b]
theorem q_isDone (ha : I 14 1 = nI t) (hk : I 2 6 = nI l.length) (ht : t < 2 ^ 31) (hl : l.length < 2 ^ 31) : F_X9_isDone κ (some (b + 14)) (q_H b (I, R, X, Y, Z) M O D, s) = some (.inl (q_b (!decide (I 14 2 = 0) || decide (l.length ≤ t))), (q_H b (I, R, X, Y, Z) M O D, s)) := by
  simp (disch := first | rfl | omega | decide | exact Nat.le_of_ble_eq_true rfl) only [↓q_br, q_rt, q_rz, q_gd, q_ca, ↓reduceIte, F_X9_isDone_26, F_X9_isDone_21, F_X9_isDone, ↓q_gA_14_0, ↓q_gI_14_1, ↓q_gI_2_6, ↓q_is_14, q_hasFault, q_b_0, ha, ↓q_gI_2_6, hk, nI_ltI]
  by_cases h : I 14 2 = 0
  · by_cases h2 : t < l.length
    · have h3 : ¬ l.length ≤ t := by omega
      simp [h, h2, h3, q_b]
    · have h3 : l.length ≤ t := by omega
      simp [h, h2, h3, q_b]
  · simp [h, q_b]
theorem q_isAtName (h : q_TC B l z I X Y) (ha : I 14 1 = nI t) (ht : t < l.length + 3) : F_X9_isAtName κ (some (b + 14)) (q_H b (I, R, X, Y, Z) M O D, s) = some (.inl (q_b (decide ((q_tok l t).1 = 1))), (q_H b (I, R, X, Y, Z) M O D, s)) := by
  have hz := h.2.2.1
  have hl := h.2.1
  have h3 : (X 4 t = (1 : Int32)) ↔ (q_tok l t).1 = 1 := q_TC_is (c := 1) h ht (by decide)
  simp (disch := first | rfl | omega | decide | exact Nat.le_of_ble_eq_true rfl) only [↓q_br, q_rt, q_rz, q_gd, q_ca, ↓reduceIte, F_X9_isAtName_21, F_X9_isAtName, ↓q_gA_14_0, ↓q_gA_2_1, ↓q_gI_14_1, ↓q_lI_4, ↓q_gA_2_1, ↓q_lI_4, ha, h3]
  by_cases h4 : (q_tok l t).1 = 1 <;> simp [h4, q_b]
theorem q_isAt {c : Int32} (h : q_TC B l z I X Y) (ha : I 14 1 = nI t) (ht : t < l.length + 3) : F_X9_isAt κ (some (b + 14)) c (q_H b (I, R, X, Y, Z) M O D, s) = some (.inl (q_b (q_sgn l t c)), (q_H b (I, R, X, Y, Z) M O D, s)) := by
  have hz := h.2.2.1
  have hl := h.2.1
  have h3 : (X 4 t = (3 : Int32)) ↔ (q_tok l t).1 = 3 := q_TC_is (c := 3) h ht (by decide)
  simp (disch := first | rfl | omega | decide | exact Nat.le_of_ble_eq_true rfl) only [↓q_br, q_rt, q_rz, q_gd, q_ca, ↓reduceIte, F_X9_isAt_39, F_X9_isAt_38, F_X9_isAt, ↓q_gA_14_0, ↓q_gA_2_1, ↓q_gA_2_4, ↓q_gI_14_1, ↓q_lI_4, ↓q_lL_7, ↓q_gA_2_1, ↓q_gA_2_4, ↓q_lI_4, ↓q_lL_7, ha, h3, lg_cmp_eq, q_sgn]
  by_cases h4 : (q_tok l t).1 = 3
  · have h5 := q_TC_wo h (q_tok_lt (by omega)) (Or.inr h4)
    simp only [h4, h5, not_true_eq_false, if_false, true_and]
    by_cases h6 : (q_tok l t).2.2.2 = c.toInt64 <;> simp [h6, q_b]
  · simp [h4, q_b]
theorem q_fail {k : Int32} (ha : I 14 1 = nI t) : F_X9_fail κ (some (b + 14)) k (q_H b (I, R, X, Y, Z) M O D, s) = some (.inl 0, (q_H b (q_ft I k (nI t), R, X, Y, Z) M O D, s)) := by
  simp (disch := first | rfl | omega | decide | exact Nat.le_of_ble_eq_true rfl) only [↓q_br, q_rt, q_rz, q_gd, q_ca, ↓reduceIte, F_X9_fail, ↓q_gI_14_1, ↓q_pI_14_2, ↓q_pI_14_3, q_u2_s, q_u1_n, ha, true_or]
theorem q_failAt {k p : Int32} : F_X9_failAt κ (some (b + 14)) k p (q_H b (I, R, X, Y, Z) M O D, s) = some (.inl (), (q_H b (q_ft I k p, R, X, Y, Z) M O D, s)) := by
  simp (disch := first | rfl | omega | decide | exact Nat.le_of_ble_eq_true rfl) only [↓q_br, q_rt, q_rz, q_gd, q_ca, ↓reduceIte, F_X9_failAt, ↓q_pI_14_2, ↓q_pI_14_3]
theorem q_take {c : Int32} (h : q_TC B l z I X Y) (ha : I 14 1 = nI t) (ht : t < l.length + 3) : F_X9_take κ (some (b + 14)) c (q_H b (I, R, X, Y, Z) M O D, s) = some (.inl (q_b (q_sgn l t c)), (q_H b (if q_sgn l t c = true then q_u2 I 14 1 (nI (t + 1)) else q_ft I 1 (nI t), R, X, Y, Z) M O D, s)) := by
  simp (disch := first | rfl | omega | decide | exact Nat.le_of_ble_eq_true rfl) only [↓q_br, q_rt, q_rz, q_gd, q_ca, ↓reduceIte, F_X9_take, ↓q_gI_14_1, ↓q_is_14, ↓q_pI_14_1, q_isAt h ha ht, q_b_0, ha, nI_1, q_fail ha]
  by_cases h4 : q_sgn l t c = true
  · simp [h4, q_b]
  · simp [h4, q_b]
/-- the number that stands at t -/
def q_nv (l : List q_Tok) (t : Nat) : Int64 := (q_tok l t).2.2.2
theorem q_takeNumber {lo hi : Int64} (h : q_TC B l z I X Y) (ha : I 14 1 = nI t) (ht : t < l.length + 3) : F_X9_takeNumber κ (some (b + 14)) lo hi (q_H b (I, R, X, Y, Z) M O D, s) =
    some (.inl (if (q_tok l t).1 = 2 ∧ lo ≤ q_nv l t ∧ q_nv l t ≤ hi then q_nv l t else -1), (q_H b (if (q_tok l t).1 = 2 then (if lo ≤ q_nv l t ∧ q_nv l t ≤ hi then q_u2 I 14 1 (nI (t + 1)) else q_ft I 3 (nI t)) else q_ft I 1 (nI t), R, X, Y, Z) M O D, s)) := by
  have hz := h.2.2.1
  have hl := h.2.1
  have h3 : (X 4 t = (2 : Int32)) ↔ (q_tok l t).1 = 2 := q_TC_is (c := 2) h ht (by decide)
  by_cases h4 : (q_tok l t).1 = 2
  · have h5 := q_TC_wo h (q_tok_lt (by omega)) (Or.inl h4)
    simp (disch := first | rfl | omega | decide | exact Nat.le_of_ble_eq_true rfl) only [↓q_br, q_rt, q_rz, q_gd, q_ca, ↓reduceIte, F_X9_takeNumber_54, F_X9_takeNumber, ↓q_gA_14_0, ↓q_gA_2_1, ↓q_gA_2_4, ↓q_gI_14_1, ↓q_is_14, ↓q_lI_4, ↓q_lL_7, ↓q_pI_14_1, ↓q_gA_2_1, ↓q_gA_2_4, ↓q_lI_4, ↓q_lL_7, ha, h3, h4, h5, lg_cmp_lt, lg_cmp_le, nI_1, q_fail ha, q_nv, true_and]
    by_cases h6 : (q_tok l t).2.2.2 < lo
    · have h7 : ¬ lo ≤ (q_tok l t).2.2.2 := Int64.not_le.mpr h6
      simp [h6, h7]
    · have h7 : lo ≤ (q_tok l t).2.2.2 := Int64.not_lt.mp h6
      by_cases h8 : (q_tok l t).2.2.2 ≤ hi <;> simp [h6, h7, h8]
  · simp (disch := first | rfl | omega | decide | exact Nat.le_of_ble_eq_true rfl) only [↓q_br, q_rt, q_rz, q_gd, q_ca, ↓reduceIte, F_X9_takeNumber_54, F_X9_takeNumber, ↓q_gA_14_0, ↓q_gA_2_1, ↓q_gA_2_4, ↓q_gI_14_1, ↓q_is_14, ↓q_lI_4, ↓q_lL_7, ↓q_pI_14_1, ↓q_gA_2_1, ↓q_gA_2_4, ↓q_lI_4, ↓q_lL_7, ha, h3, h4, q_fail ha, false_and]
/-! the reference -/
theorem q_expectName_t (h : q_TM B l z P Q S) (ha : P 15 = nI t) (hy : (q_tok l t).1 = 1) : F_X13_expectName κ (some (b + 26)) (q_H b C (P, Q, S) O D, s) = some (.inl (nI t), (q_H b C (q_u1 P 15 (nI (t + 1)), Q, S) O D, s)) := by
  have hz := h.2.2.1
  have hl := h.2.1
  have hlt := q_tok_lt (l := l) (t := t) (by omega)
  have h3 : (Q 30 t = (1 : Int32)) ↔ (q_tok l t).1 = 1 := q_TM_is (c := 1) h (by omega) (by decide)
  simp (disch := first | rfl | omega | decide | exact Nat.le_of_ble_eq_true rfl) only [↓q_br, q_rt, q_rz, q_gd, q_ca, ↓reduceIte, F_X13_expectName, ↓q_gA_26_9, ↓q_gI_26_15, ↓q_lI_30, ↓q_pI_26_15, ha, h3, hy, nI_1, q_u1_s, nI_pred]
theorem q_expectName_f {n m : Nat} (h : q_TM B l z P Q S) (ha : P 15 = nI t) (ht : t < l.length + 2) (hy : ¬ (q_tok l t).1 = 1) (hn : b + 66 < n) : F_X13_expectName κ (some (b + 26)) (q_H b C (P, Q, S) O D, n, m) = q_thr Int32 b C (P, Q, S) O D n m 1 (nI t) := by
  have hz := h.2.2.1
  have hl := h.2.1
  have h3 : (Q 30 t = (1 : Int32)) ↔ (q_tok l t).1 = 1 := q_TM_is (c := 1) h (by omega) (by decide)
  simp (disch := first | rfl | omega | decide | exact Nat.le_of_ble_eq_true rfl) only [↓q_br, q_rt, q_rz, q_gd, q_ca, ↓reduceIte, F_X13_expectName, ↓q_gA_26_9, ↓q_gI_26_15, ↓q_lI_30, ↓q_pI_26_15, ha, h3, hy, q_mk_H, reduceCtorEq, not_false_eq_true, q_fault, qd_Su, q_tr]
theorem q_expect_t {c : Int32} (h : q_TM B l z P Q S) (ha : P 15 = nI t) (hy : q_sgn l t c = true) : F_X13_expect κ (some (b + 26)) c (q_H b C (P, Q, S) O D, s) = some (.inl (), (q_H b C (q_u1 P 15 (nI (t + 1)), Q, S) O D, s)) := by
  have hlt := q_tok_lt (l := l) (t := t) (by have := (of_decide_eq_true hy).1; omega)
  simp (disch := first | rfl | omega | decide | exact Nat.le_of_ble_eq_true rfl) only [↓q_br, q_rt, q_rz, q_gd, q_ca, ↓reduceIte, F_X13_expect, ↓q_gI_26_15, ↓q_is_26, ↓q_pI_26_15, ha, q_msign h (Nat.lt_add_right 2 hlt), q_b_0, hy, nI_1, not_false_eq_true, Bool.true_eq_false]
theorem q_expect_f {c : Int32} {n m : Nat} (h : q_TM B l z P Q S) (ha : P 15 = nI t) (ht : t < l.length + 2) (hy : q_sgn l t c = false) (hn : b + 66 < n) : F_X13_expect κ (some (b + 26)) c (q_H b C (P, Q, S) O D, n, m) = q_thr Unit b C (P, Q, S) O D n m 1 (nI t) := by
  simp (disch := first | rfl | omega | decide | exact Nat.le_of_ble_eq_true rfl) only [↓q_br, q_rt, q_rz, q_gd, q_ca, ↓reduceIte, F_X13_expect, ↓q_gI_26_15, ↓q_is_26, ↓q_pI_26_15, ha, q_msign h ht, q_b_0, hy, not_true_eq_false, q_mk_H, reduceCtorEq, not_false_eq_true, q_fault, qd_Su, q_tr]
theorem q_expectNumber_t {lo hi : Int64} (h : q_TM B l z P Q S) (ha : P 15 = nI t) (hy : (q_tok l t).1 = 2) (hlo : lo ≤ q_nv l t) (hhi : q_nv l t ≤ hi) : F_X13_expectNumber κ (some (b + 26)) lo hi (q_H b C (P, Q, S) O D, s) = some (.inl (q_nv l t).toInt32, (q_H b C (q_u1 P 15 (nI (t + 1)), Q, S) O D, s)) := by
  have hz := h.2.2.1
  have hl := h.2.1
  have hlt := q_tok_lt (l := l) (t := t) (by omega)
  have h3 : (Q 30 t = (2 : Int32)) ↔ (q_tok l t).1 = 2 := q_TM_is (c := 2) h (by omega) (by decide)
  have h5 : S 33 t = q_nv l t := q_TM_wo h hlt (Or.inl hy)
  have h6 : ¬ q_nv l t < lo := Int64.not_lt.mpr hlo
  simp (disch := first | rfl | omega | decide | exact Nat.le_of_ble_eq_true rfl) only [↓q_br, q_rt, q_rz, q_gd, q_ca, ↓reduceIte, F_X13_expectNumber, ↓q_gA_26_12, ↓q_gA_26_9, ↓q_gI_26_15, ↓q_lI_30, ↓q_lL_33, ↓q_pI_26_15, ha, h3, hy, h5, lg_cmp_lt, lg_cmp_le, h6, hhi, nI_1, q_u1_s, nI_pred]
theorem q_expectNumber_n {lo hi : Int64} {n m : Nat} (h : q_TM B l z P Q S) (ha : P 15 = nI t) (ht : t < l.length + 2) (hy : ¬ (q_tok l t).1 = 2) (hn : b + 66 < n) : F_X13_expectNumber κ (some (b + 26)) lo hi (q_H b C (P, Q, S) O D, n, m) = q_thr Int32 b C (P, Q, S) O D n m 1 (nI t) := by
  have hz := h.2.2.1
  have hl := h.2.1
  have h3 : (Q 30 t = (2 : Int32)) ↔ (q_tok l t).1 = 2 := q_TM_is (c := 2) h (by omega) (by decide)
  simp (disch := first | rfl | omega | decide | exact Nat.le_of_ble_eq_true rfl) only [↓q_br, q_rt, q_rz, q_gd, q_ca, ↓reduceIte, F_X13_expectNumber, ↓q_gA_26_12, ↓q_gA_26_9, ↓q_gI_26_15, ↓q_lI_30, ↓q_lL_33, ↓q_pI_26_15, ha, h3, hy, q_mk_H, reduceCtorEq, not_false_eq_true, q_fault, qd_Su, q_tr]
theorem q_expectNumber_f {lo hi : Int64} {n m : Nat} (h : q_TM B l z P Q S) (ha : P 15 = nI t) (hy : (q_tok l t).1 = 2) (hv : ¬ (lo ≤ q_nv l t ∧ q_nv l t ≤ hi)) (hn : b + 66 < n) : F_X13_expectNumber κ (some (b + 26)) lo hi (q_H b C (P, Q, S) O D, n, m) = q_thr Int32 b C (P, Q, S) O D n m 3 (nI t) := by
  have hz := h.2.2.1
  have hl := h.2.1
  have hlt := q_tok_lt (l := l) (t := t) (by omega)
  have h3 : (Q 30 t = (2 : Int32)) ↔ (q_tok l t).1 = 2 := q_TM_is (c := 2) h (by omega) (by decide)
  have h5 : S 33 t = q_nv l t := q_TM_wo h hlt (Or.inl hy)
  by_cases h6 : q_nv l t < lo
  · simp (disch := first | rfl | omega | decide | exact Nat.le_of_ble_eq_true rfl) only [↓q_br, q_rt, q_rz, q_gd, q_ca, ↓reduceIte, F_X13_expectNumber, F_X13_expectNumber_54, ↓q_gA_26_12, ↓q_gA_26_9, ↓q_gI_26_15, ↓q_lI_30, ↓q_lL_33, ↓q_pI_26_15, ha, h3, hy, h5, lg_cmp_lt, lg_cmp_le, h6, q_mk_H, reduceCtorEq, not_false_eq_true, q_fault, qd_Su, q_tr]
  · have h7 : ¬ q_nv l t ≤ hi := fun h8 => hv ⟨Int64.not_lt.mp h6, h8⟩
    simp (disch := first | rfl | omega | decide | exact Nat.le_of_ble_eq_true rfl) only [↓q_br, q_rt, q_rz, q_gd, q_ca, ↓reduceIte, F_X13_expectNumber, F_X13_expectNumber_54, ↓q_gA_26_12, ↓q_gA_26_9, ↓q_gI_26_15, ↓q_lI_30, ↓q_lL_33, ↓q_pI_26_15, ha, h3, hy, h5, lg_cmp_lt, lg_cmp_le, h6, h7, q_mk_H, reduceCtorEq, not_false_eq_true, q_fault, qd_Su, q_tr]
end QTF
