theorem q_up_up (D : q_Mem) (a : Nat) (e e' : q_Cel) : q_up (q_up D a e) a e' = q_up D a e' := by
  funext x
  unfold q_up
  by_cases h : x = a <;> simp [h]
section QOU
variable {β : Type} {b a ci k : Nat} {fs : List Value} {C : q_CT} {M : q_MT} {O : Nat → Int64} {D : q_Mem} {s : Nat × Nat}
theorem qd_Su {f : Unit → q_X β} (h : b + 66 < a) : q_rd (q_is (some a) ci) f (q_H b C M O (q_up D a (.inr (.inl (ci, fs)))), s) = f () (q_H b C M O (q_up D a (.inr (.inl (ci, fs)))), s) := qd_S (fs := fs) ⟨h, q_up_s _ _ _⟩
theorem qd_Wu {v : Value} {f : q_X β} (h : b + 66 < a) (hk : k < fs.length) : q_wr (q_pF (some a) ci k v) f (q_H b C M O (q_up D a (.inr (.inl (ci, fs)))), s) = f (q_H b C M O (q_up D a (.inr (.inl (ci, fs.set k v)))), s) := by
  rw [qd_W (fs := fs) ⟨h, q_up_s _ _ _⟩ hk, q_up_up]
end QOU
/-- a fault that the reference throws -/
abbrev q_Fo (k p : Int32) : q_Cel := .inr (.inl (15, [.null, .null, .null, .null, .null, .int 0, .int k, .int p]))
section QFA
variable {κ : Nat → Nat} {b n : Nat} {C : q_CT} {M : q_MT} {O : Nat → Int64} {D : q_Mem} {s : Nat × Nat}
theorem q_fault {k p : Int32} (h : b + 66 < n) : F_X12_init κ (some n) k p (q_H b C M O (q_up D n (.inr (.inl (15, [.null, .null, .null, .null, .null, .int 0, .int 0, .int 0])))), s) = some (.inl (), (q_H b C M O (q_up D n (q_Fo k p)), s)) := by
  have e1 : F_Z2_init κ (some n) none none 0 0 (q_H b C M O (q_up D n (.inr (.inl (15, [.null, .null, .null, .null, .null, .int 0, .int 0, .int 0])))), s) = some (.inl (), (q_H b C M O (q_up D n (.inr (.inl (15, [.null, .null, .null, .null, .null, .int 0, .int 0, .int 0])))), s)) := by
    unfold F_Z2_init F_Z2_init_41
    simp only [q_gd, reduceCtorEq, not_false_eq_true, if_true]
    rw [qd_Wu h, qd_Wu h, qd_Wu h]
    simp only [q_br, if_true]
    rw [qd_Wu h, qd_Wu h, qd_Wu h]
    simp only [q_br, not_true_eq_false, if_false]
    rw [qd_Wu h]
    · rfl
    all_goals exact Nat.le_of_ble_eq_true rfl
  unfold F_X12_init F_Z0_init F_Z1_init
  simp only [q_gd, reduceCtorEq, not_false_eq_true, if_true, q_ca, e1, q_rt]
  rw [qd_Wu h, qd_Wu h]
  · rfl
  all_goals exact Nat.le_of_ble_eq_true rfl
end QFA
/-! ===== the two sides' tokens ===== -/
def q_TC (B : Nat → Int32) (l : List q_Tok) (z : Nat) (I : Nat → Nat → Int32) (X : Nat → Nat → Int32) (Y : Nat → Nat → Int64) : Prop := I 2 6 = nI l.length ∧ l.length ≤ z ∧ z ≤ 6000 ∧ q_CK l X Y ∧ q_WF B z l ∧ (∀ i, i < z → X 3 i = B i) ∧ (∀ i, i < z → q_By (B i))
def q_TM (B : Nat → Int32) (l : List q_Tok) (z : Nat) (P : Nat → Int32) (Q : Nat → Nat → Int32) (S : Nat → Nat → Int64) : Prop := P 13 = nI l.length ∧ l.length ≤ z ∧ z ≤ 6000 ∧ q_MK l Q S ∧ q_WF B z l ∧ (∀ i, i < z → Q 28 i = B i) ∧ (∀ i, i < z → q_By (B i))
theorem q_wf_ty {B : Nat → Int32} {l : List q_Tok} {z t : Nat} (h : q_WF B z l) : (q_tok l t).1 ≤ 5 := by
  by_cases ht : t < l.length
  · have := (h t _ (q_tok_s ht)).1
    omega
  · rw [q_tok_e (by omega)]
    decide
theorem q_tok_lt {l : List q_Tok} {t : Nat} (h : (q_tok l t).1 ≠ 5) : t < l.length := by
  apply Classical.byContradiction
  intro h2
  exact h (by rw [q_tok_e (by omega)])
section QTC
variable {B : Nat → Int32} {l : List q_Tok} {z t : Nat} {I : Nat → Nat → Int32} {X : Nat → Nat → Int32} {Y : Nat → Nat → Int64} {P : Nat → Int32} {Q : Nat → Nat → Int32} {S : Nat → Nat → Int64}
theorem q_TC_ty (h : q_TC B l z I X Y) (ht : t < l.length + 3) : X 4 t = nI (q_tok l t).1 := by
  obtain ⟨h1, h2, h3, ⟨h4, h5, h6, h7⟩, h8, h9⟩ := h
  by_cases hl : t < l.length
  · exact (h4 t _ (q_tok_s hl)).1
  · rw [q_tok_e (by omega)]
    have : t = l.length ∨ t = l.length + 1 ∨ t = l.length + 2 := by omega
    rcases this with e | e | e <;> subst e
    · exact h5
    · exact h6
    · exact h7
theorem q_TC_st (h : q_TC B l z I X Y) (ht : t < l.length) : X 5 t = nI (q_tok l t).2.1 := (h.2.2.2.1.1 t _ (q_tok_s ht)).2.1
theorem q_TC_en (h : q_TC B l z I X Y) (ht : t < l.length) : X 6 t = nI (q_tok l t).2.2.1 := (h.2.2.2.1.1 t _ (q_tok_s ht)).2.2.1
theorem q_TC_wo (h : q_TC B l z I X Y) (ht : t < l.length) (hy : (q_tok l t).1 = 2 ∨ (q_tok l t).1 = 3) : Y 7 t = (q_tok l t).2.2.2 := (h.2.2.2.1.1 t _ (q_tok_s ht)).2.2.2 hy
theorem q_TM_ty (h : q_TM B l z P Q S) (ht : t < l.length + 2) : Q 30 t = nI (if (q_tok l t).1 = 5 then 0 else q_mt (q_tok l t).1) := by
  obtain ⟨h1, h2, h3, ⟨h4, h5, h6, h7⟩, h8, h9⟩ := h
  by_cases hl : t < l.length
  · have h10 := (h8 t _ (q_tok_s hl)).1
    rw [if_neg (by omega)]
    exact (h4 t _ (q_tok_s hl)).1
  · rw [q_tok_e (by omega)]
    have : t = l.length ∨ t = l.length + 1 := by omega
    rcases this with e | e <;> subst e
    · exact h5
    · exact h6
theorem q_TM_st (h : q_TM B l z P Q S) (ht : t < l.length) : Q 31 t = nI (q_tok l t).2.1 := (h.2.2.2.1.1 t _ (q_tok_s ht)).2.1
theorem q_TM_ln (h : q_TM B l z P Q S) (ht : t < l.length) : Q 32 t = nI ((q_tok l t).2.2.1 - (q_tok l t).2.1) := (h.2.2.2.1.1 t _ (q_tok_s ht)).2.2.1
theorem q_TM_wo (h : q_TM B l z P Q S) (ht : t < l.length) (hy : (q_tok l t).1 = 2 ∨ (q_tok l t).1 = 3) : S 33 t = (q_tok l t).2.2.2 := (h.2.2.2.1.1 t _ (q_tok_s ht)).2.2.2 hy
/-- what a type is, by its number, on both sides -/
theorem q_TC_is {c : Nat} (h : q_TC B l z I X Y) (ht : t < l.length + 3) (hc : c < 100) : (X 4 t = nI c) ↔ (q_tok l t).1 = c := by
  rw [q_TC_ty h ht, nI_eq (by have := q_wf_ty (t := t) h.2.2.2.2.1; omega) (by omega)]
theorem q_TM_is {c : Nat} (h : q_TM B l z P Q S) (ht : t < l.length + 2) (hc : 0 < c ∧ c < 5) : (Q 30 t = nI c) ↔ (q_tok l t).1 = c := by
  have h5 := q_wf_ty (t := t) h.2.2.2.2.1
  rw [q_TM_ty h ht, nI_eq (by unfold q_mt; split <;> (try split) <;> omega) (by omega)]
  unfold q_mt
  split
  · omega
  · split <;> omega
theorem q_TM_end (h : q_TM B l z P Q S) (ht : t < l.length + 2) : (Q 30 t = 0) ↔ (q_tok l t).1 = 5 := by
  have h5 := q_wf_ty (t := t) h.2.2.2.2.1
  have h6 : (Q 30 t = nI 0) ↔ (q_tok l t).1 = 5 := by
    rw [q_TM_ty h ht, nI_eq (by unfold q_mt; split <;> (try split) <;> omega) (by omega)]
    unfold q_mt
    split
    · simp [*]
    · split <;> omega
  rw [nI_0] at h6
  exact h6
end QTC
def q_sgn (l : List q_Tok) (t : Nat) (c : Int32) : Bool := decide ((q_tok l t).1 = 3 ∧ (q_tok l t).2.2.2 = c.toInt64)
def q_wd (B : Nat → Int32) (l : List q_Tok) (t i : Nat) : Bool := decide ((q_tok l t).1 = 1 ∧ q_tB B (q_tok l t) = q_tt i)
section QTD
variable {κ : Nat → Nat} {b : Nat} {B : Nat → Int32} {l : List q_Tok} {z t : Nat} {I : Nat → Nat → Int32} {R : Nat → Nat → Option Nat} {X : Nat → Nat → Int32} {Y : Nat → Nat → Int64} {Z : Nat → Nat → Option Nat} {C : q_CT} {M : q_MT} {P : Nat → Int32} {Q : Nat → Nat → Int32} {S : Nat → Nat → Int64} {O : Nat → Int64} {D : q_Mem} {s : Nat × Nat}
theorem q_isSign {c : Int32} (h : q_TC B l z I X Y) (ht : t < l.length + 3) : F_X10_isSign κ (some (b + 2)) (nI t) c (q_H b (I, R, X, Y, Z) M O D, s) = some (.inl (q_b (q_sgn l t c)), (q_H b (I, R, X, Y, Z) M O D, s)) := by
  have hz := h.2.2.1
  have hl := h.2.1
  have h3 : (X 4 t = (3 : Int32)) ↔ (q_tok l t).1 = 3 := q_TC_is (c := 3) h ht (by decide)
  simp (disch := first | rfl | omega | decide | exact Nat.le_of_ble_eq_true rfl) only [↓q_br, q_rt, q_rz, q_gd, q_ca, ↓reduceIte, F_X10_isSign_27, F_X10_isSign_26, F_X10_isSign, ↓q_gA_2_1, ↓q_gA_2_4, ↓q_lI_4, ↓q_lL_7, h3, lg_cmp_eq, q_sgn]
  by_cases h4 : (q_tok l t).1 = 3
  · have h5 := q_TC_wo h (q_tok_lt (by omega)) (Or.inr h4)
    simp only [h4, h5, not_true_eq_false, if_false, true_and]
    by_cases h6 : (q_tok l t).2.2.2 = c.toInt64 <;> simp [h6, q_b]
  · simp [h4, q_b]
theorem q_msign {c : Int32} (h : q_TM B l z P Q S) (ht : t < l.length + 2) : F_X13_isSign κ (some (b + 26)) (nI t) c (q_H b C (P, Q, S) O D, s) = some (.inl (q_b (q_sgn l t c)), (q_H b C (P, Q, S) O D, s)) := by
  have hz := h.2.2.1
  have hl := h.2.1
  have h3 : (Q 30 t = (3 : Int32)) ↔ (q_tok l t).1 = 3 := q_TM_is (c := 3) h ht (by decide)
  simp (disch := first | rfl | omega | decide | exact Nat.le_of_ble_eq_true rfl) only [↓q_br, q_rt, q_rz, q_gd, q_ca, ↓reduceIte, F_X13_isSign_27, F_X13_isSign_26, F_X13_isSign, ↓q_gA_26_12, ↓q_gA_26_9, ↓q_lI_30, ↓q_lL_33, h3, lg_cmp_eq, q_sgn]
  by_cases h4 : (q_tok l t).1 = 3
  · have h5 := q_TM_wo h (q_tok_lt (by omega)) (Or.inr h4)
    simp only [h4, h5, not_true_eq_false, if_false, true_and]
    by_cases h6 : (q_tok l t).2.2.2 = c.toInt64 <;> simp [h6, q_b]
  · simp [h4, q_b]
theorem q_isLineEnd (h : q_TC B l z I X Y) (ht : t < l.length + 3) : F_X10_isLineEnd κ (some (b + 2)) (nI t) (q_H b (I, R, X, Y, Z) M O D, s) = some (.inl (q_b (decide ((q_tok l t).1 = 4 ∨ (q_tok l t).1 = 5))), (q_H b (I, R, X, Y, Z) M O D, s)) := by
  have hz := h.2.2.1
  have hl := h.2.1
  have h4 : (X 4 t = (4 : Int32)) ↔ (q_tok l t).1 = 4 := q_TC_is (c := 4) h ht (by decide)
  have h5 : (X 4 t = (5 : Int32)) ↔ (q_tok l t).1 = 5 := q_TC_is (c := 5) h ht (by decide)
  simp (disch := first | rfl | omega | decide | exact Nat.le_of_ble_eq_true rfl) only [↓q_br, q_rt, q_rz, q_gd, q_ca, ↓reduceIte, F_X10_isLineEnd_25, F_X10_isLineEnd_20, F_X10_isLineEnd, ↓q_gA_2_1, ↓q_lI_4, h4, h5]
  by_cases h6 : (q_tok l t).1 = 4
  · simp [h6, q_b]
  · by_cases h7 : (q_tok l t).1 = 5 <;> simp [h7, h6, q_b]
theorem q_misEnd (h : q_TM B l z P Q S) (ht : t < l.length + 2) : F_X13_isEnd κ (some (b + 26)) (nI t) (q_H b C (P, Q, S) O D, s) = some (.inl (q_b (decide ((q_tok l t).1 = 4 ∨ (q_tok l t).1 = 5))), (q_H b C (P, Q, S) O D, s)) := by
  have hz := h.2.2.1
  have hl := h.2.1
  have h4 : (Q 30 t = (4 : Int32)) ↔ (q_tok l t).1 = 4 := q_TM_is (c := 4) h ht (by decide)
  have h5 := q_TM_end h ht
  simp (disch := first | rfl | omega | decide | exact Nat.le_of_ble_eq_true rfl) only [↓q_br, q_rt, q_rz, q_gd, q_ca, ↓reduceIte, F_X13_isEnd_24, F_X13_isEnd_19, F_X13_isEnd, ↓q_gA_26_9, ↓q_lI_30, h4, h5]
  by_cases h6 : (q_tok l t).1 = 4
  · simp [h6, q_b]
  · by_cases h7 : (q_tok l t).1 = 5 <;> simp [h7, h6, q_b]
end QTD
