/-! ===== the reference's scan finds the same ===== -/
def q_mt (t : Nat) : Nat := if t = 0 then 5 else t
def q_mw (c : Int32) (w : Int64) : Int64 := if q_row c = true ∧ q_dgt c = false ∨ c = 10 then 0 else w
theorem q_dgt_n {c : Int32} (h : q_dgt c = true) : c = nI (48 + q_dn c) ∧ q_dn c < 10 := by
  obtain ⟨h1, h2⟩ := q_dv_n c
  have h3 : ¬ c < 48 ∧ ¬ 57 < c := by simpa [q_dgt] using h
  have h4 : q_dv c = c - 48 := by unfold q_dv; rw [if_neg (by simp [h3])]
  have h6 : c - 48 ≤ 9 := by
    have a := h3.1
    have b := h3.2
    grind
  rw [h1] at h4
  refine ⟨?_, ?_⟩
  · have e : nI (q_dn c) + 48 = c := by rw [h4, Int32.sub_add_cancel]
    rw [Nat.add_comm]
    exact e.symm.trans (nI_add _ 48)
  · rw [← h4] at h6
    have := (nI_leI (b := 9) (by omega) (by decide)).mp h6
    omega
theorem q_ndgt_n {c : Int32} (h : q_dgt c = false) : ¬ q_dn c < 10 := by
  obtain ⟨h1, h2⟩ := q_dv_n c
  have h3 : c < 48 ∨ 57 < c := by
    by_cases a : c < 48
    · exact Or.inl a
    · by_cases d : 57 < c
      · exact Or.inr d
      · simp [q_dgt, a, d] at h
  have h4 : (10 : Int32) ≤ q_dv c := by
    unfold q_dv
    rw [if_pos h3]
    grind
  rw [h1] at h4
  have := (nI_leI (a := 10) (by decide) (by omega)).mp h4
  omega
section QMS
variable {κ : Nat → Nat} {b : Nat} {C : q_CT} {P : Nat → Int32} {Q : Nat → Nat → Int32} {S : Nat → Nat → Int64} {O : Nat → Int64} {D : q_Mem} {s : Nat × Nat} {z : Nat}
theorem q_sixteen {c : Int32} {σ : q_St} : F_X13_sixteen κ c σ = some (.inl (if q_dn c < 16 then nI (q_dn c) else -1), σ) := by
  obtain ⟨h1, h2⟩ := q_dv_n c
  have h3 : F_X13_sixteen κ c σ = some (.inl (if q_dv c = 16 then -1 else q_dv c), σ) := by
    simp only [↓q_br, q_rt, q_rz, q_gd, q_ca, ↓reduceIte, F_X13_sixteen_59, F_X13_sixteen_58, F_X13_sixteen_36, F_X13_sixteen, q_X13_isDigit, q_b_0, q_dgt, q_dv]
    by_cases c1 : c < 48 <;> by_cases c2 : 57 < c <;> by_cases c3 : c < 97 <;> by_cases c4 : 102 < c <;> by_cases c5 : c < 65 <;> by_cases c6 : 70 < c <;> simp [c1, c2, c3, c4, c5, c6] <;> grind
  rw [h3, h1]
  by_cases h4 : q_dn c < 16
  · rw [if_pos h4, if_neg]
    intro h5
    have := (nI_eq (b := 16) (by omega) (by decide)).mp h5
    omega
  · have h5 : q_dn c = 16 := by omega
    rw [if_neg h4, if_pos (by rw [h5]; rfl)]
theorem q_number_57 (hz : z ≤ 6000) : ∀ n fuel p v, p + n = z → n < fuel → F_X13_number_57 κ fuel (some (b + 26)) (nI z) (lN v) (nI p) (q_H b C (P, Q, S) O D, s) = some (.inl (q_ov (q_vf 16 (Q 28) n p v)), (q_H b C (P, Q, S) O D, s)) := by
  intro n
  induction n with
  | zero =>
    intro fuel p v h1 h2
    obtain ⟨f, rfl⟩ : ∃ f, fuel = f + 1 := ⟨fuel - 1, by omega⟩
    have h4 : z ≤ p := by omega
    simp (disch := first | rfl | omega) only [F_X13_number_57, ↓q_br, q_rt, q_rz, q_gd, q_ca, ↓reduceIte, F_X13_number_57B, ↓q_gA_26_1, ↓q_lI_28, nI_leI, h4, q_vf, q_ov]
  | succ n ih =>
    intro fuel p v h1 h2
    obtain ⟨f, rfl⟩ : ∃ f, fuel = f + 1 := ⟨fuel - 1, by omega⟩
    have h4 : ¬ z ≤ p := by omega
    have h5 := (q_dv_n (Q 28 p)).2
    by_cases h6 : q_dn (Q 28 p) < 16
    · have e1 : (0 : Int32) ≤ nI (q_dn (Q 28 p)) := nI_pos' (by omega)
      have e3 : (16 : Int64) * lN v + (nI (q_dn (Q 28 p))).toInt64 = lN (v * 16 + q_dn (Q 28 p)) := by
        rw [nI_l (by omega)]
        have : (16 : Int64) * lN v = lN (v * 16) := (lN_mul 16 v).trans (by rw [Nat.mul_comm])
        rw [this, lN_add]
      simp (disch := first | rfl | omega) only [F_X13_number_57, ↓q_br, q_rt, q_rz, q_gd, q_ca, ↓reduceIte, F_X13_number_57B, ↓q_gA_26_1, ↓q_lI_28, nI_leI, h4, q_sixteen, h6, e1, e3, nI_1, q_vf]
      exact ih f (p + 1) _ (by omega) (by omega)
    · have e1 : ¬ (0 : Int32) ≤ -1 := by decide
      simp (disch := first | rfl | omega) only [F_X13_number_57, ↓q_br, q_rt, q_rz, q_gd, q_ca, ↓reduceIte, F_X13_number_57B, ↓q_gA_26_1, ↓q_lI_28, nI_leI, h4, q_sixteen, h6, e1, q_vf, q_ov]
theorem q_number_121 (hz : z ≤ 6000) : ∀ n fuel p v, p + n = z → n < fuel → (v + 1) * 10 ^ n ≤ 2 ^ 40 → F_X13_number_121 κ fuel (some (b + 26)) (nI z) (lN v) (nI p) (q_H b C (P, Q, S) O D, s) = some (.inl (q_ov (q_cap (q_vf 10 (Q 28) n p v))), (q_H b C (P, Q, S) O D, s)) := by
  intro n
  induction n with
  | zero =>
    intro fuel p v h1 h2 h3
    obtain ⟨f, rfl⟩ : ∃ f, fuel = f + 1 := ⟨fuel - 1, by omega⟩
    have h4 : z ≤ p := by omega
    have h5 : ((4294967296 : Int64) ≤ lN v) ↔ 4294967296 ≤ v := q_lN_le (a := 4294967296) (b := v) (by decide) (by omega)
    simp (disch := first | rfl | omega) only [F_X13_number_121, ↓q_br, q_rt, q_rz, q_gd, q_ca, ↓reduceIte, F_X13_number_121B, F_X13_number_184, ↓q_gA_26_1, ↓q_lI_28, nI_leI, h4, q_vf, q_cap, lg_cmp_ge, h5]
    by_cases h6 : v < 4294967296
    · simp [h6, Nat.not_le.mpr h6, q_ov]
    · simp [h6, Nat.not_lt.mp h6, q_ov]
  | succ n ih =>
    intro fuel p v h1 h2 h3
    obtain ⟨f, rfl⟩ : ∃ f, fuel = f + 1 := ⟨fuel - 1, by omega⟩
    have h4 : ¬ z ≤ p := by omega
    by_cases h6 : q_dgt (Q 28 p) = true
    · obtain ⟨g1, g2⟩ := q_dgt_n h6
      have e3 : (10 : Int64) * lN v + (Q 28 p).toInt64 - 48 = lN (v * 10 + q_dn (Q 28 p)) := by
        have a1 : (Q 28 p).toInt64 = lN (48 + q_dn (Q 28 p)) := by
          rw [← nI_l (by omega), ← g1]
        have a2 : (10 : Int64) * lN v = lN (v * 10) := (lN_mul 10 v).trans (by rw [Nat.mul_comm])
        have a3 : v * 10 + (48 + q_dn (Q 28 p)) - 48 = v * 10 + q_dn (Q 28 p) := by omega
        rw [a1, a2, lN_add]
        exact (lN_sub (b := 48) (by omega)).trans (by rw [a3])
      simp (disch := first | rfl | omega) only [F_X13_number_121, ↓q_br, q_rt, q_rz, q_gd, q_ca, ↓reduceIte, F_X13_number_121B, F_X13_number_184, ↓q_gA_26_1, ↓q_lI_28, nI_leI, h4, q_X13_isDigit, q_b_0, h6, e3, nI_1, q_vf, g2, not_false_eq_true, Bool.true_eq_false]
      refine ih f (p + 1) _ (by omega) (by omega) ?_
      have h7 : (v * 10 + q_dn (Q 28 p) + 1) * 10 ^ n ≤ ((v + 1) * 10) * 10 ^ n := Nat.mul_le_mul_right _ (by omega)
      have h8 : ((v + 1) * 10) * 10 ^ n = (v + 1) * 10 ^ (n + 1) := by rw [Nat.pow_succ, Nat.mul_assoc, Nat.mul_comm 10]
      omega
    · have h6' : q_dgt (Q 28 p) = false := by simpa using h6
      have g2 := q_ndgt_n h6'
      simp (disch := first | rfl | omega) only [F_X13_number_121, ↓q_br, q_rt, q_rz, q_gd, q_ca, ↓reduceIte, F_X13_number_121B, F_X13_number_184, ↓q_gA_26_1, ↓q_lI_28, nI_leI, h4, q_X13_isDigit, q_b_0, h6', q_vf, g2, not_true_eq_false, q_cap, q_ov]
theorem q_number_106 {f t : Nat} (hf : f ≤ t) (ht : t ≤ 6000) : F_X13_number_106 κ (some (b + 26)) (nI f) (nI t) 0 (q_H b C (P, Q, S) O D, s) = some (.inl (if t - f ≤ 10 then q_ov (q_cap (q_vf 10 (Q 28) (t - f) f 0)) else -1), (q_H b C (P, Q, S) O D, s)) := by
  have h10 : (nI (t - f) ≤ (10 : Int32)) ↔ t - f ≤ 10 := nI_leI (b := 10) (by omega) (by decide)
  simp (disch := first | rfl | omega) only [↓q_br, q_rt, q_rz, q_gd, q_ca, ↓reduceIte, F_X13_number_106, nI_sub, h10]
  by_cases h : t - f ≤ 10
  · rw [if_pos h, if_pos h]
    have h1 : (0 + 1) * 10 ^ (t - f) ≤ 2 ^ 40 := by
      have := Nat.pow_le_pow_right (n := 10) (by decide) h
      omega
    exact q_number_121 (κ := κ) ht (t - f) q_fu f 0 (by omega) (by unfold q_fu; omega) h1
  · rw [if_neg h, if_neg h]
theorem q_number {f t : Nat} (hf : f < t) (ht : t ≤ 6000) : F_X13_number κ (some (b + 26)) (nI f) (nI t) (q_H b C (P, Q, S) O D, s) = some (.inl (q_ov (q_num (Q 28) f t)), (q_H b C (P, Q, S) O D, s)) := by
  have h1 : (nI (t - f) ≤ (1 : Int32)) ↔ t - f ≤ 1 := nI_leI (b := 1) (by omega) (by decide)
  have h3 : (nI (t - f) < (3 : Int32)) ↔ t - f < 3 := nI_ltI (b := 3) (by omega) (by decide)
  have h10 : (nI (t - f) ≤ (10 : Int32)) ↔ t - f ≤ 10 := nI_leI (b := 10) (by omega) (by decide)
  have e1 : nI f + 2 = nI (f + 2) := nI_add f 2
  have g106 := q_number_106 (κ := κ) (b := b) (C := C) (P := P) (Q := Q) (S := S) (O := O) (D := D) (s := s) (f := f) (t := t) (by omega) ht
  by_cases hx : 2 < t - f ∧ Q 28 f = 48 ∧ Q 28 (f + 1) = 120
  · obtain ⟨x1, x2, x3⟩ := hx
    have y1 : ¬ t - f ≤ 1 := by omega
    have y3 : ¬ t - f < 3 := by omega
    have g57 := q_number_57 (κ := κ) (b := b) (C := C) (P := P) (Q := Q) (S := S) (O := O) (D := D) (s := s) ht (t - f - 2) q_fu (f + 2) 0
    simp (disch := first | rfl | omega) only [↓q_br, q_rt, q_rz, q_gd, q_ca, ↓reduceIte, F_X13_number, F_X13_number_48, ↓q_gA_26_1, ↓q_lI_28, nI_sub, h1, y1, nI_1, x2, x3, h3, y3, h10, e1, not_true_eq_false]
    simp only [q_num, x1, x2, x3, and_self, if_true]
    by_cases y4 : t - f ≤ 10
    · simp only [y4, if_true]
      exact g57 (by omega) (by unfold q_fu; omega)
    · simp only [y4, if_false, q_ov]
  · have k10 : (if t - f ≤ 10 then q_ov (q_cap (q_vf 10 (Q 28) (t - f) f 0)) else -1) = q_ov (q_num (Q 28) f t) := by
      unfold q_num
      rw [if_neg hx]
      by_cases y4 : t - f ≤ 10
      · rw [if_pos y4, if_pos y4]
        rfl
      · rw [if_neg y4, if_neg y4]
        rfl
    rw [k10] at g106
    by_cases y1 : t - f ≤ 1
    · simp (disch := first | rfl | omega) only [↓q_br, q_rt, q_rz, q_gd, q_ca, ↓reduceIte, F_X13_number, F_X13_number_48, ↓q_gA_26_1, ↓q_lI_28, nI_sub, h1, y1, g106]
    · by_cases x2 : Q 28 f = 48
      · by_cases x3 : Q 28 (f + 1) = 120
        · have y6 : ¬ 2 < t - f := fun h => hx ⟨h, x2, x3⟩
          have y5 : t - f = 2 := by omega
          have y3 : t - f < 3 := by omega
          simp (disch := first | rfl | omega) only [↓q_br, q_rt, q_rz, q_gd, q_ca, ↓reduceIte, F_X13_number, F_X13_number_48, ↓q_gA_26_1, ↓q_lI_28, nI_sub, h1, y1, nI_1, x2, x3, h3, y3, not_true_eq_false]
          rw [← k10, y5]
          have z1 : q_dn 48 = 0 := by decide
          have z2 : q_dn 120 = 16 := by decide
          simp [q_vf, x2, x3, z1, z2, q_cap, q_ov]
        · simp (disch := first | rfl | omega) only [↓q_br, q_rt, q_rz, q_gd, q_ca, ↓reduceIte, F_X13_number, F_X13_number_48, ↓q_gA_26_1, ↓q_lI_28, nI_sub, h1, y1, nI_1, x2, x3, not_true_eq_false, not_false_eq_true, g106]
      · simp (disch := first | rfl | omega) only [↓q_br, q_rt, q_rz, q_gd, q_ca, ↓reduceIte, F_X13_number, F_X13_number_48, ↓q_gA_26_1, ↓q_lI_28, nI_sub, h1, y1, nI_1, x2, not_false_eq_true, g106]
end QMS
