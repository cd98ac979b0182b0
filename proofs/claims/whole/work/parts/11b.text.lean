/-! ===== truth values, bytes, constant texts ===== -/
def q_b (x : Bool) : Int32 := if x = true then 1 else 0
theorem q_b_0 (x : Bool) : (q_b x = 0) = (x = false) := by cases x <;> simp [q_b]
theorem q_b_1 (x : Bool) : (q_b x = 0 ∨ q_b x = 1) := by cases x <;> simp [q_b]
def q_dgt (c : Int32) : Bool := !decide (c < 48) && !decide (57 < c)
def q_ltr (c : Int32) : Bool := (!decide (c < 97) && decide (c ≤ 122)) || (!decide (c < 65) && !decide (90 < c))
def q_row (c : Int32) : Bool := q_ltr c || q_dgt c || decide (c = 95)
section QTX
variable {κ : Nat → Nat} {σ : q_St} {c : Int32}
theorem q_X10_isDigit : F_X10_isDigit κ c σ = some (.inl (q_b (q_dgt c)), σ) := by
  simp only [↓q_br, q_rt, q_rz, q_gd, q_ca, ↓reduceIte, F_X10_isDigit_17, F_X10_isDigit_16, F_X10_isDigit, q_dgt]
  by_cases h1 : c < 48 <;> by_cases h2 : 57 < c <;> simp [h1, h2, q_b]
theorem q_X13_isDigit : F_X13_isDigit κ c σ = some (.inl (q_b (q_dgt c)), σ) := by
  simp only [↓q_br, q_rt, q_rz, q_gd, q_ca, ↓reduceIte, F_X13_isDigit_17, F_X13_isDigit_16, F_X13_isDigit, q_dgt]
  by_cases h1 : c < 48 <;> by_cases h2 : 57 < c <;> simp [h1, h2, q_b]
theorem q_X10_isLetter : F_X10_isLetter κ c σ = some (.inl (q_b (q_ltr c)), σ) := by
  simp only [↓q_br, q_rt, q_rz, q_gd, q_ca, ↓reduceIte, F_X10_isLetter_29, F_X10_isLetter_28, F_X10_isLetter_24, F_X10_isLetter_12, F_X10_isLetter, q_ltr]
  by_cases h1 : c < 97 <;> by_cases h2 : c ≤ 122 <;> by_cases h3 : c < 65 <;> by_cases h4 : 90 < c <;> simp [h1, h2, h3, h4, q_b]
theorem q_X13_isLetter : F_X13_isLetter κ c σ = some (.inl (q_b (q_ltr c)), σ) := by
  simp only [↓q_br, q_rt, q_rz, q_gd, q_ca, ↓reduceIte, F_X13_isLetter_29, F_X13_isLetter_28, F_X13_isLetter_24, F_X13_isLetter_12, F_X13_isLetter, q_ltr]
  by_cases h1 : c < 97 <;> by_cases h2 : c ≤ 122 <;> by_cases h3 : c < 65 <;> by_cases h4 : 90 < c <;> simp [h1, h2, h3, h4, q_b]
theorem q_X10_isRowByte : F_X10_isRowByte κ c σ = some (.inl (q_b (q_row c)), σ) := by
  simp only [↓q_br, q_rt, q_rz, q_gd, q_ca, ↓reduceIte, F_X10_isRowByte_25, F_X10_isRowByte_20, F_X10_isRowByte, q_X10_isLetter, q_X10_isDigit, q_row, q_b_0]
  cases h1 : q_ltr c <;> cases h2 : q_dgt c <;> by_cases h3 : c = 95 <;> simp [h3, q_b]
theorem q_X13_isInName : F_X13_isInName κ c σ = some (.inl (q_b (q_row c)), σ) := by
  simp only [↓q_br, q_rt, q_rz, q_gd, q_ca, ↓reduceIte, F_X13_isInName_25, F_X13_isInName_20, F_X13_isInName, q_X13_isLetter, q_X13_isDigit, q_row, q_b_0]
  cases h1 : q_ltr c <;> cases h2 : q_dgt c <;> by_cases h3 : c = 95 <;> simp [h3, q_b]
end QTX
/-- where the constant texts lie -/
def q_Kp (κ : Nat → Nat) (b : Nat) (D : q_Mem) : Prop := (∀ i, i < q_tx.length → D (κ i) = some (.inr (.inr (0, i))) ∧ κ i ≤ b ∧ D (κ (200 + i)) = some (.inr (.inr (1, i))) ∧ κ (200 + i) ≤ b) ∧ D (κ 99) = some (.inr (.inr (2, 0))) ∧ κ 99 ≤ b
abbrev q_tt (i : Nat) : List Int32 := q_tx.getD i []
theorem q_tt_len : ∀ i, i < q_tx.length → (q_tt i).length < 100 := by decide +kernel
theorem q_tt_asc : ∀ i, i < q_tx.length → ∀ k, k < (q_tt i).length → (((((q_tt i).getD k 0) &&& (255 : Int32)).toUInt32 % 65536).toInt32 = (q_tt i).getD k 0 ∧ ¬ (q_tt i).getD k 0 < 0 ∧ (q_tt i).getD k 0 ≤ 127) := by decide +kernel
theorem q_Kp_up {κ : Nat → Nat} {b a : Nat} {D : q_Mem} {e : q_Cel} (h : q_Kp κ b D) (ha : b < a) : q_Kp κ b (q_up D a e) := by
  obtain ⟨h1, h2, h3⟩ := h
  refine ⟨fun i hi => ?_, ?_, h3⟩
  · obtain ⟨e1, e2, e3, e4⟩ := h1 i hi
    exact ⟨by rw [q_up_n _ _ (by omega), e1], e2, by rw [q_up_n _ _ (by omega), e3], e4⟩
  · rw [q_up_n _ _ (by omega), h2]
section QSP
variable {β : Type} {κ : Nat → Nat} {b i : Nat} {C : q_CT} {M : q_MT} {O : Nat → Int64} {D : q_Mem} {s : Nat × Nat}
theorem q_sp_0 {f : Nat → q_X β} (hK : q_Kp κ b D) (hi : i < q_tx.length) : q_rd (q_sp (some (κ i)) 0) f (q_H b C M O D, s) = f i (q_H b C M O D, s) := by
  obtain ⟨e1, e2, e3, e4⟩ := hK.1 i hi
  refine q_rd_g ?_
  rw [q_sp_d (Or.inl e2)]
  unfold q_sp
  simp only [e1, if_true]
theorem q_sp_1 {f : Nat → q_X β} (hK : q_Kp κ b D) (hi : i < q_tx.length) : q_rd (q_sp (some (κ (200 + i))) 1) f (q_H b C M O D, s) = f i (q_H b C M O D, s) := by
  obtain ⟨e1, e2, e3, e4⟩ := hK.1 i hi
  refine q_rd_g ?_
  rw [q_sp_d (Or.inl e4)]
  unfold q_sp
  simp only [e3, if_true]
theorem q_lS_1 {f : Int32 → q_X β} {j : Nat} (hK : q_Kp κ b D) (hi : i < q_tx.length) (hj : j < (q_tt i).length) : q_rd (q_lS (some (κ (200 + i))) (nI j)) f (q_H b C M O D, s) = f ((q_tt i).getD j 0) (q_H b C M O D, s) := by
  obtain ⟨e1, e2, e3, e4⟩ := hK.1 i hi
  have hl := q_tt_len i hi
  have hb := q_nI_b hj (by omega)
  refine q_rd_g ?_
  unfold q_lS
  rw [q_sp_d (Or.inl e4)]
  unfold q_sp
  simp only [e3, if_true, Option.bind_some]
  rw [hb.2, if_neg hb.1]
theorem q_J0_coder (hK : q_Kp κ b D) (hi : i < q_tx.length) : F_J0_coder_7d493 κ (some (κ i)) (q_H b C M O D, s) = some (.inl 0, (q_H b C M O D, s)) := by
  unfold F_J0_coder_7d493
  unfold q_br
  rw [if_neg (by decide), q_sp_0 hK hi]
  rfl
theorem q_J0_length (hK : q_Kp κ b D) (hi : i < q_tx.length) : F_J0_length_8abf5 κ (some (κ i)) (q_H b C M O D, s) = some (.inl (nI (q_tt i).length), (q_H b C M O D, s)) := by
  unfold F_J0_length_8abf5
  rw [q_sp_0 hK hi, q_sp_1 hK hi, q_sp_0 hK hi]
  simp only [q_ca, q_J0_coder hK hi, q_rt]
  have h0 : ((0 : Int32) &&& 31) = 0 := by decide
  rw [h0]
  simp
theorem q_J0_isLatin1 (hK : q_Kp κ b D) (hi : i < q_tx.length) : F_J0_isLatin1_aae02 κ (some (κ i)) (q_H b C M O D, s) = some (.inl 1, (q_H b C M O D, s)) := by
  unfold F_J0_isLatin1_aae02
  unfold q_br
  rw [if_neg (by decide), q_sp_0 hK hi]
  rfl
theorem q_J0_charAt {j : Nat} (hK : q_Kp κ b D) (hi : i < q_tx.length) (hj : j < (q_tt i).length) : F_J0_charAt_5068e κ (some (κ i)) (nI j) (q_H b C M O D, s) = some (.inl ((q_tt i).getD j 0), (q_H b C M O D, s)) := by
  have hl := q_tt_len i hi
  obtain ⟨a1, a2, a3⟩ := q_tt_asc i hi j hj
  have a4 : (q_tt i).getD j 0 ≤ 65535 := Int32.le_trans a3 (by decide)
  unfold F_J0_charAt_5068e
  rw [q_sp_0 hK hi]
  simp only [q_ca, q_J0_isLatin1 hK hi, q_br]
  rw [if_neg (by decide), q_sp_0 hK hi]
  simp only [F_J1_charAt_3b067, q_ca]
  rw [q_sp_1 hK hi]
  have hx : F_J0_checkIndex_df160 κ (nI j) (nI (q_tt i).length) (q_H b C M O D, s) = some (.inl (), (q_H b C M O D, s)) := by
    simp only [F_J0_checkIndex_df160, F_J3_checkIndex_8e157, q_ca, q_br, q_rt]
    rw [if_neg (nI_pos (by omega)), if_pos (nI_lt hj (by omega))]
  simp only [q_ca, hx]
  rw [q_lS_1 hK hi hj]
  simp only [a1, q_rc, q_gd, q_rt]
  simp only [a2, a4, not_false_eq_true, and_self, if_true]
end QSP
