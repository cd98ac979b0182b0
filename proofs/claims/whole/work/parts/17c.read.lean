theorem q_to_c {c d : Nat → Bool} {z : Nat} : ∀ n p, (∀ i, p ≤ i → i < z → c i = d i) → p + n ≤ z → q_to c n p = q_to d n p := by
  intro n
  induction n with
  | zero => intro p _ _; rfl
  | succ n ih =>
    intro p h hz
    unfold q_to
    rw [h p (Nat.le_refl _) (by omega), ih (p + 1) (fun i i1 i2 => h i (by omega) i2) (by omega)]
theorem q_vf_c {B B' : Nat → Int32} {z base : Nat} : ∀ n p v, (∀ i, i < z → B i = B' i) → p + n ≤ z → q_vf base B n p v = q_vf base B' n p v := by
  intro n
  induction n with
  | zero => intro p v _ _; rfl
  | succ n ih =>
    intro p v h hz
    unfold q_vf
    rw [h p (by omega), ih (p + 1) _ h (by omega)]
theorem q_num_c {B B' : Nat → Int32} {z f t : Nat} (h : ∀ i, i < z → B i = B' i) (hf : f < t) (ht : t ≤ z) : q_num B f t = q_num B' f t := by
  unfold q_num
  rw [h f (by omega)]
  by_cases h1 : 2 < t - f
  · rw [h (f + 1) (by omega), q_vf_c (z := z) _ _ _ h (by omega : f + 2 + (t - f - 2) ≤ z), q_vf_c (z := z) _ _ _ h (by omega : f + (t - f) ≤ z)]
  · simp only [h1, false_and, if_false]
    rw [q_vf_c (z := z) _ _ _ h (by omega : f + (t - f) ≤ z)]
theorem q_sc_c {ln : Bool} {B B' : Nat → Int32} {z : Nat} (h : ∀ i, i < z → B i = B' i) : ∀ n p, q_sc ln B z n p = q_sc ln B' z n p := by
  intro n
  induction n with
  | zero => intro p; rfl
  | succ n ih =>
    intro p
    unfold q_sc
    by_cases hp : z ≤ p
    · rw [if_pos hp, if_pos hp]
    · rw [if_neg hp, if_neg hp]
      have hr : q_to (fun i => q_row (B i)) (z - p) p = q_to (fun i => q_row (B' i)) (z - p) p := q_to_c (z := z) _ _ (fun i _ i2 => by simp only [h i i2]) (by omega)
      have hc : q_to (fun i => !decide (B i = 10)) (z - p) p = q_to (fun i => !decide (B' i = 10)) (z - p) p := q_to_c (z := z) _ _ (fun i _ i2 => by simp only [h i i2]) (by omega)
      have hx : q_nx B z p = q_nx B' z p := by unfold q_nx; rw [h p (by omega), hr, hc]
      have hk : q_tk ln B z p = q_tk ln B' z p := by
        unfold q_tk
        rw [h p (by omega), hr]
        by_cases h1 : B' p = 35
        · rw [if_pos h1, if_pos h1]
        · rw [if_neg h1, if_neg h1]
          by_cases h2 : q_row (B' p) = true
          · rw [if_pos h2, if_pos h2]
            congr 1
            have b1 : p < q_to (fun i => q_row (B' i)) (z - p) p := q_to_g h2 (by omega)
            have b2 := (q_to_b (fun i => q_row (B' i)) (z - p) p).2
            unfold q_rk
            rw [h p (by omega), q_num_c (z := z) h b1 (by omega)]
          · rw [if_neg h2, if_neg h2]
      rw [hx, hk, ih]
section QRC
variable {κ : Nat → Nat} {b : Nat} {B : Nat → Int32} {l : List q_Tok} {zt : Nat} {X : Nat → Nat → Int32} {Z : Nat → Nat → Option Nat} {M : q_MT} {O : Nat → Int64}
theorem q_readWidth {I : Nat → Nat → Int32} {R : Nat → Nat → Option Nat} {Y : Nat → Nat → Int64} {D : q_Mem} {s : Nat × Nat} (h : q_TC B l zt I X Y) (hK : q_Kp κ b D) (ha : I 14 1 = nI 0) (hf : I 14 2 = 0) :
    ∃ I', (∀ j, j ≠ 8 → j ≠ 14 → I' j = I j) ∧ (∀ j, j ≠ 2 → I' 8 j = I 8 j) ∧ F_X0_readWidth κ (some (b + 19)) (q_H b (I, R, X, Y, Z) M O D, s) = some (.inl (), (q_H b (I', R, X, Y, Z) M O D, s)) ∧ (match q_pw B l with
      | .inl (k, p) => I' 14 2 = nI k ∧ I' 14 3 = nI p ∧ 1 ≤ k ∧ k ≤ 3
      | .inr z => I' 14 1 = nI 3 ∧ I' 14 2 = 0 ∧ I' 14 3 = I 14 3 ∧ I' 8 2 = nI z ∧ (z = 8 ∨ z = 16 ∨ z = 32) ∧ 3 ≤ l.length) := by
  have hzt := h.2.2.1
  have hl := h.2.1
  have hwf := h.2.2.2.2.1
  have i1 : nI 1 = 1 := rfl
  have i3 : nI 3 = 3 := rfl
  have c3 := q_says (κ := κ) (b := b) (R := R) (Z := Z) (M := M) (O := O) (s := s) (i := 3) (t := 0) h hK (by decide) (by omega)
  have hft : ∀ (J : Nat → Nat → Int32) k p, q_ft J k p 14 2 = k ∧ q_ft J k p 14 3 = p := fun J k p => ⟨by simp (disch := first | rfl | omega | decide | exact Nat.le_of_ble_eq_true rfl) only [q_u2_s, q_u1_n, q_u1_s], by simp (disch := first | rfl | omega | decide | exact Nat.le_of_ble_eq_true rfl) only [q_u2_s, q_u1_s]⟩
  have hfr : ∀ (J : Nat → Nat → Int32) k p j, j ≠ 14 → q_ft J k p j = J j := fun J k p j j1 => by rw [q_ft, q_u2_n _ _ _ j1, q_u2_n _ _ _ j1]
  unfold q_pw
  by_cases hw : q_wd B l 0 3 = true
  · rw [if_pos hw]
    obtain ⟨I1, hI1⟩ : ∃ I1, I1 = q_u2 I 14 1 (nI 1) := ⟨_, rfl⟩
    have fI1 : ∀ j, j ≠ 14 → I1 j = I j := fun j j1 => by rw [hI1, q_u2_n _ _ _ j1]
    have a1 : I1 14 1 = nI 1 := by rw [hI1, q_u2_s, q_u1_s]
    have b1 : I1 14 2 = 0 := by rw [hI1, q_u2_s, q_u1_n _ _ (by decide), hf]
    have d1 : I1 14 3 = I 14 3 := by rw [hI1, q_u2_s, q_u1_n _ _ (by decide)]
    have hT1 : q_TC B l zt I1 X Y := q_TC_I h (by rw [fI1 2 (by decide)])
    have tn := q_takeNumber (κ := κ) (b := b) (R := R) (Z := Z) (M := M) (O := O) (D := D) (s := s) (lo := 0) (hi := 4294967296) hT1 a1 (by omega)
    have u0 : q_u2 I 14 1 (nI (0 + 1)) = I1 := by rw [hI1]
    by_cases hy : (q_tok l 1).1 = 2
    · rw [if_pos hy]
      obtain ⟨v1, v2⟩ := q_vn_e hwf hy
      have r1 : (0 : Int64) ≤ q_nv l 1 := by rw [v1]; exact (q_lN_le (a := 0) (by decide) (by omega)).mpr (Nat.zero_le _)
      have r2 : q_nv l 1 ≤ (4294967296 : Int64) := by rw [v1]; exact (q_lN_le (b := 4294967296) (by omega) (by decide)).mpr (by omega)
      have e8 : (lg_cmp (q_nv l 1) 8 = 0) ↔ q_vn l 1 = 8 := by rw [lg_cmp_eq, v1]; exact q_lN_eq (b := 8) (by omega) (by decide)
      have e16 : (lg_cmp (q_nv l 1) 16 = 0) ↔ q_vn l 1 = 16 := by rw [lg_cmp_eq, v1]; exact q_lN_eq (b := 16) (by omega) (by decide)
      have e32 : (lg_cmp (q_nv l 1) 32 = 0) ↔ q_vn l 1 = 32 := by rw [lg_cmp_eq, v1]; exact q_lN_eq (b := 32) (by omega) (by decide)
      have e0 : (0 ≤ lg_cmp (q_nv l 1) 0) = True := eq_true (by rw [lg_cmp_ge]; exact r1)
      rw [if_pos ⟨hy, r1, r2⟩, if_pos hy, if_pos ⟨r1, r2⟩] at tn
      obtain ⟨I2, hI2⟩ : ∃ I2, I2 = q_u2 I1 14 1 (nI (1 + 1)) := ⟨_, rfl⟩
      rw [← hI2] at tn
      have fI2 : ∀ j, j ≠ 14 → I2 j = I j := fun j j1 => by rw [hI2, q_u2_n _ _ _ j1, fI1 j j1]
      have a2 : I2 14 1 = nI 2 := by rw [hI2, q_u2_s, q_u1_s]
      have b2 : I2 14 2 = 0 := by rw [hI2, q_u2_s, q_u1_n _ _ (by decide), b1]
      have d2 : I2 14 3 = I 14 3 := by rw [hI2, q_u2_s, q_u1_n _ _ (by decide), d1]
      have hT2 : q_TC B l zt I2 X Y := q_TC_I h (by rw [fI2 2 (by decide)])
      have hlt1 := q_tok_lt (l := l) (t := 1) (by omega)
      have tk := q_take (κ := κ) (b := b) (R := R) (Z := Z) (M := M) (O := O) (D := D) (s := s) (c := 59) hT2 a2 (by omega)
      have fl := q_failAt (κ := κ) (b := b) (I := I2) (R := R) (X := X) (Y := Y) (Z := Z) (M := M) (O := O) (D := D) (s := s) (k := 3) (p := nI 1)
      by_cases hv : q_vn l 1 = 8 ∨ q_vn l 1 = 16 ∨ q_vn l 1 = 32
      · rw [if_pos hv]
        have key : F_X0_readWidth κ (some (b + 19)) (q_H b (I, R, X, Y, Z) M O D, s) = F_X0_readWidth_103 κ (some (b + 19)) (q_nv l 1) (q_H b (I2, R, X, Y, Z) M O D, s) := by
          rw [hI1] at tn a1
          rcases hv with hv | hv | hv <;> simp (disch := first | rfl | omega | decide | exact Nat.le_of_ble_eq_true rfl) only [↓q_br, q_rt, q_rz, q_gd, q_ca, ↓reduceIte, F_X0_readWidth, ↓q_gA_19_0, ↓q_gA_19_1, ↓q_gI_14_1, ↓q_is_14, ↓q_is_2, ↓q_pI_14_1, ↓q_is_2, ↓q_is_14, ha, c3, hw, q_b_0, Bool.true_eq_false, not_false_eq_true, nI_1, Nat.zero_add, a1, tn, e0, e8, e16, e32, hv, ite_self]
        have v3 : (q_nv l 1).toInt32 = nI (q_vn l 1) := by rw [v1, lN_i]
        by_cases hs : q_sgn l 2 59 = true
        · rw [if_pos hs]
          rw [if_pos hs] at tk
          refine ⟨q_u2 (q_u2 I2 14 1 (nI (2 + 1))) 8 2 (nI (q_vn l 1)), fun j j1 j2 => by rw [q_u2_n _ _ _ j1, q_u2_n _ _ _ j2, fI2 j j2], fun j j1 => by rw [q_u2_s, q_u1_n _ _ j1, q_u2_n _ _ _ (by decide), fI2 8 (by decide)], ?_, by rw [q_u2_n _ _ _ (by decide), q_u2_s, q_u1_s], by rw [q_u2_n _ _ _ (by decide), q_u2_s, q_u1_n _ _ (by decide), b2], by rw [q_u2_n _ _ _ (by decide), q_u2_s, q_u1_n _ _ (by decide), d2], by rw [q_u2_s, q_u1_s], hv, q_tok_lt (l := l) (t := 2) (by have := (of_decide_eq_true hs).1; omega)⟩
          rw [key]
          simp (disch := first | rfl | omega | decide | exact Nat.le_of_ble_eq_true rfl) only [↓q_br, q_rt, q_rz, q_gd, q_ca, ↓reduceIte, F_X0_readWidth_103, F_X0_readWidth_124, ↓q_gA_19_0, ↓q_gA_19_2, ↓q_is_14, ↓q_pI_8_2, ↓q_is_14, tk, hs, q_b_0, Bool.true_eq_false, v3]
        · have hs' : q_sgn l 2 59 = false := by simpa using hs
          rw [if_neg hs]
          rw [if_neg hs] at tk
          refine ⟨q_ft I2 1 (nI 2), fun j _ j2 => by rw [hfr _ _ _ j j2, fI2 j j2], fun j _ => by rw [hfr _ _ _ 8 (by decide), fI2 8 (by decide)], ?_, (hft _ _ _).1, (hft _ _ _).2, by decide, by decide⟩
          rw [key]
          simp (disch := first | rfl | omega | decide | exact Nat.le_of_ble_eq_true rfl) only [↓q_br, q_rt, q_rz, q_gd, q_ca, ↓reduceIte, F_X0_readWidth_103, F_X0_readWidth_124, ↓q_gA_19_0, ↓q_gA_19_2, ↓q_is_14, ↓q_pI_8_2, ↓q_is_14, tk, hs', q_b_0]
      · rw [if_neg hv]
        refine ⟨q_ft I2 3 (nI 1), fun j _ j2 => by rw [hfr _ _ _ j j2, fI2 j j2], fun j _ => by rw [hfr _ _ _ 8 (by decide), fI2 8 (by decide)], ?_, (hft _ _ _).1, (hft _ _ _).2, by decide, by decide⟩
        rw [hI1] at tn a1
        have n8 : ¬ q_vn l 1 = 8 := fun h9 => hv (Or.inl h9)
        have n16 : ¬ q_vn l 1 = 16 := fun h9 => hv (Or.inr (Or.inl h9))
        have n32 : ¬ q_vn l 1 = 32 := fun h9 => hv (Or.inr (Or.inr h9))
        simp (disch := first | rfl | omega | decide | exact Nat.le_of_ble_eq_true rfl) only [↓q_br, q_rt, q_rz, q_gd, q_ca, ↓reduceIte, F_X0_readWidth, ↓q_gA_19_0, ↓q_gA_19_1, ↓q_gI_14_1, ↓q_is_14, ↓q_is_2, ↓q_pI_14_1, ↓q_is_2, ↓q_is_14, ha, c3, hw, q_b_0, Bool.true_eq_false, not_false_eq_true, nI_1, Nat.zero_add, a1, tn, e0, e8, e16, e32, n8, n16, n32, fl]
    · rw [if_neg hy]
      rw [if_neg (fun h9 => hy h9.1), if_neg hy] at tn
      refine ⟨q_ft I1 1 (nI 1), fun j _ j2 => by rw [hfr _ _ _ j j2, fI1 j j2], fun j _ => by rw [hfr _ _ _ 8 (by decide), fI1 8 (by decide)], ?_, (hft _ _ _).1, (hft _ _ _).2, by decide, by decide⟩
      rw [hI1] at tn a1
      have e0 : (0 ≤ lg_cmp (-1 : Int64) 0) = False := eq_false (by decide)
      rw [hI1]
      simp (disch := first | rfl | omega | decide | exact Nat.le_of_ble_eq_true rfl) only [↓q_br, q_rt, q_rz, q_gd, q_ca, ↓reduceIte, F_X0_readWidth, ↓q_gA_19_0, ↓q_gA_19_1, ↓q_gI_14_1, ↓q_is_14, ↓q_is_2, ↓q_pI_14_1, ↓q_is_2, ↓q_is_14, ha, c3, hw, q_b_0, Bool.true_eq_false, not_false_eq_true, nI_1, Nat.zero_add, a1, tn, e0]
  · rw [if_neg hw]
    have hw' : q_wd B l 0 3 = false := by simpa using hw
    have fl := q_fail (κ := κ) (b := b) (R := R) (X := X) (Y := Y) (Z := Z) (M := M) (O := O) (D := D) (s := s) (k := 1) ha
    refine ⟨q_ft I 1 (nI 0), fun j _ j2 => hfr _ _ _ j j2, fun j _ => by rw [hfr _ _ _ 8 (by decide)], ?_, (hft _ _ _).1, (hft _ _ _).2, by decide, by decide⟩
    simp (disch := first | rfl | omega | decide | exact Nat.le_of_ble_eq_true rfl) only [↓q_br, q_rt, q_rz, q_gd, q_ca, ↓reduceIte, F_X0_readWidth, ↓q_gA_19_0, ↓q_gA_19_1, ↓q_gI_14_1, ↓q_is_14, ↓q_is_2, ↓q_pI_14_1, ↓q_is_2, ↓q_is_14, ha, c3, hw', q_b_0, not_true_eq_false, fl]
end QRC
