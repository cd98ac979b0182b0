section QCF
variable {κ : Nat → Nat} {b : Nat}
theorem q_mfour_1 {C : q_CT} {P : Nat → Int32} {Q : Nat → Nat → Int32} {S : Nat → Nat → Int64} {O : Nat → Int64} {D : q_Mem} {s : Nat × Nat} {z f : Nat} {a l : Int32} (h3 : P 3 = nI z) (hz : z < 6000) (hl : ¬ l < 0) : F_X13_four_3 κ (f + 1) (some (b + 26)) a l (q_H b C (P, Q, S) O D, s) = F_X13_four_3 κ f (some (b + 26)) a (l + -8) (q_H b C (q_u1 P 3 (nI (z + 1)), q_u2 Q 27 z (q_by a l), S) O D, s) := by
  rw [F_X13_four_3]
  simp (disch := first | rfl | omega | decide | exact Nat.le_of_ble_eq_true rfl) only [↓q_br, q_rt, q_rz, q_gd, q_ca, ↓reduceIte, F_X13_four_3B, ↓q_gA_26_0, ↓q_gI_26_3, ↓q_pI_26_3, ↓q_sI_27, hl, h3, nI_1, pk_vb]
  rfl
theorem q_mfour {C : q_CT} {P : Nat → Int32} {Q : Nat → Nat → Int32} {S : Nat → Nat → Int64} {O : Nat → Int64} {D : q_Mem} {s : Nat × Nat} {z : Nat} (a : Int32) (h3 : P 3 = nI z) (hz : z + 4 ≤ 6000) : ∃ P' Q', F_X13_four κ (some (b + 26)) a (q_H b C (P, Q, S) O D, s) = some (.inl (), (q_H b C (P', Q', S) O D, s)) ∧ P' 3 = nI (z + 4) ∧ (∀ j, j ≠ 3 → P' j = P j) ∧ Q' 27 = q_w4 (Q 27) z a ∧ (∀ j, j ≠ 27 → Q' j = Q j) := by
  obtain ⟨f, hf⟩ : ∃ f, q_fu = f + 5 := ⟨q_fu - 5, by unfold q_fu; omega⟩
  refine ⟨q_u1 (q_u1 (q_u1 (q_u1 P 3 (nI (z + 1))) 3 (nI (z + 1 + 1))) 3 (nI (z + 1 + 1 + 1))) 3 (nI (z + 1 + 1 + 1 + 1)), q_u2 (q_u2 (q_u2 (q_u2 Q 27 z (q_by a 24)) 27 (z + 1) (q_by a 16)) 27 (z + 1 + 1) (q_by a 8)) 27 (z + 1 + 1 + 1) (q_by a 0), ?_, q_u1_s _ _ _, ?_, ?_, ?_⟩
  · unfold F_X13_four
    have e1 : (24 : Int32) + -8 = 16 := by decide
    have e2 : (16 : Int32) + -8 = 8 := by decide
    have e3 : (8 : Int32) + -8 = 0 := by decide
    have e4 : ((0 : Int32) + -8 < 0) = True := eq_true (by decide)
    rw [hf, q_mfour_1 h3 (by omega) (by decide), e1, q_mfour_1 (q_u1_s _ _ _) (by omega) (by decide), e2, q_mfour_1 (q_u1_s _ _ _) (by omega) (by decide), e3, q_mfour_1 (q_u1_s _ _ _) (by omega) (by decide), F_X13_four_3]
    simp (disch := first | rfl | omega | decide | exact Nat.le_of_ble_eq_true rfl) only [↓q_br, q_rt, q_rz, q_gd, q_ca, ↓reduceIte, F_X13_four_3B, ↓q_gA_26_0, ↓q_gI_26_3, ↓q_pI_26_3, ↓q_sI_27, e4]
  · intro j hj
    simp only [q_u1_n _ _ hj]
  · simp only [q_u2_s]
    rfl
  · intro j hj
    simp only [q_u2_n _ _ _ hj]
theorem q_step_feed (p0 p1 p2 p3 p4 : Int32) : q_Step κ b (F_L_feed κ (some (b + 1)) p0 p1 p2 p3 p4 (some (b + 66))) (F_X13_feed κ (some (b + 26)) p0 p1 p2 p3 p4) (fun v => v.toInt64) := by
  rintro ⟨I, R, X, Y, Z⟩ ⟨P, Q, S⟩ O D n m c22 c23 hV
  have hV0 := hV
  obtain ⟨hK, hb, ⟨zt, t1, t2, t3, t4⟩, -⟩ := hV
  have q7 : ∀ v, q_u1 P 7 v 7 = v := fun v => q_u1_s _ _ _
  have rm : F_X10_hasRoomFor κ (some (b + 2)) 20 (q_H b (I, R, X, Y, Z) (P, Q, S) O D, n, m) = _ := q_roomFor (κ := κ) (b := b) (s := (n, m)) (k := 20) t2 t1 (by decide)
  by_cases hz : zt + 20 ≤ 6000
  · rw [decide_eq_true hz] at rm
    obtain ⟨I1, X1, a1, a2, a3, a4, a5⟩ := q_addFour (κ := κ) (b := b) (R := R) (X := X) (Y := Y) (Z := Z) (M := (P, Q, S)) (O := O) (D := D) (s := (n, m)) p0 t2 (by omega)
    obtain ⟨I2, X2, b1, b2, b3, b4, b5⟩ := q_addFour (κ := κ) (b := b) (R := R) (X := X1) (Y := Y) (Z := Z) (M := (P, Q, S)) (O := O) (D := D) (s := (n, m)) p1 a2 (by omega)
    obtain ⟨I3, X3, c1, c2, c3, c4, c5⟩ := q_addFour (κ := κ) (b := b) (R := R) (X := X2) (Y := Y) (Z := Z) (M := (P, Q, S)) (O := O) (D := D) (s := (n, m)) p2 b2 (by omega)
    obtain ⟨I4, X4, d1, d2, d3, d4, d5⟩ := q_addFour (κ := κ) (b := b) (R := R) (X := X3) (Y := Y) (Z := Z) (M := (P, Q, S)) (O := O) (D := D) (s := (n, m)) p3 c2 (by omega)
    obtain ⟨I5, X5, e1, e2, e3, e4, e5⟩ := q_addFour (κ := κ) (b := b) (R := R) (X := X4) (Y := Y) (Z := Z) (M := (P, Q, S)) (O := O) (D := D) (s := (n, m)) p4 d2 (by omega)
    obtain ⟨O1, hO1⟩ : ∃ O1, O1 = q_u1 O 0 (nI (zt + 4 + 4 + 4 + 4 + 4)).toInt64 := ⟨_, rfl⟩
    obtain ⟨P1, Q1, f1, f2, f3, f4, f5⟩ := q_mfour (κ := κ) (b := b) (C := (I5, R, X5, Y, Z)) (P := q_u1 P 7 0) (Q := Q) (S := S) (O := O1) (D := D) (s := (n, m)) p0 (by rw [q_u1_n _ _ (by decide), t3]) (by omega)
    obtain ⟨P2, Q2, g1, g2, g3, g4, g5⟩ := q_mfour (κ := κ) (b := b) (C := (I5, R, X5, Y, Z)) (P := P1) (Q := Q1) (S := S) (O := O1) (D := D) (s := (n, m)) p1 f2 (by omega)
    obtain ⟨P3, Q3, h1, h2, h3, h4, h5⟩ := q_mfour (κ := κ) (b := b) (C := (I5, R, X5, Y, Z)) (P := P2) (Q := Q2) (S := S) (O := O1) (D := D) (s := (n, m)) p2 g2 (by omega)
    obtain ⟨P4, Q4, i1, i2, i3, i4, i5⟩ := q_mfour (κ := κ) (b := b) (C := (I5, R, X5, Y, Z)) (P := P3) (Q := Q3) (S := S) (O := O1) (D := D) (s := (n, m)) p3 h2 (by omega)
    obtain ⟨P5, Q5, j1, j2, j3, j4, j5⟩ := q_mfour (κ := κ) (b := b) (C := (I5, R, X5, Y, Z)) (P := P4) (Q := Q4) (S := S) (O := O1) (D := D) (s := (n, m)) p4 i2 (by omega)
    have w1 := q_w4_c p0 t4
    rw [← f4, ← a4] at w1
    have w2 := q_w4_c p1 w1
    rw [← g4, ← b4] at w2
    have w3 := q_w4_c p2 w2
    rw [← h4, ← c4] at w3
    have w4 := q_w4_c p3 w3
    rw [← i4, ← d4] at w4
    have w5 := q_w4_c p4 w4
    rw [← j4, ← e4] at w5
    refine ⟨0, nI (zt + 4 + 4 + 4 + 4 + 4), (I5, R, X5, Y, Z), O1, D, n, m, P5, Q5, S, D, n, m, c22, c23, ?_, ?_, by rw [j3 7 (by decide), i3 7 (by decide), h3 7 (by decide), g3 7 (by decide), f3 7 (by decide), q7], fun _ => by rw [hO1, q_u1_s], q_VI_T hV0 (Nat.le_refl _) ⟨zt + 4 + 4 + 4 + 4 + 4, by omega, e2, j2, w5⟩ (fun j hj => by rw [e3 j hj, d3 j hj, c3 j hj, b3 j hj, a3 j hj]) (fun j hj => by rw [e5 j (by omega), d5 j (by omega), c5 j (by omega), b5 j (by omega), a5 j (by omega)]) (fun _ _ => rfl) (fun j k1 k2 _ => by rw [j3 j k1, i3 j k1, h3 j k1, g3 j k1, f3 j k1, q_u1_n _ _ k2]) (fun j k1 _ _ => by rw [j5 j k1, i5 j k1, h5 j k1, g5 j k1, f5 j k1]) (fun _ _ => rfl), Nat.le_refl _, Nat.le_refl _, by omega, by omega⟩
    · rw [hO1]
      simp (disch := first | rfl | omega | decide | exact Nat.le_of_ble_eq_true rfl) only [F_L_feed, ↓q_is_1, q_cc, ↓q_br, q_rt, q_rz, q_gd, q_ca, ↓reduceIte, F_X11_feed, ↓q_gA_1_0, ↓q_gI_2_5, ↓q_is_2, ↓q_is_2, rm, q_b_0, Bool.true_eq_false, not_false_eq_true, a1, b1, c1, d1, e1, e2, ↓q_sO]
    · have le : nI (zt + 20) ≤ (6000 : Int32) := by rw [show (6000 : Int32) = nI 6000 from rfl, nI_leI (by omega) (by omega)]; exact hz
      have ad : nI zt + (20 : Int32) = nI (zt + 20) := nI_add zt 20
      simp (disch := first | rfl | omega | decide | exact Nat.le_of_ble_eq_true rfl) only [↓q_br, q_rt, q_rz, q_gd, q_ca, ↓reduceIte, F_X13_feed, F_X13_feed_19, ↓q_gI_26_3, ↓q_gI_26_7, ↓q_is_26, ↓q_pI_26_7, ↓q_is_26, t3, ad, le, q7, q_le0', f1, g1, h1, i1, j1, j2]
  · rw [decide_eq_false hz] at rm
    refine ⟨1, 0, (I, R, X, Y, Z), O, D, n + 1, m + 6, q_u1 P 7 1, Q, S, D, n + 1, m + 6, c22, c23, ?_, ?_, q_u1_s _ _ _, fun h9 => absurd h9 (by decide), q_VI_7 hV0 (by omega) (fun j hj => q_u1_n _ _ hj), by omega, by omega, by omega, by omega⟩
    · simp (disch := first | rfl | omega | decide | exact Nat.le_of_ble_eq_true rfl) only [F_L_feed, ↓q_is_1, q_cc, ↓q_br, q_rt, q_rz, q_gd, q_ca, ↓reduceIte, F_X11_feed, ↓q_gA_1_0, ↓q_gI_2_5, ↓q_is_2, ↓q_is_2, rm, q_b_0, not_true_eq_false, q_th]
    · have le : ¬ nI (zt + 20) ≤ (6000 : Int32) := by rw [show (6000 : Int32) = nI 6000 from rfl, nI_leI (by omega) (by omega)]; exact hz
      have ad : nI zt + (20 : Int32) = nI (zt + 20) := nI_add zt 20
      simp (disch := first | rfl | omega | decide | exact Nat.le_of_ble_eq_true rfl) only [↓q_br, q_rt, q_rz, q_gd, q_ca, ↓reduceIte, F_X13_feed, F_X13_feed_19, ↓q_gI_26_3, ↓q_gI_26_7, ↓q_is_26, ↓q_pI_26_7, t3, ad, le, q7, q_le0]
theorem q_mtake {C : q_CT} {P : Nat → Int32} {Q : Nat → Nat → Int32} {S : Nat → Nat → Int64} {O : Nat → Int64} {D : q_Mem} {s : Nat × Nat} {zt : Nat} (h3 : P 3 = nI zt) (hz : zt ≤ 6000) (hB : ∀ i, i < zt → q_By (Q 27 i)) : F_X13_take κ (some (b + 26)) (q_H b C (P, Q, S) O D, s) = some (.inl (), (q_H b C (q_u1 P 14 (nI zt), q_cp Q 27 28 0 0 zt, S) O D, s)) := by
  simp (disch := first | rfl | omega | decide | exact Nat.le_of_ble_eq_true rfl) only [↓q_br, q_rt, q_rz, q_gd, q_ca, ↓reduceIte, F_X13_take, ↓q_gA_26_0, ↓q_gA_26_1, ↓q_gI_26_3, ↓q_pI_26_14, h3]
  rw [← nI_0, q_cB_m (i := 27) (j := 28) (n1 := 6000) (n2 := 6000) (sp := 0) (dp := 0) (n := zt) rfl rfl (by decide) (by decide) (by omega) (by omega) (by decide) (fun x hx => by rw [Nat.zero_add]; exact hB x hx)]
  simp (disch := first | rfl | omega | decide | exact Nat.le_of_ble_eq_true rfl) only [↓q_br, q_rt, q_rz, q_gd, q_ca, ↓reduceIte, ↓q_gI_26_3, ↓q_pI_26_14, h3]
theorem q_step_end (x : Int32) : q_Step κ b (F_L_end κ (some (b + 1)) x (some (b + 66))) (F_X13_end κ (some (b + 26)) x) (fun v => v.toInt64) := by
  rintro ⟨I, R, X, Y, Z⟩ ⟨P, Q, S⟩ O D n m c22 c23 hV
  have hV0 := hV
  obtain ⟨hK, hb, ⟨zt, t1, t2, t3, t4⟩, -⟩ := hV
  have q7 : ∀ v, q_u1 P 7 v 7 = v := fun v => q_u1_s _ _ _
  by_cases hx : ¬ x < 0 ∧ x ≤ nI zt
  · obtain ⟨hx1, hx2⟩ := hx
    obtain ⟨a, ha, rfl⟩ := nI_of2 (x := x) (M := nI zt) (n := zt) (nI_toInt (by omega)) hx1 hx2
    have u4 : ∀ i, i < a → Q 27 i = X 3 i ∧ q_By (X 3 i) := fun i hi => t4 i (by omega)
    obtain ⟨I1, hI1⟩ : ∃ I1, I1 = q_u2 I 2 5 (nI a) := ⟨_, rfl⟩
    obtain ⟨X2, Y2, c1, c2, c3, c4⟩ := q_X10_scan (κ := κ) (b := b) (R := R) (Z := Z) (M := (P, Q, S)) (O := O) (D := D) (s := (n, m)) (ln := false) (z := a) (I := I1) (X := X) (Y := Y) hK (by omega) (by rw [hI1, q_u2_s, q_u1_s]) (fun i hi => (u4 i hi).2)
    obtain ⟨l, hl⟩ : ∃ l, l = q_sc false (X 3) a a 0 := ⟨_, rfl⟩
    rw [← hl] at c1 c2
    obtain ⟨I2, hI2⟩ : ∃ I2, I2 = q_u2 I1 2 6 (nI l.length) := ⟨_, rfl⟩
    rw [← hI2] at c1
    obtain ⟨O1, hO1⟩ : ∃ O1, O1 = q_u1 O 0 (nI l.length).toInt64 := ⟨_, rfl⟩
    obtain ⟨P1, hP1⟩ : ∃ P1, P1 = q_u1 (q_u1 P 7 0) 3 (nI a) := ⟨_, rfl⟩
    have tk := q_mtake (κ := κ) (b := b) (C := (I2, R, X2, Y2, Z)) (P := P1) (Q := Q) (S := S) (O := O1) (D := D) (s := (n, m)) (zt := a) (by rw [hP1, q_u1_s]) (by omega) (fun i hi => by rw [(u4 i hi).1]; exact (u4 i hi).2)
    obtain ⟨Q1, hQ1⟩ : ∃ Q1, Q1 = q_cp Q 27 28 0 0 a := ⟨_, rfl⟩
    rw [← hQ1] at tk
    have q28 : ∀ i, i < a → Q1 28 i = X 3 i := fun i hi => by rw [hQ1, q_cp_s, q_cpy_b hi, (u4 i hi).1]
    obtain ⟨Q3, S3, d1, d2, d3, d4⟩ := q_X13_scan (κ := κ) (b := b) (C := (I2, R, X2, Y2, Z)) (O := O1) (D := D) (s := (n, m)) (ln := false) (z := a) (P := q_u1 P1 14 (nI a)) (Q := Q1) (S := S) hK (by omega) (by rw [q_u1_s]) (fun i hi => by rw [q28 i hi]; exact (u4 i hi).2)
    rw [q_sc_c q28, ← hl] at d1 d2
    have qb0 : q_b false = 0 := rfl
    rw [qb0] at c1 d1
    refine ⟨0, nI l.length, (I2, R, X2, Y2, Z), O1, D, n, m, q_u1 (q_u1 P1 14 (nI a)) 13 (nI l.length), Q3, S3, D, n, m, c22, c23, ?_, ?_, by rw [q_u1_n _ _ (by decide), q_u1_n _ _ (by decide), hP1, q_u1_n _ _ (by decide), q7], fun _ => by rw [hO1, q_u1_s], q_VI_T hV0 (Nat.le_refl _) ⟨a, by omega, by rw [hI2, hI1, q_u2_s, q_u1_n _ _ (by decide), q_u2_s, q_u1_s], by rw [q_u1_n _ _ (by decide), q_u1_n _ _ (by decide), hP1, q_u1_s], fun i hi => by rw [d3 27 (by decide) (by decide) (by decide), hQ1, q_cp_n _ (by decide), c3 3 (by decide) (by decide) (by decide)]; exact u4 i hi⟩ (fun j hj => by rw [hI2, hI1, q_u2_n _ _ _ hj, q_u2_n _ _ _ hj]) (fun j hj => c3 j (by omega) (by omega) (by omega)) (fun j hj => c4 j hj) (fun j k1 k2 k3 => by rw [q_u1_n _ _ (by omega), q_u1_n _ _ (by omega), hP1, q_u1_n _ _ k1, q_u1_n _ _ k2]) (fun j k1 k2 k3 => by rw [d3 j (by omega) (by omega) (by omega), hQ1, q_cp_n _ k2]) (fun j k1 => d4 j k1), Nat.le_refl _, Nat.le_refl _, by omega, by omega⟩
    · rw [hO1]
      have ll : (nI a ≤ nI zt) = True := eq_true hx2
      simp (disch := first | rfl | omega | decide | exact Nat.le_of_ble_eq_true rfl) only [F_L_end, ↓q_is_1, q_cc, ↓q_br, q_rt, q_rz, q_gd, q_ca, ↓reduceIte, F_X11_end, ↓q_gA_1_0, ↓q_gI_2_5, ↓q_is_2, ↓q_pI_2_5, ↓q_is_2, t2, hx1, ll, ← hI1, c1, ↓q_sO]
    · have ll : (nI a ≤ nI zt) = True := eq_true hx2
      have e7 : q_u1 (q_u1 P1 14 (nI a)) 13 (nI l.length) 13 = nI l.length := q_u1_s _ _ _
      simp (disch := first | rfl | omega | decide | exact Nat.le_of_ble_eq_true rfl) only [↓q_br, q_rt, q_rz, q_gd, q_ca, ↓reduceIte, F_X13_end, F_X13_end_18, ↓q_gI_26_13, ↓q_gI_26_3, ↓q_gI_26_7, ↓q_is_26, ↓q_pI_26_3, ↓q_pI_26_7, ↓q_is_26, t3, hx1, ll, q7, q_le0', ← hP1, tk, d1, e7]
  · refine ⟨1, 0, (I, R, X, Y, Z), O, D, n + 1, m + 6, q_u1 P 7 1, Q, S, D, n + 1, m + 6, c22, c23, ?_, ?_, q_u1_s _ _ _, fun h9 => absurd h9 (by decide), q_VI_7 hV0 (by omega) (fun j hj => q_u1_n _ _ hj), by omega, by omega, by omega, by omega⟩
    · by_cases h1 : x < 0
      · simp (disch := first | rfl | omega | decide | exact Nat.le_of_ble_eq_true rfl) only [F_L_end, ↓q_is_1, q_cc, ↓q_br, q_rt, q_rz, q_gd, q_ca, ↓reduceIte, F_X11_end, F_X11_end_15, ↓q_gA_1_0, ↓q_gI_2_5, ↓q_is_2, ↓q_pI_2_5, h1, q_th]
      · have h2 : ¬ x ≤ nI zt := fun h => hx ⟨h1, h⟩
        simp (disch := first | rfl | omega | decide | exact Nat.le_of_ble_eq_true rfl) only [F_L_end, ↓q_is_1, q_cc, ↓q_br, q_rt, q_rz, q_gd, q_ca, ↓reduceIte, F_X11_end, F_X11_end_15, ↓q_gA_1_0, ↓q_gI_2_5, ↓q_is_2, ↓q_pI_2_5, t2, h1, h2, q_th]
    · by_cases h1 : x < 0
      · simp (disch := first | rfl | omega | decide | exact Nat.le_of_ble_eq_true rfl) only [↓q_br, q_rt, q_rz, q_gd, q_ca, ↓reduceIte, F_X13_end, F_X13_end_13, F_X13_end_18, ↓q_gI_26_13, ↓q_gI_26_3, ↓q_gI_26_7, ↓q_is_26, ↓q_pI_26_3, ↓q_pI_26_7, h1, q7, q_le0]
      · have h2 : ¬ x ≤ nI zt := fun h => hx ⟨h1, h⟩
        simp (disch := first | rfl | omega | decide | exact Nat.le_of_ble_eq_true rfl) only [↓q_br, q_rt, q_rz, q_gd, q_ca, ↓reduceIte, F_X13_end, F_X13_end_13, F_X13_end_18, ↓q_gI_26_13, ↓q_gI_26_3, ↓q_gI_26_7, ↓q_is_26, ↓q_pI_26_3, ↓q_pI_26_7, t3, h1, h2, q7, q_le0]
theorem q_quote_31 {R : Nat → Nat → Option Nat} {Y : Nat → Nat → Int64} {Z : Nat → Nat → Option Nat} {M : q_MT} {O : Nat → Int64} {D : q_Mem} {s : Nat × Nat} {z k : Nat} (hz : z + (k + 1) ≤ 6000) (hk : k ≤ 200) : ∀ d fuel o (I X : Nat → Nat → Int32), o + d = k → d < fuel → I 15 5 = nI k → I 2 5 = nI (z + o) → (∀ i, i < k → q_By (X 18 i)) → ∃ I' X', F_X11_quote_31 κ fuel (some (b + 1)) (nI o) (q_H b (I, R, X, Y, Z) M O D, s) = some (.inl (nI (z + k + 1)), (q_H b (I', R, X', Y, Z) M O D, s)) ∧ I' 2 5 = nI (z + k + 1) ∧ (∀ j, j ≠ 2 → I' j = I j) ∧ (∀ j, j ≠ 3 → X' j = X j) ∧ (∀ i, i < z + o → X' 3 i = X 3 i) ∧ (∀ i, o ≤ i → i < k → X' 3 (z + i) = X 18 i) ∧ X' 3 (z + k) = 10 := by
  intro d
  induction d with
  | zero =>
    intro fuel o I X h1 h2 h3 h4 h5
    obtain ⟨f, rfl⟩ : ∃ f, fuel = f + 1 := ⟨fuel - 1, by omega⟩
    have ho : o = k := by omega
    subst ho
    have e1 := q_addByte (κ := κ) (b := b) (R := R) (X := X) (Y := Y) (Z := Z) (M := M) (O := O) (D := D) (s := s) (v := 10) h4 (by omega)
    have t10 : (10 : Int32).toInt8.toInt32 = 10 := by decide
    rw [t10] at e1
    refine ⟨q_u2 I 2 5 (nI (z + o + 1)), q_u2 X 3 (z + o) 10, ?_, by rw [q_u2_s, q_u1_s], fun j hj => q_u2_n _ _ _ hj, fun j hj => q_u2_n _ _ _ hj, fun i hi => by rw [q_u2_s, q_u1_n _ _ (by omega)], fun i i1 i2 => by omega, by rw [q_u2_s, q_u1_s]⟩
    have h6 : (nI o ≤ nI o) = True := eq_true (nI_le (Nat.le_refl _) (by omega))
    have h7 : q_u2 I 2 5 (nI (z + o + 1)) 2 5 = nI (z + o + 1) := by rw [q_u2_s, q_u1_s]
    rw [F_X11_quote_31]
    simp (disch := first | rfl | omega | decide | exact Nat.le_of_ble_eq_true rfl) only [↓q_br, q_rt, q_rz, q_gd, q_ca, ↓reduceIte, F_X11_quote_31B, ↓q_gA_15_4, ↓q_gA_1_0, ↓q_gA_1_6, ↓q_gI_15_5, ↓q_gI_2_5, ↓q_is_2, ↓q_lI_18, ↓q_is_2, h3, h6, e1, h7]
  | succ d ih =>
    intro fuel o I X h1 h2 h3 h4 h5
    obtain ⟨f, rfl⟩ : ∃ f, fuel = f + 1 := ⟨fuel - 1, by omega⟩
    have hB := q_By_m (h5 o (by omega))
    have e1 := q_addByte (κ := κ) (b := b) (R := R) (X := X) (Y := Y) (Z := Z) (M := M) (O := O) (D := D) (s := s) (v := X 18 o) h4 (by omega)
    rw [hB] at e1
    obtain ⟨I', X', r1, r2, r3, r4, r5, r6, r7⟩ := ih f (o + 1) (q_u2 I 2 5 (nI (z + o + 1))) (q_u2 X 3 (z + o) (X 18 o)) (by omega) (by omega) (by rw [q_u2_n _ _ _ (by decide), h3]) (by rw [q_u2_s, q_u1_s]; rfl) (fun i hi => by rw [q_u2_n _ _ _ (by decide)]; exact h5 i hi)
    refine ⟨I', X', ?_, r2, fun j hj => by rw [r3 j hj, q_u2_n _ _ _ hj], fun j hj => by rw [r4 j hj, q_u2_n _ _ _ hj], fun i hi => by rw [r5 i (by omega), q_u2_s, q_u1_n _ _ (by omega)], fun i i1 i2 => ?_, r7⟩
    · have h6 : ¬ nI k ≤ nI o := nI_ge (by omega) (by omega)
      rw [F_X11_quote_31]
      simp (disch := first | rfl | omega | decide | exact Nat.le_of_ble_eq_true rfl) only [↓q_br, q_rt, q_rz, q_gd, q_ca, ↓reduceIte, F_X11_quote_31B, ↓q_gA_15_4, ↓q_gA_1_0, ↓q_gA_1_6, ↓q_gI_15_5, ↓q_gI_2_5, ↓q_is_2, ↓q_lI_18, ↓q_is_2, h3, h6, e1, nI_1, r1]
    · by_cases hio : i = o
      · subst hio
        rw [r5 (z + i) (by omega), q_u2_s, q_u1_s]
      · rw [r6 i (by omega) i2, q_u2_n _ _ _ (by decide)]
theorem q_step_quote : q_Step κ b (F_L_quote κ (some (b + 1)) (some (b + 66))) (F_X13_quote κ (some (b + 26))) (fun v => v.toInt64) := by
  rintro ⟨I, R, X, Y, Z⟩ ⟨P, Q, S⟩ O D n m c22 c23 hV
  have hV0 := hV
  obtain ⟨hK, hb, ⟨zt, t1, t2, t3, t4⟩, -, -, -, -, -, ⟨l1, k, l2, l3, l4, l5⟩, -⟩ := hV
  have q7 : ∀ v, q_u1 P 7 v 7 = v := fun v => q_u1_s _ _ _
  have rm := q_roomFor (κ := κ) (b := b) (R := R) (X := X) (Y := Y) (Z := Z) (M := (P, Q, S)) (O := O) (D := D) (s := (n, m)) (k := k + 1) t2 t1 (by omega)
  have h6 : (6000 : Int32) = nI 6000 := rfl
  by_cases hz : zt + (k + 1) ≤ 6000
  · rw [decide_eq_true hz] at rm
    obtain ⟨I1, X1, a1, a2, a3, a4, a5, a6, a7⟩ := q_quote_31 (κ := κ) (b := b) (R := R) (Y := Y) (Z := Z) (M := (P, Q, S)) (O := O) (D := D) (s := (n, m)) hz l2 k q_fu 0 I X (by omega) (by unfold q_fu; omega) l3 t2 (fun i hi => (l5 i hi).2)
    rw [nI_0] at a1
    obtain ⟨O1, hO1⟩ : ∃ O1, O1 = q_u1 O 0 (nI (zt + k + 1)).toInt64 := ⟨_, rfl⟩
    obtain ⟨Q1, hQ1⟩ : ∃ Q1, Q1 = q_cp Q 29 27 0 zt k := ⟨_, rfl⟩
    have q27 : ∀ i, i < zt → Q1 27 i = Q 27 i := fun i hi => by rw [hQ1, q_cp_s, pk_cpy_out (Or.inl hi)]
    have q27' : ∀ i, i < k → Q1 27 (zt + i) = Q 29 i := fun i hi => by rw [hQ1, q_cp_s, pk_cpy_in (by omega) (by omega), Nat.zero_add, Nat.add_sub_cancel_left]
    obtain ⟨P2, hP2⟩ : ∃ P2, P2 = q_u1 (q_u1 (q_u1 P 7 0) 3 (nI (zt + k))) 3 (nI (zt + k + 1)) := ⟨_, rfl⟩
    refine ⟨0, nI (zt + k + 1), (I1, R, X1, Y, Z), O1, D, n, m, P2, q_u2 Q1 27 (zt + k) 10, S, D, n, m, c22, c23, ?_, ?_, by rw [hP2, q_u1_n _ _ (by decide), q_u1_n _ _ (by decide), q7], fun _ => by rw [hO1, q_u1_s], q_VI_T hV0 (Nat.le_refl _) ⟨zt + k + 1, by omega, a2, by rw [hP2, q_u1_s], fun i hi => ?_⟩ a3 (fun j hj => a4 j (by omega)) (fun _ _ => rfl) (fun j k1 k2 _ => by rw [hP2, q_u1_n _ _ k1, q_u1_n _ _ k1, q_u1_n _ _ k2]) (fun j k1 _ _ => by rw [q_u2_n _ _ _ k1, hQ1, q_cp_n _ k1]) (fun _ _ => rfl), Nat.le_refl _, Nat.le_refl _, by omega, by omega⟩
    · rw [hO1]
      simp (disch := first | rfl | omega | decide | exact Nat.le_of_ble_eq_true rfl) only [F_L_quote, ↓q_is_1, q_cc, ↓q_br, q_rt, q_rz, q_gd, q_ca, ↓reduceIte, F_X11_quote, ↓q_gA_1_0, ↓q_gA_1_6, ↓q_gI_15_5, ↓q_is_2, ↓q_is_2, l3, nI_1, rm, q_b_0, Bool.true_eq_false, not_false_eq_true, a1, ↓q_sO]
    · have le : (nI (zt + k + 1) ≤ (6000 : Int32)) = True := eq_true (by rw [h6, nI_leI (by omega) (by omega)]; omega)
      have v3 : q_u1 P 7 0 3 = nI zt := by rw [q_u1_n _ _ (by decide), t3]
      have v4 : q_u1 P 7 0 4 = nI k := by rw [q_u1_n _ _ (by decide), l4]
      have w3 : ∀ v, q_u1 (q_u1 P 7 0) 3 v 3 = v := fun v => q_u1_s _ _ _
      have x3 : ∀ v w, q_u1 (q_u1 (q_u1 P 7 0) 3 v) 3 w 3 = w := fun v w => q_u1_s _ _ _
      have t10 : vp_nar .byte (10 : Int32) = 10 := by decide
      simp (disch := first | rfl | omega | decide | exact Nat.le_of_ble_eq_true rfl) only [↓q_br, q_rt, q_rz, q_gd, q_ca, ↓reduceIte, F_X13_quote, F_X13_quote_23, ↓q_gA_26_0, ↓q_gA_26_2, ↓q_gI_26_3, ↓q_gI_26_4, ↓q_gI_26_7, ↓q_pI_26_3, ↓q_pI_26_7, ↓q_sI_27, ↓q_sI_29, t3, l4, nI_add, nI_1, le, q7, q_le0', v3, v4]
      rw [← nI_0, q_cB_m (i := 29) (j := 27) (n1 := 400) (n2 := 6000) (sp := 0) (dp := zt) (n := k) rfl rfl (by decide) (by decide) (by omega) (by omega) (by decide) (fun x hx => by rw [Nat.zero_add, (l5 x hx).1]; exact (l5 x hx).2), ← hQ1]
      rw [nI_0, hP2]
      simp (disch := first | rfl | omega | decide | exact Nat.le_of_ble_eq_true rfl) only [↓q_br, q_rt, q_rz, q_gd, q_ca, ↓reduceIte, ↓q_gI_26_3, ↓q_gI_26_4, ↓q_pI_26_3, ↓q_gA_26_0, ↓q_sI_27, v3, v4, nI_add, w3, nI_1, t10, x3]
    · by_cases hi1 : i < zt
      · rw [q_u2_s, q_u1_n _ _ (by omega), q27 i hi1, a5 i (by omega)]
        exact t4 i hi1
      · obtain ⟨j, rfl⟩ : ∃ j, i = zt + j := ⟨i - zt, by omega⟩
        by_cases hj : j < k
        · rw [q_u2_s, q_u1_n _ _ (by omega), q27' j hj, a6 j (by omega) hj]
          exact l5 j hj
        · have hjk : j = k := by omega
          subst hjk
          rw [q_u2_s, q_u1_s, a7]
          exact ⟨rfl, by decide, by decide⟩
  · rw [decide_eq_false hz] at rm
    refine ⟨1, 0, (I, R, X, Y, Z), O, D, n + 1, m + 6, q_u1 P 7 1, Q, S, D, n + 1, m + 6, c22, c23, ?_, ?_, q_u1_s _ _ _, fun h9 => absurd h9 (by decide), q_VI_7 hV0 (by omega) (fun j hj => q_u1_n _ _ hj), by omega, by omega, by omega, by omega⟩
    · simp (disch := first | rfl | omega | decide | exact Nat.le_of_ble_eq_true rfl) only [F_L_quote, ↓q_is_1, q_cc, ↓q_br, q_rt, q_rz, q_gd, q_ca, ↓reduceIte, F_X11_quote, ↓q_gA_1_0, ↓q_gA_1_6, ↓q_gI_15_5, ↓q_is_2, ↓q_is_2, l3, nI_1, rm, q_b_0, not_true_eq_false, q_th]
    · have le : (nI (zt + k + 1) ≤ (6000 : Int32)) = False := eq_false (by rw [h6, nI_leI (by omega) (by omega)]; omega)
      simp (disch := first | rfl | omega | decide | exact Nat.le_of_ble_eq_true rfl) only [↓q_br, q_rt, q_rz, q_gd, q_ca, ↓reduceIte, F_X13_quote, F_X13_quote_23, ↓q_gA_26_0, ↓q_gA_26_2, ↓q_gI_26_3, ↓q_gI_26_4, ↓q_gI_26_7, ↓q_pI_26_3, ↓q_pI_26_7, ↓q_sI_27, ↓q_sI_29, t3, l4, nI_add, nI_1, le, q7, q_le0]
end QCF
