section QCC
variable {κ : Nat → Nat} {b : Nat}
theorem q_shlz {z : Nat} (h : z ≤ 32) : (1 : Int64) <<< ((nI z).toInt64 &&& 63) = lN (2 ^ z) := q_shl1 z (by omega)
theorem q_put {I : Nat → Nat → Int32} {R : Nat → Nat → Option Nat} {X : Nat → Nat → Int32} {Y : Nat → Nat → Int64} {Z : Nat → Nat → Option Nat} {M : q_MT} {O : Nat → Int64} {D : q_Mem} {s : Nat × Nat} {j : Nat} {v : Int64} (hj : j < 4096) (hI : I 11 2 = nI (q_lc (X 13) 4096)) (hX : X 13 j = 0 ∨ X 13 j = 1) : ∃ I' X', F_X6_put κ (some (b + 11)) (nI j) v (q_H b (I, R, X, Y, Z) M O D, s) = some (.inl (), (q_H b (I', R, X', q_u2 Y 12 j v, Z) M O D, s)) ∧ (∀ i, i ≠ 11 → I' i = I i) ∧ I' 11 2 = nI (q_lc (q_u1 (X 13) j 1) 4096) ∧ (∀ i, i ≠ 13 → X' i = X i) ∧ X' 13 = q_u1 (X 13) j 1 := by
  rcases hX with h0 | h0
  · refine ⟨q_u2 I 11 2 (nI (q_lc (X 13) 4096 + 1)), q_u2 X 13 j 1, ?_, fun i hi => q_u2_n _ _ _ hi, by rw [q_u2_s, q_u1_s, q_lc_in 4096 hj h0], fun i hi => q_u2_n _ _ _ hi, q_u2_s _ _ _ _⟩
    have vn : vp_nar .boolean (1 : Int32) = 1 := by decide
    simp (disch := first | rfl | omega | decide | exact Nat.le_of_ble_eq_true rfl) only [↓q_br, q_rt, q_rz, q_gd, q_ca, ↓reduceIte, F_X6_put, F_X6_put_26, ↓q_gA_11_0, ↓q_gA_11_1, ↓q_gI_11_2, ↓q_lI_13, ↓q_pI_11_2, ↓q_sI_13, ↓q_sL_12, h0, not_true_eq_false, vn, hI, nI_1]
  · refine ⟨I, X, ?_, fun _ _ => rfl, by rw [q_u1_id _ _ h0, hI], fun _ _ => rfl, (q_u1_id _ _ h0).symm⟩
    have one : ¬ (1 : Int32) = 0 := by decide
    simp (disch := first | rfl | omega | decide | exact Nat.le_of_ble_eq_true rfl) only [↓q_br, q_rt, q_rz, q_gd, q_ca, ↓reduceIte, F_X6_put, F_X6_put_26, ↓q_gA_11_0, ↓q_gA_11_1, ↓q_gI_11_2, ↓q_lI_13, ↓q_pI_11_2, ↓q_sI_13, ↓q_sL_12, h0, one, not_false_eq_true]
theorem q_step_poke (x : Int32) (v : Int64) : q_Step κ b (F_L_poke κ (some (b + 1)) x v (some (b + 66))) (F_X13_poke κ (some (b + 26)) x v) (fun v => v.toInt64) := by
  rintro ⟨I, R, X, Y, Z⟩ ⟨P, Q, S⟩ O D n m c22 c23 hV
  have hV0 := hV
  obtain ⟨hK, hb, ⟨zt, t1, t2, t3, t4⟩, hk, hp, hlb, hrd, ⟨z, L, Js, hD, m1, m2, m3⟩, ⟨l1, k, l2, l3, l4, l5⟩, hA⟩ := hV
  have hD0 := hD
  obtain ⟨h1, h2, h3, -⟩ := hD
  have q7 : ∀ v, q_u1 P 7 v 7 = v := fun v => q_u1_s _ _ _
  have hz32 : z ≤ 32 := by rcases h1 with ⟨h, -, -⟩ | h | h | h <;> omega
  by_cases hz : z = 0
  · subst hz
    rw [nI_0] at h2 h3
    refine ⟨1, 0, (I, R, X, Y, Z), O, D, n + 1, m + 6, q_u1 P 7 1, Q, S, D, n + 1, m + 6, c22, c23, ?_, ?_, q_u1_s _ _ _, fun h9 => absurd h9 (by decide), q_VI_7 hV0 (by omega) (fun j hj => q_u1_n _ _ hj), by omega, by omega, by omega, by omega⟩
    · simp (disch := first | rfl | omega | decide | exact Nat.le_of_ble_eq_true rfl) only [F_L_poke, ↓q_is_1, q_cc, ↓q_br, q_rt, q_rz, q_gd, q_ca, ↓reduceIte, F_X11_poke, ↓q_gA_1_2, ↓q_gA_1_3, ↓q_gI_11_2, ↓q_gI_8_2, ↓q_is_11, ↓q_is_8, h2, not_true_eq_false, q_th]
    · simp (disch := first | rfl | omega | decide | exact Nat.le_of_ble_eq_true rfl) only [↓q_br, q_rt, q_rz, q_gd, q_ca, ↓reduceIte, F_X13_poke, F_X13_poke_45, ↓q_gA_26_41, ↓q_gI_26_21, ↓q_gI_26_42, ↓q_gI_26_7, ↓q_lI_54, ↓q_pI_26_42, ↓q_pI_26_7, h3, not_true_eq_false, q7, q_le0]
  · have hz0 : ¬ nI z = 0 := nI_ne0 (by omega) (by omega)
    have sh := q_shlz hz32
    have hw : F_X5_highestWord κ (some (b + 8)) (q_H b (I, R, X, Y, Z) (P, Q, S) O D, n, m) = some (.inl (lN (2 ^ z) - 1), (q_H b (I, R, X, Y, Z) (P, Q, S) O D, n, m)) := by
      simp (disch := first | rfl | omega | decide | exact Nat.le_of_ble_eq_true rfl) only [↓q_br, q_rt, q_rz, q_gd, q_ca, ↓reduceIte, F_X5_highestWord, ↓q_gI_8_2, h2, sh]
    have p2 : 2 ^ z ≤ 2 ^ 32 := Nat.pow_le_pow_right (by decide) hz32
    have p1 : 0 < 2 ^ z := Nat.pos_of_ne_zero (by simp)
    have lt : v ≤ lN (2 ^ z) - 1 ↔ v < lN (2 ^ z) := by
      have e : (lN (2 ^ z) - 1).toInt = ((2 ^ z - 1 : Nat) : Int) := by
        have : lN (2 ^ z) - 1 = lN (2 ^ z - 1) := by
          have e9 : lN (2 ^ z) = lN (2 ^ z - 1) + 1 := by
            have : 2 ^ z = 2 ^ z - 1 + 1 := by omega
            conv => lhs; rw [this]
            exact (Int64.ofNat_add _ 1)
          rw [e9]
          simp
        rw [this, q_lN_i (by omega)]
      rw [Int64.le_iff_toInt_le, Int64.lt_iff_toInt_lt, e, q_lN_i (by omega)]
      omega
    by_cases hx : ¬ x < 0 ∧ ¬ (4096 : Int32) ≤ x ∧ ¬ v < 0 ∧ v < lN (2 ^ z)
    · obtain ⟨hx1, hx2, hx3, hx4⟩ := hx
      obtain ⟨j, j1, rfl⟩ := nI_of hx1
      have hj : j < 4096 := by
        have := mt (fun h => nI_le (a := 4096) (b := j) h j1) hx2
        omega
      obtain ⟨w, hw1, hw2⟩ : ∃ w, w < 2 ^ z ∧ v = lN w := by
        have a1 := Int64.le_iff_toInt_le.mp (Int64.not_lt.mp hx3)
        have a2 := Int64.lt_iff_toInt_lt.mp hx4
        rw [q_lN_i (by omega)] at a2
        have a3 : (0 : Int64).toInt = 0 := by decide
        rw [a3] at a1
        refine ⟨v.toInt.toNat, by omega, Int64.toInt_inj.mp ?_⟩
        rw [q_lN_i (by omega)]
        omega
      obtain ⟨e1, e2, e3⟩ := m3 j hj
      obtain ⟨I', X', r1, r2, r3, r4, r5⟩ := q_put (κ := κ) (b := b) (R := R) (Y := Y) (Z := Z) (M := (P, Q, S)) (O := O) (D := D) (s := (n, m)) (v := v) hj m1 e2
      have c1 : (lg_cmp v 0 < 0) = False := eq_false (by rw [lg_cmp_lt]; exact hx3)
      have c2 : (lg_cmp v (lN (2 ^ z) - 1) ≤ 0) = True := eq_true (by rw [lg_cmp_le]; exact lt.mpr hx4)
      have c3 : (lg_cmp v (lN (2 ^ z)) < 0) = True := eq_true (by rw [lg_cmp_lt]; exact hx4)
      obtain ⟨P', Q', g1, g2, g3, g4, g5⟩ : ∃ P' Q', (∀ O1, F_X13_poke κ (some (b + 26)) (nI j) v (q_H b (I', R, X', q_u2 Y 12 j v, Z) (P, Q, S) O1 D, n, m) = some (.inl (nI (q_lc (q_u1 (X 13) j 1) 4096)), (q_H b (I', R, X', q_u2 Y 12 j v, Z) (P', Q', q_u2 S 53 j v) O1 D, n, m))) ∧ P' 7 = 0 ∧ (∀ i, i ≠ 7 → i ≠ 42 → P' i = P i) ∧ P' 42 = nI (q_lc (q_u1 (X 13) j 1) 4096) ∧ Q' = q_u2 Q 54 j 1 := by
        have vn : vp_nar .boolean (1 : Int32) = 1 := by decide
        have q42 : q_u1 P 7 0 42 = P 42 := q_u1_n _ _ (by decide)
        have q42' : ∀ w, q_u1 (q_u1 P 7 0) 42 w 42 = w := fun w => q_u1_s _ _ _
        rcases e2 with h0 | h0
        · refine ⟨q_u1 (q_u1 P 7 0) 42 (nI (q_lc (X 13) 4096 + 1)), q_u2 Q 54 j 1, fun O1 => ?_, by rw [q_u1_n _ _ (by decide), q_u1_s], fun i i1 i2 => by rw [q_u1_n _ _ i2, q_u1_n _ _ i1], by rw [q_u1_s, q_lc_in 4096 hj h0], rfl⟩
          rw [h0] at e1
          simp (disch := first | rfl | omega | decide | exact Nat.le_of_ble_eq_true rfl) only [↓q_br, q_rt, q_rz, q_gd, q_ca, ↓reduceIte, F_X13_poke, F_X13_poke_45, F_X13_poke_76, ↓q_gA_26_40, ↓q_gA_26_41, ↓q_gI_26_21, ↓q_gI_26_42, ↓q_gI_26_7, ↓q_lI_54, ↓q_pI_26_42, ↓q_pI_26_7, ↓q_sI_54, ↓q_sL_53, h3, hz0, not_false_eq_true, hx1, hx2, c1, sh, c3, q7, q_le0', e1, not_true_eq_false, q42, m2, nI_1, q42', vn, q_lc_in 4096 hj h0]
        · refine ⟨q_u1 P 7 0, q_u2 Q 54 j 1, fun O1 => ?_, q_u1_s _ _ _, fun i i1 _ => q_u1_n _ _ i1, by rw [q42, m2, q_u1_id _ _ h0], rfl⟩
          rw [h0] at e1
          have one : ¬ (1 : Int32) = 0 := by decide
          simp (disch := first | rfl | omega | decide | exact Nat.le_of_ble_eq_true rfl) only [↓q_br, q_rt, q_rz, q_gd, q_ca, ↓reduceIte, F_X13_poke, F_X13_poke_45, F_X13_poke_76, ↓q_gA_26_40, ↓q_gA_26_41, ↓q_gI_26_21, ↓q_gI_26_42, ↓q_gI_26_7, ↓q_lI_54, ↓q_pI_26_42, ↓q_pI_26_7, ↓q_sI_54, ↓q_sL_53, h3, hz0, not_false_eq_true, hx1, hx2, c1, sh, c3, q7, q_le0', e1, one, q42, m2, vn, q_u1_id _ _ h0]
      refine ⟨0, nI (q_lc (q_u1 (X 13) j 1) 4096), (I', R, X', q_u2 Y 12 j v, Z), q_u1 O 0 (nI (q_lc (q_u1 (X 13) j 1) 4096)).toInt64, D, n, m, P', Q', q_u2 S 53 j v, D, n, m, c22, c23, ?_, g1 _, g2, fun _ => q_u1_s _ _ _, ?_, Nat.le_refl _, Nat.le_refl _, by omega, by omega⟩
      · simp (disch := first | rfl | omega | decide | exact Nat.le_of_ble_eq_true rfl) only [F_L_poke, ↓q_is_1, q_cc, ↓q_br, q_rt, q_rz, q_gd, q_ca, ↓reduceIte, F_X11_poke, ↓q_gA_1_2, ↓q_gA_1_3, ↓q_gI_11_2, ↓q_gI_8_2, ↓q_is_11, ↓q_is_8, h2, hz0, not_false_eq_true, hx1, hx2, c1, ↓q_is_8, ↓q_is_11, hw, c2, r1, r3, ↓q_sO]
      · have nq : ∀ i, i ≠ 54 → Q' i = Q i := fun i hi => by rw [g5, q_u2_n _ _ _ hi]
        refine ⟨hK, hb, ⟨zt, t1, by rw [r2 2 (by decide), t2], by rw [g3 3 (by decide) (by decide), t3], fun i hi => by rw [r4 3 (by decide), nq 27 (by decide)]; exact t4 i hi⟩, by rw [r2 14 (by decide), g3 5 (by decide) (by decide), hk], by rw [r2 14 (by decide), g3 6 (by decide) (by decide), hp], by rw [r2 23 (by decide), g3 43 (by decide) (by decide), hlb], by rw [r2 21 (by decide), g3 44 (by decide) (by decide), hrd], ⟨z, L, Js, q_VD_P hD0 (Nat.le_refl _) (fun _ _ _ _ => rfl) (r2 8 (by decide)) (fun i i1 i2 => g3 i (by omega) (by omega)) (fun i i1 i2 => nq i (by omega)), ?_⟩, ⟨by rw [r2 15 (by decide), g3 8 (by decide) (by decide), l1], k, l2, by rw [r2 15 (by decide), l3], by rw [g3 4 (by decide) (by decide), l4], fun i hi => by rw [r4 18 (by decide), nq 29 (by decide)]; exact l5 i hi⟩, q_VA_mo hA (Nat.le_refl _) (fun _ _ => rfl) (by rw [r2 22 (by decide)]) (by rw [r2 23 (by decide)]) rfl rfl⟩
        exact q_VM_put ⟨m1, m2, m3⟩ hw1 r3 g4 r5 (by rw [q_u2_s, hw2]) (by rw [g5, q_u2_s]) (by rw [q_u2_s, hw2])
    · refine ⟨2, 0, (I, R, X, Y, Z), O, D, n + 1, m + 6, q_u1 P 7 2, Q, S, D, n + 1, m + 6, c22, c23, ?_, ?_, q_u1_s _ _ _, fun h9 => absurd h9 (by decide), q_VI_7 hV0 (by omega) (fun j hj => q_u1_n _ _ hj), by omega, by omega, by omega, by omega⟩
      · have key : F_X11_poke κ (some (b + 1)) x v (q_H b (I, R, X, Y, Z) (P, Q, S) O D, n, m) = some (.inr ("java/lang/IllegalArgumentException", n), (q_H b (I, R, X, Y, Z) (P, Q, S) O D, n + 1, m + 6)) := by
          by_cases h4 : x < 0
          · simp (disch := first | rfl | omega | decide | exact Nat.le_of_ble_eq_true rfl) only [↓q_br, q_rt, q_rz, q_gd, q_ca, ↓reduceIte, F_X11_poke, F_X11_poke_49, ↓q_gA_1_2, ↓q_gA_1_3, ↓q_gI_11_2, ↓q_gI_8_2, ↓q_is_11, ↓q_is_8, h2, hz0, not_false_eq_true, h4, q_th]
          · by_cases h5 : (4096 : Int32) ≤ x
            · simp (disch := first | rfl | omega | decide | exact Nat.le_of_ble_eq_true rfl) only [↓q_br, q_rt, q_rz, q_gd, q_ca, ↓reduceIte, F_X11_poke, F_X11_poke_49, ↓q_gA_1_2, ↓q_gA_1_3, ↓q_gI_11_2, ↓q_gI_8_2, ↓q_is_11, ↓q_is_8, h2, hz0, not_false_eq_true, h4, h5, q_th]
            · by_cases h6 : v < 0
              · have c1 : (lg_cmp v 0 < 0) = True := eq_true (by rw [lg_cmp_lt]; exact h6)
                simp (disch := first | rfl | omega | decide | exact Nat.le_of_ble_eq_true rfl) only [↓q_br, q_rt, q_rz, q_gd, q_ca, ↓reduceIte, F_X11_poke, F_X11_poke_49, ↓q_gA_1_2, ↓q_gA_1_3, ↓q_gI_11_2, ↓q_gI_8_2, ↓q_is_11, ↓q_is_8, h2, hz0, not_false_eq_true, h4, h5, c1, q_th]
              · have c1 : (lg_cmp v 0 < 0) = False := eq_false (by rw [lg_cmp_lt]; exact h6)
                have c2 : (lg_cmp v (lN (2 ^ z) - 1) ≤ 0) = False := eq_false (by rw [lg_cmp_le, lt]; exact fun h7 => hx ⟨h4, h5, h6, h7⟩)
                simp (disch := first | rfl | omega | decide | exact Nat.le_of_ble_eq_true rfl) only [↓q_br, q_rt, q_rz, q_gd, q_ca, ↓reduceIte, F_X11_poke, F_X11_poke_49, ↓q_gA_1_2, ↓q_gA_1_3, ↓q_gI_11_2, ↓q_gI_8_2, ↓q_is_11, ↓q_is_8, h2, hz0, not_false_eq_true, h4, h5, c1, ↓q_is_8, hw, c2, q_th]
        have ne : ¬ "java/lang/IllegalArgumentException" = "java/lang/IllegalStateException" := by decide
        simp (disch := first | rfl | omega | decide | exact Nat.le_of_ble_eq_true rfl) only [F_L_poke, ↓q_is_1, q_cc, key, ↓q_br, ↓reduceIte, ne, q_rt]
      · by_cases h4 : x < 0
        · simp (disch := first | rfl | omega | decide | exact Nat.le_of_ble_eq_true rfl) only [↓q_br, q_rt, q_rz, q_gd, q_ca, ↓reduceIte, F_X13_poke, F_X13_poke_40, F_X13_poke_45, ↓q_gA_26_41, ↓q_gI_26_21, ↓q_gI_26_42, ↓q_gI_26_7, ↓q_lI_54, ↓q_pI_26_42, ↓q_pI_26_7, h3, hz0, not_false_eq_true, h4, q7, q_le2]
        · by_cases h5 : (4096 : Int32) ≤ x
          · simp (disch := first | rfl | omega | decide | exact Nat.le_of_ble_eq_true rfl) only [↓q_br, q_rt, q_rz, q_gd, q_ca, ↓reduceIte, F_X13_poke, F_X13_poke_40, F_X13_poke_45, ↓q_gA_26_41, ↓q_gI_26_21, ↓q_gI_26_42, ↓q_gI_26_7, ↓q_lI_54, ↓q_pI_26_42, ↓q_pI_26_7, h3, hz0, not_false_eq_true, h4, h5, q7, q_le2]
          · by_cases h6 : v < 0
            · have c1 : (lg_cmp v 0 < 0) = True := eq_true (by rw [lg_cmp_lt]; exact h6)
              simp (disch := first | rfl | omega | decide | exact Nat.le_of_ble_eq_true rfl) only [↓q_br, q_rt, q_rz, q_gd, q_ca, ↓reduceIte, F_X13_poke, F_X13_poke_40, F_X13_poke_45, ↓q_gA_26_41, ↓q_gI_26_21, ↓q_gI_26_42, ↓q_gI_26_7, ↓q_lI_54, ↓q_pI_26_42, ↓q_pI_26_7, h3, hz0, not_false_eq_true, h4, h5, c1, q7, q_le2]
            · have c1 : (lg_cmp v 0 < 0) = False := eq_false (by rw [lg_cmp_lt]; exact h6)
              have c3 : (lg_cmp v (lN (2 ^ z)) < 0) = False := eq_false (by rw [lg_cmp_lt]; exact fun h7 => hx ⟨h4, h5, h6, h7⟩)
              simp (disch := first | rfl | omega | decide | exact Nat.le_of_ble_eq_true rfl) only [↓q_br, q_rt, q_rz, q_gd, q_ca, ↓reduceIte, F_X13_poke, F_X13_poke_40, F_X13_poke_45, ↓q_gA_26_41, ↓q_gI_26_21, ↓q_gI_26_42, ↓q_gI_26_7, ↓q_lI_54, ↓q_pI_26_42, ↓q_pI_26_7, h3, hz0, not_false_eq_true, h4, h5, c1, sh, c3, q7, q_le2]
end QCC
