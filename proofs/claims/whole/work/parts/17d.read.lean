section QRD
variable {κ : Nat → Nat} {b : Nat} {M : q_MT} {O : Nat → Int64}
theorem q_read {zt n m : Nat} {I : Nat → Nat → Int32} {R : Nat → Nat → Option Nat} {X : Nat → Nat → Int32} {Y : Nat → Nat → Int64} {Z : Nat → Nat → Option Nat} {D : q_Mem} (hK : q_Kp κ b D) (hz : zt ≤ 6000) (hs : I 2 5 = nI zt) (hB : ∀ i, i < zt → q_By (X 3 i)) (hn : b + 66 < n) :
    ∃ I' R' X' Y' Z' D' n' m', (∀ j, j ≠ 2 → j ≠ 8 → j ≠ 14 → j ≠ 19 → I' j = I j) ∧ I' 2 5 = I 2 5 ∧ (∀ j, j ≠ 19 → R' j = R j) ∧ (∀ j, j ≠ 4 → j ≠ 5 → j ≠ 6 → X' j = X j) ∧ (∀ j, j ≠ 7 → j ≠ 20 → Y' j = Y j) ∧ (∀ j, j ≠ 9 → j ≠ 10 → Z' j = Z j) ∧ (∀ x, x < n → D' x = D x) ∧ n ≤ n' ∧ n' ≤ n + 7120 ∧ m ≤ m' ∧ m' ≤ m + 80800 ∧ (match q_pd (X 3) (q_sc false (X 3) zt zt 0) with
      | .inl (k, p) => F_X0_read κ (some (b + 19)) (q_H b (I, R, X, Y, Z) M O D, n, m) = some (.inl 0, (q_H b (I', R', X', Y', Z') M O D', n', m')) ∧ I' 14 2 = nI k ∧ I' 14 3 = nI p ∧ 1 ≤ k ∧ k ≤ 5 ∧ I' 8 2 = 0 ∧ I' 8 3 = 0 ∧ I' 8 4 = 0
      | .inr (z, L, Js) => F_X0_read κ (some (b + 19)) (q_H b (I, R, X, Y, Z) M O D, n, m) = some (.inl 1, (q_H b (I', R', X', Y', Z') M O D', n', m')) ∧ I' 14 2 = 0 ∧ I' 14 3 = -1 ∧ I' 8 2 = nI z ∧ (z = 8 ∨ z = 16 ∨ z = 32) ∧ q_CMk b n' D' I' Z' L ∧ I' 8 4 = nI Js.length ∧ Js.length ≤ 96 ∧ q_CIs b n' D' Z' L z Js) := by
  obtain ⟨l, hl⟩ : ∃ l, l = q_sc false (X 3) zt zt 0 := ⟨_, rfl⟩
  have hlen : l.length ≤ zt := by
    have := q_sc_len false (X 3) zt zt 0 (by omega)
    rw [hl]; omega
  have hwf : q_WF (X 3) zt l := by rw [hl]; exact (q_sc_wf false (X 3) zt zt 0).1
  obtain ⟨I0, hI0⟩ : ∃ I0, I0 = q_u2 (q_u2 (q_u2 I 8 2 0) 8 3 0) 8 4 0 := ⟨_, rfl⟩
  have fI0 : ∀ j, j ≠ 8 → I0 j = I j := fun j j1 => by rw [hI0, q_u2_n _ _ _ j1, q_u2_n _ _ _ j1, q_u2_n _ _ _ j1]
  obtain ⟨X1, Y1, c1, c2, c3, c4⟩ := q_X10_scan (κ := κ) (b := b) (R := R) (Z := Z) (M := M) (O := O) (D := D) (s := (n, m)) (ln := false) (I := I0) (X := X) (Y := Y) hK hz (by rw [fI0 2 (by decide), hs]) hB
  rw [← hl] at c1 c2 ⊢
  have qb0 : q_b false = 0 := rfl
  rw [qb0] at c1
  obtain ⟨I1, hI1⟩ : ∃ I1, I1 = q_u2 (q_u2 (q_u2 (q_u2 I0 2 6 (nI l.length)) 14 1 0) 14 2 0) 14 3 (-1) := ⟨_, rfl⟩
  have f14 : I1 14 = q_u1 (q_u1 (q_u1 (I0 14) 1 0) 2 0) 3 (-1) := by simp (disch := first | rfl | omega | decide | exact Nat.le_of_ble_eq_true rfl) only [hI1, q_u2_s, q_u2_n]
  have f8 : I1 8 = I0 8 := by rw [hI1, q_u2_n _ _ _ (by decide), q_u2_n _ _ _ (by decide), q_u2_n _ _ _ (by decide), q_u2_n _ _ _ (by decide)]
  have f2 : I1 2 = q_u1 (I 2) 6 (nI l.length) := by rw [hI1, q_u2_n _ _ _ (by decide), q_u2_n _ _ _ (by decide), q_u2_n _ _ _ (by decide), q_u2_s, fI0 2 (by decide)]
  have fI1 : ∀ j, j ≠ 2 → j ≠ 8 → j ≠ 14 → I1 j = I j := fun j j1 j2 j3 => by rw [hI1, q_u2_n _ _ _ j3, q_u2_n _ _ _ j3, q_u2_n _ _ _ j3, q_u2_n _ _ _ j1, fI0 j j2]
  have x3 : X1 3 = X 3 := c3 3 (by decide) (by decide) (by decide)
  have hT : q_TC (X 3) l zt I1 X1 Y1 := ⟨by rw [f2, q_u1_s], hlen, hz, c2, hwf, fun i _ => by rw [x3], hB⟩
  have z2 : I1 8 2 = 0 := by rw [f8, hI0]; simp (disch := first | rfl | omega | decide | exact Nat.le_of_ble_eq_true rfl) only [q_u2_s, q_u1_n, q_u1_s]
  have z3 : I1 8 3 = 0 := by rw [f8, hI0]; simp (disch := first | rfl | omega | decide | exact Nat.le_of_ble_eq_true rfl) only [q_u2_s, q_u1_n, q_u1_s]
  have z4 : I1 8 4 = 0 := by rw [f8, hI0]; simp (disch := first | rfl | omega | decide | exact Nat.le_of_ble_eq_true rfl) only [q_u2_s, q_u1_s]
  obtain ⟨I2, w1, w2, w3, w4⟩ := q_readWidth (κ := κ) (b := b) (Z := Z) (M := M) (O := O) (R := R) (s := (n, m)) hT hK (by rw [f14]; simp (disch := first | rfl | omega | decide | exact Nat.le_of_ble_eq_true rfl) only [q_u1_n, q_u1_s]; rfl) (by rw [f14]; simp (disch := first | rfl | omega | decide | exact Nat.le_of_ble_eq_true rfl) only [q_u1_n, q_u1_s])
  have e14 : I1 14 3 = -1 := by rw [f14, q_u1_s]
  have start : F_X0_read κ (some (b + 19)) (q_H b (I, R, X, Y, Z) M O D, n, m) = F_X0_read_21 κ q_fu (some (b + 19)) 0 (q_H b (I2, R, X1, Y1, Z) M O D, n, m) := by
    rw [hI1] at w3
    rw [hI0] at c1 w3
    simp (disch := first | rfl | omega | decide | exact Nat.le_of_ble_eq_true rfl) only [↓q_br, q_rt, q_rz, q_gd, q_ca, ↓reduceIte, F_X0_read, F_X5_clear, F_X9_begin, ↓q_gA_14_0, ↓q_gA_19_0, ↓q_gA_19_2, ↓q_is_14, ↓q_is_19, ↓q_is_2, ↓q_is_8, ↓q_pI_14_1, ↓q_pI_14_2, ↓q_pI_14_3, ↓q_pI_8_2, ↓q_pI_8_3, ↓q_pI_8_4, ↓q_is_8, ↓q_is_14, ↓q_is_19, ↓q_is_2, c1, w3]
  have cl : ∀ (J : Nat → Nat → Int32) (R' : Nat → Nat → Option Nat) (Y' : Nat → Nat → Int64) (Z' : Nat → Nat → Option Nat) (D' : q_Mem) (s' : Nat × Nat), ¬ J 14 2 = 0 → F_X0_read_52 κ (some (b + 19)) (q_H b (J, R', X1, Y', Z') M O D', s') = some (.inl 0, (q_H b (q_u2 (q_u2 (q_u2 J 8 2 0) 8 3 0) 8 4 0, R', X1, Y', Z') M O D', s')) := by
    intro J R' Y' Z' D' s' hj
    have hj2 : ¬ q_u2 (q_u2 (q_u2 J 8 2 0) 8 3 0) 8 4 0 14 2 = 0 := by rw [q_u2_n _ _ _ (by decide), q_u2_n _ _ _ (by decide), q_u2_n _ _ _ (by decide)]; exact hj
    simp (disch := first | rfl | omega | decide | exact Nat.le_of_ble_eq_true rfl) only [↓q_br, q_rt, q_rz, q_gd, q_ca, ↓reduceIte, F_X0_read_52, F_X5_clear, F_X0_read_69, F_X0_read_84, ↓q_gA_19_0, ↓q_gA_19_2, ↓q_is_14, ↓q_is_8, ↓q_pI_8_2, ↓q_pI_8_3, ↓q_pI_8_4, ↓q_is_8, ↓q_is_14, q_hasFault, hj, hj2, decide_false, Bool.not_false, q_b_0, Bool.true_eq_false, not_false_eq_true, true_or]
  have cz : ∀ (J : Nat → Nat → Int32), q_u2 (q_u2 (q_u2 J 8 2 0) 8 3 0) 8 4 0 8 2 = 0 ∧ q_u2 (q_u2 (q_u2 J 8 2 0) 8 3 0) 8 4 0 8 3 = 0 ∧ q_u2 (q_u2 (q_u2 J 8 2 0) 8 3 0) 8 4 0 8 4 = 0 ∧ ∀ j, j ≠ 8 → q_u2 (q_u2 (q_u2 J 8 2 0) 8 3 0) 8 4 0 j = J j := fun J => ⟨by simp (disch := first | rfl | omega | decide | exact Nat.le_of_ble_eq_true rfl) only [q_u2_s, q_u1_n, q_u1_s], by simp (disch := first | rfl | omega | decide | exact Nat.le_of_ble_eq_true rfl) only [q_u2_s, q_u1_n, q_u1_s], by simp (disch := first | rfl | omega | decide | exact Nat.le_of_ble_eq_true rfl) only [q_u2_s, q_u1_s], fun j j1 => by rw [q_u2_n _ _ _ j1, q_u2_n _ _ _ j1, q_u2_n _ _ _ j1]⟩
  unfold q_pd
  rw [start]
  have frI2 : ∀ j, j ≠ 2 → j ≠ 8 → j ≠ 14 → I2 j = I j := fun j j1 j2 j3 => by rw [w1 j j2 j3, fI1 j j1 j2 j3]
  have fI25 : I2 2 5 = I 2 5 := by rw [w1 2 (by decide) (by decide), f2, q_u1_n _ _ (by decide)]
  have fI26 : I2 2 6 = nI l.length := by rw [w1 2 (by decide) (by decide), f2, q_u1_s]
  cases hq : q_pw (X 3) l with
  | inl e =>
    obtain ⟨k, p⟩ := e
    rw [hq] at w4
    obtain ⟨y1, y2, y3, y4⟩ := w4
    have hne : ¬ I2 14 2 = 0 := by rw [y1]; exact nI_ne0 (by omega) (by omega)
    obtain ⟨v1, v2, v3, v4⟩ := cz I2
    refine ⟨q_u2 (q_u2 (q_u2 I2 8 2 0) 8 3 0) 8 4 0, R, X1, Y1, Z, D, n, m, fun j j1 j2 j3 _ => by rw [v4 j j2, frI2 j j1 j2 j3], by rw [v4 2 (by decide), fI25], fun _ _ => rfl, fun j j1 j2 j3 => c3 j j1 j2 j3, fun j j1 _ => c4 j j1, fun _ _ _ => rfl, fun _ _ => rfl, Nat.le_refl _, by omega, Nat.le_refl _, by omega, ?_, by rw [v4 14 (by decide), y1], by rw [v4 14 (by decide), y2], y3, by omega, v1, v2, v3⟩
    obtain ⟨f, hf⟩ : ∃ f, q_fu = f + 1 := ⟨q_fu - 1, by unfold q_fu; omega⟩
    have g2 : ¬ nI l.length < nI 0 := by rw [nI_ltI (by omega) (by omega)]; omega
    rw [nI_0] at g2
    have dn' := q_isDone_f (κ := κ) (b := b) (R := R) (X := X1) (Y := Y1) (Z := Z) (M := M) (O := O) (D := D) (s := (n, m)) hne
    have one : ¬ (1 : Int32) = 0 := by decide
    rw [hf, F_X0_read_21]
    simp (disch := first | rfl | omega | decide | exact Nat.le_of_ble_eq_true rfl) only [↓q_br, q_rt, q_rz, q_gd, q_ca, ↓reduceIte, F_X0_read_21B, ↓q_gA_19_0, ↓q_gA_19_1, ↓q_gI_2_6, ↓q_is_14, ↓q_is_19, ↓q_gI_2_6, fI26, g2, ↓q_is_14, dn', one, not_false_eq_true]
    exact cl I2 R Y1 Z D (n, m) hne
  | inr z =>
    rw [hq] at w4
    obtain ⟨y1, y2, y3, y4, y5, y6⟩ := w4
    have hT2 : q_TC (X 3) l zt I2 X1 Y1 := q_TC_I hT (by rw [w1 2 (by decide) (by decide)])
    obtain ⟨I', R', Y', Z', D', n', m', x1, x2, x4, x5, x6, x7, x8, x9, x10, x11, x12, x13⟩ := q_read_21 (κ := κ) (b := b) (M := M) (O := O) (z := z) (by omega) (l.length + 1) q_fu 0 3 I2 R Y1 Z D n m [] [] hT2 hK y1 y2 y4 y6 (by omega) (by omega) (by unfold q_fu; omega) hn ⟨by rw [w2 3 (by decide), z3]; rfl, by simp, fun k K hk => by simp at hk⟩ (by rw [w2 4 (by decide), z4]; rfl) (by simp) (fun i J hi => by simp at hi)
    rw [nI_0] at x12
    simp only [List.length_nil, Nat.mul_zero, Nat.add_zero] at x9 x11
    simp only
    rw [x12]
    have frr : ∀ j, j ≠ 2 → j ≠ 8 → j ≠ 14 → j ≠ 19 → I' j = I j := fun j j1 j2 j3 j4 => by rw [x1 j j2 j3 j4, frI2 j j1 j2 j3]
    have fr25 : I' 2 5 = I 2 5 := by rw [x1 2 (by decide) (by decide) (by decide), fI25]
    cases hq2 : q_ps (X 3) l z (l.length + 1) [] [] 3 with
    | inl e =>
      obtain ⟨k, p⟩ := e
      rw [hq2] at x13
      obtain ⟨y7, y8, y9, y10⟩ := x13
      have hne : ¬ I' 14 2 = 0 := by rw [y7]; exact nI_ne0 (by omega) (by omega)
      obtain ⟨v1, v2, v3, v4⟩ := cz I'
      exact ⟨q_u2 (q_u2 (q_u2 I' 8 2 0) 8 3 0) 8 4 0, R', X1, Y', Z', D', n', m', fun j j1 j2 j3 j4 => by rw [v4 j j2, frr j j1 j2 j3 j4], by rw [v4 2 (by decide), fr25], x4, fun j j1 j2 j3 => c3 j j1 j2 j3, fun j j1 j2 => by rw [x5 j j2, c4 j j1], x6, x7, x8, by omega, x10, by omega, cl I' R' Y' Z' D' (n', m') hne, by rw [v4 14 (by decide), y7], by rw [v4 14 (by decide), y8], y9, y10, v1, v2, v3⟩
    | inr e =>
      obtain ⟨L, Js⟩ := e
      rw [hq2] at x13
      obtain ⟨y7, y8, y9, y10, y11, y12⟩ := x13
      refine ⟨I', R', X1, Y', Z', D', n', m', frr, fr25, x4, fun j j1 j2 j3 => c3 j j1 j2 j3, fun j j1 j2 => by rw [x5 j j2, c4 j j1], x6, x7, x8, by omega, x10, by omega, ?_, y7, by rw [y8, y3, e14], by rw [x2, y4], y5, y9, y10, y11, y12⟩
      simp (disch := first | rfl | omega | decide | exact Nat.le_of_ble_eq_true rfl) only [↓q_br, q_rt, q_rz, q_gd, q_ca, ↓reduceIte, F_X0_read_52, F_X0_read_69, F_X0_read_84, ↓q_gA_19_0, ↓q_gA_19_2, ↓q_is_14, ↓q_is_8, ↓q_is_14, q_hasFault, y7, decide_true, Bool.not_true, q_b_0, not_true_eq_false, or_true]
end QRD
