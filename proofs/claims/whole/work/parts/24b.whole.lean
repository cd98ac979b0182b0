def q_as (B : Nat → Int32) (l : List q_Tok) (z : Nat) (L : List q_Knd) (Js : List q_Ins) (la : Nat → Int32) (wo : Nat → Int64) : q_Out (List q_Lin × Nat × (Nat → Int32) × (Nat → Int64)) := match q_lns B l z (l.length + 2) 0 [] with
  | .inl e => .inl e
  | .inr FL => match q_as2 B l L Js la wo FL with
    | .inl e => .inl e
    | .inr w => .inr (FL, w)
section QWB
variable {κ : Nat → Nat} {b : Nat} {M : q_MT} {O : Nat → Int64}
theorem q_read_41f {I X : Nat → Nat → Int32} {R : Nat → Nat → Option Nat} {Y : Nat → Nat → Int64} {Z : Nat → Nat → Option Nat} {D : q_Mem} {s : Nat × Nat} {k : Nat} (h14 : ¬ I 14 2 = 0) (h22 : I 22 2 = nI k) : F_X8_read_41 κ (some (b + 21)) (q_H b (I, R, X, Y, Z) M O D, s) = some (.inl 0, (q_H b (I, R, X, Y, Z) M O D, s)) := by
  have sz := q_size22 (κ := κ) (b := b) (R := R) (X := X) (Y := Y) (Z := Z) (M := M) (O := O) (D := D) (s := s) h22
  have hf := q_hasFault (κ := κ) (b := b) (I := I) (R := R) (X := X) (Y := Y) (Z := Z) (M := M) (O := O) (D := D) (s := s)
  rw [decide_eq_false h14, Bool.not_false] at hf
  obtain ⟨g, hg⟩ : ∃ g, q_fu = g + 1 := ⟨q_fu - 1, by unfold q_fu; omega⟩
  have e : F_X8_read_41 κ (some (b + 21)) (q_H b (I, R, X, Y, Z) M O D, s) = F_X8_read_43 κ q_fu (some (b + 21)) 0 (q_H b (I, R, X, Y, Z) M O D, s) := rfl
  rw [e, hg, F_X8_read_43]
  by_cases c : nI k ≤ 0
  · have tc : (nI k ≤ 0) = True := eq_true c
    simp (disch := first | rfl | omega | decide | exact Nat.le_of_ble_eq_true rfl) only [↓q_br, q_rt, q_rz, q_gd, q_ca, ↓reduceIte, F_X8_read_43B, F_X8_read_116, F_X8_read_131, ↓q_gA_21_0, ↓q_gA_21_4, ↓q_is_14, ↓q_is_21, ↓q_is_22, ↓q_is_23, ↓q_is_22, ↓q_is_14, sz, tc, hf, q_b_0, Bool.true_eq_false, not_false_eq_true, true_or]
  · have tc : (nI k ≤ 0) = False := eq_false c
    simp (disch := first | rfl | omega | decide | exact Nat.le_of_ble_eq_true rfl) only [↓q_br, q_rt, q_rz, q_gd, q_ca, ↓reduceIte, F_X8_read_43B, F_X8_read_116, F_X8_read_131, ↓q_gA_21_0, ↓q_gA_21_4, ↓q_is_14, ↓q_is_21, ↓q_is_22, ↓q_is_23, ↓q_is_22, ↓q_is_14, sz, tc, hf, q_b_0, Bool.true_eq_false, not_false_eq_true, true_or]
theorem q_fail62 {I X : Nat → Nat → Int32} {R : Nat → Nat → Option Nat} {Y : Nat → Nat → Int64} {Z : Nat → Nat → Option Nat} {D : q_Mem} {n m c22 c23 : Nat} (hA : q_VA κ b n D I R c22 c23) (hM : q_CMm I X) : ∃ I' X' D', F_X11_assemble_61 κ (some (b + 1)) (q_H b (I, R, X, Y, Z) M O D, n, m) = some (.inr ("java/lang/UnsupportedOperationException", n), (q_H b (I', R, X', Y, Z) M O D', n + 1, m + 6)) ∧ (∀ j, j ≠ 2 → j ≠ 11 → j ≠ 21 → j ≠ 22 → j ≠ 23 → I' j = I j) ∧ I' 2 5 = 0 ∧ (∀ j, j ≠ 13 → j ≠ 24 → X' j = X j) ∧ q_S7 D D' ∧ I' 11 2 = 0 ∧ I' 21 8 = 0 ∧ I' 23 2 = 0 ∧ q_VA κ b n D' I' R c22 c23 ∧ ∀ v, v < 4096 → X' 13 v = 0 := by
  obtain ⟨I0, hI0⟩ : ∃ I0, I0 = q_u2 I 2 5 0 := ⟨_, rfl⟩
  have f0 : ∀ j, j ≠ 2 → I0 j = I j := fun j hj => by rw [hI0, q_u2_n _ _ _ hj]
  have aw : ∀ j cap, j ≠ 2 → q_AW κ b n D I R j cap → q_AW κ b n D I0 R j cap := fun j cap hj h => q_AW_S h (q_S7_r D) (f0 j hj) (Nat.le_refl _)
  obtain ⟨I1, X1, D1, a1, a2, a3, a4, a5, a6, a7, a8, a9, a10, a11, a12⟩ := q_forget (κ := κ) (b := b) (M := M) (O := O) (I := I0) (X := X) (Y := Y) (Z := Z) (s := (n, m)) (c := q_lc (X 13) 4096) (by rw [f0 11 (by decide)]; exact hM.1) (q_lc_le _) (q_lc_z _) (aw 22 c22 (by decide) hA.1) (aw 23 c23 (by decide) hA.2.1)
  refine ⟨I1, X1, D1, ?_, fun j j1 j2 j3 j4 j5 => by rw [a2 j j2 j3 j4 j5, f0 j j1], by rw [a2 2 (by decide) (by decide) (by decide) (by decide), hI0, q_u2_s, q_u1_s], a3, a4, a5, a6, a8, ⟨a9, a10, hA.2.2⟩, a11⟩
  rw [hI0] at a1
  simp (disch := first | rfl | omega | decide | exact Nat.le_of_ble_eq_true rfl) only [↓q_br, q_rt, q_rz, q_gd, q_ca, ↓reduceIte, F_X11_assemble_61, F_X11_assemble_62, ↓q_gA_1_0, ↓q_gA_1_3, ↓q_gA_1_5, ↓q_gI_11_2, ↓q_is_21, ↓q_pI_2_5, not_true_eq_false, ↓q_is_21, a1, q_th]
theorem q_X11_assemble {zt n m c z c22 c23 : Nat} {I X : Nat → Nat → Int32} {R : Nat → Nat → Option Nat} {Y : Nat → Nat → Int64} {Z : Nat → Nat → Option Nat} {D : q_Mem} {L : List q_Knd} {Js : List q_Ins} (hK : q_Kp κ b D) (hz : zt ≤ 6000) (hs : I 2 5 = nI zt) (hB : ∀ i, i < zt → q_By (X 3 i)) (hn : b + 66 < n) (hc : I 11 2 = nI c) (hc1 : c ≤ 4096) (h0 : c = 0 → ∀ v, v < 4096 → X 13 v = 0) (hA : q_VA κ b n D I R c22 c23) (hz0 : ¬ z = 0) (hz32 : z ≤ 32) (h8 : I 8 2 = nI z) (hEn : q_Env b n D Z I L z Js) :
    ∃ I' R' X' Y' D' n' m' d22 d23 la0, (∀ v, v < 4096 → la0 v = 0) ∧ (∀ j, j ≠ 2 → j ≠ 11 → j ≠ 14 → j ≠ 21 → j ≠ 22 → j ≠ 23 → I' j = I j) ∧ I' 2 5 = 0 ∧ (∀ j, j ≠ 4 → j ≠ 5 → j ≠ 6 → j ≠ 13 → j ≠ 24 → X' j = X j) ∧ q_Kp κ b D' ∧ (∀ x, b < x → x < n → q_t7 (D x) = false → D' x = D x) ∧ q_VA κ b n' D' I' R' d22 d23 ∧ n ≤ n' ∧ m ≤ m' ∧ n' + c22 + c23 ≤ n + 6003 + d22 + d23 ∧ m' + 4 * (c22 + c23) ≤ m + 42021 + 4 * (d22 + d23) ∧ (match q_as (X 3) (q_sc true (X 3) zt zt 0) z L Js la0 (Y 12) with
      | .inl (k, p) => F_X11_assemble κ (some (b + 1)) (q_H b (I, R, X, Y, Z) M O D, n, m) = some (.inr ("java/lang/UnsupportedOperationException", n'), (q_H b (I', R', X', Y', Z) M O D', n' + 1, m' + 6)) ∧ I' 14 2 = nI k ∧ I' 14 3 = nI p ∧ I' 11 2 = 0 ∧ I' 21 8 = 0 ∧ I' 23 2 = 0 ∧ ∀ v, v < 4096 → X' 13 v = 0
      | .inr (FL, rd, la, wo) => F_X11_assemble κ (some (b + 1)) (q_H b (I, R, X, Y, Z) M O D, n, m) = some (.inl (nI (q_lc la 4096)), (q_H b (I', R', X', Y', Z) M O D', n', m')) ∧ I' 14 2 = 0 ∧ I' 14 3 = -1 ∧ I' 21 8 = nI rd ∧ I' 23 2 = nI (q_LT FL).length ∧ X' 13 = la ∧ Y' 12 = wo ∧ q_CMm I' X') := by
  obtain ⟨I1, X1, D1, a1, a2, a3, a4, a5, a6, a7, a8, a9, a10, a11, a12⟩ := q_forget (κ := κ) (b := b) (M := M) (O := O) (X := X) (Y := Y) (Z := Z) (s := (n, m)) hc hc1 h0 hA.1 hA.2.1
  have s8 : q_S8 n D D1 := fun x _ h7 => a4.1 x h7
  have hK1 : q_Kp κ b D1 := q_Kp_8 hK s8 (by omega)
  have x3 : X1 3 = X 3 := a3 3 (by decide) (by decide)
  obtain ⟨l, hl⟩ : ∃ l, l = q_sc true (X 3) zt zt 0 := ⟨_, rfl⟩
  have hlen : l.length ≤ zt := by
    have := q_sc_len true (X 3) zt zt 0 (by omega)
    rw [hl]; omega
  have hwf : q_WF (X 3) zt l := by rw [hl]; exact (q_sc_wf true (X 3) zt zt 0).1
  have hwf4 : ∀ i, i < l.length → (q_tok l i).1 ≤ 4 := fun i hi => (hwf i _ (q_tok_s hi)).1
  obtain ⟨X2, Y2, c1, c2, c3, c4⟩ := q_X10_scan (κ := κ) (b := b) (R := R) (Z := Z) (M := M) (O := O) (D := D1) (s := (n, m)) (ln := true) (I := I1) (X := X1) (Y := Y) hK1 hz (by rw [a2 2 (by decide) (by decide) (by decide) (by decide), hs]) (fun i hi => by rw [x3]; exact hB i hi)
  rw [x3, ← hl] at c1 c2
  have qb1 : q_b true = 1 := rfl
  rw [qb1] at c1
  rw [← hl]
  obtain ⟨I2, hI2⟩ : ∃ I2, I2 = q_u2 (q_u2 (q_u2 (q_u2 I1 2 6 (nI l.length)) 14 1 0) 14 2 0) 14 3 (-1) := ⟨_, rfl⟩
  have f14 : I2 14 = q_u1 (q_u1 (q_u1 (I1 14) 1 0) 2 0) 3 (-1) := by simp (disch := first | rfl | omega | decide | exact Nat.le_of_ble_eq_true rfl) only [hI2, q_u2_s, q_u2_n]
  have f2 : I2 2 = q_u1 (I1 2) 6 (nI l.length) := by rw [hI2, q_u2_n _ _ _ (by decide), q_u2_n _ _ _ (by decide), q_u2_n _ _ _ (by decide), q_u2_s]
  have fI2 : ∀ j, j ≠ 2 → j ≠ 14 → I2 j = I1 j := fun j j1 j3 => by rw [hI2, q_u2_n _ _ _ j3, q_u2_n _ _ _ j3, q_u2_n _ _ _ j3, q_u2_n _ _ _ j1]
  have i141 : I2 14 1 = 0 := by rw [f14, q_u1_n _ _ (by decide), q_u1_n _ _ (by decide), q_u1_s]
  have i142 : I2 14 2 = 0 := by rw [f14, q_u1_n _ _ (by decide), q_u1_s]
  have i143 : I2 14 3 = -1 := by rw [f14, q_u1_s]
  have hT : q_TC (X 3) l zt I2 X2 Y2 := ⟨by rw [f2, q_u1_s], hlen, hz, c2, hwf, fun i _ => by rw [c3 3 (by decide) (by decide) (by decide), x3], hB⟩
  have w22 : q_AW κ b n D1 I2 R 22 c22 := q_AW_S a9 (q_S7_r D1) (fI2 22 (by decide) (by decide)) (Nat.le_refl _)
  have w23 : q_AW κ b n D1 I2 R 23 c23 := q_AW_S a10 (q_S7_r D1) (fI2 23 (by decide) (by decide)) (Nat.le_refl _)
  have pr0 : q_PR κ b n n D1 I2 R X2 (X 3) l [] (fun _ => 0) (fun _ => ((0, 0, 0, 0, 0), (0, 0, 0, 0), fun _ => 0)) c22 c23 := by
    refine ⟨q_AL_0 _ w22 (by rw [fI2 22 (by decide) (by decide), a7]), q_AL_0 _ w23 (by rw [fI2 23 (by decide) (by decide), a8]), fun i hi => ?_, fun i hi => ?_, fun k hk => ?_, fun g hg => ?_, hA.2.2⟩
    · exact absurd hi (Nat.not_lt_zero _)
    · exact absurd hi (Nat.not_lt_zero _)
    · exact absurd hk (Nat.not_lt_zero _)
    · rw [c3 24 (by decide) (by decide) (by decide), a12 g hg]
      rfl
  have i82 : I2 8 2 = nI z := by rw [fI2 8 (by decide) (by decide), a2 8 (by decide) (by decide) (by decide) (by decide), h8]
  obtain ⟨I3, R3, X3, D3, n3, m3, d22, d23, r1, r2, r3, r4, r5, r6, r7, r8, r9, r10, r11⟩ := q_read_10 (κ := κ) (b := b) (Y := Y2) (Z := Z) (M := M) (O := O) (D0 := D) hz32 hn (l.length + 2) q_fu 0 0 I2 R X2 D1 n m c22 c23 [] _ _ pr0 (fun i hi => absurd hi (Nat.not_lt_zero _)) (Nat.le_refl _) hT hK1 s8 (by rw [i141]; rfl) i142 i82 ⟨fun i j _ hj => absurd hj (Nat.not_lt_zero _), fun k hk => absurd hk (Nat.not_lt_zero _)⟩ (by omega) (by unfold q_fu; omega) (Nat.le_refl _) (by omega) (Nat.zero_le _)
  rw [nI_0] at r1
  have zz : (nI z = 0) = False := eq_false (fun h9 => hz0 ((nI_eq (b := 0) (by omega) (by decide)).mp h9))
  have road : F_X11_assemble κ (some (b + 1)) (q_H b (I, R, X, Y, Z) M O D, n, m) = q_chain κ b (F_X8_read_41 κ (some (b + 21))) (q_H b (I3, R3, X3, Y2, Z) M O D3, n3, m3) := by
    have rdd : F_X8_read κ (some (b + 21)) (q_H b (I1, R, X1, Y, Z) M O D1, n, m) = F_X8_read_41 κ (some (b + 21)) (q_H b (I3, R3, X3, Y2, Z) M O D3, n3, m3) := by
      rw [← r1, hI2]
      simp (disch := first | rfl | omega | decide | exact Nat.le_of_ble_eq_true rfl) only [↓q_br, q_rt, q_rz, q_gd, q_ca, ↓reduceIte, F_X8_read, F_X9_begin, ↓q_gA_14_0, ↓q_gA_21_0, ↓q_is_14, ↓q_is_2, ↓q_pI_14_1, ↓q_pI_14_2, ↓q_pI_14_3, ↓q_is_14, ↓q_is_2, c1]
    unfold q_chain
    simp only [q_ca, ← rdd]
    simp (disch := first | rfl | omega | decide | exact Nat.le_of_ble_eq_true rfl) only [↓q_br, q_rt, q_rz, q_gd, q_ca, ↓reduceIte, F_X11_assemble, ↓q_gA_1_2, ↓q_gA_1_5, ↓q_gI_8_2, ↓q_is_21, h8, zz, not_false_eq_true, ↓q_is_21, a1]
  have x13 : X3 13 = X1 13 := by rw [r4 13 (by decide), c3 13 (by decide) (by decide) (by decide)]
  have zer : ∀ v, v < 4096 → X3 13 v = 0 := fun v hv => by rw [x13, a11 v hv]
  have y12 : Y2 12 = Y 12 := c4 12 (by decide)
  have cm3 : q_CMm I3 X3 := by
    refine ⟨?_, fun j hj => Or.inl (zer j hj)⟩
    rw [r2 11 (by decide) (by decide) (by decide), fI2 11 (by decide) (by decide), a5, q_lc_0 4096 zer]
    rfl
  have gI : ∀ j, j ≠ 2 → j ≠ 11 → j ≠ 14 → j ≠ 21 → j ≠ 22 → j ≠ 23 → I3 j = I j := fun j j1 j2 j3 j4 j5 j6 => by rw [r2 j j3 j5 j6, fI2 j j1 j3, a2 j j2 j4 j5 j6]
  have gX : ∀ j, j ≠ 4 → j ≠ 5 → j ≠ 6 → j ≠ 13 → j ≠ 24 → X3 j = X j := fun j j1 j2 j3 j4 j5 => by rw [r4 j j5, c3 j j1 j2 j3, a3 j j4 j5]
  have lc := q_lns_c (B := X 3) (l := l) (z := z) hwf4 (l.length + 2) 0 [] (by omega) (by omega)
  rw [road]
  cases hln : q_lns (X 3) l z (l.length + 2) 0 [] with
  | inl e =>
    rw [hln] at lc
    simp only [List.filter_nil] at lc
    rw [lc] at r11
    obtain ⟨k, p⟩ := e
    obtain ⟨t1, t2, t3, t4, t5⟩ := r11
    have ea : q_as (X 3) l z L Js (X3 13) (Y 12) = .inl (k, p) := by unfold q_as; rw [hln]
    obtain ⟨k0, k1, -⟩ := t5.1
    have rf := q_read_41f (κ := κ) (b := b) (M := M) (O := O) (I := I3) (R := R3) (X := X3) (Y := Y2) (Z := Z) (D := D3) (s := (n3, m3)) (fun h9 => by
      rw [t1] at h9
      have := (nI_eq (b := 0) (by omega) (by decide)).mp h9
      omega) k1
    obtain ⟨I4, X4, D4, u1, u2, u3, u4, u5, u6, u7, u8, u9, u10⟩ := q_fail62 (κ := κ) (b := b) (M := M) (O := O) (Y := Y2) (Z := Z) (m := m3) t5 cm3
    have s8' : q_S8 n D D4 := fun x hx h7 => by
      have e1 := r9 x hx h7
      rw [u5.1 x (by rw [e1]; exact h7), e1]
    refine ⟨I4, R3, X4, Y2, D4, n3, m3, d22, d23, X3 13, zer, fun j j1 j2 j3 j4 j5 j6 => by rw [u2 j j1 j2 j4 j5 j6, gI j j1 j2 j3 j4 j5 j6], u3, fun j j1 j2 j3 j4 j5 => by rw [u4 j j4 j5, gX j j1 j2 j3 j4 j5], q_Kp_8 hK s8' (by omega), fun x _ hx h7 => s8' x hx h7, u9, r5, r6, by omega, by omega, ?_⟩
    rw [ea]
    refine ⟨?_, by rw [u2 14 (by decide) (by decide) (by decide) (by decide) (by decide), t1], by rw [u2 14 (by decide) (by decide) (by decide) (by decide) (by decide), t2], u6, u7, u8, u10⟩
    rw [← u1]
    simp only [q_chain, q_ca, rf, q_br, if_true]
  | inr FL =>
    rw [hln] at lc
    simp only [List.filter_nil] at lc
    rw [lc] at r11
    obtain ⟨t1, t13, aa, xx, t2, t3⟩ := r11
    obtain ⟨lp1, lp2⟩ := q_lns_p (B := X 3) (l := l) (z := z) hwf4 (l.length + 2) 0 [] FL hln (fun x hx => by cases hx) List.Pairwise.nil (Nat.zero_le _)
    obtain ⟨g1, g2, g3⟩ := q_lnc_p (B := X 3) (l := l) (z := z) hwf4 (l.length + 2) 0 [] _ lc ⟨fun i j _ hj => absurd hj (Nat.not_lt_zero _), fun k hk => absurd hk (Nat.not_lt_zero _)⟩ (fun x hx => by cases hx) (Nat.zero_le _) (by omega)
    have hT3 : q_TC (X 3) l zt I3 X3 Y2 := q_TC_X hT (r2 2 (by decide) (by decide) (by decide)) r4
    have hEn3 : q_Env b n D Z I3 L z Js := by
      obtain ⟨e1, e2, e3, e4, e5⟩ := hEn
      have i8 : I3 8 = I 8 := gI 8 (by decide) (by decide) (by decide) (by decide) (by decide) (by decide)
      exact ⟨e1, by unfold q_CMk at e2 ⊢; rw [i8]; exact e2, by rw [i8]; exact e3, e4, e5⟩
    have hLTl : (q_LT (FL.filter q_rea)).length ≤ (FL.filter q_rea).length := by
      unfold q_LT
      rw [List.length_map]
      exact List.length_filter_le _ _
    obtain ⟨I4, X4, Y4, D4, v1, v2, v3, v4, v5, v6, v7⟩ := q_core (κ := κ) (b := b) (M := M) (O := O) (s := (n3, m3)) (Z := Z) hz32 hEn3 hn (fun x hx => lp1 x (List.mem_filter.mp hx).1) (fun x hx => (List.mem_filter.mp hx).2) (List.Pairwise.filter _ lp2) g1 (by omega) (by omega) hT3 t1 t2 t3 r9 cm3
    have f3 : ∀ x ∈ FL, q_sS x = 3 → q_vn l (q_sH x + 2) ≤ 4096 := fun x hx hs => by
      have := (q_XP_3 hwf (lp1 x hx) hs).2.2
      omega
    have f0 : ∀ x ∈ FL, ¬ q_rea x = true → q_sW x = 0 := fun x hx hr => by
      obtain ⟨LT9, t9, ht9, hx9⟩ := lp1 x hx
      exact (q_ln1_b hwf4 hx9 ht9).2.2.2.2.2.2.2.2.2.2.2 (by have := q_rea_0 hr; omega)
    rw [q_as2_f f3 f0, y12, q_LT_f] at v7
    cases has : q_as2 (X 3) l L Js (X3 13) (Y 12) FL with
    | inl e =>
      rw [has] at v7
      obtain ⟨k, p⟩ := e
      obtain ⟨w1, w2, w3⟩ := v7
      have ea : q_as (X 3) l z L Js (X3 13) (Y 12) = .inl (k, p) := by
        unfold q_as
        rw [hln]
        simp only [has]
      obtain ⟨I5, X5, D5, u1, u2, u3, u4, u5, u6, u7, u8, u9, u10⟩ := q_fail62 (κ := κ) (b := b) (M := M) (O := O) (Y := Y4) (Z := Z) (m := m3) v5 v6
      have s8' : q_S8 n D D5 := fun x hx h7 => by
        have e1 := v4 x hx h7
        rw [u5.1 x (by rw [e1]; exact h7), e1]
      refine ⟨I5, R3, X5, Y4, D5, n3, m3, d22, d23, X3 13, zer, fun j j1 j2 j3 j4 j5 j6 => by rw [u2 j j1 j2 j4 j5 j6, v1 j j2 j3 j4, gI j j1 j2 j3 j4 j5 j6], u3, fun j j1 j2 j3 j4 j5 => by rw [u4 j j4 j5, v2 j j4, gX j j1 j2 j3 j4 j5], q_Kp_8 hK s8' (by omega), fun x _ hx h7 => s8' x hx h7, u9, r5, r6, by omega, by omega, ?_⟩
      rw [ea]
      refine ⟨by rw [w1, u1], by rw [u2 14 (by decide) (by decide) (by decide) (by decide) (by decide), w2], by rw [u2 14 (by decide) (by decide) (by decide) (by decide) (by decide), w3], u6, u7, u8, u10⟩
    | inr w =>
      rw [has] at v7
      obtain ⟨rd, la, wo⟩ := w
      obtain ⟨w1, w2, w3, w4, w5, w6⟩ := v7
      have ea : q_as (X 3) l z L Js (X3 13) (Y 12) = .inr (FL, rd, la, wo) := by
        unfold q_as
        rw [hln]
        simp only [has]
      obtain ⟨I5, hI5⟩ : ∃ I5, I5 = q_u2 I4 2 5 0 := ⟨_, rfl⟩
      have f5 : ∀ j, j ≠ 2 → I5 j = I4 j := fun j hj => by rw [hI5, q_u2_n _ _ _ hj]
      have va5 : q_VA κ b n3 D4 I5 R3 d22 d23 := q_VA_mo v5 (Nat.le_refl _) (fun _ _ => rfl) (by rw [f5 22 (by decide)]) (by rw [f5 23 (by decide)]) rfl rfl
      have cm5 : q_CMm I5 X4 := ⟨by rw [f5 11 (by decide)]; exact v6.1, v6.2⟩
      refine ⟨I5, R3, X4, Y4, D4, n3, m3, d22, d23, X3 13, zer, fun j j1 j2 j3 j4 j5 j6 => by rw [f5 j j1, v1 j j2 j3 j4, gI j j1 j2 j3 j4 j5 j6], by rw [hI5, q_u2_s, q_u1_s], fun j j1 j2 j3 j4 j5 => by rw [v2 j j4, gX j j1 j2 j3 j4 j5], q_Kp_8 hK v4 (by omega), fun x _ hx h7 => v4 x hx h7, va5, r5, r6, by omega, by omega, ?_⟩
      rw [ea]
      have i11 : I5 11 2 = nI (q_lc la 4096) := by rw [← w5]; exact cm5.1
      have i14 : I5 14 = I3 14 := by rw [f5 14 (by decide), w2]
      refine ⟨?_, by rw [i14, t1], ?_, by rw [f5 21 (by decide), w3], by rw [f5 23 (by decide), w4], w5, w6, cm5⟩
      · rw [w1]
        have z1 : (¬ (1 : Int32) = 0) = True := eq_true (by decide)
        simp (disch := first | rfl | omega | decide | exact Nat.le_of_ble_eq_true rfl) only [↓q_br, q_rt, q_rz, q_gd, q_ca, ↓reduceIte, F_X11_assemble_62, ↓q_gA_1_0, ↓q_gA_1_3, ↓q_gA_1_5, ↓q_gI_11_2, ↓q_is_21, ↓q_pI_2_5, ← hI5, z1, i11]
      · rw [i14, t13, i143]
end QWB
