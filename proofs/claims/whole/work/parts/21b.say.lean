section QSB
variable {κ : Nat → Nat} {b : Nat} {R : Nat → Nat → Option Nat} {Y : Nat → Nat → Int64} {Z : Nat → Nat → Option Nat} {M : q_MT} {C : q_CT} {S : Nat → Nat → Int64} {O : Nat → Int64} {D : q_Mem} {s : Nat × Nat}
theorem q_l74 {n ct : Nat} (hct : ct ≤ 11) : ∀ c fuel (I X : Nat → Nat → Int32) (txt : List Int32), c ≤ ct → c < fuel → q_LC txt I X → txt.length + c ≤ 200 → (∀ i, i < ct → X 17 i = q_cv (nI (48 + n / 10 ^ i % 10))) → ∃ I' X', F_X4_addNumber_74 κ fuel (some (b + 15)) (nI c - 1) (q_H b (I, R, X, Y, Z) M O D, s) = some (.inl (), (q_H b (I', R, X', Y, Z) M O D, s)) ∧ q_LC (txt ++ q_ds n c) I' X' ∧ q_IF I I' X X' := by
  intro c
  induction c with
  | zero =>
    intro fuel I X txt h1 h2 h3 h4 h5
    obtain ⟨g, rfl⟩ : ∃ g, fuel = g + 1 := ⟨fuel - 1, by omega⟩
    refine ⟨I, X, ?_, by simpa [q_ds] using h3, q_IF_r I X⟩
    have hneg : (nI 0 - 1 < 0) = True := eq_true (by decide)
    rw [F_X4_addNumber_74]
    simp (disch := first | rfl | omega | decide | exact Nat.le_of_ble_eq_true rfl) only [↓q_br, q_rt, q_rz, q_gd, q_ca, ↓reduceIte, F_X4_addNumber_74B, ↓q_gA_15_3, ↓q_is_15, ↓q_lI_17, hneg]
  | succ c ih =>
    intro fuel I X txt h1 h2 h3 h4 h5
    obtain ⟨g, rfl⟩ : ∃ g, fuel = g + 1 := ⟨fuel - 1, by omega⟩
    obtain ⟨I1, X1, r1, r2, r3, r4⟩ := q_lAdd (κ := κ) (b := b) (R := R) (Y := Y) (Z := Z) (M := M) (O := O) (D := D) (s := s) (v := X 17 c) h3 (by omega)
    rw [h5 c (by omega), q_cv_cv] at r2
    obtain ⟨I2, X2, y1, y2, y3⟩ := ih g I1 X1 _ (by omega) (by omega) r2 (by simp; omega) (fun i hi => by rw [r4, h5 i hi])
    refine ⟨I2, X2, ?_, by rw [q_ds]; simpa using y2, q_IF_t r3 y3⟩
    have hpos : ¬ nI c < 0 := nI_pos (by omega)
    have hm : nI c + -1 = nI c - 1 := (Int32.sub_eq_add_neg _ _).symm
    rw [nI_pred, F_X4_addNumber_74]
    simp (disch := first | rfl | omega | decide | exact Nat.le_of_ble_eq_true rfl) only [↓q_br, q_rt, q_rz, q_gd, q_ca, ↓reduceIte, F_X4_addNumber_74B, ↓q_gA_15_3, ↓q_is_15, ↓q_lI_17, hpos, ↓q_is_15, r1, hm, y1]
theorem q_l28 {n ct : Nat} (hn : n < 2 ^ 62) (hc : q_Cnt n ct) {I : Nat → Nat → Int32} : ∀ d fuel c (X : Nat → Nat → Int32), c + 1 + d = ct → d < fuel → (∀ i, i < c → X 17 i = q_cv (nI (48 + n / 10 ^ i % 10))) → ∃ X', F_X4_addNumber_28 κ fuel (some (b + 15)) (lN (n / 10 ^ c)) (nI c) (q_H b (I, R, X, Y, Z) M O D, s) = F_X4_addNumber_74 κ q_fu (some (b + 15)) (nI ct - 1) (q_H b (I, R, X', Y, Z) M O D, s) ∧ (∀ j, j ≠ 17 → X' j = X j) ∧ ∀ i, i < ct → X' 17 i = q_cv (nI (48 + n / 10 ^ i % 10)) := by
  obtain ⟨k1, k2, k3, k4⟩ := hc
  intro d
  have dv : ∀ c, n / 10 ^ c / 10 = n / 10 ^ (c + 1) := fun c => by rw [Nat.div_div_eq_div_mul, Nat.pow_succ]
  have lt : ∀ c, n / 10 ^ c < 2 ^ 62 := fun c => Nat.lt_of_le_of_lt (Nat.div_le_self _ _) hn
  have qt : ∀ c, lN (n / 10 ^ c) / (10 : Int64) = lN (n / 10 ^ (c + 1)) := fun c => by
    rw [← dv c]
    exact pk_lDiv (b := 10) (by have := lt c; omega) (by decide) (by decide)
  have st : ∀ c, vp_nar .byte (((48 : Int64) + (lN (n / 10 ^ c) - lN (n / 10 ^ (c + 1)) * (10 : Int64))).toInt32.toInt8.toInt32) = q_cv (nI (48 + n / 10 ^ c % 10)) := fun c => by
    have e1 : lN (n / 10 ^ c) - lN (n / 10 ^ c) / (10 : Int64) * (10 : Int64) = lN (n / 10 ^ c % 10) := pk_lRem (b := 10) (by have := lt c; omega) (by decide) (by decide)
    have e2 : (48 : Int64) + lN (n / 10 ^ c % 10) = lN (48 + n / 10 ^ c % 10) := lN_add 48 _
    rw [← qt c, e1, e2, lN_i, pk_vb]
    rfl
  have z10 : (¬ (10 : Int64) = 0) = True := eq_true (by decide)
  induction d with
  | zero =>
    intro fuel c X h1 h2 h3
    obtain ⟨g, rfl⟩ : ∃ g, fuel = g + 1 := ⟨fuel - 1, by omega⟩
    have hce : ct = c + 1 := by omega
    refine ⟨q_u2 X 17 c (q_cv (nI (48 + n / 10 ^ c % 10))), ?_, fun j hj => q_u2_n _ _ _ hj, fun i hi => ?_⟩
    · have hz : n / 10 ^ (c + 1) = 0 := Nat.div_eq_of_lt (by rw [← hce]; exact k3)
      have le : (lg_cmp (lN (n / 10 ^ (c + 1))) 0 ≤ 0) = True := eq_true (by rw [hz]; decide)
      rw [F_X4_addNumber_28, hce]
      simp (disch := first | rfl | omega | decide | exact Nat.le_of_ble_eq_true rfl) only [↓q_br, q_rt, q_rz, q_gd, q_ca, ↓reduceIte, F_X4_addNumber_28B, F_X4_addNumber_68, ↓q_gA_15_3, ↓q_sI_17, z10, st, qt, le, nI_1]
    · rw [q_u2_s]
      by_cases hic : i = c
      · subst hic; exact q_u1_s _ _ _
      · rw [q_u1_n _ _ hic, h3 i (by omega)]
  | succ d ih =>
    intro fuel c X h1 h2 h3
    obtain ⟨g, rfl⟩ : ∃ g, fuel = g + 1 := ⟨fuel - 1, by omega⟩
    obtain ⟨X', r1, r2, r3⟩ := ih g (c + 1) (q_u2 X 17 c (q_cv (nI (48 + n / 10 ^ c % 10)))) (by omega) (by omega) (fun i hi => by
      rw [q_u2_s]
      by_cases hic : i = c
      · subst hic; exact q_u1_s _ _ _
      · rw [q_u1_n _ _ hic, h3 i (by omega)])
    refine ⟨X', ?_, fun j hj => by rw [r2 j hj, q_u2_n _ _ _ hj], r3⟩
    have hge := k4 (c + 1) (by omega) (by omega)
    have hp : 0 < n / 10 ^ (c + 1) := Nat.div_pos hge (Nat.pos_of_ne_zero (by simp))
    have le : (lg_cmp (lN (n / 10 ^ (c + 1))) 0 ≤ 0) = False := eq_false (by
      rw [lg_cmp_le]
      intro h
      have := (q_lN_le (b := 0) (by have := lt (c + 1); omega) (by decide)).mp h
      omega)
    have l20 : (nI (c + 1) < (20 : Int32)) = True := eq_true (nI_lt (b := 20) (by omega) (by decide))
    rw [F_X4_addNumber_28]
    simp (disch := first | rfl | omega | decide | exact Nat.le_of_ble_eq_true rfl) only [↓q_br, q_rt, q_rz, q_gd, q_ca, ↓reduceIte, F_X4_addNumber_28B, F_X4_addNumber_68, ↓q_gA_15_3, ↓q_sI_17, z10, st, qt, le, nI_1, l20, r1]
def q_nt (ng : Bool) (n ct : Nat) : List Int32 := (if ng = true then [q_cv 45] else []) ++ q_ds n ct
theorem q_nt_len {ng : Bool} {n ct : Nat} : (q_nt ng n ct).length ≤ ct + 1 := by
  unfold q_nt
  rw [List.length_append, q_ds_len]
  cases ng <;> simp <;> omega
theorem q_lNum {ng : Bool} {n ct : Nat} {I X : Nat → Nat → Int32} {txt : List Int32} (hn : n < 2 ^ 62) (hc : q_Cnt n ct) (h0 : ng = true → 0 < n) (h : q_LC txt I X) (hl : txt.length + 12 ≤ 200) : ∃ I' X', F_X4_addNumber κ (some (b + 15)) (q_lsg ng n) (q_H b (I, R, X, Y, Z) M O D, s) = some (.inl (), (q_H b (I', R, X', Y, Z) M O D, s)) ∧ q_LC (txt ++ q_nt ng n ct) I' X' ∧ q_IF I I' X X' := by
  have hct := hc.2.1
  have key : ∀ (I X : Nat → Nat → Int32) (txt : List Int32), q_LC txt I X → txt.length + 11 ≤ 200 → ∃ I' X', F_X4_addNumber_12 κ (some (b + 15)) (q_lsg ng n) (q_H b (I, R, X, Y, Z) M O D, s) = some (.inl (), (q_H b (I', R, X', Y, Z) M O D, s)) ∧ q_LC (txt ++ q_ds n ct) I' X' ∧ q_IF I I' X X' := by
    intro I X txt h hl
    obtain ⟨X1, r1, r2, r3⟩ := q_l28 (κ := κ) (b := b) (R := R) (Y := Y) (Z := Z) (M := M) (O := O) (D := D) (s := s) hn hc (I := I) (ct - 1) q_fu 0 X (by have := hc.1; omega) (by unfold q_fu; omega) (fun i hi => by omega)
    obtain ⟨I2, X2, y1, y2, y3⟩ := q_l74 (κ := κ) (b := b) (R := R) (Y := Y) (Z := Z) (M := M) (O := O) (D := D) (s := s) (n := n) hct ct q_fu I X1 txt (Nat.le_refl _) (by unfold q_fu; omega) ⟨h.1, fun i v hv => by rw [r2 18 (by decide)]; exact h.2 i v hv⟩ (by omega) r3
    rw [nI_0, Nat.pow_zero, Nat.div_one] at r1
    refine ⟨I2, X2, ?_, y2, q_IF_t ⟨fun _ _ => rfl, rfl, fun j j1 j2 => r2 j j1⟩ y3⟩
    have ge := lg_cmp_ge (q_lsg ng n) 0
    rw [Int64.le_iff_toInt_le, q_lsg_i hn] at ge
    have z0 : (0 : Int64).toInt = 0 := by decide
    cases ng with
    | true =>
      have hneg : (0 ≤ lg_cmp (q_lsg true n) 0) = False := eq_false (fun h => by
        have h9 := ge.mp h
        have := h0 rfl
        simp only [if_true] at h9
        omega)
      have ng1 : -q_lsg true n = lN n := by
        unfold q_lsg
        simp only [if_true, Int64.neg_neg]
      simp (disch := first | rfl | omega | decide | exact Nat.le_of_ble_eq_true rfl) only [↓q_br, q_rt, q_rz, q_gd, q_ca, ↓reduceIte, F_X4_addNumber_12, F_X4_addNumber_24, hneg, ng1, r1, y1]
    | false =>
      have hneg : (0 ≤ lg_cmp (q_lsg false n) 0) = True := eq_true (ge.mpr (by simp only [Bool.false_eq_true, if_false]; omega))
      have ng1 : q_lsg false n = lN n := rfl
      rw [ng1] at hneg ⊢
      simp (disch := first | rfl | omega | decide | exact Nat.le_of_ble_eq_true rfl) only [↓q_br, q_rt, q_rz, q_gd, q_ca, ↓reduceIte, F_X4_addNumber_12, F_X4_addNumber_24, hneg, r1, y1]
  have ge := lg_cmp_ge (q_lsg ng n) 0
  rw [Int64.le_iff_toInt_le, q_lsg_i hn] at ge
  have z0 : (0 : Int64).toInt = 0 := by decide
  cases ng with
  | true =>
    have hneg : (0 ≤ lg_cmp (q_lsg true n) 0) = False := eq_false (fun h => by
      have h9 := ge.mp h
      have := h0 rfl
      simp only [if_true] at h9
      omega)
    obtain ⟨I1, X1, r1, r2, r3, r4⟩ := q_lAdd (κ := κ) (b := b) (R := R) (Y := Y) (Z := Z) (M := M) (O := O) (D := D) (s := s) (v := 45) h (by omega)
    obtain ⟨I2, X2, y1, y2, y3⟩ := key I1 X1 _ r2 (by simp; omega)
    refine ⟨I2, X2, ?_, by unfold q_nt; simpa using y2, q_IF_t r3 y3⟩
    simp (disch := first | rfl | omega | decide | exact Nat.le_of_ble_eq_true rfl) only [↓q_br, q_rt, q_rz, q_gd, q_ca, ↓reduceIte, F_X4_addNumber, ↓q_is_15, hneg, ↓q_is_15, r1, y1]
  | false =>
    have hneg : (0 ≤ lg_cmp (q_lsg false n) 0) = True := eq_true (ge.mpr (by simp only [Bool.false_eq_true, if_false]; omega))
    obtain ⟨I2, X2, y1, y2, y3⟩ := key I X txt h (by omega)
    refine ⟨I2, X2, ?_, by unfold q_nt; simpa using y2, y3⟩
    simp (disch := first | rfl | omega | decide | exact Nat.le_of_ble_eq_true rfl) only [↓q_br, q_rt, q_rz, q_gd, q_ca, ↓reduceIte, F_X4_addNumber, ↓q_is_15, hneg, y1]
theorem q_dgm : ∀ r, r < 10 → ∀ ng : Bool, (0 ≤ (if ng = true then -nI r else nI r) → 48 + (if ng = true then -nI r else nI r) = nI (48 + r)) ∧ (¬ 0 ≤ (if ng = true then -nI r else nI r) → 48 + -(if ng = true then -nI r else nI r) = nI (48 + r)) := by decide
theorem q_m43 {ng : Bool} {n : Nat} (hn : n < 2 ^ 62) : ∀ c fuel (P : Nat → Int32) (Q : Nat → Nat → Int32) (txt : List Int32), c ≤ 10 → c + 1 < fuel → q_LM txt P Q → txt.length + c + 1 ≤ 200 → ∃ P' Q', F_X13_sayNumber_43 κ fuel (some (b + 26)) (q_lsg ng n) (lN (10 ^ c)) (q_H b C (P, Q, S) O D, s) = some (.inl (), (q_H b C (P', Q', S) O D, s)) ∧ q_LM (txt ++ q_ds n (c + 1)) P' Q' ∧ q_PF P P' Q Q' := by
  have pw : ∀ c, c ≤ 10 → 10 ^ c < 2 ^ 62 := fun c hc => Nat.lt_of_le_of_lt (Nat.pow_le_pow_right (by decide) hc) (by decide)
  have pp : ∀ c, 0 < 10 ^ c := fun c => Nat.pos_of_ne_zero (by simp)
  have z10 : (¬ (10 : Int64) = 0) = True := eq_true (by decide)
  have h10 : (10 : Int64) = lN 10 := rfl
  have step : ∀ c fuel (P : Nat → Int32) (Q : Nat → Nat → Int32) (txt : List Int32), c ≤ 10 → q_LM txt P Q → txt.length < 200 → ∃ P' Q', F_X13_sayNumber_43 κ (fuel + 1) (some (b + 26)) (q_lsg ng n) (lN (10 ^ c)) (q_H b C (P, Q, S) O D, s) = F_X13_sayNumber_43 κ fuel (some (b + 26)) (q_lsg ng n) (lN (10 ^ c / 10)) (q_H b C (P', Q', S) O D, s) ∧ q_LM (txt ++ [q_cv (nI (48 + n / 10 ^ c % 10))]) P' Q' ∧ q_PF P P' Q Q' := by
    intro c fuel P Q txt hc h hl
    obtain ⟨P1, Q1, r1, r2, r3⟩ := q_mSay (κ := κ) (b := b) (C := C) (S := S) (O := O) (D := D) (s := s) (v := nI (48 + n / 10 ^ c % 10)) h (by omega)
    refine ⟨P1, Q1, ?_, r2, r3⟩
    have a1 := pw c hc
    have a2 := pp c
    have le : (lg_cmp (lN (10 ^ c)) 0 ≤ 0) = False := eq_false (by
      rw [lg_cmp_le]
      intro h
      have := (q_lN_le (b := 0) (by omega) (by decide)).mp h
      omega)
    have nz : (¬ lN (10 ^ c) = 0) = True := eq_true (fun h => by
      have := (q_lN_eq (b := 0) (by omega) (by decide)).mp h
      omega)
    have dv : lN (10 ^ c) / 10 = lN (10 ^ c / 10) := pk_lDiv (b := 10) (by omega) (by decide) (by decide)
    have lt : n / 10 ^ c < 2 ^ 62 := Nat.lt_of_le_of_lt (Nat.div_le_self _ _) hn
    have d1 : q_lsg ng n / lN (10 ^ c) = q_lsg ng (n / 10 ^ c) := q_lsg_div hn a2 a1
    have d2 := q_lsg_rem (ng := ng) lt
    have d3 := q_lsg_32 ng (n / 10 ^ c % 10)
    obtain ⟨g1, g2⟩ := q_dgm (n / 10 ^ c % 10) (Nat.mod_lt _ (by decide)) ng
    rw [F_X13_sayNumber_43]
    by_cases hg : 0 ≤ (if ng = true then -nI (n / 10 ^ c % 10) else nI (n / 10 ^ c % 10))
    · have g3 := g1 hg
      obtain ⟨e, he⟩ : ∃ e, e = (if ng = true then -nI (n / 10 ^ c % 10) else nI (n / 10 ^ c % 10)) := ⟨_, rfl⟩
      rw [← he] at hg g3 d3
      simp (disch := first | rfl | omega | decide | exact Nat.le_of_ble_eq_true rfl) only [↓q_br, q_rt, q_rz, q_gd, q_ca, ↓reduceIte, F_X13_sayNumber_43B, F_X13_sayNumber_75, ↓q_is_26, le, nz, z10, d1, d2, d3, hg, g3, ↓q_is_26, r1, dv]
    · have g3 := g2 hg
      obtain ⟨e, he⟩ : ∃ e, e = (if ng = true then -nI (n / 10 ^ c % 10) else nI (n / 10 ^ c % 10)) := ⟨_, rfl⟩
      rw [← he] at hg g3 d3
      simp (disch := first | rfl | omega | decide | exact Nat.le_of_ble_eq_true rfl) only [↓q_br, q_rt, q_rz, q_gd, q_ca, ↓reduceIte, F_X13_sayNumber_43B, F_X13_sayNumber_75, ↓q_is_26, le, nz, z10, d1, d2, d3, hg, g3, ↓q_is_26, r1, dv]
  intro c
  induction c with
  | zero =>
    intro fuel P Q txt h1 h2 h3 h4
    obtain ⟨g, rfl⟩ : ∃ g, fuel = g + 1 + 1 := ⟨fuel - 2, by omega⟩
    obtain ⟨P1, Q1, r1, r2, r3⟩ := step 0 (g + 1) P Q txt h1 h3 (by omega)
    refine ⟨P1, Q1, ?_, r2, r3⟩
    rw [r1, F_X13_sayNumber_43]
    have le : (lg_cmp (lN (10 ^ 0 / 10)) 0 ≤ 0) = True := eq_true (by decide)
    simp (disch := first | rfl | omega | decide | exact Nat.le_of_ble_eq_true rfl) only [↓q_br, q_rt, q_rz, q_gd, q_ca, ↓reduceIte, F_X13_sayNumber_43B, le]
  | succ c ih =>
    intro fuel P Q txt h1 h2 h3 h4
    obtain ⟨g, rfl⟩ : ∃ g, fuel = g + 1 := ⟨fuel - 1, by omega⟩
    obtain ⟨P1, Q1, r1, r2, r3⟩ := step (c + 1) g P Q txt h1 h3 (by omega)
    obtain ⟨P2, Q2, y1, y2, y3⟩ := ih g P1 Q1 _ (by omega) (by omega) r2 (by simp; omega)
    have pd : 10 ^ (c + 1) / 10 = 10 ^ c := by rw [Nat.pow_succ]; exact Nat.mul_div_cancel _ (by decide)
    rw [pd] at r1
    refine ⟨P2, Q2, by rw [r1, y1], ?_, q_PF_t r3 y3⟩
    rw [q_ds]
    simpa using y2
theorem q_m14 {ng : Bool} {n ct : Nat} (hn : n < 2 ^ 62) (hc : q_Cnt n ct) {P : Nat → Int32} {Q : Nat → Nat → Int32} : ∀ d fuel c, c + 1 + d = ct → d < fuel → F_X13_sayNumber_14 κ fuel (some (b + 26)) (q_lsg ng n) (lN (10 ^ c)) (q_H b C (P, Q, S) O D, s) = F_X13_sayNumber_43 κ q_fu (some (b + 26)) (q_lsg ng n) (lN (10 ^ (ct - 1))) (q_H b C (P, Q, S) O D, s) := by
  obtain ⟨k1, k2, k3, k4⟩ := hc
  have pw : ∀ c, c ≤ 10 → 10 ^ c < 2 ^ 62 := fun c hc => Nat.lt_of_le_of_lt (Nat.pow_le_pow_right (by decide) hc) (by decide)
  have pp : ∀ c, 0 < 10 ^ c := fun c => Nat.pos_of_ne_zero (by simp)
  have nz : ∀ c, c ≤ 10 → (¬ lN (10 ^ c) = 0) = True := fun c hc => eq_true (fun h => by
    have a1 := pw c hc
    have a2 := pp c
    have := (q_lN_eq (b := 0) (by omega) (by decide)).mp h
    omega)
  have lt : ∀ c, n / 10 ^ c < 2 ^ 62 := fun c => Nat.lt_of_le_of_lt (Nat.div_le_self _ _) hn
  have d1 : ∀ c, c ≤ 10 → q_lsg ng n / lN (10 ^ c) = q_lsg ng (n / 10 ^ c) := fun c hc => q_lsg_div hn (pp c) (pw c hc)
  have i9 : (9 : Int64).toInt = 9 := by decide
  have im9 : (-9 : Int64).toInt = -9 := by decide
  intro d
  induction d with
  | zero =>
    intro fuel c h1 h2
    obtain ⟨g, rfl⟩ : ∃ g, fuel = g + 1 := ⟨fuel - 1, by omega⟩
    have hce : ct = c + 1 := by omega
    have h9 : n / 10 ^ c ≤ 9 := by
      have : n / 10 ^ c < 10 := Nat.div_lt_of_lt_mul (by rw [hce, Nat.pow_succ] at k3; exact k3)
      omega
    have g1 : (0 < lg_cmp (q_lsg ng (n / 10 ^ c)) 9) = False := eq_false (by
      rw [lg_cmp_gt, Int64.lt_iff_toInt_lt, q_lsg_i (lt c), i9]
      generalize n / 10 ^ c = q at h9 ⊢
      split <;> omega)
    have g2 : (0 ≤ lg_cmp (q_lsg ng (n / 10 ^ c)) (-9)) = True := eq_true (by
      rw [lg_cmp_ge, Int64.le_iff_toInt_le, q_lsg_i (lt c), im9]
      generalize n / 10 ^ c = q at h9 ⊢
      split <;> omega)
    rw [F_X13_sayNumber_14, hce, Nat.add_sub_cancel]
    simp (disch := first | rfl | omega | decide | exact Nat.le_of_ble_eq_true rfl) only [↓q_br, q_rt, q_rz, q_gd, q_ca, ↓reduceIte, F_X13_sayNumber_14B, nz c (by omega), d1 c (by omega), g1, g2]
  | succ d ih =>
    intro fuel c h1 h2
    obtain ⟨g, rfl⟩ : ∃ g, fuel = g + 1 := ⟨fuel - 1, by omega⟩
    have hge := k4 (c + 1) (by omega) (by omega)
    have h9 : 10 ≤ n / 10 ^ c := (Nat.le_div_iff_mul_le (pp c)).mpr (by rw [Nat.mul_comm, ← Nat.pow_succ]; exact hge)
    have mu : lN (10 ^ c) * (10 : Int64) = lN (10 ^ (c + 1)) := lN_mul (10 ^ c) 10
    have ihk := ih g (c + 1) (by omega) (by omega)
    rw [F_X13_sayNumber_14]
    cases ng with
    | false =>
      have g1 : (0 < lg_cmp (q_lsg false (n / 10 ^ c)) 9) = True := eq_true (by
        rw [lg_cmp_gt, Int64.lt_iff_toInt_lt, q_lsg_i (lt c), i9]
        simp only [Bool.false_eq_true, if_false]
        omega)
      simp (disch := first | rfl | omega | decide | exact Nat.le_of_ble_eq_true rfl) only [↓q_br, q_rt, q_rz, q_gd, q_ca, ↓reduceIte, F_X13_sayNumber_14B, F_X13_sayNumber_34, nz c (by omega), d1 c (by omega), g1, mu, ihk]
    | true =>
      have g1 : (0 < lg_cmp (q_lsg true (n / 10 ^ c)) 9) = False := eq_false (by
        rw [lg_cmp_gt, Int64.lt_iff_toInt_lt, q_lsg_i (lt c), i9]
        simp only [if_true]
        omega)
      have g2 : (0 ≤ lg_cmp (q_lsg true (n / 10 ^ c)) (-9)) = False := eq_false (by
        rw [lg_cmp_ge, Int64.le_iff_toInt_le, q_lsg_i (lt c), im9]
        simp only [if_true]
        omega)
      simp (disch := first | rfl | omega | decide | exact Nat.le_of_ble_eq_true rfl) only [↓q_br, q_rt, q_rz, q_gd, q_ca, ↓reduceIte, F_X13_sayNumber_14B, F_X13_sayNumber_34, nz c (by omega), d1 c (by omega), g1, g2, mu, ihk]
theorem q_mNum {ng : Bool} {n ct : Nat} {P : Nat → Int32} {Q : Nat → Nat → Int32} {txt : List Int32} (hn : n < 2 ^ 62) (hc : q_Cnt n ct) (h0 : ng = true → 0 < n) (h : q_LM txt P Q) (hl : txt.length + 12 ≤ 200) : ∃ P' Q', F_X13_sayNumber κ (some (b + 26)) (q_lsg ng n) (q_H b C (P, Q, S) O D, s) = some (.inl (), (q_H b C (P', Q', S) O D, s)) ∧ q_LM (txt ++ q_nt ng n ct) P' Q' ∧ q_PF P P' Q Q' := by
  obtain ⟨k1, k2, k3, k4⟩ := hc
  have key : ∀ (P : Nat → Int32) (Q : Nat → Nat → Int32) (txt : List Int32), q_LM txt P Q → txt.length + 11 ≤ 200 → ∃ P' Q', F_X13_sayNumber_12 κ (some (b + 26)) (q_lsg ng n) (q_H b C (P, Q, S) O D, s) = some (.inl (), (q_H b C (P', Q', S) O D, s)) ∧ q_LM (txt ++ q_ds n ct) P' Q' ∧ q_PF P P' Q Q' := by
    intro P Q txt h hl
    have e1 := q_m14 (κ := κ) (b := b) (C := C) (S := S) (O := O) (D := D) (s := s) (ng := ng) hn ⟨k1, k2, k3, k4⟩ (P := P) (Q := Q) (ct - 1) q_fu 0 (by omega) (by unfold q_fu; omega)
    obtain ⟨P2, Q2, y1, y2, y3⟩ := q_m43 (κ := κ) (b := b) (C := C) (S := S) (O := O) (D := D) (s := s) (ng := ng) hn (ct - 1) q_fu P Q txt (by omega) (by unfold q_fu; omega) h (by omega)
    rw [Nat.sub_add_cancel k1] at y2
    refine ⟨P2, Q2, ?_, y2, y3⟩
    have one : lN (10 ^ 0) = 1 := rfl
    rw [one] at e1
    rw [F_X13_sayNumber_12, e1, y1]
  have ge := lg_cmp_ge (q_lsg ng n) 0
  rw [Int64.le_iff_toInt_le, q_lsg_i hn] at ge
  have z0 : (0 : Int64).toInt = 0 := by decide
  cases ng with
  | true =>
    have hneg : (0 ≤ lg_cmp (q_lsg true n) 0) = False := eq_false (fun h => by
      have h9 := ge.mp h
      have := h0 rfl
      simp only [if_true] at h9
      omega)
    obtain ⟨P1, Q1, r1, r2, r3⟩ := q_mSay (κ := κ) (b := b) (C := C) (S := S) (O := O) (D := D) (s := s) (v := 45) h (by omega)
    obtain ⟨P2, Q2, y1, y2, y3⟩ := key P1 Q1 _ r2 (by simp; omega)
    refine ⟨P2, Q2, ?_, by unfold q_nt; simpa using y2, q_PF_t r3 y3⟩
    simp (disch := first | rfl | omega | decide | exact Nat.le_of_ble_eq_true rfl) only [↓q_br, q_rt, q_rz, q_gd, q_ca, ↓reduceIte, F_X13_sayNumber, ↓q_is_26, hneg, ↓q_is_26, r1, y1]
  | false =>
    have hneg : (0 ≤ lg_cmp (q_lsg false n) 0) = True := eq_true (ge.mpr (by simp only [Bool.false_eq_true, if_false]; omega))
    obtain ⟨P2, Q2, y1, y2, y3⟩ := key P Q txt h (by omega)
    refine ⟨P2, Q2, ?_, by unfold q_nt; simpa using y2, y3⟩
    simp (disch := first | rfl | omega | decide | exact Nat.le_of_ble_eq_true rfl) only [↓q_br, q_rt, q_rz, q_gd, q_ca, ↓reduceIte, F_X13_sayNumber, ↓q_is_26, hneg, y1]
end QSB
