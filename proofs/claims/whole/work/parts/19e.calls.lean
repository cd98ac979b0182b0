section QCE
variable {κ : Nat → Nat} {b : Nat}
theorem q_eight {I : Nat → Nat → Int32} {R : Nat → Nat → Option Nat} {X : Nat → Nat → Int32} {Y : Nat → Nat → Int64} {Z : Nat → Nat → Option Nat} {M : q_MT} {O : Nat → Int64} {D : q_Mem} {s : Nat × Nat} {k a : Nat} (hk : I 15 5 = nI k) (hk2 : k ≤ 200) (ha : a ≤ 300) : ∀ d fuel i v, i + d = a + 8 → d < fuel → F_X4_eightFrom_5 κ fuel (some (b + 15)) (nI a) v (nI i) (q_H b (I, R, X, Y, Z) M O D, s) = some (.inl (q_e8 (X 18) k d i v), (q_H b (I, R, X, Y, Z) M O D, s)) := by
  intro d
  induction d with
  | zero =>
    intro fuel i v h1 h2
    obtain ⟨f, rfl⟩ : ∃ f, fuel = f + 1 := ⟨fuel - 1, by omega⟩
    have h4 : nI a + 8 ≤ nI i := by rw [show (8 : Int32) = nI 8 from rfl, nI_add, nI_leI (by omega) (by omega)]; omega
    rw [F_X4_eightFrom_5]
    simp (disch := first | rfl | omega | decide | exact Nat.le_of_ble_eq_true rfl) only [↓q_br, q_rt, q_rz, q_gd, q_ca, ↓reduceIte, F_X4_eightFrom_5B, ↓q_gA_15_4, ↓q_gI_15_5, ↓q_lI_18, h4, q_e8]
  | succ d ih =>
    intro fuel i v h1 h2
    obtain ⟨f, rfl⟩ : ∃ f, fuel = f + 1 := ⟨fuel - 1, by omega⟩
    have h4 : ¬ nI a + 8 ≤ nI i := by rw [show (8 : Int32) = nI 8 from rfl, nI_add, nI_leI (by omega) (by omega)]; omega
    rw [F_X4_eightFrom_5, q_e8]
    by_cases hki : k ≤ i
    · have h5 : nI k ≤ nI i := nI_le hki (by omega)
      simp (disch := first | rfl | omega | decide | exact Nat.le_of_ble_eq_true rfl) only [↓q_br, q_rt, q_rz, q_gd, q_ca, ↓reduceIte, F_X4_eightFrom_5B, F_X4_eightFrom_42, ↓q_gA_15_4, ↓q_gI_15_5, ↓q_lI_18, h4, hk, h5, nI_1, hki]
      exact ih f (i + 1) _ (by omega) (by omega)
    · have h5 : ¬ nI k ≤ nI i := nI_ge (by omega) (by omega)
      simp (disch := first | rfl | omega | decide | exact Nat.le_of_ble_eq_true rfl) only [↓q_br, q_rt, q_rz, q_gd, q_ca, ↓reduceIte, F_X4_eightFrom_5B, F_X4_eightFrom_42, ↓q_gA_15_4, ↓q_gI_15_5, ↓q_lI_18, h4, hk, h5, nI_1, hki]
      exact ih f (i + 1) _ (by omega) (by omega)
theorem q_meight {C : q_CT} {P : Nat → Int32} {Q : Nat → Nat → Int32} {S : Nat → Nat → Int64} {O : Nat → Int64} {D : q_Mem} {s : Nat × Nat} {k a : Nat} (hk : P 4 = nI k) (hk2 : k ≤ 200) (ha : a ≤ 300) : ∀ d fuel i v, i + d = a + 8 → d < fuel → F_X13_listing_34 κ fuel (some (b + 26)) (nI a) v (nI i) (q_H b C (P, Q, S) O D, s) = some (.inl (q_e8 (Q 29) k d i v), (q_H b C (P, Q, S) O D, s)) := by
  intro d
  induction d with
  | zero =>
    intro fuel i v h1 h2
    obtain ⟨f, rfl⟩ : ∃ f, fuel = f + 1 := ⟨fuel - 1, by omega⟩
    have h4 : nI a + 8 ≤ nI i := by rw [show (8 : Int32) = nI 8 from rfl, nI_add, nI_leI (by omega) (by omega)]; omega
    rw [F_X13_listing_34]
    simp (disch := first | rfl | omega | decide | exact Nat.le_of_ble_eq_true rfl) only [↓q_br, q_rt, q_rz, q_gd, q_ca, ↓reduceIte, F_X13_listing_34B, ↓q_gA_26_2, ↓q_gI_26_4, ↓q_lI_29, h4, q_e8]
  | succ d ih =>
    intro fuel i v h1 h2
    obtain ⟨f, rfl⟩ : ∃ f, fuel = f + 1 := ⟨fuel - 1, by omega⟩
    have h4 : ¬ nI a + 8 ≤ nI i := by rw [show (8 : Int32) = nI 8 from rfl, nI_add, nI_leI (by omega) (by omega)]; omega
    rw [F_X13_listing_34, q_e8]
    by_cases hki : k ≤ i
    · have h5 : nI k ≤ nI i := nI_le hki (by omega)
      simp (disch := first | rfl | omega | decide | exact Nat.le_of_ble_eq_true rfl) only [↓q_br, q_rt, q_rz, q_gd, q_ca, ↓reduceIte, F_X13_listing_34B, F_X13_listing_71, ↓q_gA_26_2, ↓q_gI_26_4, ↓q_lI_29, h4, hk, h5, nI_1, hki]
      exact ih f (i + 1) _ (by omega) (by omega)
    · have h5 : ¬ nI k ≤ nI i := nI_ge (by omega) (by omega)
      simp (disch := first | rfl | omega | decide | exact Nat.le_of_ble_eq_true rfl) only [↓q_br, q_rt, q_rz, q_gd, q_ca, ↓reduceIte, F_X13_listing_34B, F_X13_listing_71, ↓q_gA_26_2, ↓q_gI_26_4, ↓q_lI_29, h4, hk, h5, nI_1, hki]
      exact ih f (i + 1) _ (by omega) (by omega)
theorem q_step_listing (x : Int32) : q_Step κ b (F_L_listing κ (some (b + 1)) x (some (b + 66))) (F_X13_listing κ (some (b + 26)) x) (fun v => v) := by
  refine q_step_0 ?_
  rintro ⟨I, R, X, Y, Z⟩ P Q S O D n m c22 c23 ⟨hK, hb, ⟨zt, t1, t2, t3, t4⟩, hk, hp, hlb, hrd, hDM, ⟨l1, k, l2, l3, l4, l5⟩, hA⟩
  have q7 : ∀ v, q_u1 P 7 v 7 = v := fun v => q_u1_s _ _ _
  by_cases hx : ¬ x < 0 ∧ x ≤ 300
  · obtain ⟨hx1, hx2⟩ := hx
    obtain ⟨a, ha, rfl⟩ := nI_of2 (x := x) (M := 300) (n := 300) (by decide) hx1 hx2
    have e1 := q_eight (κ := κ) (b := b) (R := R) (X := X) (Y := Y) (Z := Z) (M := (P, Q, S)) (O := O) (D := D) (s := (n, m)) l3 l2 ha 8 q_fu a 0 rfl (by unfold q_fu; omega)
    have e2 := fun O1 => q_meight (κ := κ) (b := b) (C := (I, R, X, Y, Z)) (P := q_u1 P 7 0) (Q := Q) (S := S) (O := O1) (D := D) (s := (n, m)) (k := k) (a := a) (by rw [q_u1_n _ _ (by decide), l4]) l2 ha 8 q_fu a 0 rfl (by unfold q_fu; omega)
    have e3 := q_e8_c (k := k) (fun i hi => (l5 i hi).1) 8 a 0
    refine ⟨0, q_u1 O 0 (q_e8 (X 18) k 8 a 0), n, m, q_e8 (X 18) k 8 a 0, ?_, Or.inl rfl, Or.inl rfl, fun _ => q_u1_s _ _ _, ?_⟩
    · simp (disch := first | rfl | omega | decide | exact Nat.le_of_ble_eq_true rfl) only [F_L_listing, ↓q_is_1, q_cc, ↓q_br, q_rt, q_rz, q_gd, q_ca, ↓reduceIte, F_X11_listing, F_X4_eightFrom, ↓q_gA_1_6, ↓q_is_15, ↓q_is_15, hx1, hx2, e1, ↓q_sO]
    · simp (disch := first | rfl | omega | decide | exact Nat.le_of_ble_eq_true rfl) only [↓q_br, q_rt, q_rz, q_gd, q_ca, ↓reduceIte, F_X13_listing, F_X13_listing_17, ↓q_gI_26_7, ↓q_pI_26_7, hx1, hx2, q7, q_le0', e2, e3]
  · refine ⟨1, O, n + 1, m + 6, 0, ?_, Or.inr rfl, Or.inr rfl, fun h9 => absurd h9 (by decide), ?_⟩
    · by_cases h1 : x < 0
      · simp (disch := first | rfl | omega | decide | exact Nat.le_of_ble_eq_true rfl) only [F_L_listing, ↓q_is_1, q_cc, ↓q_br, q_rt, q_rz, q_gd, q_ca, ↓reduceIte, F_X11_listing, F_X11_listing_11, ↓q_gA_1_6, ↓q_is_15, h1, q_th]
      · have h2 : ¬ x ≤ 300 := fun h => hx ⟨h1, h⟩
        simp (disch := first | rfl | omega | decide | exact Nat.le_of_ble_eq_true rfl) only [F_L_listing, ↓q_is_1, q_cc, ↓q_br, q_rt, q_rz, q_gd, q_ca, ↓reduceIte, F_X11_listing, F_X11_listing_11, ↓q_gA_1_6, ↓q_is_15, h1, h2, q_th]
    · by_cases h1 : x < 0
      · simp (disch := first | rfl | omega | decide | exact Nat.le_of_ble_eq_true rfl) only [↓q_br, q_rt, q_rz, q_gd, q_ca, ↓reduceIte, F_X13_listing, F_X13_listing_12, F_X13_listing_17, ↓q_gI_26_7, ↓q_pI_26_7, h1, q7, q_le0]
      · have h2 : ¬ x ≤ 300 := fun h => hx ⟨h1, h⟩
        simp (disch := first | rfl | omega | decide | exact Nat.le_of_ble_eq_true rfl) only [↓q_br, q_rt, q_rz, q_gd, q_ca, ↓reduceIte, F_X13_listing, F_X13_listing_12, F_X13_listing_17, ↓q_gI_26_7, ↓q_pI_26_7, h1, h2, q7, q_le0]
/-- what holds between calls, where the text alone has changed -/
theorem q_VI_T {I I' : Nat → Nat → Int32} {R : Nat → Nat → Option Nat} {X X' : Nat → Nat → Int32} {Y Y' : Nat → Nat → Int64} {Z : Nat → Nat → Option Nat} {P P' : Nat → Int32} {Q Q' : Nat → Nat → Int32} {S S' : Nat → Nat → Int64} {D : q_Mem} {n n' c22 c23 : Nat} (h : q_VI κ b (I, R, X, Y, Z) (P, Q, S) D n c22 c23) (hn : n ≤ n') (hT : ∃ zt, q_VT I' X' P' Q' zt) (hI : ∀ j, j ≠ 2 → I' j = I j) (hX : ∀ j, 7 < j → X' j = X j) (hY : ∀ j, j ≠ 7 → Y' j = Y j) (hP : ∀ j, j ≠ 3 → j ≠ 7 → (j < 13 ∨ 15 < j) → P' j = P j) (hQ : ∀ j, j ≠ 27 → j ≠ 28 → (j < 30 ∨ 33 < j) → Q' j = Q j) (hS : ∀ j, j ≠ 33 → S' j = S j) : q_VI κ b (I', R, X', Y', Z) (P', Q', S') D n' c22 c23 := by
  obtain ⟨hK, hb, -, hk, hp, hlb, hrd, ⟨z, L, Js, hD, m1, m2, m3⟩, ⟨l1, k, l2, l3, l4, l5⟩, hA⟩ := h
  refine ⟨hK, by omega, hT, by rw [hI 14 (by decide), hP 5 (by decide) (by decide) (by decide), hk], by rw [hI 14 (by decide), hP 6 (by decide) (by decide) (by decide), hp], by rw [hI 23 (by decide), hP 43 (by decide) (by decide) (by decide), hlb], by rw [hI 21 (by decide), hP 44 (by decide) (by decide) (by decide), hrd], ⟨z, L, Js, q_VD_P hD hn (fun _ _ _ _ => rfl) (hI 8 (by decide)) (fun j j1 j2 => hP j (by omega) (by omega) (by omega)) (fun j j1 j2 => hQ j (by omega) (by omega) (by omega)), ?_, ?_, ?_⟩, ⟨by rw [hI 15 (by decide), hP 8 (by decide) (by decide) (by decide), l1], k, l2, by rw [hI 15 (by decide), l3], by rw [hP 4 (by decide) (by decide) (by decide), l4], ?_⟩, q_VA_mo hA hn (fun _ _ => rfl) (by rw [hI 22 (by decide)]) (by rw [hI 23 (by decide)]) rfl rfl⟩
  · rw [hI 11 (by decide), hX 13 (by decide), m1]
  · rw [hP 42 (by decide) (by decide) (by decide), hX 13 (by decide), m2]
  · rw [hX 13 (by decide), hQ 54 (by decide) (by decide) (by decide), hY 12 (by decide), hS 53 (by decide)]
    exact m3
  · rw [hX 18 (by decide), hQ 29 (by decide) (by decide) (by decide)]
    exact l5
theorem q_roomFor {I : Nat → Nat → Int32} {R : Nat → Nat → Option Nat} {X : Nat → Nat → Int32} {Y : Nat → Nat → Int64} {Z : Nat → Nat → Option Nat} {M : q_MT} {O : Nat → Int64} {D : q_Mem} {s : Nat × Nat} {z k : Nat} (hz : I 2 5 = nI z) (hz2 : z ≤ 6000) (hk : k ≤ 6000) : F_X10_hasRoomFor κ (some (b + 2)) (nI k) (q_H b (I, R, X, Y, Z) M O D, s) = some (.inl (q_b (decide (z + k ≤ 6000))), (q_H b (I, R, X, Y, Z) M O D, s)) := by
  have h6 : (6000 : Int32) = nI 6000 := rfl
  by_cases h : z + k ≤ 6000
  · have h1 : ¬ (6000 : Int32) < nI (z + k) := by rw [h6, nI_ltI (by omega) (by omega)]; omega
    simp (disch := first | rfl | omega | decide | exact Nat.le_of_ble_eq_true rfl) only [↓q_br, q_rt, q_rz, q_gd, q_ca, ↓reduceIte, F_X10_hasRoomFor, F_X10_hasRoomFor_17, ↓q_gI_2_5, hz, nI_add, h1, h, decide_true, true_or, or_true]
    rfl
  · have h1 : (6000 : Int32) < nI (z + k) := by rw [h6, nI_ltI (by omega) (by omega)]; omega
    simp (disch := first | rfl | omega | decide | exact Nat.le_of_ble_eq_true rfl) only [↓q_br, q_rt, q_rz, q_gd, q_ca, ↓reduceIte, F_X10_hasRoomFor, F_X10_hasRoomFor_17, ↓q_gI_2_5, hz, nI_add, h1, h, decide_false, true_or, or_true]
    rfl
theorem q_addByte {I : Nat → Nat → Int32} {R : Nat → Nat → Option Nat} {X : Nat → Nat → Int32} {Y : Nat → Nat → Int64} {Z : Nat → Nat → Option Nat} {M : q_MT} {O : Nat → Int64} {D : q_Mem} {s : Nat × Nat} {z : Nat} {v : Int32} (hz : I 2 5 = nI z) (hz2 : z < 6000) : F_X10_addByte κ (some (b + 2)) v (q_H b (I, R, X, Y, Z) M O D, s) = some (.inl (), (q_H b (q_u2 I 2 5 (nI (z + 1)), R, q_u2 X 3 z v.toInt8.toInt32, Y, Z) M O D, s)) := by
  simp (disch := first | rfl | omega | decide | exact Nat.le_of_ble_eq_true rfl) only [↓q_br, q_rt, q_rz, q_gd, q_ca, ↓reduceIte, F_X10_addByte, ↓q_gA_2_0, ↓q_gI_2_5, ↓q_pI_2_5, ↓q_sI_3, hz, pk_vb, nI_1]
def q_w4 (f : Nat → Int32) (z : Nat) (a : Int32) : Nat → Int32 := q_u1 (q_u1 (q_u1 (q_u1 f z (q_by a 24)) (z + 1) (q_by a 16)) (z + 2) (q_by a 8)) (z + 3) (q_by a 0)
theorem q_w4_c {f g : Nat → Int32} {z : Nat} (a : Int32) (h : ∀ i, i < z → g i = f i ∧ q_By (f i)) : ∀ i, i < z + 4 → q_w4 g z a i = q_w4 f z a i ∧ q_By (q_w4 f z a i) := by
  intro i hi
  unfold q_w4
  by_cases h3 : i = z + 3
  · subst h3
    simp only [q_u1_s]
    exact ⟨trivial, q_by_B _⟩
  · by_cases h2 : i = z + 2
    · subst h2
      simp only [q_u1_n _ _ h3, q_u1_s]
      exact ⟨trivial, q_by_B _⟩
    · by_cases h1 : i = z + 1
      · subst h1
        simp only [q_u1_n _ _ h3, q_u1_n _ _ h2, q_u1_s]
        exact ⟨trivial, q_by_B _⟩
      · by_cases h0 : i = z
        · subst h0
          simp only [q_u1_n _ _ h3, q_u1_n _ _ h2, q_u1_n _ _ h1, q_u1_s]
          exact ⟨trivial, q_by_B _⟩
        · simp only [q_u1_n _ _ h3, q_u1_n _ _ h2, q_u1_n _ _ h1, q_u1_n _ _ h0]
          exact h i (by omega)
theorem q_addFour {I : Nat → Nat → Int32} {R : Nat → Nat → Option Nat} {X : Nat → Nat → Int32} {Y : Nat → Nat → Int64} {Z : Nat → Nat → Option Nat} {M : q_MT} {O : Nat → Int64} {D : q_Mem} {s : Nat × Nat} {z : Nat} (a : Int32) (hz : I 2 5 = nI z) (hz2 : z + 4 ≤ 6000) : ∃ I' X', F_X10_addFour κ (some (b + 2)) a (q_H b (I, R, X, Y, Z) M O D, s) = some (.inl (), (q_H b (I', R, X', Y, Z) M O D, s)) ∧ I' 2 5 = nI (z + 4) ∧ (∀ j, j ≠ 2 → I' j = I j) ∧ X' 3 = q_w4 (X 3) z a ∧ (∀ j, j ≠ 3 → X' j = X j) := by
  obtain ⟨u1, u2, u3⟩ := q_by_u a
  have e1 := q_addByte (κ := κ) (b := b) (R := R) (X := X) (Y := Y) (Z := Z) (M := M) (O := O) (D := D) (s := s) (v := q_ius a 24) hz (by omega)
  rw [u1] at e1
  have e2 := q_addByte (κ := κ) (b := b) (I := q_u2 I 2 5 (nI (z + 1))) (R := R) (X := q_u2 X 3 z (q_by a 24)) (Y := Y) (Z := Z) (M := M) (O := O) (D := D) (s := s) (v := q_ius a 16) (z := z + 1) (by rw [q_u2_s, q_u1_s]) (by omega)
  rw [u2] at e2
  have e3 := q_addByte (κ := κ) (b := b) (I := q_u2 (q_u2 I 2 5 (nI (z + 1))) 2 5 (nI (z + 1 + 1))) (R := R) (X := q_u2 (q_u2 X 3 z (q_by a 24)) 3 (z + 1) (q_by a 16)) (Y := Y) (Z := Z) (M := M) (O := O) (D := D) (s := s) (v := q_ius a 8) (z := z + 1 + 1) (by rw [q_u2_s, q_u1_s]) (by omega)
  rw [u3] at e3
  have e4 := q_addByte (κ := κ) (b := b) (I := q_u2 (q_u2 (q_u2 I 2 5 (nI (z + 1))) 2 5 (nI (z + 1 + 1))) 2 5 (nI (z + 1 + 1 + 1))) (R := R) (X := q_u2 (q_u2 (q_u2 X 3 z (q_by a 24)) 3 (z + 1) (q_by a 16)) 3 (z + 1 + 1) (q_by a 8)) (Y := Y) (Z := Z) (M := M) (O := O) (D := D) (s := s) (v := a) (z := z + 1 + 1 + 1) (by rw [q_u2_s, q_u1_s]) (by omega)
  rw [q_by_0] at e4
  refine ⟨q_u2 (q_u2 (q_u2 (q_u2 I 2 5 (nI (z + 1))) 2 5 (nI (z + 1 + 1))) 2 5 (nI (z + 1 + 1 + 1))) 2 5 (nI (z + 1 + 1 + 1 + 1)), q_u2 (q_u2 (q_u2 (q_u2 X 3 z (q_by a 24)) 3 (z + 1) (q_by a 16)) 3 (z + 1 + 1) (q_by a 8)) 3 (z + 1 + 1 + 1) (q_by a 0), ?_, ?_, ?_, ?_, ?_⟩
  · simp (disch := first | rfl | omega | decide | exact Nat.le_of_ble_eq_true rfl) only [F_X10_addFour, ↓q_is_2, q_ca, e1, e2, e3, e4, q_rt]
  · rw [q_u2_s, q_u1_s]
  · intro j hj
    simp only [q_u2_n _ _ _ hj]
  · simp only [q_u2_s]
    rfl
  · intro j hj
    simp only [q_u2_n _ _ _ hj]
end QCE
