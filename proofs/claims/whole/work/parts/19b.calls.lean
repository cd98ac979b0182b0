theorem q_lc_in {f : Nat → Int32} {j : Nat} : ∀ n, j < n → f j = 0 → q_lc (q_u1 f j 1) n = q_lc f n + 1 := by
  have hlt : ∀ n, n ≤ j → q_lc (q_u1 f j 1) n = q_lc f n := by
    intro n
    induction n with
    | zero => intro _; rfl
    | succ n ih => intro h; rw [q_lc, q_lc, ih (by omega), q_u1_n _ _ (by omega)]
  intro n
  induction n with
  | zero => intro h; omega
  | succ n ih =>
    intro h h0
    rw [q_lc, q_lc]
    by_cases hn : n = j
    · subst hn
      rw [hlt n (Nat.le_refl _), q_u1_s, h0]
      rfl
    · rw [ih (by omega) h0, q_u1_n _ _ hn]
      omega
section QCB
variable {κ : Nat → Nat} {b : Nat}
theorem q_VM_put {I I' X X' : Nat → Nat → Int32} {Y Y' : Nat → Nat → Int64} {P P' : Nat → Int32} {Q Q' : Nat → Nat → Int32} {S S' : Nat → Nat → Int64} {z j w : Nat} (h : q_VM I X Y P Q S z) (hw : w < 2 ^ z) (hI : I' 11 2 = nI (q_lc (q_u1 (X 13) j 1) 4096)) (hP : P' 42 = nI (q_lc (q_u1 (X 13) j 1) 4096)) (hX : X' 13 = q_u1 (X 13) j 1) (hY : Y' 12 = q_u1 (Y 12) j (lN w)) (hQ : Q' 54 = q_u1 (Q 54) j 1) (hS : S' 53 = q_u1 (S 53) j (lN w)) : q_VM I' X' Y' P' Q' S' z := by
  refine ⟨by rw [hX, hI], by rw [hX, hP], fun i hi => ?_⟩
  obtain ⟨e1, e2, e3⟩ := h.2.2 i hi
  rw [hX, hY, hQ, hS]
  by_cases hij : i = j
  · subst hij
    exact ⟨by rw [q_u1_s, q_u1_s], Or.inr (q_u1_s _ _ _), fun _ => ⟨by rw [q_u1_s, q_u1_s], w, hw, q_u1_s _ _ _⟩⟩
  · simp only [q_u1_n _ _ hij]
    exact ⟨e1, e2, e3⟩
theorem q_hasW {I : Nat → Nat → Int32} {R : Nat → Nat → Option Nat} {X : Nat → Nat → Int32} {Y : Nat → Nat → Int64} {Z : Nat → Nat → Option Nat} {M : q_MT} {O : Nat → Int64} {D : q_Mem} {s : Nat × Nat} {x : Int32} : F_X6_has κ (some (b + 11)) x (q_H b (I, R, X, Y, Z) M O D, s) = some (.inl (q_b (decide (¬ x < 0 ∧ ¬ (4096 : Int32) ≤ x ∧ ¬ X 13 x.toNatClampNeg = 0))), (q_H b (I, R, X, Y, Z) M O D, s)) := by
  by_cases h1 : x < 0
  · simp (disch := first | rfl | omega | decide | exact Nat.le_of_ble_eq_true rfl) only [↓q_br, q_rt, q_rz, q_gd, q_ca, ↓reduceIte, F_X6_has, F_X6_has_24, F_X6_has_25, ↓q_gA_11_1, ↓q_lI_13, h1, not_true_eq_false, false_and, decide_false, true_or]
    rfl
  · by_cases h2 : (4096 : Int32) ≤ x
    · simp (disch := first | rfl | omega | decide | exact Nat.le_of_ble_eq_true rfl) only [↓q_br, q_rt, q_rz, q_gd, q_ca, ↓reduceIte, F_X6_has, F_X6_has_24, F_X6_has_25, ↓q_gA_11_1, ↓q_lI_13, h1, h2, not_true_eq_false, false_and, and_false, decide_false, true_or]
      rfl
    · obtain ⟨j, j1, rfl⟩ := nI_of h1
      have hj : j < 4096 := by
        have := mt (fun h => nI_le (a := 4096) (b := j) h j1) h2
        omega
      rw [nI_clamp j1]
      by_cases h3 : X 13 j = 0
      · simp (disch := first | rfl | omega | decide | exact Nat.le_of_ble_eq_true rfl) only [↓q_br, q_rt, q_rz, q_gd, q_ca, ↓reduceIte, F_X6_has, F_X6_has_24, F_X6_has_25, ↓q_gA_11_1, ↓q_lI_13, h1, h2, h3, not_true_eq_false, and_false, decide_false, true_or]
        rfl
      · simp (disch := first | rfl | omega | decide | exact Nat.le_of_ble_eq_true rfl) only [↓q_br, q_rt, q_rz, q_gd, q_ca, ↓reduceIte, F_X6_has, F_X6_has_24, F_X6_has_25, ↓q_gA_11_1, ↓q_lI_13, h1, h2, h3, not_false_eq_true, and_self, decide_true, or_true]
        rfl
theorem q_misLaid {C : q_CT} {P : Nat → Int32} {Q : Nat → Nat → Int32} {S : Nat → Nat → Int64} {O : Nat → Int64} {D : q_Mem} {s : Nat × Nat} {x : Int32} : F_X13_isLaid κ (some (b + 26)) x (q_H b C (P, Q, S) O D, s) = some (.inl (q_b (decide (¬ x < 0 ∧ ¬ (4096 : Int32) ≤ x ∧ ¬ Q 54 x.toNatClampNeg = 0))), (q_H b C (q_u1 P 7 (if ¬ x < 0 ∧ ¬ (4096 : Int32) ≤ x ∧ ¬ Q 54 x.toNatClampNeg = 0 then 0 else 1), Q, S) O D, s)) := by
  have one : ¬ (1 : Int32) = 0 := by decide
  by_cases h1 : x < 0
  · simp (disch := first | rfl | omega | decide | exact Nat.le_of_ble_eq_true rfl) only [↓q_br, q_rt, q_rz, q_gd, q_ca, ↓reduceIte, F_X13_isLaid, F_X13_isLaid_21, F_X13_isLaid_26, F_X13_isLaid_41, ↓q_gA_26_41, ↓q_gI_26_7, ↓q_lI_54, ↓q_pI_26_7, h1, not_true_eq_false, false_and, decide_false, true_or, q_u1_s, one, not_false_eq_true]
    rfl
  · by_cases h2 : (4096 : Int32) ≤ x
    · simp (disch := first | rfl | omega | decide | exact Nat.le_of_ble_eq_true rfl) only [↓q_br, q_rt, q_rz, q_gd, q_ca, ↓reduceIte, F_X13_isLaid, F_X13_isLaid_21, F_X13_isLaid_26, F_X13_isLaid_41, ↓q_gA_26_41, ↓q_gI_26_7, ↓q_lI_54, ↓q_pI_26_7, h1, h2, not_true_eq_false, false_and, and_false, decide_false, true_or, q_u1_s, one, not_false_eq_true]
      rfl
    · obtain ⟨j, j1, rfl⟩ := nI_of h1
      have hj : j < 4096 := by
        have := mt (fun h => nI_le (a := 4096) (b := j) h j1) h2
        omega
      rw [nI_clamp j1]
      by_cases h3 : Q 54 j = 0
      · simp (disch := first | rfl | omega | decide | exact Nat.le_of_ble_eq_true rfl) only [↓q_br, q_rt, q_rz, q_gd, q_ca, ↓reduceIte, F_X13_isLaid, F_X13_isLaid_21, F_X13_isLaid_26, F_X13_isLaid_41, ↓q_gA_26_41, ↓q_gI_26_7, ↓q_lI_54, ↓q_pI_26_7, h1, h2, h3, not_true_eq_false, and_false, decide_false, true_or, q_u1_s, one, not_false_eq_true]
        rfl
      · simp (disch := first | rfl | omega | decide | exact Nat.le_of_ble_eq_true rfl) only [↓q_br, q_rt, q_rz, q_gd, q_ca, ↓reduceIte, F_X13_isLaid, F_X13_isLaid_21, F_X13_isLaid_26, F_X13_isLaid_41, ↓q_gA_26_41, ↓q_gI_26_7, ↓q_lI_54, ↓q_pI_26_7, h1, h2, h3, not_false_eq_true, and_self, decide_true, or_true, q_u1_s, not_true_eq_false]
        rfl
theorem q_wx {X Q : Nat → Nat → Int32} {x : Int32} (h : ∀ i, i < 4096 → Q 54 i = X 13 i) : (¬ x < 0 ∧ ¬ (4096 : Int32) ≤ x ∧ ¬ Q 54 x.toNatClampNeg = 0) ↔ (¬ x < 0 ∧ ¬ (4096 : Int32) ≤ x ∧ ¬ X 13 x.toNatClampNeg = 0) := by
  constructor
  all_goals
    rintro ⟨h1, h2, h3⟩
    obtain ⟨j, j1, rfl⟩ := nI_of h1
    have hj : j < 4096 := by
      have := mt (fun h => nI_le (a := 4096) (b := j) h j1) h2
      omega
    rw [nI_clamp j1] at h3 ⊢
    have := h j hj
    exact ⟨h1, h2, by first | (rw [← this]; exact h3) | (rw [this]; exact h3)⟩
theorem q_step_word (x : Int32) : q_Step κ b (F_L_word κ (some (b + 1)) x (some (b + 66))) (F_X13_word κ (some (b + 26)) x) (fun v => v) := by
  refine q_step_0 ?_
  rintro ⟨I, R, X, Y, Z⟩ P Q S O D n m c22 c23 ⟨hK, hb, ⟨zt, t1, t2, t3, t4⟩, hk, hp, hlb, hrd, ⟨z, L, Js, hD, m1, m2, m3⟩, ⟨l1, k, l2, l3, l4, l5⟩, hA⟩
  have hw := q_wx (x := x) (X := X) (Q := Q) (fun i hi => (m3 i hi).1)
  have a1 := q_hasW (κ := κ) (b := b) (I := I) (R := R) (X := X) (Y := Y) (Z := Z) (M := (P, Q, S)) (O := O) (D := D) (s := (n, m)) (x := x)
  have a2 := fun O1 s1 => q_misLaid (κ := κ) (b := b) (C := (I, R, X, Y, Z)) (P := P) (Q := Q) (S := S) (O := O1) (D := D) (s := s1) (x := x)
  by_cases hx : ¬ x < 0 ∧ ¬ (4096 : Int32) ≤ x ∧ ¬ X 13 x.toNatClampNeg = 0
  · have hx2 := hw.mpr hx
    rw [decide_eq_true hx] at a1
    simp only [decide_eq_true hx2, if_pos hx2] at a2
    obtain ⟨j, j1, rfl⟩ := nI_of hx.1
    have hj : j < 4096 := by
      have := mt (fun h => nI_le (a := 4096) (b := j) h j1) hx.2.1
      omega
    obtain ⟨e1, e2, e3⟩ := m3 j hj
    have hx1 : X 13 j = 1 := by
      have h3 := hx.2.2
      rw [nI_clamp j1] at h3
      exact e2.resolve_left h3
    refine ⟨0, q_u1 O 0 (Y 12 j), n, m, Y 12 j, ?_, Or.inl rfl, Or.inl rfl, fun _ => q_u1_s _ _ _, ?_⟩
    · simp (disch := first | rfl | omega | decide | exact Nat.le_of_ble_eq_true rfl) only [F_L_word, ↓q_is_1, q_cc, ↓q_br, q_rt, q_rz, q_gd, q_ca, ↓reduceIte, F_X11_word, ↓q_gA_11_0, ↓q_gA_1_3, ↓q_is_11, ↓q_lL_12, ↓q_is_11, a1, q_b_0, Bool.true_eq_false, not_false_eq_true, ↓q_sO]
    · simp (disch := first | rfl | omega | decide | exact Nat.le_of_ble_eq_true rfl) only [↓q_br, q_rt, q_rz, q_gd, q_ca, ↓reduceIte, F_X13_word, F_X13_word_18, ↓q_gA_26_40, ↓q_is_26, ↓q_lL_53, a2, q_b_0, Bool.true_eq_false, (e3 hx1).1]
  · have hx2 : ¬ (¬ x < 0 ∧ ¬ (4096 : Int32) ≤ x ∧ ¬ Q 54 x.toNatClampNeg = 0) := fun h => hx (hw.mp h)
    rw [decide_eq_false hx] at a1
    simp only [decide_eq_false hx2, if_neg hx2] at a2
    refine ⟨1, O, n + 1, m + 6, 0, ?_, Or.inr rfl, Or.inr rfl, fun h9 => absurd h9 (by decide), ?_⟩
    · simp (disch := first | rfl | omega | decide | exact Nat.le_of_ble_eq_true rfl) only [F_L_word, ↓q_is_1, q_cc, ↓q_br, q_rt, q_rz, q_gd, q_ca, ↓reduceIte, F_X11_word, ↓q_gA_11_0, ↓q_gA_1_3, ↓q_is_11, ↓q_lL_12, ↓q_is_11, a1, q_b_0, not_true_eq_false, q_th]
    · simp (disch := first | rfl | omega | decide | exact Nat.le_of_ble_eq_true rfl) only [↓q_br, q_rt, q_rz, q_gd, q_ca, ↓reduceIte, F_X13_word, F_X13_word_18, ↓q_gA_26_40, ↓q_is_26, ↓q_lL_53, a2, q_b_0]
end QCB
