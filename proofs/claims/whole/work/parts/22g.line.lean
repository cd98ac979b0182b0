section QRL
variable {κ : Nat → Nat} {b : Nat} {B : Nat → Int32} {l : List q_Tok} {zt t : Nat} {Y : Nat → Nat → Int64} {Z : Nat → Nat → Option Nat} {M : q_MT} {O : Nat → Int64}
def q_srt (B : Nat → Int32) (l : List q_Tok) (h : Nat) : Nat := if (q_tok l h).1 = 1 then 1 else if q_sgn l h 46 = true then (if q_wd B l (h + 1) 13 = true then 3 else 2) else 0
theorem q_tx13 : 13 < q_tx.length ∧ 3 < q_tx.length ∧ ¬ q_tt 3 = q_tt 13 := by decide +kernel
theorem q_srt_le {h : Nat} : q_srt B l h ≤ 3 := by
  unfold q_srt
  split
  · decide
  · split
    · split <;> decide
    · decide
theorem q_sortAt {I : Nat → Nat → Int32} {R : Nat → Nat → Option Nat} {X : Nat → Nat → Int32} {D : q_Mem} {s : Nat × Nat} {h : Nat} (hT : q_TC B l zt I X Y) (hK : q_Kp κ b D) (hh : h ≤ l.length) : F_X8_sortAt κ (some (b + 21)) (nI h) (q_H b (I, R, X, Y, Z) M O D, s) = some (.inl (nI (q_srt B l h)), (q_H b (I, R, X, Y, Z) M O D, s)) := by
  have hz := hT.2.2.1
  have hl := hT.2.1
  have h6 : h < 6003 := by omega
  have ty : (X 4 h = (1 : Int32)) = ((q_tok l h).1 = 1) := propext (q_TC_is (c := 1) hT (by omega) (by decide))
  have sg := q_isSign (κ := κ) (b := b) (R := R) (Z := Z) (M := M) (O := O) (D := D) (s := s) (c := 46) hT (by omega : h < l.length + 3)
  have sy := q_says (κ := κ) (b := b) (R := R) (Z := Z) (M := M) (O := O) (s := s) (i := 13) hT hK q_tx13.1 (by omega : h + 1 < l.length + 3)
  unfold q_srt
  by_cases h1 : (q_tok l h).1 = 1
  · have t1 : ((q_tok l h).1 = 1) = True := eq_true h1
    rw [if_pos h1]
    simp (disch := first | rfl | omega | decide | exact Nat.le_of_ble_eq_true rfl) only [↓q_br, q_rt, q_rz, q_gd, q_ca, ↓reduceIte, F_X8_sortAt, ↓q_gA_21_1, ↓q_gA_2_1, ↓q_is_2, ↓q_lI_4, ty, t1, not_true_eq_false]
    rfl
  · have t1 : ((q_tok l h).1 = 1) = False := eq_false h1
    rw [if_neg h1]
    cases hs : q_sgn l h 46 with
    | false =>
      rw [hs] at sg
      rw [if_neg (by decide)]
      simp (disch := first | rfl | omega | decide | exact Nat.le_of_ble_eq_true rfl) only [↓q_br, q_rt, q_rz, q_gd, q_ca, ↓reduceIte, F_X8_sortAt, ↓q_gA_21_1, ↓q_gA_2_1, ↓q_is_2, ↓q_lI_4, ty, t1, not_false_eq_true, ↓q_is_2, sg, q_b_0, not_true_eq_false]
      rfl
    | true =>
      rw [hs] at sg
      rw [if_pos rfl]
      cases hw : q_wd B l (h + 1) 13 with
      | false =>
        rw [hw] at sy
        rw [if_neg (by decide)]
        simp (disch := first | rfl | omega | decide | exact Nat.le_of_ble_eq_true rfl) only [↓q_br, q_rt, q_rz, q_gd, q_ca, ↓reduceIte, F_X8_sortAt, F_X8_sortAt_50, ↓q_gA_21_1, ↓q_gA_2_1, ↓q_is_2, ↓q_lI_4, ty, t1, not_false_eq_true, ↓q_is_2, sg, q_b_0, Bool.true_eq_false, nI_1, sy]
        rfl
      | true =>
        rw [hw] at sy
        rw [if_pos rfl]
        simp (disch := first | rfl | omega | decide | exact Nat.le_of_ble_eq_true rfl) only [↓q_br, q_rt, q_rz, q_gd, q_ca, ↓reduceIte, F_X8_sortAt, F_X8_sortAt_50, ↓q_gA_21_1, ↓q_gA_2_1, ↓q_is_2, ↓q_lI_4, ty, t1, not_false_eq_true, ↓q_is_2, sg, q_b_0, Bool.true_eq_false, nI_1, sy]
        rfl
theorem q_isLE {I : Nat → Nat → Int32} {R : Nat → Nat → Option Nat} {X : Nat → Nat → Int32} {D : q_Mem} {s : Nat × Nat} {h : Nat} (hT : q_TC B l zt I X Y) (hh : h < l.length + 3) : F_X10_isLineEnd κ (some (b + 2)) (nI h) (q_H b (I, R, X, Y, Z) M O D, s) = some (.inl (q_b (decide ((q_tok l h).1 = 4 ∨ (q_tok l h).1 = 5))), (q_H b (I, R, X, Y, Z) M O D, s)) := by
  have hz := hT.2.2.1
  have hl := hT.2.1
  have h6 : h < 6003 := by omega
  have t4 : (X 4 h = (4 : Int32)) = ((q_tok l h).1 = 4) := propext (q_TC_is (c := 4) hT hh (by decide))
  have t5 : (X 4 h = (5 : Int32)) = ((q_tok l h).1 = 5) := propext (q_TC_is (c := 5) hT hh (by decide))
  by_cases c4 : (q_tok l h).1 = 4
  · have e4 : ((q_tok l h).1 = 4) = True := eq_true c4
    simp (disch := first | rfl | omega | decide | exact Nat.le_of_ble_eq_true rfl) only [↓q_br, q_rt, q_rz, q_gd, q_ca, ↓reduceIte, F_X10_isLineEnd, F_X10_isLineEnd_20, F_X10_isLineEnd_25, ↓q_gA_2_1, ↓q_lI_4, t4, e4, true_or, or_true, decide_true]
    rfl
  · have e4 : ((q_tok l h).1 = 4) = False := eq_false c4
    by_cases c5 : (q_tok l h).1 = 5
    · have e5 : ((q_tok l h).1 = 5) = True := eq_true c5
      simp (disch := first | rfl | omega | decide | exact Nat.le_of_ble_eq_true rfl) only [↓q_br, q_rt, q_rz, q_gd, q_ca, ↓reduceIte, F_X10_isLineEnd, F_X10_isLineEnd_20, F_X10_isLineEnd_25, ↓q_gA_2_1, ↓q_lI_4, t4, e4, t5, e5, not_true_eq_false, or_true, decide_true]
      rfl
    · have e5 : ((q_tok l h).1 = 5) = False := eq_false c5
      simp (disch := first | rfl | omega | decide | exact Nat.le_of_ble_eq_true rfl) only [↓q_br, q_rt, q_rz, q_gd, q_ca, ↓reduceIte, F_X10_isLineEnd, F_X10_isLineEnd_20, F_X10_isLineEnd_25, ↓q_gA_2_1, ↓q_lI_4, t4, e4, t5, e5, not_false_eq_true, true_or, or_self, decide_false]
      rfl
theorem q_up_id {D : q_Mem} {a : Nat} {c : q_Cel} (h : D a = some c) : q_up D a c = D := by
  funext x
  unfold q_up
  by_cases hx : x = a
  · simp [hx, h]
  · simp [hx]
/-- a statement is read -/
theorem q_readStmt {I : Nat → Nat → Int32} {R : Nat → Nat → Option Nat} {X : Nat → Nat → Int32} {D : q_Mem} {s : Nat × Nat} {z a h : Nat} {v1 v2 v3 v4 v5 v7 : Value} (hz : z ≤ 32) (ha : b + 66 < a) (hT : q_TC B l zt I X Y) (hK : q_Kp κ b D) (h1 : I 14 1 = nI h) (h2 : I 14 2 = 0) (h8 : I 8 2 = nI z) (hh : h ≤ l.length) (hD : D a = some (.inr (.inl (6, [.int (nI (q_srt B l h)), v1, v2, v3, v4, v5, .int 0, v7])))) : ∃ I' c', q_IA I I' ∧ F_X8_readStatement κ (some (b + 21)) (some a) (q_H b (I, R, X, Y, Z) M O D, s) = some (.inl (), (q_H b (I', R, X, Y, Z) M O (q_up D a (.inr (.inl (6, [.int (nI (q_srt B l h)), v1, v2, v3, v4, v5, .int (nI c'), v7])))), s)) ∧ (match q_st1 B l z h with
    | .inl (k, p) => I' 14 2 = nI k ∧ I' 14 3 = nI p ∧ 1 ≤ k ∧ k ≤ 8
    | .inr (so, en, wd) => so = q_srt B l h ∧ c' = wd ∧ I' 14 1 = nI en ∧ I' 14 2 = 0 ∧ I' 14 3 = I 14 3) := by
  have hzt := hT.2.2.1
  have hl := hT.2.1
  have eD : b + 66 < a ∧ D a = some (.inr (.inl (6, [.int (nI (q_srt B l h)), v1, v2, v3, v4, v5, .int 0, v7]))) := ⟨ha, hD⟩
  have uid := q_up_id hD
  have z0 : (.int 0 : Value) = .int (nI 0) := rfl
  have s1 : (nI (q_srt B l h) = (1 : Int32)) = (q_srt B l h = 1) := propext (nI_eq (b := 1) (by have := q_srt_le (B := B) (l := l) (h := h); omega) (by decide))
  have s2 : (nI (q_srt B l h) = (2 : Int32)) = (q_srt B l h = 2) := propext (nI_eq (b := 2) (by have := q_srt_le (B := B) (l := l) (h := h); omega) (by decide))
  have s3 : (nI (q_srt B l h) = (3 : Int32)) = (q_srt B l h = 3) := propext (nI_eq (b := 3) (by have := q_srt_le (B := B) (l := l) (h := h); omega) (by decide))
  unfold q_st1
  by_cases c1 : (q_tok l h).1 = 1
  · -- code
    have so1 : q_srt B l h = 1 := by unfold q_srt; rw [if_pos c1]
    have t1 : (q_srt B l h = 1) = True := eq_true so1
    have sk := q_skip_8 (κ := κ) (b := b) (R := R) (Z := Z) (M := M) (O := O) (D := D) (s := s) hT (l.length - h) q_fu h (by omega) (by unfold q_fu; omega)
    refine ⟨q_u2 I 14 1 (nI (q_sk l h)), 0, q_IA_u, ?_, ?_⟩
    · rw [← z0, uid]
      unfold q_sk
      simp (disch := first | rfl | omega | decide | exact Nat.le_of_ble_eq_true rfl) only [↓q_br, q_rt, q_rz, q_gd, q_ca, ↓reduceIte, F_X8_readStatement, F_X8_readStatement_77, F_X8_skipToLineEnd, ↓q_gA_21_0, ↓q_gI_14_1, ↓q_is_14, ↓q_is_21, ↓q_pI_14_1, qd_I eD (k := 0) (v := nI (q_srt B l h)) rfl, s1, t1, not_true_eq_false, ↓q_is_21, ↓q_gI_14_1, h1, sk]
    · rw [if_pos c1]
      exact ⟨so1.symm, rfl, by rw [q_u2_s, q_u1_s], by rw [q_u2_s, q_u1_n _ _ (by decide), h2], by rw [q_u2_s, q_u1_n _ _ (by decide)]⟩
  · rw [if_neg c1]
    cases hs : q_sgn l h 46 with
    | false =>
      have so0 : q_srt B l h = 0 := by unfold q_srt; rw [if_neg c1, hs, if_neg (by decide)]
      have t1 : (q_srt B l h = 1) = False := eq_false (by omega)
      have t2 : (q_srt B l h = 2) = False := eq_false (by omega)
      have t3 : (q_srt B l h = 3) = False := eq_false (by omega)
      refine ⟨I, 0, fun _ _ => rfl, ?_, ?_⟩
      · rw [← z0, uid]
        simp (disch := first | rfl | omega | decide | exact Nat.le_of_ble_eq_true rfl) only [↓q_br, q_rt, q_rz, q_gd, q_ca, ↓reduceIte, F_X8_readStatement, F_X8_readStatement_77, ↓q_gA_21_0, ↓q_gI_14_1, ↓q_is_14, ↓q_is_21, ↓q_pI_14_1, qd_I eD (k := 0) (v := nI (q_srt B l h)) rfl, s1, s2, s3, t1, t2, t3, not_false_eq_true]
      · rw [if_neg (by decide)]
        exact ⟨so0.symm, rfl, h1, h2, rfl⟩
    | true =>
      have hlt : h < l.length := by
        unfold q_sgn at hs
        rw [decide_eq_true_eq] at hs
        exact q_tok_lt (by omega)
      rw [if_pos rfl]
      cases hw : q_wd B l (h + 1) 13 with
      | true =>
        -- at
        have nw : q_wd B l (h + 1) 3 = false := by
          unfold q_wd at hw ⊢
          rw [decide_eq_true_eq] at hw
          rw [decide_eq_false_iff_not]
          rintro ⟨-, h9⟩
          exact q_tx13.2.2 (by rw [← h9, hw.2])
        have so3 : q_srt B l h = 3 := by unfold q_srt; rw [if_neg c1, hs, if_pos rfl, hw, if_pos rfl]
        have t1 : (q_srt B l h = 1) = False := eq_false (by omega)
        have t3 : (q_srt B l h = 3) = True := eq_true so3
        have ad2 : nI h + (2 : Int32) = nI (h + 2) := nI_add h 2
        obtain ⟨I1, hI1⟩ : ∃ I1, I1 = q_u2 I 14 1 (nI (h + 2)) := ⟨_, rfl⟩
        have a1 : I1 14 1 = nI (h + 2) := by rw [hI1, q_u2_s, q_u1_s]
        have a2 : I1 14 2 = 0 := by rw [hI1, q_u2_s, q_u1_n _ _ (by decide), h2]
        have ia : q_IA I I1 := by rw [hI1]; exact q_IA_u
        have hT1 : q_TC B l zt I1 X Y := q_TC_I hT (by rw [ia 2 (by decide)])
        rw [nw, if_neg (by decide), if_pos rfl]
        have road : ∀ (I2 : Nat → Nat → Int32) (v : Int64), F_X9_takeNumber κ (some (b + 14)) 0 4095 (q_H b (I1, R, X, Y, Z) M O D, s) = some (.inl v, (q_H b (I2, R, X, Y, Z) M O D, s)) → F_X8_readStatement κ (some (b + 21)) (some a) (q_H b (I, R, X, Y, Z) M O D, s) = some (.inl (), (q_H b (I2, R, X, Y, Z) M O D, s)) := by
          intro I2 v hv
          simp (disch := first | rfl | omega | decide | exact Nat.le_of_ble_eq_true rfl) only [↓q_br, q_rt, q_rz, q_gd, q_ca, ↓reduceIte, F_X8_readStatement, F_X8_readStatement_77, ↓q_gA_21_0, ↓q_gI_14_1, ↓q_is_14, ↓q_is_21, ↓q_pI_14_1, qd_I eD (k := 0) (v := nI (q_srt B l h)) rfl, s1, s3, t1, t3, not_true_eq_false, not_false_eq_true, ↓q_gI_14_1, h1, ad2, ↓q_pI_14_1, ← hI1, ↓q_is_14, hv]
        rcases q_tn1 (κ := κ) (b := b) (R := R) (Z := Z) (M := M) (O := O) (D := D) (s := s) (hi := 4095) (w := 4095) hT1 a1 (by omega) rfl with ⟨v, k, n1, n2, n3, n4⟩ | ⟨v, u, n1, n2, n4⟩
        · refine ⟨_, 0, q_IA_t ia q_IA_f, by rw [← z0, uid]; exact road _ v n4, ?_⟩
          rw [n1]
          exact ⟨q_ft_2.1, q_ft_2.2, n2, by omega⟩
        · refine ⟨_, 0, q_IA_t ia q_IA_u, by rw [← z0, uid]; exact road _ v n4, ?_⟩
          rw [n1]
          exact ⟨so3.symm, rfl, by rw [q_u2_s, q_u1_s], by rw [q_u2_s, q_u1_n _ _ (by decide), a2], by rw [q_u2_s, q_u1_n _ _ (by decide), hI1, q_u2_s, q_u1_n _ _ (by decide)]⟩
      | false =>
        have so2 : q_srt B l h = 2 := by unfold q_srt; rw [if_neg c1, hs, if_pos rfl, hw, if_neg (by decide)]
        have t1 : (q_srt B l h = 1) = False := eq_false (by omega)
        have t2 : (q_srt B l h = 2) = True := eq_true so2
        have t3 : (q_srt B l h = 3) = False := eq_false (by omega)
        obtain ⟨I1, hI1⟩ : ∃ I1, I1 = q_u2 I 14 1 (nI (h + 1)) := ⟨_, rfl⟩
        have a1 : I1 14 1 = nI (h + 1) := by rw [hI1, q_u2_s, q_u1_s]
        have a2 : I1 14 2 = 0 := by rw [hI1, q_u2_s, q_u1_n _ _ (by decide), h2]
        have ia : q_IA I I1 := by rw [hI1]; exact q_IA_u
        have hT1 : q_TC B l zt I1 X Y := q_TC_I hT (by rw [ia 2 (by decide)])
        have sy := q_says (κ := κ) (b := b) (R := R) (Z := Z) (M := M) (O := O) (s := s) (i := 3) hT1 hK q_tx13.2.1 (by omega : h + 1 < l.length + 3)
        have road : F_X8_readStatement κ (some (b + 21)) (some a) (q_H b (I, R, X, Y, Z) M O D, s) = q_ca (F_X8_readWords κ (some (b + 21)) (some a)) (fun _ => q_rt ()) (q_H b (I1, R, X, Y, Z) M O D, s) := by
          simp (disch := first | rfl | omega | decide | exact Nat.le_of_ble_eq_true rfl) only [F_X8_readStatement, F_X8_readStatement_77, ↓q_br, ↓reduceIte, ↓q_gA_21_0, qd_I eD (k := 0) (v := nI (q_srt B l h)) rfl, s1, s2, s3, t1, t2, t3, not_true_eq_false, not_false_eq_true, ↓q_gI_14_1, h1, nI_1, ↓q_pI_14_1, ← hI1, ↓q_is_21]
        rw [road]
        cases hw3 : q_wd B l (h + 1) 3 with
        | false =>
          rw [hw3] at sy
          refine ⟨q_ft I1 1 (nI (h + 1)), 0, q_IA_t ia q_IA_f, ?_, ?_⟩
          · rw [← z0, uid]
            simp (disch := first | rfl | omega | decide | exact Nat.le_of_ble_eq_true rfl) only [↓q_br, q_rt, q_rz, q_gd, q_ca, ↓reduceIte, F_X8_readWords, ↓q_gA_21_0, ↓q_gA_21_1, ↓q_gI_14_1, ↓q_is_14, ↓q_is_2, ↓q_gI_14_1, a1, ↓q_is_2, sy, q_b_0, not_true_eq_false, ↓q_is_14, q_fail a1]
          · rw [if_neg (by decide), if_neg (by decide)]
            exact ⟨q_ft_2.1, q_ft_2.2, by decide, by decide⟩
        | true =>
          rw [hw3] at sy
          rw [if_pos rfl]
          have lt1 : h + 1 < l.length := by
            unfold q_wd at hw3
            rw [decide_eq_true_eq] at hw3
            exact q_tok_lt (by omega)
          obtain ⟨I2, c2, r1, r2, r3⟩ := q_words_33 (κ := κ) (b := b) (B := B) (l := l) (zt := zt) (R := R) (X := X) (Y := Y) (Z := Z) (M := M) (O := O) (s := s) hz ha (l.length + 1) q_fu 0 (h + 1) 0 I1 D hT1 a1 a2 (by rw [ia 8 (by decide), h8]) hD lt1 (by omega) (Nat.le_refl _) (by omega) (by unfold q_fu; omega)
          rw [nI_0] at r2
          refine ⟨I2, c2, q_IA_t ia r1, ?_, ?_⟩
          · simp (disch := first | rfl | omega | decide | exact Nat.le_of_ble_eq_true rfl) only [↓q_br, q_rt, q_rz, q_gd, q_ca, ↓reduceIte, F_X8_readWords, ↓q_gA_21_0, ↓q_gA_21_1, ↓q_gI_14_1, ↓q_is_14, ↓q_is_2, ↓q_gI_14_1, a1, ↓q_is_2, sy, q_b_0, Bool.true_eq_false, not_false_eq_true, r2]
          · cases hn : q_nms l (2 ^ z - 1) (l.length + 1) (h + 2) 0 with
            | inl e =>
              have hn' : q_nms l (2 ^ z - 1) (l.length + 1) (h + 1 + 1) 0 = .inl e := hn
              rw [hn'] at r3
              exact r3
            | inr e =>
              have hn' : q_nms l (2 ^ z - 1) (l.length + 1) (h + 1 + 1) 0 = .inr e := hn
              rw [hn'] at r3
              obtain ⟨e1, e2⟩ := e
              exact ⟨so2.symm, r3.1, r3.2.1, r3.2.2.1, by rw [r3.2.2.2, hI1, q_u2_s, q_u1_n _ _ (by decide)]⟩
end QRL
