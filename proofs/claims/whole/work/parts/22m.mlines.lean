section QMM
variable {κ : Nat → Nat} {b : Nat} {B : Nat → Int32} {l : List q_Tok} {zt : Nat} {C : q_CT} {S : Nat → Nat → Int64} {O : Nat → Int64} {D : q_Mem} {n m : Nat}
theorem q_m142 {r : Option Nat → q_X Unit} {i z h : Nat} {P : Nat → Int32} {Q : Nat → Nat → Int32} (hz : z ≤ 32) (hi : i < 6002) (hn : b + 66 < n) (hK : q_Kp κ b D) (hT : q_TM B l zt P Q S) (ha : P 15 = nI h) (h21 : P 21 = nI z) (h60 : Q 60 i = 0) (hh : h ≤ l.length) : ∃ P' Q', q_ST9 i P P' (q_u2 (q_u2 Q 56 i (nI h)) 57 i 0) Q' ∧ (match q_st1 B l z h with
    | .inl (k, p) => F_X13_lines_142 κ r (some (b + 26)) (nI i) (q_H b C (P, Q, S) O D, n, m) = q_thr Unit b C (P', Q', S) O D n m (nI k) (nI p)
    | .inr (so, en, wd) => F_X13_lines_142 κ r (some (b + 26)) (nI i) (q_H b C (P, Q, S) O D, n, m) = F_X13_lines_396 κ r (some (b + 26)) (nI i) (q_H b C (P', Q', S) O D, n, m) ∧ P' 15 = nI en ∧ Q' 57 i = nI so ∧ Q' 60 i = nI wd) := by
  have hzt := hT.2.2.1
  have hl := hT.2.1
  have h6 : h < 6002 := by omega
  obtain ⟨Q1, hQ1⟩ : ∃ Q1, Q1 = q_u2 (q_u2 Q 56 i (nI h)) 57 i 0 := ⟨_, rfl⟩
  have fQ1 : ∀ j, j ≠ 56 → j ≠ 57 → Q1 j = Q j := fun j j1 j2 => by rw [hQ1, q_u2_n _ _ _ j2, q_u2_n _ _ _ j1]
  have hT1 : q_TM B l zt P Q1 S := q_TM_P hT rfl (fQ1 28 (by decide) (by decide)) (fQ1 30 (by decide) (by decide)) (fQ1 31 (by decide) (by decide)) (fQ1 32 (by decide) (by decide))
  have q57 : Q1 57 i = 0 := by rw [hQ1, q_u2_s, q_u1_s]
  have q60 : Q1 60 i = 0 := by rw [fQ1 60 (by decide) (by decide), h60]
  have ty : (Q1 30 h = (1 : Int32)) = ((q_tok l h).1 = 1) := propext (q_TM_is (c := 1) hT1 (by omega) (by decide))
  have sg := q_msign (κ := κ) (b := b) (C := C) (O := O) (D := D) (s := (n, m)) (c := 46) hT1 (by omega : h < l.length + 2)
  rw [← hQ1]
  unfold q_st1
  by_cases c1 : (q_tok l h).1 = 1
  · rw [if_pos c1]
    have t1 : ((q_tok l h).1 = 1) = True := eq_true c1
    obtain ⟨Q2, hQ2⟩ : ∃ Q2, Q2 = q_u2 Q1 57 i 1 := ⟨_, rfl⟩
    have st : q_ST9 i P P Q1 Q2 := by rw [hQ2]; exact q_ST9_Q (Or.inl rfl)
    have sk := q_m179 (κ := κ) (b := b) (C := C) (O := O) (D := D) (n := n) (m := m) (r := r) (i := i) (l.length - h) q_fu h P (q_ST9_T hT1 st) ha (by omega) (by unfold q_fu; omega)
    refine ⟨q_u1 P 15 (nI (q_sk l h)), Q2, q_ST9_t st q_ST9_P, ?_, q_u1_s _ _ _, by rw [hQ2, q_u2_s, q_u1_s]; rfl, by rw [hQ2, q_u2_n _ _ _ (by decide), q60]; rfl⟩
    unfold q_sk
    simp (disch := first | rfl | omega | decide | exact Nat.le_of_ble_eq_true rfl) only [↓q_br, q_rt, q_rz, q_gd, q_ca, ↓reduceIte, F_X13_lines_142, ↓q_gA_26_46, ↓q_gA_26_47, ↓q_gA_26_9, ↓q_gI_26_15, ↓q_is_26, ↓q_lI_30, ↓q_lI_56, ↓q_lI_57, ↓q_pI_26_15, ↓q_sI_30, ↓q_sI_56, ↓q_sI_57, ha, ← hQ1, ty, t1, not_true_eq_false, ← hQ2, sk]
  · rw [if_neg c1]
    have t1 : ((q_tok l h).1 = 1) = False := eq_false c1
    cases hs : q_sgn l h 46 with
    | false =>
      rw [hs] at sg
      rw [if_neg (by decide)]
      refine ⟨P, Q1, q_ST9_r i P Q1, ?_, ha, by rw [q57]; rfl, by rw [q60]; rfl⟩
      simp (disch := first | rfl | omega | decide | exact Nat.le_of_ble_eq_true rfl) only [↓q_br, q_rt, q_rz, q_gd, q_ca, ↓reduceIte, F_X13_lines_142, ↓q_gA_26_46, ↓q_gA_26_47, ↓q_gA_26_9, ↓q_gI_26_15, ↓q_is_26, ↓q_lI_30, ↓q_lI_56, ↓q_lI_57, ↓q_pI_26_15, ↓q_sI_30, ↓q_sI_56, ↓q_sI_57, ha, ← hQ1, ty, t1, not_false_eq_true, ↓q_is_26, sg, q_b_0]
    | true =>
      rw [hs] at sg
      rw [if_pos rfl]
      have hlt : h < l.length := by
        unfold q_sgn at hs
        rw [decide_eq_true_eq] at hs
        exact q_tok_lt (by omega)
      obtain ⟨P1, hP1⟩ : ∃ P1, P1 = q_u1 P 15 (nI (h + 1)) := ⟨_, rfl⟩
      have p1 : P1 15 = nI (h + 1) := by rw [hP1, q_u1_s]
      have hT2 : q_TM B l zt P1 Q1 S := q_TM_P hT1 (by rw [hP1, q_u1_n _ _ (by decide)]) rfl rfl rfl rfl
      have st1 : q_ST9 i P P1 Q1 Q1 := by rw [hP1]; exact q_ST9_P
      have w3 := q_isWord (κ := κ) (b := b) (C := C) (O := O) (s := (n, m)) (i := 3) hT2 hK q_tx13.2.1 (by omega : h + 1 < l.length + 2)
      have w13 := q_isWord (κ := κ) (b := b) (C := C) (O := O) (s := (n, m)) (i := 13) hT2 hK q_tx13.1 (by omega : h + 1 < l.length + 2)
      obtain ⟨P2, hP2⟩ : ∃ P2, P2 = q_u1 P1 15 (nI (h + 2)) := ⟨_, rfl⟩
      have p2 : P2 15 = nI (h + 2) := by rw [hP2, q_u1_s]
      have st2 : q_ST9 i P1 P2 Q1 Q1 := by rw [hP2]; exact q_ST9_P
      cases hw3 : q_wd B l (h + 1) 3 with
      | true =>
        -- words
        rw [hw3] at w3
        rw [if_pos rfl]
        obtain ⟨Q2, hQ2⟩ : ∃ Q2, Q2 = q_u2 Q1 57 i 2 := ⟨_, rfl⟩
        have q2 : Q2 57 i = 2 := by rw [hQ2, q_u2_s, q_u1_s]
        have stQ : q_ST9 i P2 P2 Q1 Q2 := by rw [hQ2]; exact q_ST9_Q (Or.inl rfl)
        have st3 := q_ST9_t (q_ST9_t st1 st2) stQ
        have hT3 : q_TM B l zt P2 Q2 S := q_ST9_T hT1 st3
        have q260 : Q2 60 i = nI 0 := by rw [hQ2, q_u2_n _ _ _ (by decide), q60]; rfl
        have p21 : P2 21 = nI z := by rw [st3.1 21 (by decide), h21]
        have n0 : (¬ (2 : Int32) = 0) = True := eq_true (by decide)
        have n3 : (¬ (2 : Int32) = 3) = True := eq_true (by decide)
        have sh := q_shlz hz
        have e1 : lN (2 ^ z) - 1 = lN (2 ^ z - 1) := lN_sub (b := 1) (Nat.pos_of_ne_zero (by simp))
        have p1b : nI (h + 1) + 1 = nI (h + 2) := nI_1 (h + 1)
        rcases q_num1_c (l := l) (t := h + 2) (hi := 2 ^ z - 1) with ⟨k, n1, n2⟩ | ⟨n1, n2, n4, n5⟩
        · refine ⟨P2, Q2, st3, ?_⟩
          rw [q_nms, n1]
          rcases n2 with ⟨rfl, n2⟩ | ⟨rfl, n2, n6⟩
          · have ex := q_expectNumber_n (κ := κ) (b := b) (C := C) (O := O) (D := D) (m := m) (lo := 0) (hi := lN (2 ^ z - 1)) hT3 p2 (by
              unfold q_wd at hw3
              rw [decide_eq_true_eq] at hw3
              have := q_tok_lt (l := l) (t := h + 1) (by omega)
              omega) n2 hn
            simp (disch := first | rfl | omega | decide | exact Nat.le_of_ble_eq_true rfl) only [↓q_br, q_rt, q_rz, q_gd, q_ca, ↓reduceIte, F_X13_lines_142, F_X13_lines_267, ↓q_gA_26_46, ↓q_gA_26_47, ↓q_gA_26_50, ↓q_gA_26_9, ↓q_gI_26_15, ↓q_gI_26_21, ↓q_is_26, ↓q_lI_30, ↓q_lI_56, ↓q_lI_57, ↓q_lI_60, ↓q_pI_26_15, ↓q_sI_30, ↓q_sI_56, ↓q_sI_57, ↓q_sI_60, ha, ← hQ1, ty, t1, not_false_eq_true, ↓q_is_26, sg, q_b_0, Bool.true_eq_false, nI_1, ← hP1, p1, w3, ← hQ2, q2, n0, n3, p1b, ← hP2, p21, sh, e1, ex]
            rfl
          · have ex := q_expectNumber_f (κ := κ) (b := b) (C := C) (O := O) (D := D) (m := m) (lo := 0) (hi := lN (2 ^ z - 1)) hT3 p2 n2 n6 hn
            simp (disch := first | rfl | omega | decide | exact Nat.le_of_ble_eq_true rfl) only [↓q_br, q_rt, q_rz, q_gd, q_ca, ↓reduceIte, F_X13_lines_142, F_X13_lines_267, ↓q_gA_26_46, ↓q_gA_26_47, ↓q_gA_26_50, ↓q_gA_26_9, ↓q_gI_26_15, ↓q_gI_26_21, ↓q_is_26, ↓q_lI_30, ↓q_lI_56, ↓q_lI_57, ↓q_lI_60, ↓q_pI_26_15, ↓q_sI_30, ↓q_sI_56, ↓q_sI_57, ↓q_sI_60, ha, ← hQ1, ty, t1, not_false_eq_true, ↓q_is_26, sg, q_b_0, Bool.true_eq_false, nI_1, ← hP1, p1, w3, ← hQ2, q2, n0, n3, p1b, ← hP2, p21, sh, e1, ex]
            rfl
        · have ex := q_expectNumber_t (κ := κ) (b := b) (C := C) (O := O) (D := D) (s := (n, m)) (lo := 0) (hi := lN (2 ^ z - 1)) hT3 p2 n2 n4 n5
          have tl2 : h + 2 < l.length := q_tok_lt (by omega)
          obtain ⟨P3, hP3⟩ : ∃ P3, P3 = q_u1 P2 15 (nI (h + 2 + 1)) := ⟨_, rfl⟩
          rw [← hP3] at ex
          obtain ⟨Q3, hQ3⟩ : ∃ Q3, Q3 = q_u2 Q2 60 i (nI 1) := ⟨_, rfl⟩
          have st4 : q_ST9 i P2 P3 Q2 Q2 := by rw [hP3]; exact q_ST9_P
          have st5 : q_ST9 i P3 P3 Q2 Q3 := by rw [hQ3]; exact q_ST9_Q (Or.inr (Or.inl rfl))
          have stA := q_ST9_t (q_ST9_t st3 st4) st5
          obtain ⟨P4, Q4, r1, r2, r3⟩ := q_m346 (κ := κ) (b := b) (C := C) (O := O) (D := D) (m := m) (r := r) hz hi hn l.length q_fu (h + 3) 1 P3 Q3 (q_ST9_T hT1 stA) (by rw [hP3, q_u1_s]) (by rw [stA.1 21 (by decide), h21]) (by rw [hQ3, q_u2_s, q_u1_s]) (by omega) (by omega) (by unfold q_fu; omega)
          have step : F_X13_lines_142 κ r (some (b + 26)) (nI i) (q_H b C (P, Q, S) O D, n, m) = F_X13_lines_346 κ r q_fu (some (b + 26)) (nI i) (q_H b C (P3, Q3, S) O D, n, m) := by
            have z1 : nI 0 + 1 = nI 1 := nI_1 0
            simp (disch := first | rfl | omega | decide | exact Nat.le_of_ble_eq_true rfl) only [↓q_br, q_rt, q_rz, q_gd, q_ca, ↓reduceIte, F_X13_lines_142, F_X13_lines_267, ↓q_gA_26_46, ↓q_gA_26_47, ↓q_gA_26_50, ↓q_gA_26_9, ↓q_gI_26_15, ↓q_gI_26_21, ↓q_is_26, ↓q_lI_30, ↓q_lI_56, ↓q_lI_57, ↓q_lI_60, ↓q_pI_26_15, ↓q_sI_30, ↓q_sI_56, ↓q_sI_57, ↓q_sI_60, ha, ← hQ1, ty, t1, not_false_eq_true, ↓q_is_26, sg, q_b_0, Bool.true_eq_false, nI_1, ← hP1, p1, w3, ← hQ2, q2, n0, n3, p1b, ← hP2, p21, sh, e1, ex, q260, z1, ← hQ3]
          rw [step]
          refine ⟨P4, Q4, q_ST9_t stA r1, ?_⟩
          rw [q_nms, n1]
          have ee : (if q_sgn l (h + 3) 44 = true then q_nms l (2 ^ z - 1) l.length (h + 3 + 1) 1 else .inr (1, h + 3)) = (if q_sgn l (h + 2 + 1) 44 = true then q_nms l (2 ^ z - 1) l.length (h + 2 + 2) (0 + 1) else .inr (0 + 1, h + 2 + 1)) := rfl
          rw [ee] at r3
          cases hq : (if q_sgn l (h + 2 + 1) 44 = true then q_nms l (2 ^ z - 1) l.length (h + 2 + 2) (0 + 1) else .inr (0 + 1, h + 2 + 1)) with
          | inl e =>
            rw [hq] at r3
            simp only [hq]
            exact r3
          | inr e =>
            rw [hq] at r3
            simp only [hq]
            obtain ⟨e1', e2'⟩ := e
            exact ⟨r3.1, r3.2.1, by rw [r2, hQ3, q_u2_n _ _ _ (by decide), q2]; rfl, r3.2.2⟩
      | false =>
        rw [hw3] at w3
        rw [if_neg (by decide)]
        cases hw : q_wd B l (h + 1) 13 with
        | true =>
          rw [hw] at w13
          rw [if_pos rfl]
          obtain ⟨Q2, hQ2⟩ : ∃ Q2, Q2 = q_u2 Q1 57 i 3 := ⟨_, rfl⟩
          have q2 : Q2 57 i = 3 := by rw [hQ2, q_u2_s, q_u1_s]
          have stQ : q_ST9 i P2 P2 Q1 Q2 := by rw [hQ2]; exact q_ST9_Q (Or.inl rfl)
          have st3 := q_ST9_t (q_ST9_t st1 st2) stQ
          have hT3 : q_TM B l zt P2 Q2 S := q_ST9_T hT1 st3
          have q260 : Q2 60 i = nI 0 := by rw [hQ2, q_u2_n _ _ _ (by decide), q60]; rfl
          have n0 : (¬ (3 : Int32) = 0) = True := eq_true (by decide)
          have n3 : (¬ (3 : Int32) = 3) = False := eq_false (fun h9 => h9 rfl)
          have p1b : nI (h + 1) + 1 = nI (h + 2) := nI_1 (h + 1)
          have hl2 : h + 1 < l.length := by
            unfold q_wd at hw
            rw [decide_eq_true_eq] at hw
            exact q_tok_lt (by omega)
          have c4 : (4095 : Int64) = lN 4095 := rfl
          rcases q_num1_c (l := l) (t := h + 2) (hi := 4095) with ⟨k, n1, n2⟩ | ⟨n1, n2, n4, n5⟩
          · refine ⟨P2, Q2, st3, ?_⟩
            rw [n1]
            rcases n2 with ⟨rfl, n2⟩ | ⟨rfl, n2, n6⟩
            · have ex := q_expectNumber_n (κ := κ) (b := b) (C := C) (O := O) (D := D) (m := m) (lo := 0) (hi := 4095) hT3 p2 (by omega) n2 hn
              simp (disch := first | rfl | omega | decide | exact Nat.le_of_ble_eq_true rfl) only [↓q_br, q_rt, q_rz, q_gd, q_ca, ↓reduceIte, F_X13_lines_142, F_X13_lines_267, ↓q_gA_26_46, ↓q_gA_26_47, ↓q_gA_26_50, ↓q_gA_26_9, ↓q_gI_26_15, ↓q_gI_26_21, ↓q_is_26, ↓q_lI_30, ↓q_lI_56, ↓q_lI_57, ↓q_lI_60, ↓q_pI_26_15, ↓q_sI_30, ↓q_sI_56, ↓q_sI_57, ↓q_sI_60, ha, ← hQ1, ty, t1, not_false_eq_true, ↓q_is_26, sg, q_b_0, Bool.true_eq_false, nI_1, ← hP1, p1, w3, w13, ← hQ2, q2, n0, not_true_eq_false, p1b, ← hP2, ex]
              rfl
            · have ex := q_expectNumber_f (κ := κ) (b := b) (C := C) (O := O) (D := D) (m := m) (lo := 0) (hi := 4095) hT3 p2 n2 n6 hn
              simp (disch := first | rfl | omega | decide | exact Nat.le_of_ble_eq_true rfl) only [↓q_br, q_rt, q_rz, q_gd, q_ca, ↓reduceIte, F_X13_lines_142, F_X13_lines_267, ↓q_gA_26_46, ↓q_gA_26_47, ↓q_gA_26_50, ↓q_gA_26_9, ↓q_gI_26_15, ↓q_gI_26_21, ↓q_is_26, ↓q_lI_30, ↓q_lI_56, ↓q_lI_57, ↓q_lI_60, ↓q_pI_26_15, ↓q_sI_30, ↓q_sI_56, ↓q_sI_57, ↓q_sI_60, ha, ← hQ1, ty, t1, not_false_eq_true, ↓q_is_26, sg, q_b_0, Bool.true_eq_false, nI_1, ← hP1, p1, w3, w13, ← hQ2, q2, n0, not_true_eq_false, p1b, ← hP2, ex]
              rfl
          · have ex := q_expectNumber_t (κ := κ) (b := b) (C := C) (O := O) (D := D) (s := (n, m)) (lo := 0) (hi := 4095) hT3 p2 n2 n4 n5
            obtain ⟨P3, hP3⟩ : ∃ P3, P3 = q_u1 P2 15 (nI (h + 2 + 1)) := ⟨_, rfl⟩
            rw [← hP3] at ex
            refine ⟨P3, Q2, q_ST9_t st3 (by rw [hP3]; exact q_ST9_P), ?_⟩
            rw [n1]
            refine ⟨?_, by rw [hP3, q_u1_s], by rw [q2]; rfl, q260⟩
            simp (disch := first | rfl | omega | decide | exact Nat.le_of_ble_eq_true rfl) only [↓q_br, q_rt, q_rz, q_gd, q_ca, ↓reduceIte, F_X13_lines_142, F_X13_lines_267, ↓q_gA_26_46, ↓q_gA_26_47, ↓q_gA_26_50, ↓q_gA_26_9, ↓q_gI_26_15, ↓q_gI_26_21, ↓q_is_26, ↓q_lI_30, ↓q_lI_56, ↓q_lI_57, ↓q_lI_60, ↓q_pI_26_15, ↓q_sI_30, ↓q_sI_56, ↓q_sI_57, ↓q_sI_60, ha, ← hQ1, ty, t1, not_false_eq_true, ↓q_is_26, sg, q_b_0, Bool.true_eq_false, nI_1, ← hP1, p1, w3, w13, ← hQ2, q2, n0, not_true_eq_false, p1b, ← hP2, ex]
        | false =>
          rw [hw] at w13
          rw [if_neg (by decide)]
          have id57 : q_u2 Q1 57 i 0 = Q1 := q_u2_id _ _ _ q57
          refine ⟨P1, Q1, st1, ?_⟩
          simp (disch := first | rfl | omega | decide | exact Nat.le_of_ble_eq_true rfl) only [↓q_br, q_rt, q_rz, q_gd, q_ca, ↓reduceIte, F_X13_lines_142, F_X13_lines_267, ↓q_gA_26_46, ↓q_gA_26_47, ↓q_gA_26_50, ↓q_gA_26_9, ↓q_gI_26_15, ↓q_gI_26_21, ↓q_is_26, ↓q_lI_30, ↓q_lI_56, ↓q_lI_57, ↓q_lI_60, ↓q_pI_26_15, ↓q_sI_30, ↓q_sI_56, ↓q_sI_57, ↓q_sI_60, ha, ← hQ1, ty, t1, not_false_eq_true, ↓q_is_26, sg, q_b_0, Bool.true_eq_false, nI_1, ← hP1, p1, w3, w13, id57, q57, not_true_eq_false, q_mk_H, reduceCtorEq, not_false_eq_true, q_fault, qd_Su, q_tr]
          rfl
end QMM
