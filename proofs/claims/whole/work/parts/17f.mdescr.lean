section QRF
variable {κ : Nat → Nat} {b : Nat} {B : Nat → Int32} {l : List q_Tok} {zt : Nat} {C : q_CT} {O : Nat → Int64}
theorem q_mclear_2 {S : Nat → Nat → Int64} {D : q_Mem} {P : Nat → Int32} {s : Nat × Nat} : ∀ d fuel o (Q : Nat → Nat → Int32), o + d = 4096 → d < fuel → (∀ v, v < o → Q 54 v = 0) → ∃ Q', F_X13_clear_2 κ fuel (some (b + 26)) (nI o) (q_H b C (P, Q, S) O D, s) = some (.inl (), (q_H b C (q_u1 (q_u1 (q_u1 P 42 0) 43 0) 44 0, Q', S) O D, s)) ∧ (∀ j, j ≠ 54 → Q' j = Q j) ∧ ∀ v, v < 4096 → Q' 54 v = 0 := by
  intro d
  induction d with
  | zero =>
    intro fuel o Q h1 h2 h3
    obtain ⟨f, rfl⟩ : ∃ f, fuel = f + 1 := ⟨fuel - 1, by omega⟩
    have h4 : (4096 : Int32) ≤ nI o := by rw [show (4096 : Int32) = nI 4096 from rfl, nI_leI (by decide) (by omega)]; omega
    refine ⟨Q, ?_, fun _ _ => rfl, fun v hv => h3 v (by omega)⟩
    rw [F_X13_clear_2]
    simp (disch := first | rfl | omega | decide | exact Nat.le_of_ble_eq_true rfl) only [↓q_br, q_rt, q_rz, q_gd, q_ca, ↓reduceIte, F_X13_clear_2B, ↓q_gA_26_41, ↓q_pI_26_42, ↓q_pI_26_43, ↓q_pI_26_44, ↓q_sI_54, h4]
  | succ d ih =>
    intro fuel o Q h1 h2 h3
    obtain ⟨f, rfl⟩ : ∃ f, fuel = f + 1 := ⟨fuel - 1, by omega⟩
    have h4 : ¬ (4096 : Int32) ≤ nI o := by rw [show (4096 : Int32) = nI 4096 from rfl, nI_leI (by decide) (by omega)]; omega
    have vn : vp_nar .boolean (0 : Int32) = 0 := by decide
    obtain ⟨Q', r1, r2, r3⟩ := ih f (o + 1) (q_u2 Q 54 o 0) (by omega) (by omega) (fun v hv => by
      by_cases hvo : v = o
      · subst hvo; rw [q_u2_s, q_u1_s]
      · rw [q_u2_s, q_u1_n _ _ hvo, h3 v (by omega)])
    refine ⟨Q', ?_, fun j hj => by rw [r2 j hj, q_u2_n _ _ _ hj], r3⟩
    refine Eq.trans ?_ r1
    rw [F_X13_clear_2]
    simp (disch := first | rfl | omega | decide | exact Nat.le_of_ble_eq_true rfl) only [↓q_br, q_rt, q_rz, q_gd, q_ca, ↓reduceIte, F_X13_clear_2B, ↓q_gA_26_41, ↓q_pI_26_42, ↓q_pI_26_43, ↓q_pI_26_44, ↓q_sI_54, h4, nI_1, vn]
theorem q_mforget {S : Nat → Nat → Int64} {D : q_Mem} {P : Nat → Int32} {s : Nat × Nat} {Q : Nat → Nat → Int32} : ∃ P' Q', F_X13_forget κ (some (b + 26)) (q_H b C (P, Q, S) O D, s) = some (.inl (), (q_H b C (P', Q', S) O D, s)) ∧ (∀ j, (j < 19 ∨ 23 < j) → (j < 42 ∨ 44 < j) → P' j = P j) ∧ (∀ j, 19 ≤ j → j ≤ 23 → P' j = 0) ∧ (∀ j, 42 ≤ j → j ≤ 44 → P' j = 0) ∧ (∀ j, j ≠ 54 → Q' j = Q j) ∧ ∀ v, v < 4096 → Q' 54 v = 0 := by
  obtain ⟨Q', r1, r2, r3⟩ := q_mclear_2 (κ := κ) (b := b) (C := C) (O := O) (S := S) (D := D) (P := q_u1 (q_u1 (q_u1 (q_u1 (q_u1 P 21 0) 22 0) 23 0) 19 0) 20 0) (s := s) 4096 q_fu 0 Q (by omega) (by unfold q_fu; omega) (fun v hv => by omega)
  rw [nI_0] at r1
  refine ⟨q_u1 (q_u1 (q_u1 (q_u1 (q_u1 (q_u1 (q_u1 (q_u1 P 21 0) 22 0) 23 0) 19 0) 20 0) 42 0) 43 0) 44 0, Q', ?_, fun j j1 j2 => ?_, fun j j1 j2 => ?_, fun j j1 j2 => ?_, r2, r3⟩
  rotate_left
  · simp only [q_u1, if_neg (show ¬ j = 44 by omega), if_neg (show ¬ j = 43 by omega), if_neg (show ¬ j = 42 by omega), if_neg (show ¬ j = 20 by omega), if_neg (show ¬ j = 19 by omega), if_neg (show ¬ j = 23 by omega), if_neg (show ¬ j = 22 by omega), if_neg (show ¬ j = 21 by omega)]
  · simp only [q_u1]
    repeat' split
    all_goals first | rfl | omega
  · simp only [q_u1]
    repeat' split
    all_goals first | rfl | omega
  · simp (disch := first | rfl | omega | decide | exact Nat.le_of_ble_eq_true rfl) only [↓q_br, q_rt, q_rz, q_gd, q_ca, ↓reduceIte, F_X13_forget, F_X13_clear, ↓q_is_26, ↓q_pI_26_19, ↓q_pI_26_20, ↓q_pI_26_21, ↓q_pI_26_22, ↓q_pI_26_23, r1]
theorem q_mdescribed {n m : Nat} {S : Nat → Nat → Int64} {D : q_Mem} {P : Nat → Int32} {Q : Nat → Nat → Int32} (h : q_TM B l zt P Q S) (hK : q_Kp κ b D) (hn : b + 66 < n) :
    ∃ P' Q', (∀ j, j ≠ 15 → (j < 19 ∨ 23 < j) → (j < 42 ∨ 44 < j) → P' j = P j) ∧ (∀ j, j < 34 ∨ 52 < j → j ≠ 54 → Q' j = Q j) ∧ (∀ j, 42 ≤ j → j ≤ 44 → P' j = 0) ∧ (∀ v, v < 4096 → Q' 54 v = 0) ∧ (match q_pd B l with
      | .inl (k, p) => F_X13_described κ (some (b + 26)) (q_H b C (P, Q, S) O D, n, m) = q_thr Unit b C (P', Q', S) O D n m (nI k) (nI p)
      | .inr (z, L, Js) => F_X13_described κ (some (b + 26)) (q_H b C (P, Q, S) O D, n, m) = some (.inl (), (q_H b C (P', Q', S) O D, n, m)) ∧ P' 21 = nI z ∧ P' 23 = nI Js.length ∧ ∃ N' top', q_PL N' top' P' Q' ∧ q_MMk N' P' Q' L ∧ q_MIs N' Q' L.length z Js) := by
  have hzt := h.2.2.1
  have hl := h.2.1
  have hwf := h.2.2.2.2.1
  have i1 : nI 1 = 1 := rfl
  have i3 : nI 3 = 3 := rfl
  obtain ⟨P1, Q1, f1, f2, f3, f4, f5, f6⟩ := q_mforget (κ := κ) (b := b) (C := C) (O := O) (S := S) (D := D) (P := P) (Q := Q) (s := (n, m))
  have hT1 : q_TM B l zt P1 Q1 S := q_TM_P h (f2 13 (by omega) (by omega)) (f5 28 (by decide)) (f5 30 (by decide)) (f5 31 (by decide)) (f5 32 (by decide))
  have c3 := q_isWord (κ := κ) (b := b) (C := C) (O := O) (s := (n, m)) (i := 3) (t := 0) hT1 hK (by decide) (by omega)
  rw [nI_0] at c3
  unfold q_pd q_pw
  by_cases hw : q_wd B l 0 3 = true
  · rw [if_pos hw]
    obtain ⟨P2, hP2⟩ : ∃ P2, P2 = q_u1 P1 15 1 := ⟨_, rfl⟩
    have g2 : ∀ j, j ≠ 15 → P2 j = P1 j := fun j j1 => by rw [hP2, q_u1_n _ _ j1]
    have a2 : P2 15 = nI 1 := by rw [hP2, q_u1_s]; rfl
    have hT2 : q_TM B l zt P2 Q1 S := q_TM_P hT1 (g2 13 (by decide)) rfl rfl rfl rfl
    have hlt0 := q_tok_lt (l := l) (t := 0) (by have := (of_decide_eq_true hw).1; omega)
    have y2 : (Q1 30 1 = (2 : Int32)) ↔ (q_tok l 1).1 = 2 := q_TM_is (c := 2) hT2 (by omega) (by decide)
    have fr : ∀ j, j ≠ 15 → (j < 19 ∨ 23 < j) → (j < 42 ∨ 44 < j) → P2 j = P j := fun j j1 j2 j3 => by rw [g2 j j1, f2 j j2 j3]
    by_cases hy : (q_tok l 1).1 = 2
    · rw [if_pos hy]
      have hlt1 := q_tok_lt (l := l) (t := 1) (by omega)
      obtain ⟨v1, v2⟩ := q_vn_e hwf hy
      have s1 : S 33 1 = lN (q_vn l 1) := by rw [q_TM_wo hT2 hlt1 (Or.inl hy)]; exact v1
      have e8 : (lg_cmp (lN (q_vn l 1)) 8 = 0) ↔ q_vn l 1 = 8 := by rw [lg_cmp_eq]; exact q_lN_eq (b := 8) (by omega) (by decide)
      have e16 : (lg_cmp (lN (q_vn l 1)) 16 = 0) ↔ q_vn l 1 = 16 := by rw [lg_cmp_eq]; exact q_lN_eq (b := 16) (by omega) (by decide)
      have e32 : (lg_cmp (lN (q_vn l 1)) 32 = 0) ↔ q_vn l 1 = 32 := by rw [lg_cmp_eq]; exact q_lN_eq (b := 32) (by omega) (by decide)
      by_cases hv : q_vn l 1 = 8 ∨ q_vn l 1 = 16 ∨ q_vn l 1 = 32
      · rw [if_pos hv]
        have key : F_X13_described κ (some (b + 26)) (q_H b C (P, Q, S) O D, n, m) = F_X13_described_116 κ (some (b + 26)) (q_H b C (P2, Q1, S) O D, n, m) := by
          rw [hP2]
          rw [hP2] at a2
          simp (disch := first | rfl | omega | decide | exact Nat.le_of_ble_eq_true rfl) only [↓q_br, q_rt, q_rz, q_gd, q_ca, ↓reduceIte, F_X13_described, ↓q_gA_26_12, ↓q_gA_26_9, ↓q_gI_26_15, ↓q_is_26, ↓q_lI_30, ↓q_lL_33, ↓q_pI_26_15, f1, c3, hw, q_b_0, Bool.true_eq_false, not_false_eq_true, a2, y2, hy, s1, e8, e16, e32]
          rcases hv with hv | hv | hv
          · rw [if_pos hv]
          · rw [if_neg (by omega), if_pos hv]
          · rw [if_neg (by omega), if_neg (by omega), if_pos hv]
        have ha3 : q_u1 P2 15 (nI (1 + 1)) 15 = nI 2 := q_u1_s _ _ _
        have hT3 : q_TM B l zt (q_u1 P2 15 (nI (1 + 1))) Q1 S := q_TM_P hT2 (q_u1_n _ _ (by decide)) rfl rfl rfl rfl
        by_cases hs : q_sgn l 2 59 = true
        · rw [if_pos hs]
          have hlt2 := q_tok_lt (l := l) (t := 2) (by have := (of_decide_eq_true hs).1; omega)
          have ex := q_expect_t (κ := κ) (b := b) (C := C) (O := O) (D := D) (s := (n, m)) hT3 ha3 hs
          rw [q_u1_u1] at ex
          obtain ⟨P4, hP4⟩ : ∃ P4, P4 = q_u1 (q_u1 P2 15 (nI (2 + 1))) 21 (nI (q_vn l 1)) := ⟨_, rfl⟩
          have g4 : ∀ j, j ≠ 15 → j ≠ 21 → P4 j = P1 j := fun j j1 j2 => by rw [hP4, q_u1_n _ _ j2, q_u1_n _ _ j1, g2 j j1]
          have hN0 : q_PL [] 0 P4 Q1 := by
            refine ⟨by rw [g4 19 (by decide) (by decide), f3 19 (by decide) (by decide)]; rfl, by rw [g4 20 (by decide) (by decide), f3 20 (by decide) (by decide)]; rfl, by simp, by simp, by simp, fun w nm hw => by simp at hw⟩
          have hM0 : q_MMk [] P4 Q1 [] := ⟨by rw [g4 22 (by decide) (by decide), f3 22 (by decide) (by decide)]; rfl, by simp, fun k K hk => by simp at hk⟩
          obtain ⟨P', Q', w1, w2, w3⟩ := q_mdescr_148 (κ := κ) (b := b) (C := C) (S := S) (O := O) (D := D) (B := B) (l := l) (zt := zt) (n := n) (m := m) (z := q_vn l 1) hK (by omega) hn (l.length + 1) q_fu 3 P4 Q1 [] 0 [] [] (q_TM_P hT1 (g4 13 (by decide) (by decide)) rfl rfl rfl rfl) (by rw [hP4, q_u1_n _ _ (by decide), q_u1_s]) (by rw [hP4, q_u1_s]) (by rw [g4 23 (by decide) (by decide), f3 23 (by decide) (by decide)]; rfl) (by simp) (by omega) (by omega) (by unfold q_fu; omega) hN0 (by simp) (fun t' _ _ => Nat.zero_le _) hM0 (fun i J hi => by simp at hi)
          have st : F_X13_described_116 κ (some (b + 26)) (q_H b C (P2, Q1, S) O D, n, m) = F_X13_described_148 κ q_fu (some (b + 26)) (q_H b C (P4, Q1, S) O D, n, m) := by
            rw [hP4]
            simp (disch := first | rfl | omega | decide | exact Nat.le_of_ble_eq_true rfl) only [↓q_br, q_rt, q_rz, q_gd, q_ca, ↓reduceIte, F_X13_described_116, ↓q_gA_26_12, ↓q_gI_26_15, ↓q_is_26, ↓q_lL_33, ↓q_pI_26_15, ↓q_pI_26_21, a2, nI_1, s1, ex, lN_i]
          refine ⟨P', Q', fun j j1 j2 j3 => by rw [w1 j j1 (by omega) (by omega) (by omega) (by omega), g4 j j1 (by omega), f2 j j2 j3], fun j j1 j2 => by rw [w2 j j1, f5 j j2], fun j j1 j2 => by rw [w1 j (by omega) (by omega) (by omega) (by omega) (by omega), g4 j (by omega) (by omega), f4 j j1 j2], fun v hv => by rw [w2 54 (Or.inr (by decide)), f6 v hv], ?_⟩
          rw [key, st]
          simp only
          have w21 : P' 21 = nI (q_vn l 1) := by rw [w1 21 (by decide) (by decide) (by decide) (by decide) (by decide), hP4, q_u1_s]
          cases hq : q_ps B l (q_vn l 1) (l.length + 1) [] [] 3 with
          | inl e => obtain ⟨k, p⟩ := e; rw [hq] at w3; exact w3
          | inr e => obtain ⟨L', Js'⟩ := e; rw [hq] at w3; exact ⟨w3.1, w21, w3.2⟩
        · have hs' : q_sgn l 2 59 = false := by simpa using hs
          rw [if_neg hs]
          have ex := q_expect_f (κ := κ) (b := b) (C := C) (O := O) (D := D) (n := n) (m := m) hT3 ha3 (by omega) hs' hn
          refine ⟨q_u1 P2 15 (nI (1 + 1)), Q1, fun j j1 j2 j3 => by rw [q_u1_n _ _ j1, fr j j1 j2 j3], fun j _ j2 => f5 j j2, fun j j1 j2 => by rw [q_u1_n _ _ (by omega), g2 j (by omega), f4 j j1 j2], f6, ?_⟩
          rw [key]
          simp (disch := first | rfl | omega | decide | exact Nat.le_of_ble_eq_true rfl) only [↓q_br, q_rt, q_rz, q_gd, q_ca, ↓reduceIte, F_X13_described_116, ↓q_gA_26_12, ↓q_gI_26_15, ↓q_is_26, ↓q_lL_33, ↓q_pI_26_15, ↓q_pI_26_21, a2, nI_1, s1, ex, q_thr]
          rfl
      · rw [if_neg hv]
        have n8 : ¬ q_vn l 1 = 8 := fun h9 => hv (Or.inl h9)
        have n16 : ¬ q_vn l 1 = 16 := fun h9 => hv (Or.inr (Or.inl h9))
        have n32 : ¬ q_vn l 1 = 32 := fun h9 => hv (Or.inr (Or.inr h9))
        refine ⟨P2, Q1, fr, fun j _ j2 => f5 j j2, fun j j1 j2 => by rw [g2 j (by omega), f4 j j1 j2], f6, ?_⟩
        rw [hP2]
        rw [hP2] at a2
        simp (disch := first | rfl | omega | decide | exact Nat.le_of_ble_eq_true rfl) only [↓q_br, q_rt, q_rz, q_gd, q_ca, ↓reduceIte, F_X13_described, ↓q_gA_26_12, ↓q_gA_26_9, ↓q_gI_26_15, ↓q_is_26, ↓q_lI_30, ↓q_lL_33, ↓q_pI_26_15, f1, c3, hw, q_b_0, Bool.true_eq_false, not_false_eq_true, a2, y2, hy, s1, e8, e16, e32, n8, n16, n32, q_mk_H, reduceCtorEq, not_false_eq_true, q_fault, qd_Su, q_tr]
        rfl
    · rw [if_neg hy]
      refine ⟨P2, Q1, fr, fun j _ j2 => f5 j j2, fun j j1 j2 => by rw [g2 j (by omega), f4 j j1 j2], f6, ?_⟩
      rw [hP2]
      rw [hP2] at a2
      simp (disch := first | rfl | omega | decide | exact Nat.le_of_ble_eq_true rfl) only [↓q_br, q_rt, q_rz, q_gd, q_ca, ↓reduceIte, F_X13_described, ↓q_gA_26_12, ↓q_gA_26_9, ↓q_gI_26_15, ↓q_is_26, ↓q_lI_30, ↓q_lL_33, ↓q_pI_26_15, f1, c3, hw, q_b_0, Bool.true_eq_false, not_false_eq_true, a2, y2, hy, q_mk_H, reduceCtorEq, not_false_eq_true, q_fault, qd_Su, q_tr]
      rfl
  · rw [if_neg hw]
    have hw' : q_wd B l 0 3 = false := by simpa using hw
    refine ⟨P1, Q1, fun j _ j2 j3 => f2 j j2 j3, fun j _ j2 => f5 j j2, f4, f6, ?_⟩
    simp (disch := first | rfl | omega | decide | exact Nat.le_of_ble_eq_true rfl) only [↓q_br, q_rt, q_rz, q_gd, q_ca, ↓reduceIte, F_X13_described, ↓q_gA_26_12, ↓q_gA_26_9, ↓q_gI_26_15, ↓q_is_26, ↓q_lI_30, ↓q_lL_33, ↓q_pI_26_15, f1, c3, hw', q_b_0, not_true_eq_false, q_mk_H, reduceCtorEq, not_false_eq_true, q_fault, qd_Su, q_tr]
    rfl
end QRF
