section QNE
variable {κ : Nat → Nat} {b : Nat} {B : Nat → Int32} {l : List q_Tok} {zt : Nat} {C : q_CT} {S : Nat → Nat → Int64} {O : Nat → Int64} {D : q_Mem}
theorem q_MIn_fr {N N' : List q_Nam} {Q Q' : Nat → Nat → Int32} {nk z i i' : Nat} {J : q_Ins} (h : q_MIn N Q nk z i' J) (hi : i' < i) (hz : z ≤ 32) (hp : N <+: N') (h43 : Q' 43 i' = Q 43 i') (h4 : Q' 44 i' = Q 44 i' ∧ Q' 45 i' = Q 45 i' ∧ Q' 46 i' = Q 46 i' ∧ Q' 47 i' = Q 47 i') (h48 : ∀ x, x < 12 * i → Q' 48 x = Q 48 x) (h49 : ∀ x, x < 5 * i → Q' 49 x = Q 49 x ∧ Q' 50 x = Q 50 x) (h51 : ∀ x, x < 160 * i → Q' 51 x = Q 51 x) : q_MIn N' Q' nk z i' J := by
  obtain ⟨⟨w, e1, e2⟩, e3, e4, e5, e6, e7, e8, e9, e10, e11⟩ := h
  obtain ⟨u1, u2, u3, u4⟩ := h4
  refine ⟨⟨w, by rw [h43, e1], q_pre_g hp e2⟩, by rw [u1, e3], by rw [u2, e4], by rw [u3, e5], by rw [u4, e6], ⟨fun j v hj => ?_, fun j x hj => ?_⟩, fun w x hx k s hk hs => ?_, e9, e10, e11⟩
  · have := (List.getElem?_eq_some_iff.mp hj).1
    rw [h48 _ (by omega)]
    exact e7.1 j v hj
  · have := (List.getElem?_eq_some_iff.mp hj).1
    obtain ⟨⟨v, v1, v2⟩, v3, v4⟩ := e7.2 j x hj
    obtain ⟨u5, u6⟩ := h49 (5 * i' + j) (by omega)
    exact ⟨⟨v, by rw [u5, v1], q_pre_g hp v2⟩, by rw [u6, v3], v4⟩
  · have h1 := (List.getElem?_eq_some_iff.mp hx).1
    have h2 : w * z ≤ 3 * 32 := Nat.mul_le_mul (by omega) hz
    rw [h51 _ (by omega)]
    exact e8 w x hx k s hk hs
theorem q_minstr {n m z t top : Nat} {L : List q_Knd} {P : Nat → Int32} {Q : Nat → Nat → Int32} {N : List q_Nam} {ni : Nat} (hK : q_Kp κ b D) (hz : z ≤ 32) (hni : ni ≤ 96) (hn : b + 66 < n) (h : q_TM B l zt P Q S) (ha : P 15 = nI t) (h21 : P 21 = nI z) (h23 : P 23 = nI ni) (ht : t ≤ l.length) (hP : q_PL N top P Q) (hN : N.length ≤ t) (hT : q_TP l top t) (hk : q_MMk N P Q L) :
    ∃ P' Q', (∀ j, j ≠ 15 → j ≠ 19 → j ≠ 20 → j ≠ 23 → P' j = P j) ∧ (∀ j, (j < 34 ∨ 36 < j) → (j < 43 ∨ 52 < j) → Q' j = Q j) ∧ (match q_pi B l L ni z t with
      | .inl (k, p) => F_X13_instruction κ (some (b + 26)) (q_H b C (P, Q, S) O D, n, m) = q_thr Unit b C (P', Q', S) O D n m (nI k) (nI p)
      | .inr (J, t') => F_X13_instruction κ (some (b + 26)) (q_H b C (P, Q, S) O D, n, m) = some (.inl (), (q_H b C (P', Q', S) O D, n, m)) ∧ ∃ t1, t' = t1 + 1 ∧ P' 15 = nI t1 ∧ P' 23 = nI (ni + 1) ∧ q_sgn l t1 59 = true ∧ ∃ N' top', q_PL N' top' P' Q' ∧ N <+: N' ∧ N'.length ≤ t' ∧ q_TP l top' t' ∧ (J.2.2.2.length ≤ 4 → q_MIn N' Q' L.length z ni J) ∧ (∀ i' J', i' < ni → q_MIn N Q L.length z i' J' → q_MIn N' Q' L.length z i' J')) := by
  have hzt := h.2.2.1
  have hl := h.2.1
  have hwf := h.2.2.2.2.1
  have i1 : nI 1 = 1 := rfl
  have i3 : nI 3 = 3 := rfl
  unfold q_pi
  by_cases hy : (q_tok l t).1 = 1
  · rw [if_pos hy]
    have hlt := q_tok_lt (l := l) (t := t) (by omega)
    have d1 := q_expectName_t (κ := κ) (b := b) (C := C) (O := O) (D := D) (s := (n, m)) h ha hy
    have h96 : (nI ni = (96 : Int32)) ↔ ni = 96 := nI_eq (b := 96) (by omega) (by decide)
    have h23' : q_u1 P 15 (nI (t + 1)) 23 = nI ni := by rw [q_u1_n _ _ (by decide), h23]
    by_cases hn96 : ni = 96
    · rw [if_pos hn96]
      have h96' : (nI ni = (96 : Int32)) = True := eq_true (h96.mpr hn96)
      refine ⟨q_u1 P 15 (nI (t + 1)), Q, fun j j1 _ _ _ => q_u1_n _ _ j1, fun _ _ _ => rfl, ?_⟩
      simp (disch := first | rfl | omega | decide | exact Nat.le_of_ble_eq_true rfl) only [↓q_br, q_rt, q_rz, q_gd, q_ca, ↓reduceIte, F_X13_instruction, ↓q_gA_26_30, ↓q_gI_26_23, ↓q_is_26, ↓q_sI_43, d1, h23', h96', not_true_eq_false, q_mk_H, reduceCtorEq, not_false_eq_true, q_fault, qd_Su, q_tr, i3]
    · rw [if_neg hn96]
      have h1 : q_TM B l zt (q_u1 P 15 (nI (t + 1))) Q S := q_TM_P h (q_u1_n _ _ (by decide)) rfl rfl rfl rfl
      have hP1 : q_PL N top (q_u1 P 15 (nI (t + 1))) Q := q_PL_P hP (q_u1_n _ _ (by decide)) (q_u1_n _ _ (by decide)) rfl rfl rfl
      obtain ⟨N2, top2, w, P2, Q2, n1, n2, n3, n4, n5, n6, n7⟩ := q_nameOf (κ := κ) (b := b) (C := C) (O := O) (D := D) (s := (n, m)) h1 hy hP1 hN (hT t (Nat.le_refl _) hlt)
      have hpre : N <+: N2 := by
        rcases n4 with e | e <;> rw [e]
        · exact List.prefix_refl _
        · exact List.prefix_append _ _
      have hN2 : N2.length ≤ t + 1 := by
        rcases n4 with e | e <;> rw [e]
        · omega
        · simp only [List.length_append, List.length_cons, List.length_nil]; omega
      have hT2 : q_TP l top2 (t + 1) := q_TP_next hwf n5
      have fP2 : ∀ j, j ≠ 15 → j ≠ 19 → j ≠ 20 → P2 j = P j := fun j j1 j2 j3 => by rw [n6 j j2 j3, q_u1_n _ _ j1]
      obtain ⟨Q3, hQ3⟩ : ∃ Q3, Q3 = q_u2 Q2 43 ni (nI w) := ⟨_, rfl⟩
      have fQ3 : ∀ j, j ≠ 34 → j ≠ 35 → j ≠ 36 → j ≠ 43 → Q3 j = Q j := fun j j1 j2 j3 j4 => by rw [hQ3, q_u2_n _ _ _ j4, n7 j j1 j2 j3]
      have gQ3 : ∀ j, j ≠ 43 → Q3 j = Q2 j := fun j j4 => by rw [hQ3, q_u2_n _ _ _ j4]
      have h3t : q_TM B l zt P2 Q3 S := q_TM_P h (fP2 13 (by decide) (by decide) (by decide)) (fQ3 28 (by decide) (by decide) (by decide) (by decide)) (fQ3 30 (by decide) (by decide) (by decide) (by decide)) (fQ3 31 (by decide) (by decide) (by decide) (by decide)) (fQ3 32 (by decide) (by decide) (by decide) (by decide))
      have hk3 : q_MMk N2 P2 Q3 L := q_MMk_Q hk hpre (fP2 22 (by decide) (by decide) (by decide)) (fun j j1 j2 => fQ3 j (by omega) (by omega) (by omega) (by omega))
      obtain ⟨P', Q', y1, y2, y3, y4, y5, y6, y7⟩ := q_mloop (κ := κ) (b := b) (C := C) (S := S) (O := O) (D := D) (n := n) (m := m) (i := ni) (B := B) (l := l) (zt := zt) (L := L) hK hz (by omega) hn (l.length + 1) q_fu (t + 1) P2 Q3 N2 top2 [] [] h3t (by rw [n6 15 (by decide) (by decide), q_u1_s]) (by rw [fP2 21 (by decide) (by decide) (by decide), h21]) (by rw [fP2 23 (by decide) (by decide) (by decide), h23]) (by omega) (by omega) (by unfold q_fu; omega) (q_PL_P n2 rfl rfl (gQ3 34 (by decide)) (gQ3 35 (by decide)) (gQ3 36 (by decide))) hN2 hT2 hk3 ⟨fun j v hj => by simp at hj, fun j x hj => by simp at hj⟩ (by simp) (by simp)
      simp only [List.length_nil, nI_0] at y7
      have step : F_X13_instruction κ (some (b + 26)) (q_H b C (P, Q, S) O D, n, m) = F_X13_instruction_42 κ q_fu (some (b + 26)) (nI ni) 0 0 (q_H b C (P2, Q3, S) O D, n, m) := by
        rw [hQ3]
        simp (disch := first | rfl | omega | decide | exact Nat.le_of_ble_eq_true rfl) only [↓q_br, q_rt, q_rz, q_gd, q_ca, ↓reduceIte, F_X13_instruction, ↓q_gA_26_30, ↓q_gI_26_23, ↓q_is_26, ↓q_sI_43, d1, h23', h96, hn96, not_false_eq_true, n1, ↓q_sI_43]
      have gP : ∀ j, j ≠ 15 → j ≠ 19 → j ≠ 20 → j ≠ 23 → P' j = P j := fun j j1 j2 j3 j4 => by rw [y1 j j1 j2 j3 j4, fP2 j j1 j2 j3]
      have gQ : ∀ j, (j < 34 ∨ 36 < j) → (j < 43 ∨ 52 < j) → Q' j = Q j := fun j j1 j2 => by rw [y2 j j1 (by omega), fQ3 j (by omega) (by omega) (by omega) (by omega)]
      refine ⟨P', Q', gP, gQ, ?_⟩
      rw [step]
      cases hpp : q_pp B l L (l.length + 1) [] [] (t + 1) with
      | inl e =>
        obtain ⟨k, p⟩ := e
        rw [hpp] at y7
        exact y7
      | inr e =>
        obtain ⟨ps, os, t1⟩ := e
        rw [hpp] at y7
        simp only at y7 ⊢
        cases hpb : q_pb B l L os z (l.length + 1) [] [] (t1 + 1) with
        | inl e =>
          obtain ⟨k, p⟩ := e
          rw [hpb] at y7
          exact y7
        | inr e =>
          obtain ⟨ws, t2⟩ := e
          rw [hpb] at y7
          obtain ⟨v1, v2, v3, v4, v5, v6, v7, v8, v9, v10, v11, N', top', v12, v13, v14, v15, v16⟩ := y7
          have q43 : Q' 43 = Q3 43 := y2 43 (by omega) (by omega)
          refine ⟨v1, t2, rfl, v2, v3, v9, N', top', v12, hpre.trans v13, by omega, fun t' q1 q2 => v15 t' (by omega) q2, fun hw4 => ?_, fun i' J' hi' hJ => ?_⟩
          · exact ⟨⟨w, by rw [q43, hQ3, q_u2_s, q_u1_s], q_pre_g v13 n3⟩, v4, v5, v6, v7, v16, v8, v10, v11, hw4⟩
          · refine q_MIn_fr hJ hi' hz (hpre.trans v13) ?_ ?_ (fun x hx => ?_) (fun x hx => ?_) (fun x hx => ?_)
            · rw [q43, hQ3, q_u2_s, q_u1_n _ _ (by omega), n7 43 (by decide) (by decide) (by decide)]
            · obtain ⟨u1, u2, u3, u4⟩ := y4 i' (by omega)
              rw [u1, u2, u3, u4, fQ3 44 (by decide) (by decide) (by decide) (by decide), fQ3 45 (by decide) (by decide) (by decide) (by decide), fQ3 46 (by decide) (by decide) (by decide) (by decide), fQ3 47 (by decide) (by decide) (by decide) (by decide)]
              exact ⟨rfl, rfl, rfl, rfl⟩
            · rw [y5 x hx, fQ3 48 (by decide) (by decide) (by decide) (by decide)]
            · obtain ⟨u1, u2⟩ := y6 x hx
              rw [u1, u2, fQ3 49 (by decide) (by decide) (by decide) (by decide), fQ3 50 (by decide) (by decide) (by decide) (by decide)]
              exact ⟨rfl, rfl⟩
            · rw [y3 x hx, fQ3 51 (by decide) (by decide) (by decide) (by decide)]
  · rw [if_neg hy]
    have d2 := q_expectName_f (κ := κ) (b := b) (C := C) (O := O) (D := D) (n := n) (m := m) h ha (by omega) hy hn
    refine ⟨P, Q, fun _ _ _ _ _ => rfl, fun _ _ _ => rfl, ?_⟩
    unfold F_X13_instruction
    simp (disch := first | rfl | omega | decide | exact Nat.le_of_ble_eq_true rfl) only [↓q_is_26, q_ca, d2, q_thr, i1]
end QNE
