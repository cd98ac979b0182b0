section QRG
variable {κ : Nat → Nat} {b : Nat} {C : q_CT} {O : Nat → Int64}
theorem q_cpy_b {f g : Nat → Int32} {n i : Nat} (h : i < n) : va_cpy f g 0 0 n i = f i := by
  unfold va_cpy
  rw [if_pos ⟨Nat.zero_le _, by omega⟩]
  congr 1
  omega
theorem q_mdescribe {n m zt : Nat} {B : Nat → Int32} {S : Nat → Nat → Int64} {D : q_Mem} {P : Nat → Int32} {Q : Nat → Nat → Int32} (hK : q_Kp κ b D) (hz : zt ≤ 6000) (h3 : P 3 = nI zt) (hB : ∀ i, i < zt → q_By (Q 27 i)) (hQ : ∀ i, i < zt → Q 27 i = B i) (hn : b + 66 < n) :
    ∃ P' Q' S' D' n' m' r, F_X13_describe κ (some (b + 26)) (q_H b C (P, Q, S) O D, n, m) = some (.inl r, (q_H b C (P', Q', S') O D', n', m')) ∧ (∀ j, j ≠ 3 → (j < 5 ∨ 7 < j) → (j < 13 ∨ 15 < j) → (j < 19 ∨ 23 < j) → (j < 42 ∨ 44 < j) → P' j = P j) ∧ (∀ j, j = 27 ∨ j = 29 ∨ j = 53 ∨ 54 < j → Q' j = Q j) ∧ (∀ j, j ≠ 33 → S' j = S j) ∧ (∀ x, x < n → D' x = D x) ∧ n ≤ n' ∧ n' ≤ n + 1 ∧ m ≤ m' ∧ m' ≤ m + 8 ∧ P' 3 = 0 ∧ (∀ j, 42 ≤ j → j ≤ 44 → P' j = 0) ∧ (∀ v, v < 4096 → Q' 54 v = 0) ∧ (match q_pd B (q_sc false B zt zt 0) with
      | .inl (k, p) => r = 0 ∧ P' 5 = nI k ∧ P' 6 = nI p ∧ P' 7 = 1 ∧ ∀ j, 19 ≤ j → j ≤ 23 → P' j = 0
      | .inr (z, L, Js) => r = nI Js.length ∧ P' 5 = 0 ∧ P' 6 = -1 ∧ P' 7 = 0 ∧ P' 21 = nI z ∧ P' 23 = nI Js.length ∧ ∃ N top, q_PL N top P' Q' ∧ q_MMk N P' Q' L ∧ q_MIs N Q' L.length z Js) := by
  obtain ⟨Q1, hQ1⟩ : ∃ Q1, Q1 = q_cp Q 27 28 0 0 zt := ⟨_, rfl⟩
  have fQ1 : ∀ j, j ≠ 28 → Q1 j = Q j := fun j j1 => by rw [hQ1, q_cp_n _ j1]
  have q28 : ∀ i, i < zt → Q1 28 i = Q 27 i := fun i hi => by rw [hQ1, q_cp_s, q_cpy_b hi]
  have hB1 : ∀ i, i < zt → q_By (Q1 28 i) := fun i hi => by rw [q28 i hi]; exact hB i hi
  obtain ⟨P1, hP1⟩ : ∃ P1, P1 = q_u1 (q_u1 P 14 (nI zt)) 3 0 := ⟨_, rfl⟩
  have fP1 : ∀ j, j ≠ 3 → j ≠ 14 → P1 j = P j := fun j j1 j2 => by rw [hP1, q_u1_n _ _ j1, q_u1_n _ _ j2]
  have hsc : q_sc false (Q1 28) zt zt 0 = q_sc false B zt zt 0 := q_sc_c (fun i hi => by rw [q28 i hi, hQ i hi]) _ _
  obtain ⟨l, hl⟩ : ∃ l, l = q_sc false B zt zt 0 := ⟨_, rfl⟩
  obtain ⟨Q2, S2, c1, c2, c3, c4⟩ := q_X13_scan (κ := κ) (b := b) (C := C) (O := O) (D := D) (s := (n, m)) (ln := false) (P := P1) (Q := Q1) (S := S) hK hz (by rw [hP1, q_u1_n _ _ (by decide), q_u1_s]) hB1
  rw [hsc, ← hl] at c1 c2
  rw [← hl]
  have hlen : l.length ≤ zt := by
    have := q_sc_len false B zt zt 0 (by omega)
    rw [hl]; omega
  have hBb : ∀ i, i < zt → q_By (B i) := fun i hi => by rw [← hQ i hi]; exact hB i hi
  have hwf : q_WF B zt l := by rw [hl]; exact (q_sc_wf false B zt zt 0).1
  obtain ⟨P2, hP2⟩ : ∃ P2, P2 = q_u1 (q_u1 (q_u1 (q_u1 P1 13 (nI l.length)) 5 0) 6 (-1)) 7 0 := ⟨_, rfl⟩
  have fP2 : ∀ j, (j < 5 ∨ 7 < j) → j ≠ 13 → P2 j = P1 j := fun j j1 j2 => by rw [hP2, q_u1_n _ _ (by omega), q_u1_n _ _ (by omega), q_u1_n _ _ (by omega), q_u1_n _ _ j2]
  have q5 : P2 5 = 0 ∧ P2 6 = -1 ∧ P2 7 = 0 ∧ P2 13 = nI l.length := by rw [hP2]; exact ⟨by simp (disch := first | rfl | omega | decide | exact Nat.le_of_ble_eq_true rfl) only [q_u1_n, q_u1_s], by simp (disch := first | rfl | omega | decide | exact Nat.le_of_ble_eq_true rfl) only [q_u1_n, q_u1_s], by simp (disch := first | rfl | omega | decide | exact Nat.le_of_ble_eq_true rfl) only [q_u1_s], by simp (disch := first | rfl | omega | decide | exact Nat.le_of_ble_eq_true rfl) only [q_u1_n, q_u1_s]⟩
  have hT : q_TM B l zt P2 Q2 S2 := ⟨q5.2.2.2, hlen, hz, c2, hwf, fun i hi => by rw [c3 28 (by decide) (by decide) (by decide), q28 i hi, hQ i hi], hBb⟩
  obtain ⟨P3, Q3, d1, d2, d3, d4, d5⟩ := q_mdescribed (κ := κ) (b := b) (C := C) (O := O) (n := n) (m := m) hT hK hn
  have qb0 : q_b false = 0 := rfl
  rw [qb0] at c1
  have start : F_X13_describe κ (some (b + 26)) (q_H b C (P, Q, S) O D, n, m) = q_cc (F_X13_described κ (some (b + 26))) (fun _v30 => q_rd (q_gI (some (b + 26)) 16 23) fun v65 => q_rt v65) (fun x30 => q_br (x30.1 = "IsaForgeModel$Fault") (q_rd (q_is (some (b + 26)) 16) fun _ => q_ca (F_X13_forget κ (some (b + 26))) fun _v38 => q_rd (q_gI (some x30.2) 15 6) fun v43 => q_wr (q_pF (some (b + 26)) 16 5 (.int v43)) (q_rd (q_gI (some x30.2) 15 7) fun v51 => q_wr (q_pF (some (b + 26)) 16 6 (.int v51)) (q_wr (q_pF (some (b + 26)) 16 7 (.int (1 : Int32))) (q_rt (0 : Int32))))) (q_no)) (q_H b C (P2, Q2, S2) O D, n, m) := by
    have tk : F_X13_take κ (some (b + 26)) (q_H b C (P, Q, S) O D, n, m) = some (.inl (), (q_H b C (q_u1 P 14 (nI zt), Q1, S) O D, n, m)) := by
      simp (disch := first | rfl | omega | decide | exact Nat.le_of_ble_eq_true rfl) only [↓q_br, q_rt, q_rz, q_gd, q_ca, ↓reduceIte, F_X13_take, ↓q_gA_26_0, ↓q_gA_26_1, ↓q_gI_26_3, ↓q_pI_26_14, h3]
      rw [← nI_0, q_cB_m (i := 27) (j := 28) (n1 := 6000) (n2 := 6000) (sp := 0) (dp := 0) (n := zt) rfl rfl (by decide) (by decide) (by omega) (by omega) (by decide) (fun x hx => by rw [Nat.zero_add]; exact hB x hx), ← hQ1]
      simp (disch := first | rfl | omega | decide | exact Nat.le_of_ble_eq_true rfl) only [↓q_br, q_rt, q_rz, q_gd, q_ca, ↓reduceIte, ↓q_gI_26_3, ↓q_pI_26_14, h3]
    rw [hP1] at c1
    rw [hP2, hP1]
    simp (disch := first | rfl | omega | decide | exact Nat.le_of_ble_eq_true rfl) only [F_X13_describe, ↓q_is_26, q_ca, tk, ↓q_pI_26_3, c1, ↓q_pI_26_5, ↓q_pI_26_6, ↓q_pI_26_7]
  have gQ : ∀ j, j = 27 ∨ j = 29 ∨ j = 53 ∨ 54 < j → Q3 j = Q j := fun j j1 => by rw [d2 j (by omega) (by omega), c3 j (by omega) (by omega) (by omega), fQ1 j (by omega)]
  have gP : ∀ j, j ≠ 3 → (j < 5 ∨ 7 < j) → (j < 13 ∨ 15 < j) → (j < 19 ∨ 23 < j) → (j < 42 ∨ 44 < j) → P3 j = P j := fun j j1 j2 j3 j4 j5 => by rw [d1 j (by omega) j4 j5, fP2 j j2 (by omega), fP1 j j1 (by omega)]
  have p3 : P3 3 = 0 := by rw [d1 3 (by omega) (by omega) (by omega), fP2 3 (by omega) (by omega), hP1, q_u1_s]
  rw [start]
  cases hq : q_pd B l with
  | inl e =>
    obtain ⟨k, p⟩ := e
    rw [hq] at d5
    obtain ⟨P4, Q4, f1, f2, f3, f4, f5, f6⟩ := q_mforget (κ := κ) (b := b) (C := C) (O := O) (S := S2) (D := q_up D n (q_Fo (nI k) (nI p))) (P := P3) (Q := Q3) (s := (n + 1, m + 8))
    obtain ⟨P5, hP5⟩ : ∃ P5, P5 = q_u1 (q_u1 (q_u1 P4 5 (nI k)) 6 (nI p)) 7 1 := ⟨_, rfl⟩
    have fP5 : ∀ j, (j < 5 ∨ 7 < j) → P5 j = P4 j := fun j j1 => by rw [hP5, q_u1_n _ _ (by omega), q_u1_n _ _ (by omega), q_u1_n _ _ (by omega)]
    have en : b + 66 < n ∧ q_up D n (q_Fo (nI k) (nI p)) n = some (q_Fo (nI k) (nI p)) := ⟨hn, q_up_s _ _ _⟩
    have hs : (RX12 = "IsaForgeModel$Fault") = True := eq_true rfl
    refine ⟨P5, Q4, S2, q_up D n (q_Fo (nI k) (nI p)), n + 1, m + 8, 0, ?_, fun j j1 j2 j3 j4 j5 => by rw [fP5 j j2, f2 j j4 j5, gP j j1 j2 j3 j4 j5], fun j j1 => by rw [f5 j (by omega), gQ j j1], c4, fun x hx => q_up_n _ _ (by omega), by omega, by omega, by omega, by omega, by rw [fP5 3 (by omega), f2 3 (by omega) (by omega), p3], fun j j1 j2 => by rw [fP5 j (by omega), f4 j j1 j2], f6, rfl, by rw [hP5]; simp (disch := first | rfl | omega | decide | exact Nat.le_of_ble_eq_true rfl) only [q_u1_n, q_u1_s], by rw [hP5]; simp (disch := first | rfl | omega | decide | exact Nat.le_of_ble_eq_true rfl) only [q_u1_n, q_u1_s], by rw [hP5, q_u1_s], fun j j1 j2 => by rw [fP5 j (by omega), f3 j j1 j2]⟩
    rw [hP5]
    simp (disch := first | rfl | omega | decide | exact Nat.le_of_ble_eq_true rfl) only [q_cc, d5, q_thr, ↓q_br, hs, ↓reduceIte, ↓q_is_26, q_ca, f1, qd_I en (k := 6) (v := nI k) rfl, qd_I en (k := 7) (v := nI p) rfl, ↓q_pI_26_5, ↓q_pI_26_6, ↓q_pI_26_7, q_rt]
  | inr e =>
    obtain ⟨z, L, Js⟩ := e
    rw [hq] at d5
    obtain ⟨y1, y2, y3, y4⟩ := d5
    refine ⟨P3, Q3, S2, D, n, m, nI Js.length, ?_, gP, gQ, c4, fun _ _ => rfl, Nat.le_refl _, by omega, Nat.le_refl _, by omega, p3, d3, d4, rfl, by rw [d1 5 (by omega) (by omega) (by omega), q5.1], by rw [d1 6 (by omega) (by omega) (by omega), q5.2.1], by rw [d1 7 (by omega) (by omega) (by omega), q5.2.2.1], y2, y3, y4⟩
    simp (disch := first | rfl | omega | decide | exact Nat.le_of_ble_eq_true rfl) only [q_cc, y1, ↓q_gI_26_23, y3, q_rt]
end QRG
