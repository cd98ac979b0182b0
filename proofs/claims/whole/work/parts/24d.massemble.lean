section QWD
variable {κ : Nat → Nat} {b : Nat} {C : q_CT} {O : Nat → Int64}
theorem q_massemble {n m zt z top : Nat} {B : Nat → Int32} {P : Nat → Int32} {Q : Nat → Nat → Int32} {S : Nat → Nat → Int64} {D : q_Mem} {N : List q_Nam} {L : List q_Knd} {Js : List q_Ins} {la0 : Nat → Int32} {wo0 : Nat → Int64} (hK : q_Kp κ b D) (hz : zt ≤ 6000) (h3 : P 3 = nI zt) (hB : ∀ i, i < zt → q_By (Q 27 i)) (hQ : ∀ i, i < zt → Q 27 i = B i) (hn : b + 66 < n) (hz0 : ¬ z = 0) (hz32 : z ≤ 32) (hPL : q_PL N top P Q) (hMI : q_MIs N Q L.length z Js) (hMM : q_MMk N P Q L) (h23 : P 23 = nI Js.length) (h21 : P 21 = nI z) (h96 : Js.length ≤ 96) (hJ : ∀ J ∈ Js, q_Jok J) (hcl : ∀ J ∈ Js, ∀ c ∈ J.2.2.2, c.length = z) (hleg : ∀ J ∈ Js, q_leg (q_kb L J.2.2.1) J.2.2.1.length J.2.2.2.flatten) (hkL : ∀ K ∈ L, q_kB K ≤ 32) (hla0 : ∀ v, v < 4096 → la0 v = 0) :
    ∃ P' Q' S' D' n' m' r, F_X13_assemble κ (some (b + 26)) (q_H b C (P, Q, S) O D, n, m) = some (.inl r, (q_H b C (P', Q', S') O D', n', m')) ∧ (∀ j, j ≠ 3 → (j < 5 ∨ 7 < j) → (j < 13 ∨ 15 < j) → (j < 42 ∨ 44 < j) → j ≠ 52 → P' j = P j) ∧ (∀ j, j = 27 ∨ j = 29 ∨ (34 ≤ j ∧ j ≤ 51) → Q' j = Q j) ∧ (∀ x, x < n → D' x = D x) ∧ n ≤ n' ∧ n' ≤ n + 1 ∧ m ≤ m' ∧ m' ≤ m + 8 ∧ P' 3 = 0 ∧ (match q_as B (q_sc true B zt zt 0) z L Js la0 wo0 with
      | .inl (k, p) => r = 0 ∧ P' 5 = nI k ∧ P' 6 = nI p ∧ P' 7 = 2 ∧ P' 42 = 0 ∧ P' 43 = 0 ∧ P' 44 = 0 ∧ ∀ v, v < 4096 → Q' 54 v = 0
      | .inr (FL, rd, la, wo) => r = P' 42 ∧ P' 5 = 0 ∧ P' 6 = -1 ∧ P' 7 = 0 ∧ P' 43 = nI (q_LT FL).length ∧ P' 44 = nI rd ∧ q_MMm P' Q' S' la wo) := by
  obtain ⟨Q1, hQ1⟩ : ∃ Q1, Q1 = q_cp Q 27 28 0 0 zt := ⟨_, rfl⟩
  have fQ1 : ∀ j, j ≠ 28 → Q1 j = Q j := fun j j1 => by rw [hQ1, q_cp_n _ j1]
  have q28 : ∀ i, i < zt → Q1 28 i = Q 27 i := fun i hi => by rw [hQ1, q_cp_s, q_cpy_b hi]
  have hB1 : ∀ i, i < zt → q_By (Q1 28 i) := fun i hi => by rw [q28 i hi]; exact hB i hi
  obtain ⟨P1, hP1⟩ : ∃ P1, P1 = q_u1 (q_u1 (q_u1 P 7 0) 14 (nI zt)) 3 0 := ⟨_, rfl⟩
  have fP1 : ∀ j, j ≠ 3 → j ≠ 7 → j ≠ 14 → P1 j = P j := fun j j1 j2 j3 => by rw [hP1, q_u1_n _ _ j1, q_u1_n _ _ j3, q_u1_n _ _ j2]
  have hsc : q_sc true (Q1 28) zt zt 0 = q_sc true B zt zt 0 := q_sc_c (fun i hi => by rw [q28 i hi, hQ i hi]) _ _
  obtain ⟨l, hl⟩ : ∃ l, l = q_sc true B zt zt 0 := ⟨_, rfl⟩
  obtain ⟨Q2, S2, c1, c2, c3, c4⟩ := q_X13_scan (κ := κ) (b := b) (C := C) (O := O) (D := D) (s := (n, m)) (ln := true) (P := P1) (Q := Q1) (S := S) hK hz (by rw [hP1, q_u1_n _ _ (by decide), q_u1_s]) hB1
  rw [hsc, ← hl] at c1 c2
  rw [← hl]
  have hlen : l.length ≤ zt := by
    have := q_sc_len true B zt zt 0 (by omega)
    rw [hl]; omega
  have hBb : ∀ i, i < zt → q_By (B i) := fun i hi => by rw [← hQ i hi]; exact hB i hi
  have hwf : q_WF B zt l := by rw [hl]; exact (q_sc_wf true B zt zt 0).1
  obtain ⟨P2, hP2⟩ : ∃ P2, P2 = q_u1 (q_u1 (q_u1 P1 13 (nI l.length)) 5 0) 6 (-1) := ⟨_, rfl⟩
  have fP2 : ∀ j, j ≠ 3 → (j < 5 ∨ 7 < j) → j ≠ 13 → j ≠ 14 → P2 j = P j := fun j j0 j1 j2 j3 => by rw [hP2, q_u1_n _ _ (by omega), q_u1_n _ _ (by omega), q_u1_n _ _ j2, fP1 j j0 (by omega) j3]
  have p5 : P2 5 = 0 := by rw [hP2, q_u1_n _ _ (by decide), q_u1_s]
  have p6 : P2 6 = -1 := by rw [hP2, q_u1_s]
  have p7 : P2 7 = 0 := by rw [hP2, q_u1_n _ _ (by decide), q_u1_n _ _ (by decide), q_u1_n _ _ (by decide), hP1, q_u1_n _ _ (by decide), q_u1_n _ _ (by decide), q_u1_s]
  have p3 : P2 3 = 0 := by rw [hP2, q_u1_n _ _ (by decide), q_u1_n _ _ (by decide), q_u1_n _ _ (by decide), hP1, q_u1_s]
  have p13 : P2 13 = nI l.length := by rw [hP2, q_u1_n _ _ (by decide), q_u1_n _ _ (by decide), q_u1_s]
  have fQ2 : ∀ j, j ≠ 28 → j ≠ 30 → j ≠ 31 → j ≠ 32 → Q2 j = Q j := fun j j1 j2 j3 j4 => by rw [c3 j j2 j3 j4, fQ1 j j1]
  have hT : q_TM B l zt P2 Q2 S2 := ⟨p13, hlen, hz, c2, hwf, fun i hi => by rw [c3 28 (by decide) (by decide) (by decide), q28 i hi, hQ i hi], hBb⟩
  obtain ⟨P3, Q3, S3, d1, d2⟩ := q_massembled (κ := κ) (b := b) (C := C) (O := O) (D := D) (m := m) (la0 := la0) (wo0 := wo0) hn hK hz32 hT (q_PL_P hPL (fP2 19 (by decide) (by omega) (by decide) (by decide)) (fP2 20 (by decide) (by omega) (by decide) (by decide)) (fQ2 34 (by decide) (by decide) (by decide) (by decide)) (fQ2 35 (by decide) (by decide) (by decide) (by decide)) (fQ2 36 (by decide) (by decide) (by decide) (by decide))) (fun i J hi => q_MIn_Q (hMI i J hi) (List.prefix_refl _) (Nat.le_refl _) (fun j j1 j2 => fQ2 j (by omega) (by omega) (by omega) (by omega))) (q_MMk_Q hMM (List.prefix_refl _) (fP2 22 (by decide) (by omega) (by decide) (by decide)) (fun j j1 j2 => fQ2 j (by omega) (by omega) (by omega) (by omega))) (by rw [fP2 23 (by decide) (by omega) (by decide) (by decide), h23]) (by rw [fP2 21 (by decide) (by omega) (by decide) (by decide), h21]) h96 hJ hcl hleg hkL hla0
  have qb1 : q_b true = 1 := rfl
  rw [qb1] at c1
  have zz : (nI z = 0) = False := eq_false (fun h9 => hz0 ((nI_eq (b := 0) (by omega) (by decide)).mp h9))
  have z00 : ((0 : Int32) ≤ 0) = True := eq_true (by decide)
  have tk := q_mtake (κ := κ) (b := b) (C := C) (P := q_u1 P 7 0) (Q := Q) (S := S) (O := O) (D := D) (s := (n, m)) (zt := zt) (by rw [q_u1_n _ _ (by decide), h3]) hz hB
  rw [← hQ1] at tk
  have p70 : q_u1 P 7 0 7 = 0 := q_u1_s _ _ _
  have start : F_X13_assemble κ (some (b + 26)) (q_H b C (P, Q, S) O D, n, m) = q_cc (F_X13_assembled κ (some (b + 26))) (fun _v50 => q_rd (q_gI (some (b + 26)) 16 42) fun v85 => q_rt v85) (fun x50 => q_br (x50.1 = "IsaForgeModel$Fault") (q_rd (q_is (some (b + 26)) 16) fun _ => q_ca (F_X13_clear κ (some (b + 26))) fun _v58 => q_rd (q_gI (some x50.2) 15 6) fun v63 => q_wr (q_pF (some (b + 26)) 16 5 (.int v63)) (q_rd (q_gI (some x50.2) 15 7) fun v71 => q_wr (q_pF (some (b + 26)) 16 6 (.int v71)) (q_wr (q_pF (some (b + 26)) 16 7 (.int (2 : Int32))) (q_rt (0 : Int32))))) (q_no)) (q_H b C (P2, Q2, S2) O D, n, m) := by
    rw [hP1] at c1
    rw [hP2, hP1]
    simp (disch := first | rfl | omega | decide | exact Nat.le_of_ble_eq_true rfl) only [F_X13_assemble, F_X13_assemble_13, ↓q_br, ↓reduceIte, ↓q_gI_26_21, h21, zz, not_false_eq_true, ↓q_pI_26_7, ↓q_gI_26_7, p70, z00, ↓q_is_26, q_ca, tk, ↓q_pI_26_3, c1, ↓q_pI_26_5, ↓q_pI_26_6]
  rw [start]
  have gP : ∀ j, j ≠ 3 → (j < 5 ∨ 7 < j) → (j < 13 ∨ 15 < j) → (j < 42 ∨ 44 < j) → j ≠ 52 → P3 j = P j := fun j j1 j2 j3 j4 j5 => by rw [d1.1 j (by omega) (by omega) (by omega) (by omega) j5, fP2 j j1 j2 (by omega) (by omega)]
  have gQ : ∀ j, j = 27 ∨ j = 29 ∨ (34 ≤ j ∧ j ≤ 51) → Q3 j = Q j := fun j j1 => by rw [d1.2 j (by omega), fQ2 j (by omega) (by omega) (by omega) (by omega)]
  have g3 : P3 3 = 0 := by rw [d1.1 3 (by decide) (by decide) (by decide) (by decide) (by decide), p3]
  cases hq : q_as B l z L Js la0 wo0 with
  | inl e =>
    obtain ⟨k, p⟩ := e
    rw [hq] at d2
    obtain ⟨Q4, f1, f2, f3⟩ := q_mclear_2 (κ := κ) (b := b) (C := C) (O := O) (S := S3) (D := q_up D n (q_Fo (nI k) (nI p))) (P := P3) (s := (n + 1, m + 8)) 4096 q_fu 0 Q3 (by omega) (by unfold q_fu; omega) (fun v hv => by omega)
    rw [nI_0] at f1
    have cl : F_X13_clear κ (some (b + 26)) (q_H b C (P3, Q3, S3) O (q_up D n (q_Fo (nI k) (nI p))), n + 1, m + 8) = some (.inl (), (q_H b C (q_u1 (q_u1 (q_u1 P3 42 0) 43 0) 44 0, Q4, S3) O (q_up D n (q_Fo (nI k) (nI p))), n + 1, m + 8)) := f1
    obtain ⟨P5, hP5⟩ : ∃ P5, P5 = q_u1 (q_u1 (q_u1 (q_u1 (q_u1 (q_u1 P3 42 0) 43 0) 44 0) 5 (nI k)) 6 (nI p)) 7 2 := ⟨_, rfl⟩
    have fP5 : ∀ j, (j < 5 ∨ 7 < j) → (j < 42 ∨ 44 < j) → P5 j = P3 j := fun j j1 j2 => by rw [hP5, q_u1_n _ _ (by omega), q_u1_n _ _ (by omega), q_u1_n _ _ (by omega), q_u1_n _ _ (by omega), q_u1_n _ _ (by omega), q_u1_n _ _ (by omega)]
    have en : b + 66 < n ∧ q_up D n (q_Fo (nI k) (nI p)) n = some (q_Fo (nI k) (nI p)) := ⟨hn, q_up_s _ _ _⟩
    have hs : (RX12 = "IsaForgeModel$Fault") = True := eq_true rfl
    refine ⟨P5, Q4, S3, q_up D n (q_Fo (nI k) (nI p)), n + 1, m + 8, 0, ?_, fun j j1 j2 j3 j4 j5 => by rw [fP5 j j2 j4, gP j j1 j2 j3 j4 j5], fun j j1 => by rw [f2 j (by omega), gQ j j1], fun x hx => q_up_n _ _ (by omega), by omega, by omega, by omega, by omega, by rw [fP5 3 (by omega) (by omega), g3], rfl, by rw [hP5]; simp (disch := first | rfl | omega | decide | exact Nat.le_of_ble_eq_true rfl) only [q_u1_n, q_u1_s], by rw [hP5]; simp (disch := first | rfl | omega | decide | exact Nat.le_of_ble_eq_true rfl) only [q_u1_n, q_u1_s], by rw [hP5, q_u1_s], by rw [hP5]; simp (disch := first | rfl | omega | decide | exact Nat.le_of_ble_eq_true rfl) only [q_u1_n, q_u1_s], by rw [hP5]; simp (disch := first | rfl | omega | decide | exact Nat.le_of_ble_eq_true rfl) only [q_u1_n, q_u1_s], by rw [hP5]; simp (disch := first | rfl | omega | decide | exact Nat.le_of_ble_eq_true rfl) only [q_u1_n, q_u1_s], f3⟩
    simp only at d2
    rw [hP5]
    simp (disch := first | rfl | omega | decide | exact Nat.le_of_ble_eq_true rfl) only [q_cc, d2, q_thr, ↓q_br, hs, ↓reduceIte, ↓q_is_26, q_ca, cl, qd_I en (k := 6) (v := nI k) rfl, qd_I en (k := 7) (v := nI p) rfl, ↓q_pI_26_5, ↓q_pI_26_6, ↓q_pI_26_7, q_rt]
  | inr e =>
    obtain ⟨FL, rd, la, wo⟩ := e
    rw [hq] at d2
    obtain ⟨e1, e2, e3, e4⟩ := d2
    have g5 : P3 5 = 0 := by rw [d1.1 5 (by decide) (by decide) (by decide) (by decide) (by decide), p5]
    have g6 : P3 6 = -1 := by rw [d1.1 6 (by decide) (by decide) (by decide) (by decide) (by decide), p6]
    have g7 : P3 7 = 0 := by rw [d1.1 7 (by decide) (by decide) (by decide) (by decide) (by decide), p7]
    refine ⟨P3, Q3, S3, D, n, m, P3 42, ?_, gP, gQ, fun _ _ => rfl, Nat.le_refl _, by omega, Nat.le_refl _, by omega, g3, rfl, g5, g6, g7, e2, e3, e4⟩
    simp (disch := first | rfl | omega | decide | exact Nat.le_of_ble_eq_true rfl) only [q_cc, e1, ↓q_gI_26_42, q_rt]
end QWD
