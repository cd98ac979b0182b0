def q_cf (n : Nat) : Nat → Nat → Nat
  | 0, c => c
  | f + 1, c => if n < 10 ^ c then c else q_cf n f (c + 1)
theorem q_cf_ok {n : Nat} (h : n < 10 ^ 11) : ∀ f c, c + f = 11 → 1 ≤ c → (∀ i, 1 ≤ i → i < c → 10 ^ i ≤ n) → q_Cnt n (q_cf n f c) := by
  intro f
  induction f with
  | zero =>
    intro c h1 h2 h3
    have hc : c = 11 := by omega
    subst hc
    exact ⟨show 1 ≤ 11 by decide, show 11 ≤ 11 by decide, h, h3⟩
  | succ f ih =>
    intro c h1 h2 h3
    rw [q_cf]
    split
    · rename_i hc
      exact ⟨h2, by omega, hc, h3⟩
    · rename_i hc
      refine ih (c + 1) (by omega) (by omega) (fun i i1 i2 => ?_)
      by_cases hi : i = c
      · subst hi; omega
      · exact h3 i i1 (by omega)
def q_itx (t : Int) : List Int32 := q_nt (decide (t < 0)) t.natAbs (q_cf t.natAbs 10 1)
theorem q_lsg_of {x : Int64} {t : Int} (h : x.toInt = t) (h2 : t.natAbs < 2 ^ 62) : x = q_lsg (decide (t < 0)) t.natAbs := by
  apply Int64.toInt_inj.mp
  rw [h, q_lsg_i h2]
  by_cases ht : t < 0
  · rw [decide_eq_true ht]
    simp only [if_true]
    omega
  · rw [decide_eq_false ht]
    simp only [Bool.false_eq_true, if_false]
    omega
theorem q_itx_len {t : Int} (h : t.natAbs < 10 ^ 11) : (q_itx t).length ≤ 12 := by
  have h1 := q_cf_ok h 10 1 rfl (Nat.le_refl _) (fun i i1 i2 => by omega)
  have h2 := q_nt_len (ng := decide (t < 0)) (n := t.natAbs) (ct := q_cf t.natAbs 10 1)
  have h3 := h1.2.1
  unfold q_itx
  omega
theorem q_lN_subI {v w : Nat} (hv : v < 2 ^ 62) (hw : w < 2 ^ 62) : (lN v - lN w).toInt = (v : Int) - (w : Int) := by
  rw [Int64.toInt_sub, q_lN_i (by omega), q_lN_i (by omega)]
  exact Int.bmod_eq_of_le (by omega) (by omega)
theorem q_lN_addI {v : Nat} {x : Int64} (hv : v < 2 ^ 62) (hx : x.toInt.natAbs < 2 ^ 62) : (lN v + x).toInt = (v : Int) + x.toInt := by
  rw [Int64.toInt_add, q_lN_i (by omega)]
  exact Int.bmod_eq_of_le (by omega) (by omega)
/-- the number that a code stands for -/
def q_vo (K : q_Knd) (v : Nat) : Int := if (q_kS K = 2 ∨ q_kS K = 3) ∧ 2 ^ (q_kB K - 1) ≤ v then (v : Int) - ((2 ^ q_kB K : Nat) : Int) else (v : Int)
theorem q_vo_b {K : q_Knd} {v : Nat} (hB : q_kB K ≤ 32) (hv : v < 2 ^ 32) : (q_vo K v).natAbs ≤ 2 ^ 32 := by
  have : 2 ^ q_kB K ≤ 2 ^ 32 := Nat.pow_le_pow_right (by decide) hB
  unfold q_vo
  generalize 2 ^ q_kB K = p at *
  split <;> omega
def q_nb (K : q_Knd) (v A : Nat) : Int := (if q_kS K = 3 then (A : Int) else 0) + q_vo K v
theorem q_nb_b {K : q_Knd} {v A : Nat} (hB : q_kB K ≤ 32) (hv : v < 2 ^ 32) (hA : A < 5000) : (q_nb K v A).natAbs < 10 ^ 10 := by
  have := q_vo_b hB hv
  unfold q_nb
  generalize q_vo K v = t at *
  split <;> omega
/-- the text of an operand -/
def q_otx (K : q_Knd) (v A : Nat) : List Int32 := if q_kS K = 4 then ((q_kM K).getD v []).map q_cv else (if q_kS K = 0 then (q_kW K).map q_cv else []) ++ q_itx (q_nb K v A)
def q_ptx (L : List q_Knd) (os : q_Ops) (F : Nat → Nat) (A : Nat) (p : Int32) : List Int32 := if 0 ≤ p then [q_cv p] ++ (if p = 44 then [q_cv 32] else []) else q_otx (q_ok L os (-1 - p).toNatClampNeg) (F (-1 - p).toNatClampNeg) A
theorem q_m1 (x : Int32) : -1 - (-1 - x) = x := by
  rw [Int32.sub_eq_add_neg, Int32.neg_sub, Int32.sub_eq_add_neg, Int32.neg_neg, ← Int32.add_assoc, Int32.add_comm (-1) x, Int32.add_assoc, show (-1 : Int32) + 1 = 0 from by decide, Int32.add_zero]
theorem q_m1n {o : Nat} (ho : o < 5) : ¬ (0 : Int32) ≤ -1 - nI o := by
  have : ∀ o, o < 5 → ¬ (0 : Int32) ≤ -1 - nI o := by decide
  exact this o ho
section QOH
variable {κ : Nat → Nat} {b : Nat} {R : Nat → Nat → Option Nat} {Y : Nat → Nat → Int64} {Z : Nat → Nat → Option Nat} {M : q_MT} {C : q_CT} {S : Nat → Nat → Int64} {O : Nat → Int64} {D : q_Mem} {s : Nat × Nat}
theorem q_lItx {t : Int} {x : Int64} {I X : Nat → Nat → Int32} {txt : List Int32} (hx : x.toInt = t) (ht : t.natAbs < 10 ^ 11) (h : q_LC txt I X) (hl : txt.length + 12 ≤ 200) : ∃ I' X', F_X4_addNumber κ (some (b + 15)) x (q_H b (I, R, X, Y, Z) M O D, s) = some (.inl (), (q_H b (I', R, X', Y, Z) M O D, s)) ∧ q_LC (txt ++ q_itx t) I' X' ∧ q_IF I I' X X' := by
  have h62 : t.natAbs < 2 ^ 62 := Nat.lt_trans ht (by decide)
  rw [q_lsg_of hx h62]
  exact q_lNum h62 (q_cf_ok ht 10 1 rfl (Nat.le_refl _) (fun i i1 i2 => by omega)) (fun h => by
    rw [decide_eq_true_eq] at h
    omega) h hl
theorem q_mItx {t : Int} {x : Int64} {P : Nat → Int32} {Q : Nat → Nat → Int32} {txt : List Int32} (hx : x.toInt = t) (ht : t.natAbs < 10 ^ 11) (h : q_LM txt P Q) (hl : txt.length + 12 ≤ 200) : ∃ P' Q', F_X13_sayNumber κ (some (b + 26)) x (q_H b C (P, Q, S) O D, s) = some (.inl (), (q_H b C (P', Q', S) O D, s)) ∧ q_LM (txt ++ q_itx t) P' Q' ∧ q_PF P P' Q Q' := by
  have h62 : t.natAbs < 2 ^ 62 := Nat.lt_trans ht (by decide)
  rw [q_lsg_of hx h62]
  exact q_mNum h62 (q_cf_ok ht 10 1 rfl (Nat.le_refl _) (fun i i1 i2 => by omega)) (fun h => by
    rw [decide_eq_true_eq] at h
    omega) h hl
theorem q_kValue {n ka v : Nat} {K : q_Knd} (h : q_CKd b n D ka K) (hv : v < 2 ^ 32) : ∃ x, F_X2_valueOf κ (some ka) (lN v) (q_H b C M O D, s) = some (.inl x, (q_H b C M O D, s)) ∧ x.toInt = q_vo K v := by
  obtain ⟨hw, a1, a2, a3, f, h1, h2, h3, h4⟩ := h
  have e3 : b + 66 < ka ∧ D ka = some (.inr (.inl (5, [.int (nI (q_kS K)), .ref a1, .ref a2, .ref a3, .int (nI (q_kZ K)), .int (nI (q_kB K))]))) := ⟨h1, h3⟩
  have hs4 := hw.1
  have hb1 := hw.2.1
  have hb2 := hw.2.2.1
  have s2 : (nI (q_kS K) = (2 : Int32)) = (q_kS K = 2) := propext (nI_eq (b := 2) (by omega) (by decide))
  have s3 : (nI (q_kS K) = (3 : Int32)) = (q_kS K = 3) := propext (nI_eq (b := 3) (by omega) (by decide))
  have plain : F_X2_valueOf_33 κ (some ka) (lN v) (q_H b C M O D, s) = some (.inl (lN v), (q_H b C M O D, s)) := by
    simp (disch := first | rfl | omega | decide | exact Nat.le_of_ble_eq_true rfl) only [↓q_br, q_rt, q_rz, q_gd, q_ca, ↓reduceIte, F_X2_valueOf_33, F_X2_valueOf_34, F_X2_valueOf_51]
  have sb : nI (q_kB K) - 1 = nI (q_kB K - 1) := nI_sub (b := 1) hb1
  have sh1 := q_shl1 (q_kB K - 1) (by omega)
  have sh2 := q_shl1 (q_kB K) (by omega)
  have p1 : 2 ^ (q_kB K - 1) ≤ 2 ^ 32 := Nat.pow_le_pow_right (by decide) (by omega)
  have p2 : 2 ^ q_kB K ≤ 2 ^ 32 := Nat.pow_le_pow_right (by decide) (by omega)
  have cmp : (lg_cmp (lN v) (lN (2 ^ (q_kB K - 1))) < 0) = (v < 2 ^ (q_kB K - 1)) := propext (by rw [lg_cmp_lt, q_lN_lt (by omega) (by omega)])
  have r16 : q_kS K = 2 ∨ q_kS K = 3 → ∃ x, F_X2_valueOf_16 κ (some ka) (lN v) (q_H b C M O D, s) = some (.inl x, (q_H b C M O D, s)) ∧ x.toInt = q_vo K v := by
    intro hsrt
    unfold q_vo
    by_cases hlt : v < 2 ^ (q_kB K - 1)
    · refine ⟨lN v, ?_, ?_⟩
      · simp (disch := first | rfl | omega | decide | exact Nat.le_of_ble_eq_true rfl) only [↓q_br, q_rt, q_rz, q_gd, q_ca, ↓reduceIte, F_X2_valueOf_16, qd_I e3 (k := 5) (v := nI (q_kB K)) rfl, sb, sh1, cmp, hlt, plain]
      · rw [if_neg (by omega), q_lN_i (by omega)]
    · refine ⟨lN v - lN (2 ^ q_kB K), ?_, ?_⟩
      · have o1 : ((1 : Int32) = 0) = False := eq_false (by decide)
        simp (disch := first | rfl | omega | decide | exact Nat.le_of_ble_eq_true rfl) only [↓q_br, q_rt, q_rz, q_gd, q_ca, ↓reduceIte, F_X2_valueOf_16, F_X2_valueOf_34, F_X2_valueOf_51, qd_I e3 (k := 5) (v := nI (q_kB K)) rfl, sb, sh1, cmp, hlt, o1, sh2]
      · rw [if_pos ⟨hsrt, by omega⟩, q_lN_subI (by omega) (by omega)]
  by_cases c2 : q_kS K = 2
  · obtain ⟨x, x1, x2⟩ := r16 (Or.inl c2)
    refine ⟨x, ?_, x2⟩
    have t2 : (q_kS K = 2) = True := eq_true c2
    simp (disch := first | rfl | omega | decide | exact Nat.le_of_ble_eq_true rfl) only [↓q_br, q_rt, q_rz, q_gd, q_ca, ↓reduceIte, F_X2_valueOf, qd_I e3 (k := 0) (v := nI (q_kS K)) rfl, s2, t2, x1]
  · have t2 : (q_kS K = 2) = False := eq_false c2
    by_cases c3 : q_kS K = 3
    · obtain ⟨x, x1, x2⟩ := r16 (Or.inr c3)
      refine ⟨x, ?_, x2⟩
      have t3 : (q_kS K = 3) = True := eq_true c3
      simp (disch := first | rfl | omega | decide | exact Nat.le_of_ble_eq_true rfl) only [↓q_br, q_rt, q_rz, q_gd, q_ca, ↓reduceIte, F_X2_valueOf, qd_I e3 (k := 0) (v := nI (q_kS K)) rfl, s2, s3, t2, t3, not_true_eq_false, x1]
    · have t3 : (q_kS K = 3) = False := eq_false c3
      refine ⟨lN v, ?_, ?_⟩
      · simp (disch := first | rfl | omega | decide | exact Nat.le_of_ble_eq_true rfl) only [↓q_br, q_rt, q_rz, q_gd, q_ca, ↓reduceIte, F_X2_valueOf, qd_I e3 (k := 0) (v := nI (q_kS K)) rfl, s2, s3, t2, t3, not_false_eq_true, plain]
      · unfold q_vo
        rw [if_neg (by omega), q_lN_i (by omega)]
/-- the class writes an operand -/
theorem q_lOp {n ka v A : Nat} {K : q_Knd} {I X : Nat → Nat → Int32} {txt : List Int32} (h : q_CKd b n D ka K) (hv : v < 2 ^ 32) (hA : A < 5000) (hh : q_hs K v = true) (hT : q_LC txt I X) (hl : txt.length + 32 ≤ 200) : ∃ I' X', F_X4_addOperand κ (some (b + 15)) (some ka) (lN v) (nI A) (q_H b (I, R, X, Y, Z) M O D, s) = some (.inl (), (q_H b (I', R, X', Y, Z) M O D, s)) ∧ q_LC (txt ++ q_otx K v A) I' X' ∧ q_IF I I' X X' := by
  have hK0 := h
  obtain ⟨hw, a1, a2, a3, f, h1, h2, h3, h4, h5, h6, h7, h8, h9⟩ := h
  have e3 : b + 66 < ka ∧ D ka = some (.inr (.inl (5, [.int (nI (q_kS K)), .ref a1, .ref a2, .ref a3, .int (nI (q_kZ K)), .int (nI (q_kB K))]))) := ⟨h1, h3⟩
  have hs4 := hw.1
  have s0 : (nI (q_kS K) = (0 : Int32)) = (q_kS K = 0) := propext (nI_eq (b := 0) (by omega) (by decide))
  have s3 : (nI (q_kS K) = (3 : Int32)) = (q_kS K = 3) := propext (nI_eq (b := 3) (by omega) (by decide))
  have s4 : (nI (q_kS K) = (4 : Int32)) = (q_kS K = 4) := propext (nI_eq (b := 4) (by omega) (by decide))
  unfold q_otx
  by_cases c4 : q_kS K = 4
  · rw [if_pos c4]
    rw [if_pos c4] at h8
    have t4 : (q_kS K = 4) = True := eq_true c4
    have hvz : v < q_kZ K := by
      unfold q_hs at hh
      rw [decide_eq_false (by omega), Bool.false_or, decide_eq_true_eq] at hh
      exact hh
    obtain ⟨z1, z2⟩ := hw.2.2.2.2.1 c4
    have hvm : v < (q_kM K).length := by omega
    obtain ⟨a', y1, y2⟩ := h9 v _ (List.getElem?_eq_getElem hvm)
    have ge : (q_kM K).getD v [] = (q_kM K)[v] := by rw [List.getD_eq_getElem?_getD, List.getElem?_eq_getElem hvm]; rfl
    rw [ge]
    have e4 : b + 66 < a3 ∧ D a3 = some (.inl (6, 32, .inr (.inr (.inr (.inr f))))) := ⟨h6, h8⟩
    have h20 : ((q_kM K)[v]).length ≤ 20 := by
      obtain ⟨_, _, _, _, _, _, _, _, n7, _⟩ := y2
      exact n7
    obtain ⟨I1, X1, r1, r2, r3⟩ := q_lName (κ := κ) (b := b) (R := R) (Y := Y) (Z := Z) (M := M) (O := O) (s := s) y2 hT (by omega)
    refine ⟨I1, X1, ?_, r2, r3⟩
    simp (disch := first | rfl | omega | decide | exact Nat.le_of_ble_eq_true rfl) only [↓q_br, q_rt, q_rz, q_gd, q_ca, ↓reduceIte, F_X4_addOperand, ↓q_is_15, qd_I e3 (k := 0) (v := nI (q_kS K)) rfl, s4, t4, not_true_eq_false, qd_A e3 (k := 3) (r := some a3) rfl, lN_i, qd_aA e4 (by omega : v < 32) (by decide), y1, ↓q_is_15, r1]
  · rw [if_neg c4]
    have t4 : (q_kS K = 4) = False := eq_false c4
    obtain ⟨x, x1, x2⟩ := q_kValue (κ := κ) (C := (I, R, X, Y, Z)) (M := M) (O := O) (s := s) hK0 hv
    have vb := q_vo_b (K := K) hw.2.2.1 hv
    have nbb := q_nb_b (K := K) (A := A) hw.2.2.1 hv hA
    have lA : (nI A).toInt64 = lN A := nI_l (by omega)
    -- behind the name
    have rest : ∀ (I X : Nat → Nat → Int32) (txt : List Int32), q_LC txt I X → txt.length + 12 ≤ 200 → ∃ I' X', F_X4_addOperand_35 κ (some (b + 15)) (some ka) (lN v) (nI A) (q_H b (I, R, X, Y, Z) M O D, s) = some (.inl (), (q_H b (I', R, X', Y, Z) M O D, s)) ∧ q_LC (txt ++ q_itx (q_nb K v A)) I' X' ∧ q_IF I I' X X' := by
      intro I X txt hT hl
      obtain ⟨x, x1, x2⟩ := q_kValue (κ := κ) (C := (I, R, X, Y, Z)) (M := M) (O := O) (s := s) hK0 hv
      by_cases c3 : q_kS K = 3
      · have t3 : (q_kS K = 3) = True := eq_true c3
        obtain ⟨I1, X1, r1, r2, r3⟩ := q_lItx (κ := κ) (b := b) (R := R) (Y := Y) (Z := Z) (M := M) (O := O) (D := D) (s := s) (x := lN A + x) (t := q_nb K v A) (by
          rw [q_lN_addI (by omega) (by rw [x2]; omega), x2]
          unfold q_nb
          rw [if_pos c3]) (by omega) hT hl
        refine ⟨I1, X1, ?_, r2, r3⟩
        simp (disch := first | rfl | omega | decide | exact Nat.le_of_ble_eq_true rfl) only [↓q_br, q_rt, q_rz, q_gd, q_ca, ↓reduceIte, F_X4_addOperand_35, F_X4_addOperand_61, ↓q_is_15, qd_I e3 (k := 0) (v := nI (q_kS K)) rfl, s3, t3, not_true_eq_false, qd_S e3, x1, lA, ↓q_is_15, r1]
      · have t3 : (q_kS K = 3) = False := eq_false c3
        obtain ⟨I1, X1, r1, r2, r3⟩ := q_lItx (κ := κ) (b := b) (R := R) (Y := Y) (Z := Z) (M := M) (O := O) (D := D) (s := s) (x := x) (t := q_nb K v A) (by
          rw [x2]
          unfold q_nb
          rw [if_neg c3, Int.zero_add]) (by omega) hT hl
        refine ⟨I1, X1, ?_, r2, r3⟩
        simp (disch := first | rfl | omega | decide | exact Nat.le_of_ble_eq_true rfl) only [↓q_br, q_rt, q_rz, q_gd, q_ca, ↓reduceIte, F_X4_addOperand_35, F_X4_addOperand_61, ↓q_is_15, qd_I e3 (k := 0) (v := nI (q_kS K)) rfl, s3, t3, not_false_eq_true, qd_S e3, x1, ↓q_is_15, r1]
    by_cases c0 : q_kS K = 0
    · rw [if_pos c0]
      have t0 : (q_kS K = 0) = True := eq_true c0
      have h20 : (q_kW K).length ≤ 20 := by
        obtain ⟨_, _, _, _, _, _, _, _, n7, _⟩ := h5
        exact n7
      obtain ⟨I1, X1, r1, r2, r3⟩ := q_lName (κ := κ) (b := b) (R := R) (Y := Y) (Z := Z) (M := M) (O := O) (s := s) h5 hT (by omega)
      obtain ⟨I2, X2, y1, y2, y3⟩ := rest I1 X1 _ r2 (by simp; omega)
      refine ⟨I2, X2, ?_, by simpa using y2, q_IF_t r3 y3⟩
      simp (disch := first | rfl | omega | decide | exact Nat.le_of_ble_eq_true rfl) only [↓q_br, q_rt, q_rz, q_gd, q_ca, ↓reduceIte, F_X4_addOperand, ↓q_is_15, qd_I e3 (k := 0) (v := nI (q_kS K)) rfl, s4, t4, not_false_eq_true, s0, t0, not_true_eq_false, qd_A e3 (k := 2) (r := some a2) rfl, ↓q_is_15, r1, y1]
    · rw [if_neg c0]
      have t0 : (q_kS K = 0) = False := eq_false c0
      obtain ⟨I2, X2, y1, y2, y3⟩ := rest I X txt hT (by omega)
      refine ⟨I2, X2, ?_, by simpa using y2, y3⟩
      simp (disch := first | rfl | omega | decide | exact Nat.le_of_ble_eq_true rfl) only [↓q_br, q_rt, q_rz, q_gd, q_ca, ↓reduceIte, F_X4_addOperand, ↓q_is_15, qd_I e3 (k := 0) (v := nI (q_kS K)) rfl, s4, t4, not_false_eq_true, s0, t0, y1]
end QOH
