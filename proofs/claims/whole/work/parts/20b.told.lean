section QTB
variable {κ : Nat → Nat} {b : Nat}
theorem q_CIn_o {n z a : Nat} {D : q_Mem} {Z : Nat → Nat → Option Nat} {L : List q_Knd} {J : q_Ins} (h : q_CIn b n D Z L z a J) : ∃ fm fd fs, q_CIo b n D Z L.length a J.1 J.2.1 J.2.2.1 J.2.2.2.length (q_negs J.2.2.2) fm fd fs ∧ q_CWd z (J.2.2.2 ++ [[]]) fm fd fs := by
  obtain ⟨⟨fm, fd, fs, g1, g2⟩, -⟩ := h
  have e : q_negs J.2.2.2 + q_neg (([] : List Int32).take z) = q_negs J.2.2.2 := by simp [q_neg]
  rw [e] at g1
  exact ⟨fm, fd, fs, g1, g2⟩
theorem q_step_told (p0 x : Int32) : q_Step κ b (F_L_told κ (some (b + 1)) p0 x (some (b + 66))) (F_X13_told κ (some (b + 26)) p0 x) (fun v => v) := by
  refine q_step_0 ?_
  rintro ⟨I, R, X, Y, Z⟩ P Q S O D n m c22 c23 ⟨hK, hb, ⟨zt, t1, t2, t3, t4⟩, hk, hp, hlb, hrd, ⟨z, L, Js, hD, -⟩, -, hA⟩
  obtain ⟨h1, h2, h3, h4, h5, h6, h7, h8, ⟨N, top, h9, h10, h11⟩, h12⟩ := hD
  have q7 : ∀ v, q_u1 P 7 v 7 = v := fun v => q_u1_s _ _ _
  have qi := q_hasIns (κ := κ) (b := b) (R := R) (X := X) (Y := Y) (Z := Z) (M := (P, Q, S)) (O := O) (D := D) (s := (n, m)) (x := p0) h6
  by_cases hx : ¬ p0 < 0 ∧ ¬ nI Js.length ≤ p0
  · rw [decide_eq_true hx] at qi
    obtain ⟨hx1, hx2⟩ := hx
    obtain ⟨k, k1, rfl⟩ := nI_of hx1
    have hkl : k < Js.length := by
      have := mt (fun h => nI_le (a := Js.length) (b := k) h k1) hx2
      omega
    have hk96 : k < 96 := by omega
    have hlt : (nI k < nI Js.length) = True := eq_true (nI_lt hkl (by omega))
    have hJ := List.getElem?_eq_getElem hkl
    obtain ⟨J, hJe⟩ : ∃ J, J = Js[k] := ⟨_, rfl⟩
    rw [← hJe] at hJ
    obtain ⟨a, ea, hCI⟩ := h5 k J hJ
    obtain ⟨fm, fd, fs, g1, g2⟩ := q_CIn_o hCI
    obtain ⟨-, f1, f2, f3, f4, f5, f6⟩ := hCI
    obtain ⟨w1, w2, w3, w4, w5, w6, w7, w8, w9, w10⟩ := h11 k J hJ
    obtain ⟨k1', k2, k3, k4, k5, k6, k7, fp, fo, fk, k8, k9, k10, k11, k12⟩ := g1
    have hz32 : z ≤ 32 := by rcases h1 with ⟨h, -, -⟩ | h | h | h <;> omega
    obtain ⟨wc, hwc⟩ : ∃ wc, wc = J.2.2.2.length := ⟨_, rfl⟩
    obtain ⟨dc, hdc⟩ : ∃ dc, dc = q_negs J.2.2.2 := ⟨_, rfl⟩
    obtain ⟨pc, hpc⟩ : ∃ pc, pc = J.2.1.length := ⟨_, rfl⟩
    obtain ⟨oc, hoc⟩ : ∃ oc, oc = J.2.2.1.length := ⟨_, rfl⟩
    rw [← hwc, ← hdc, ← hpc, ← hoc] at k3
    rw [← hpc] at w2
    rw [← hoc] at w3
    rw [← hwc] at w4 f3 f4
    rw [← hdc] at w5
    have e3 : b + 66 < a ∧ D a = some (.inr (.inl (4, [.ref (a + 1), .ref (a + 3), .ref (a + 4), .ref (a + 5), .ref (a + 6), .ref (a + 7), .ref (a + 8), .int (nI pc), .int (nI oc), .int (nI wc), .int (nI dc)]))) := ⟨k1', k3⟩
    have e6 : b + 66 < a + 6 ∧ D (a + 6) = some (.inl (2, 4, .inr (.inl fm))) := ⟨by omega, k5⟩
    have e7 : b + 66 < a + 7 ∧ D (a + 7) = some (.inl (2, 4, .inr (.inl fd))) := ⟨by omega, k6⟩
    have s10 : (10 : Int32) + nI wc = nI (10 + wc) := nI_add 10 wc
    have s20 : (20 : Int32) + nI wc = nI (20 + wc) := nI_add 20 wc
    have word : ∀ w, w < wc → ∃ c, J.2.2.2[w]? = some c ∧ c.length = z := fun w hw => by
      have hw2 : w < J.2.2.2.length := by omega
      exact ⟨J.2.2.2[w], List.getElem?_eq_getElem hw2, f5 _ (List.getElem_mem hw2)⟩
    have key : ∀ v, F_X11_told κ (some (b + 1)) (nI k) x (q_H b (I, R, X, Y, Z) (P, Q, S) O D, n, m) = some (.inl v, (q_H b (I, R, X, Y, Z) (P, Q, S) O D, n, m)) → (∀ O1, F_X13_told κ (some (b + 26)) (nI k) x (q_H b (I, R, X, Y, Z) (P, Q, S) O1 D, n, m) = some (.inl v, (q_H b (I, R, X, Y, Z) (q_u1 P 7 0, Q, S) O1 D, n, m))) → ∃ (k' : Int32) (O1 : Nat → Int64) (n1 m1 : Nat) (v : Int64), F_L_told κ (some (b + 1)) (nI k) x (some (b + 66)) (q_H b (I, R, X, Y, Z) (P, Q, S) O D, n, m) = some (.inl k', (q_H b (I, R, X, Y, Z) (P, Q, S) O1 D, n1, m1)) ∧ (n1 = n ∨ n1 = n + 1) ∧ (m1 = m ∨ m1 = m + 6) ∧ (k' = 0 → O1 0 = v) ∧ F_X13_told κ (some (b + 26)) (nI k) x (q_H b (I, R, X, Y, Z) (P, Q, S) O1 D, n1, m1) = some (.inl v, (q_H b (I, R, X, Y, Z) (q_u1 P 7 k', Q, S) O1 D, n1, m1)) := by
      intro v r1 r2
      refine ⟨0, q_u1 O 0 v, n, m, v, ?_, Or.inl rfl, Or.inl rfl, fun _ => q_u1_s _ _ _, r2 _⟩
      simp (disch := first | rfl | omega | decide | exact Nat.le_of_ble_eq_true rfl) only [F_L_told, ↓q_is_1, q_cc, r1, ↓q_sO, q_rt]
    by_cases hA1 : ¬ x < 10 ∧ ¬ nI (10 + wc) ≤ x
    · obtain ⟨y1, y2⟩ := hA1
      have hx0 : ¬ x < 0 := fun h => y1 (Int32.lt_trans h (by decide))
      obtain ⟨j, j1, rfl⟩ := nI_of hx0
      have j2 : 10 ≤ j := by
        have := mt (fun h => nI_lt (a := j) (b := 10) h (by decide)) y1
        omega
      have j3 : j < 10 + wc := by
        have := mt (fun h => nI_le (a := 10 + wc) (b := j) h j1) y2
        omega
      obtain ⟨w, rfl⟩ : ∃ w, j = 10 + w := ⟨j - 10, by omega⟩
      have hw : w < wc := by omega
      obtain ⟨c, c1, c2⟩ := word w hw
      obtain ⟨u1, u2, u3⟩ := q_CWd_dw g2 c1 (by omega) c2 hz32
      have sb : nI (10 + w) - (10 : Int32) = nI w := by rw [show (10 : Int32) = nI 10 from rfl, nI_sub (by omega), Nat.add_sub_cancel_left]
      have out : ((nI (10 + w)).toInt < 0 ∨ 3 < (nI (10 + w)).toInt) = True := eq_true (Or.inr (by rw [nI_toInt (by omega)]; omega))
      have dg := fun O1 => q_mdgs (κ := κ) (b := b) (C := (I, R, X, Y, Z)) (P := q_u1 P 7 0) (Q := Q) (S := S) (O := O1) (D := D) (s := (n, m)) (ones := false) (by rw [q_u1_n _ _ (by decide), h3]) hz32 c2 hk96 (by omega : w < 4) w7 c1
      have qb : q_b false = 0 := rfl
      have iff : (if (false : Bool) = true then q_p2 else q_pn) = q_pn := rfl
      rw [qb, iff] at dg
      refine key (lN (q_dw q_pn 0 c)) ?_ (fun O1 => ?_)
      · simp (disch := first | rfl | omega | decide | exact Nat.le_of_ble_eq_true rfl) only [↓q_br, q_rt, q_rz, q_gd, q_ca, ↓reduceIte, F_X11_told, ↓q_gA_1_2, ↓q_gA_8_1, ↓q_is_8, ↓q_lA_10, ↓q_is_8, qi, q_b_0, Bool.true_eq_false, not_false_eq_true, ea, y1, qd_I e3 (k := 9) (v := nI wc) rfl, s10, y2, qd_A e3 (k := 4) (r := some (a + 6)) rfl, sb, qd_aL e6 (by omega : w < 4) (by decide), u1]
      · simp (disch := first | rfl | omega | decide | exact Nat.le_of_ble_eq_true rfl) only [↓q_br, q_rt, q_rz, q_gd, q_ca, ↓reduceIte, F_X13_told, F_X13_told_18, ↓q_gA_26_31, ↓q_gA_26_32, ↓q_gA_26_33, ↓q_gA_26_34, ↓q_gI_26_23, ↓q_gI_26_7, ↓q_is_26, ↓q_lI_44, ↓q_lI_45, ↓q_lI_46, ↓q_lI_47, ↓q_pI_26_7, ↓q_is_26, hx1, h8, hlt, q7, q_le0', out, y1, w4, s10, y2, sb, dg]
    · by_cases hB1 : ¬ x < 20 ∧ ¬ nI (20 + wc) ≤ x
      · obtain ⟨y1, y2⟩ := hB1
        have hx0 : ¬ x < 0 := fun h => y1 (Int32.lt_trans h (by decide))
        obtain ⟨j, j1, rfl⟩ := nI_of hx0
        have j2 : 20 ≤ j := by
          have := mt (fun h => nI_lt (a := j) (b := 20) h (by decide)) y1
          omega
        have j3 : j < 20 + wc := by
          have := mt (fun h => nI_le (a := 20 + wc) (b := j) h j1) y2
          omega
        obtain ⟨w, rfl⟩ : ∃ w, j = 20 + w := ⟨j - 20, by omega⟩
        have hw : w < wc := by omega
        obtain ⟨c, c1, c2⟩ := word w hw
        obtain ⟨u1, u2, u3⟩ := q_CWd_dw g2 c1 (by omega) c2 hz32
        have sb : nI (20 + w) - (20 : Int32) = nI w := by rw [show (20 : Int32) = nI 20 from rfl, nI_sub (by omega), Nat.add_sub_cancel_left]
        have out : ((nI (20 + w)).toInt < 0 ∨ 3 < (nI (20 + w)).toInt) = True := eq_true (Or.inr (by rw [nI_toInt (by omega)]; omega))
        have dg := fun O1 => q_mdgs (κ := κ) (b := b) (C := (I, R, X, Y, Z)) (P := q_u1 P 7 0) (Q := Q) (S := S) (O := O1) (D := D) (s := (n, m)) (ones := true) (by rw [q_u1_n _ _ (by decide), h3]) hz32 c2 hk96 (by omega : w < 4) w7 c1
        have qb : q_b true = 1 := rfl
        have iff : (if (true : Bool) = true then q_p2 else q_pn) = q_p2 := rfl
        rw [qb, iff] at dg
        have y3 : ¬ nI (20 + w) < (10 : Int32) := nI_nlt (b := 10) (by omega) (by omega)
        have y4 : nI (10 + wc) ≤ nI (20 + w) := nI_le (by omega) (by omega)
        refine key (lN (q_dw q_p2 0 c)) ?_ (fun O1 => ?_)
        · simp (disch := first | rfl | omega | decide | exact Nat.le_of_ble_eq_true rfl) only [↓q_br, q_rt, q_rz, q_gd, q_ca, ↓reduceIte, F_X11_told, F_X11_told_58, ↓q_gA_1_2, ↓q_gA_8_1, ↓q_is_8, ↓q_lA_10, ↓q_is_8, qi, q_b_0, Bool.true_eq_false, not_false_eq_true, ea, y3, y4, y1, qd_I e3 (k := 9) (v := nI wc) rfl, s10, s20, y2, qd_A e3 (k := 5) (r := some (a + 7)) rfl, sb, qd_aL e7 (by omega : w < 4) (by decide), u2]
        · simp (disch := first | rfl | omega | decide | exact Nat.le_of_ble_eq_true rfl) only [↓q_br, q_rt, q_rz, q_gd, q_ca, ↓reduceIte, F_X13_told, F_X13_told_18, F_X13_told_122, ↓q_gA_26_31, ↓q_gA_26_32, ↓q_gA_26_33, ↓q_gA_26_34, ↓q_gI_26_23, ↓q_gI_26_7, ↓q_is_26, ↓q_lI_44, ↓q_lI_45, ↓q_lI_46, ↓q_lI_47, ↓q_pI_26_7, ↓q_is_26, hx1, h8, hlt, q7, q_le0', out, y3, y4, y1, w4, s10, s20, y2, sb, dg]
      · by_cases hC1 : ¬ x < 0 ∧ x ≤ 3
        · obtain ⟨j, j1, rfl⟩ := nI_of2 (x := x) (M := 3) (n := 3) (by decide) hC1.1 hC1.2
          have d10 : (nI j < (10 : Int32)) = True := eq_true (nI_lt (b := 10) (by omega) (by decide))
          have d20 : (nI j < (20 : Int32)) = True := eq_true (nI_lt (b := 20) (by omega) (by decide))
          have out : ((nI j).toInt < 0 ∨ 3 < (nI j).toInt) = False := eq_false (by rw [nI_toInt (by omega)]; omega)
          have ez : ∀ c : Nat, c < 4 → (nI j = nI c) = (j = c) := fun c hc => propext (nI_eq (by omega) (by omega))
          have e0 : (nI j = 0) = (j = 0) := ez 0 (by decide)
          have e1 : (nI j = 1) = (j = 1) := ez 1 (by decide)
          have e2 : (nI j = 2) = (j = 2) := ez 2 (by decide)
          have e33 : (nI j = 3) = (j = 3) := ez 3 (by decide)
          have cs : j = 0 ∨ j = 1 ∨ j = 2 ∨ j = 3 := by omega
          have z10 : ((1 : Nat) = 0) = False := eq_false (by decide)
          have z20 : ((2 : Nat) = 0) = False := eq_false (by decide)
          have z21 : ((2 : Nat) = 1) = False := eq_false (by decide)
          have z30 : ((3 : Nat) = 0) = False := eq_false (by decide)
          have z31 : ((3 : Nat) = 1) = False := eq_false (by decide)
          have z32 : ((3 : Nat) = 2) = False := eq_false (by decide)
          refine key (if j = 0 then (nI wc).toInt64 else if j = 1 then (nI dc).toInt64 else if j = 2 then (nI pc).toInt64 else (nI oc).toInt64) ?_ (fun O1 => ?_)
          · simp (disch := first | rfl | omega | decide | exact Nat.le_of_ble_eq_true rfl) only [F_X11_told, F_X11_told_58, F_X11_told_85, ↓q_br, ↓reduceIte, q_rt, q_ca, ↓q_gA_1_2, ↓q_gA_8_1, ↓q_lA_10, ↓q_is_8, qi, q_b_0, Bool.true_eq_false, not_false_eq_true, ea, d10, d20, out, e0, e1, e2, e33]
            rcases cs with rfl | rfl | rfl | rfl
            · simp (disch := first | rfl | omega | decide | exact Nat.le_of_ble_eq_true rfl) only [↓q_br, q_rt, q_rz, q_gd, q_ca, ↓reduceIte, qd_I e3 (k := 9) (v := nI wc) rfl, z10, z20, z21, z30, z31, z32]
            · simp (disch := first | rfl | omega | decide | exact Nat.le_of_ble_eq_true rfl) only [↓q_br, q_rt, q_rz, q_gd, q_ca, ↓reduceIte, qd_I e3 (k := 10) (v := nI dc) rfl, z10, z20, z21, z30, z31, z32]
            · simp (disch := first | rfl | omega | decide | exact Nat.le_of_ble_eq_true rfl) only [↓q_br, q_rt, q_rz, q_gd, q_ca, ↓reduceIte, qd_I e3 (k := 7) (v := nI pc) rfl, z10, z20, z21, z30, z31, z32]
            · simp (disch := first | rfl | omega | decide | exact Nat.le_of_ble_eq_true rfl) only [↓q_br, q_rt, q_rz, q_gd, q_ca, ↓reduceIte, qd_I e3 (k := 8) (v := nI oc) rfl, z10, z20, z21, z30, z31, z32]
          · simp (disch := first | rfl | omega | decide | exact Nat.le_of_ble_eq_true rfl) only [F_X13_told, F_X13_told_18, ↓q_br, ↓reduceIte, q_rt, q_ca, ↓q_gI_26_23, ↓q_gI_26_7, ↓q_pI_26_7, hx1, h8, hlt, q7, q_le0', out, e0, e1, e2, e33]
            rcases cs with rfl | rfl | rfl | rfl
            · simp (disch := first | rfl | omega | decide | exact Nat.le_of_ble_eq_true rfl) only [↓q_br, q_rt, q_rz, q_gd, q_ca, ↓reduceIte, ↓q_gA_26_33, ↓q_lI_46, w4, z10, z20, z21, z30, z31, z32]
            · simp (disch := first | rfl | omega | decide | exact Nat.le_of_ble_eq_true rfl) only [↓q_br, q_rt, q_rz, q_gd, q_ca, ↓reduceIte, ↓q_gA_26_34, ↓q_lI_47, w5, z10, z20, z21, z30, z31, z32]
            · simp (disch := first | rfl | omega | decide | exact Nat.le_of_ble_eq_true rfl) only [↓q_br, q_rt, q_rz, q_gd, q_ca, ↓reduceIte, ↓q_gA_26_31, ↓q_lI_44, w2, z10, z20, z21, z30, z31, z32]
            · simp (disch := first | rfl | omega | decide | exact Nat.le_of_ble_eq_true rfl) only [↓q_br, q_rt, q_rz, q_gd, q_ca, ↓reduceIte, ↓q_gA_26_32, ↓q_lI_45, w3, z10, z20, z21, z30, z31, z32]
        · have out : (x.toInt < 0 ∨ 3 < x.toInt) = True := eq_true (by
            rcases Decidable.em (x < 0) with h9 | h9
            · exact Or.inl (by have := Int32.lt_iff_toInt_lt.mp h9; simpa using this)
            · refine Or.inr ?_
              have h10 : ¬ x ≤ 3 := fun h => hC1 ⟨h9, h⟩
              have := Int32.lt_iff_toInt_lt.mp (Int32.not_le.mp h10)
              simpa using this)
          have ne : ("java/lang/IllegalArgumentException" = "java/lang/IndexOutOfBoundsException") = False := eq_false (by decide)
          refine ⟨2, O, n + 1, m + 6, 0, ?_, Or.inr rfl, Or.inr rfl, fun h9 => absurd h9 (by decide), ?_⟩
          · have kk : F_X11_told_58 κ x (some a) (q_H b (I, R, X, Y, Z) (P, Q, S) O D, n, m) = some (.inr ("java/lang/IllegalArgumentException", n), (q_H b (I, R, X, Y, Z) (P, Q, S) O D, n + 1, m + 6)) := by
              by_cases y1 : x < 20
              · simp (disch := first | rfl | omega | decide | exact Nat.le_of_ble_eq_true rfl) only [↓q_br, q_rt, q_rz, q_gd, q_ca, ↓reduceIte, F_X11_told_58, F_X11_told_85, y1, out, q_th]
              · have y2 : nI (20 + wc) ≤ x := Decidable.byContradiction fun h => hB1 ⟨y1, h⟩
                simp (disch := first | rfl | omega | decide | exact Nat.le_of_ble_eq_true rfl) only [↓q_br, q_rt, q_rz, q_gd, q_ca, ↓reduceIte, F_X11_told_58, F_X11_told_85, y1, qd_I e3 (k := 9) (v := nI wc) rfl, s20, y2, out, q_th]
            by_cases y1 : x < 10
            · simp (disch := first | rfl | omega | decide | exact Nat.le_of_ble_eq_true rfl) only [F_L_told, ↓q_is_1, q_cc, ↓q_br, q_rt, q_rz, q_gd, q_ca, ↓reduceIte, F_X11_told, ↓q_gA_1_2, ↓q_gA_8_1, ↓q_is_8, ↓q_lA_10, ↓q_is_8, qi, q_b_0, Bool.true_eq_false, not_false_eq_true, ea, y1, kk, ne]
            · have y2 : nI (10 + wc) ≤ x := Decidable.byContradiction fun h => hA1 ⟨y1, h⟩
              simp (disch := first | rfl | omega | decide | exact Nat.le_of_ble_eq_true rfl) only [F_L_told, ↓q_is_1, q_cc, ↓q_br, q_rt, q_rz, q_gd, q_ca, ↓reduceIte, F_X11_told, ↓q_gA_1_2, ↓q_gA_8_1, ↓q_is_8, ↓q_lA_10, ↓q_is_8, qi, q_b_0, Bool.true_eq_false, not_false_eq_true, ea, y1, qd_I e3 (k := 9) (v := nI wc) rfl, s10, y2, kk, ne]
          · have u77 : q_u1 (q_u1 P 7 0) 7 2 = q_u1 P 7 2 := q_u1_u1 _ _ _ _
            have kk : F_X13_told_122 κ (some (b + 26)) (nI k) x (q_H b (I, R, X, Y, Z) (q_u1 P 7 0, Q, S) O D, n + 1, m + 6) = some (.inl 0, (q_H b (I, R, X, Y, Z) (q_u1 P 7 2, Q, S) O D, n + 1, m + 6)) := by
              by_cases y1 : x < 20
              · simp (disch := first | rfl | omega | decide | exact Nat.le_of_ble_eq_true rfl) only [↓q_br, q_rt, q_rz, q_gd, q_ca, ↓reduceIte, F_X13_told_122, F_X13_told_152, ↓q_gA_26_33, ↓q_is_26, ↓q_lI_46, ↓q_pI_26_7, y1, u77]
              · have y2 : nI (20 + wc) ≤ x := Decidable.byContradiction fun h => hB1 ⟨y1, h⟩
                simp (disch := first | rfl | omega | decide | exact Nat.le_of_ble_eq_true rfl) only [↓q_br, q_rt, q_rz, q_gd, q_ca, ↓reduceIte, F_X13_told_122, F_X13_told_152, ↓q_gA_26_33, ↓q_is_26, ↓q_lI_46, ↓q_pI_26_7, y1, w4, s20, y2, u77]
            by_cases y1 : x < 10
            · simp (disch := first | rfl | omega | decide | exact Nat.le_of_ble_eq_true rfl) only [↓q_br, q_rt, q_rz, q_gd, q_ca, ↓reduceIte, F_X13_told, F_X13_told_18, ↓q_gA_26_31, ↓q_gA_26_32, ↓q_gA_26_33, ↓q_gA_26_34, ↓q_gI_26_23, ↓q_gI_26_7, ↓q_is_26, ↓q_lI_44, ↓q_lI_45, ↓q_lI_46, ↓q_lI_47, ↓q_pI_26_7, hx1, h8, hlt, q7, q_le0', out, y1, kk]
            · have y2 : nI (10 + wc) ≤ x := Decidable.byContradiction fun h => hA1 ⟨y1, h⟩
              simp (disch := first | rfl | omega | decide | exact Nat.le_of_ble_eq_true rfl) only [↓q_br, q_rt, q_rz, q_gd, q_ca, ↓reduceIte, F_X13_told, F_X13_told_18, ↓q_gA_26_31, ↓q_gA_26_32, ↓q_gA_26_33, ↓q_gA_26_34, ↓q_gI_26_23, ↓q_gI_26_7, ↓q_is_26, ↓q_lI_44, ↓q_lI_45, ↓q_lI_46, ↓q_lI_47, ↓q_pI_26_7, hx1, h8, hlt, q7, q_le0', out, y1, w4, s10, y2, kk]
  · rw [decide_eq_false hx] at qi
    refine ⟨1, O, n + 1, m + 6, 0, ?_, Or.inr rfl, Or.inr rfl, fun h9 => absurd h9 (by decide), ?_⟩
    · simp (disch := first | rfl | omega | decide | exact Nat.le_of_ble_eq_true rfl) only [F_L_told, ↓q_is_1, q_cc, ↓q_br, q_rt, q_rz, q_gd, q_ca, ↓reduceIte, F_X11_told, ↓q_gA_1_2, ↓q_gA_8_1, ↓q_is_8, ↓q_lA_10, ↓q_is_8, qi, q_b_0, not_true_eq_false, q_th]
    · by_cases h9 : p0 < 0
      · simp (disch := first | rfl | omega | decide | exact Nat.le_of_ble_eq_true rfl) only [↓q_br, q_rt, q_rz, q_gd, q_ca, ↓reduceIte, F_X13_told, F_X13_told_13, F_X13_told_18, ↓q_gA_26_31, ↓q_gA_26_32, ↓q_gA_26_33, ↓q_gA_26_34, ↓q_gI_26_23, ↓q_gI_26_7, ↓q_is_26, ↓q_lI_44, ↓q_lI_45, ↓q_lI_46, ↓q_lI_47, ↓q_pI_26_7, h9, q7, q_le0]
      · have h10 : nI Js.length ≤ p0 := Decidable.byContradiction fun h => hx ⟨h9, h⟩
        have h11 : ¬ p0 < nI Js.length := Int32.not_lt.mpr h10
        simp (disch := first | rfl | omega | decide | exact Nat.le_of_ble_eq_true rfl) only [↓q_br, q_rt, q_rz, q_gd, q_ca, ↓reduceIte, F_X13_told, F_X13_told_13, F_X13_told_18, ↓q_gA_26_31, ↓q_gA_26_32, ↓q_gA_26_33, ↓q_gA_26_34, ↓q_gI_26_23, ↓q_gI_26_7, ↓q_is_26, ↓q_lI_44, ↓q_lI_45, ↓q_lI_46, ↓q_lI_47, ↓q_pI_26_7, h9, h8, h11, q7, q_le0]
end QTB
