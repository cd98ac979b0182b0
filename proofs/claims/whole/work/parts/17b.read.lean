section QRB
variable {κ : Nat → Nat} {b : Nat} {B : Nat → Int32} {l : List q_Tok} {zt : Nat} {X : Nat → Nat → Int32} {M : q_MT} {O : Nat → Int64}
theorem q_read_21 {z : Nat} (hz : z ≤ 32) : ∀ f fuel c t (I : Nat → Nat → Int32) (R : Nat → Nat → Option Nat) (Y : Nat → Nat → Int64) (Z : Nat → Nat → Option Nat) (D : q_Mem) (n m : Nat) (L : List q_Knd) (Js : List q_Ins), q_TC B l zt I X Y → q_Kp κ b D → I 14 1 = nI t → I 14 2 = 0 → I 8 2 = nI z → t ≤ l.length → l.length < t + f → c ≤ t → f + 1 < fuel → b + 66 < n → q_CMk b n D I Z L → I 8 4 = nI Js.length → Js.length ≤ 96 → q_CIs b n D Z L z Js →
    ∃ I' R' Y' Z' D' n' m', (∀ j, j ≠ 8 → j ≠ 14 → j ≠ 19 → I' j = I j) ∧ I' 8 2 = I 8 2 ∧ (∀ j, j ≠ 19 → R' j = R j) ∧ (∀ j, j ≠ 20 → Y' j = Y j) ∧ (∀ j, j ≠ 9 → j ≠ 10 → Z' j = Z j) ∧ (∀ x, x < n → D' x = D x) ∧ n ≤ n' ∧ n' + 80 * L.length + 40 * Js.length ≤ n + 7120 ∧ m ≤ m' ∧ m' + 800 * L.length + 500 * Js.length ≤ m + 80800 ∧ F_X0_read_21 κ fuel (some (b + 19)) (nI c) (q_H b (I, R, X, Y, Z) M O D, n, m) = F_X0_read_52 κ (some (b + 19)) (q_H b (I', R', X, Y', Z') M O D', n', m') ∧ (match q_ps B l z f L Js t with
      | .inl (k, p) => I' 14 2 = nI k ∧ I' 14 3 = nI p ∧ 1 ≤ k ∧ k ≤ 5
      | .inr (L', Js') => I' 14 2 = 0 ∧ I' 14 3 = I 14 3 ∧ q_CMk b n' D' I' Z' L' ∧ I' 8 4 = nI Js'.length ∧ Js'.length ≤ 96 ∧ q_CIs b n' D' Z' L' z Js') := by
  intro f
  induction f with
  | zero => intro fuel c t I R Y Z D n m L Js h hK ha hf h82 ht htf; omega
  | succ f ih =>
    intro fuel c t I R Y Z D n m L Js h hK ha hf h82 ht htf hct hfu hn hk h84 hJ hC
    obtain ⟨fu, rfl⟩ : ∃ fu, fuel = fu + 1 := ⟨fuel - 1, by omega⟩
    obtain ⟨fv, rfl⟩ : ∃ fv, fu = fv + 1 := ⟨fu - 1, by omega⟩
    have hzt := h.2.2.1
    have hl := h.2.1
    have hL40 := hk.2.1
    have i1 : nI 1 = 1 := rfl
    have g1 : ¬ nI l.length < nI c := by rw [nI_ltI (by omega) (by omega)]; omega
    have dn := q_isDone (κ := κ) (b := b) (R := R) (X := X) (Y := Y) (Z := Z) (M := M) (O := O) (D := D) (s := (n, m)) (l := l) ha h.1 (by omega) (by omega)
    rw [hf] at dn
    simp only [decide_true, Bool.not_true, Bool.false_or] at dn
    unfold q_ps
    by_cases hle : l.length ≤ t
    · rw [if_pos hle]
      refine ⟨I, R, Y, Z, D, n, m, fun _ _ _ _ => rfl, rfl, fun _ _ => rfl, fun _ _ => rfl, fun _ _ _ => rfl, fun _ _ => rfl, Nat.le_refl _, by omega, Nat.le_refl _, by omega, ?_, hf, rfl, hk, h84, hJ, hC⟩
      rw [F_X0_read_21]
      simp (disch := first | rfl | omega | decide | exact Nat.le_of_ble_eq_true rfl) only [↓q_br, q_rt, q_rz, q_gd, q_ca, ↓reduceIte, F_X0_read_21B, ↓q_gA_19_0, ↓q_gA_19_1, ↓q_gI_2_6, ↓q_is_14, ↓q_is_19, ↓q_gI_2_6, h.1, g1, ↓q_is_14, dn, hle, decide_true, q_b_0, Bool.true_eq_false, not_false_eq_true]
    · rw [if_neg hle]
      have hlt : t < l.length := by omega
      have so := q_sortOf (κ := κ) (b := b) (R := R) (Z := Z) (M := M) (O := O) (s := (n, m)) (t := t) h hK (by omega)
      have c9 := q_says (κ := κ) (b := b) (R := R) (Z := Z) (M := M) (O := O) (s := (n, m)) (i := 9) (t := t) h hK (by decide) (by omega)
      obtain ⟨I1, hI1⟩ : ∃ I1, I1 = q_u2 I 14 1 (nI (t + 1)) := ⟨_, rfl⟩
      have fI1 : ∀ j, j ≠ 14 → I1 j = I j := fun j j1 => by rw [hI1, q_u2_n _ _ _ j1]
      have a1 : I1 14 1 = nI (t + 1) := by rw [hI1, q_u2_s, q_u1_s]
      have b1 : I1 14 2 = 0 := by rw [hI1, q_u2_s, q_u1_n _ _ (by decide), hf]
      have d1 : I1 14 3 = I 14 3 := by rw [hI1, q_u2_s, q_u1_n _ _ (by decide)]
      have hT1 : q_TC B l zt I1 X Y := q_TC_I h (by rw [fI1 2 (by decide)])
      have hk1 : q_CMk b n D I1 Z L := ⟨by rw [fI1 8 (by decide)]; exact hk.1, hk.2⟩
      have step : F_X0_read_21 κ (fv + 1 + 1) (some (b + 19)) (nI c) (q_H b (I, R, X, Y, Z) M O D, n, m) = q_ca (F_X0_readStatement κ (some (b + 19))) (fun _ => F_X0_read_21 κ (fv + 1) (some (b + 19)) (nI (c + 1))) (q_H b (I, R, X, Y, Z) M O D, n, m) := by
        rw [F_X0_read_21]
        simp (disch := first | rfl | omega | decide | exact Nat.le_of_ble_eq_true rfl) only [F_X0_read_21B, ↓q_br, ↓q_gA_19_0, ↓q_gA_19_1, ↓q_gI_2_6, h.1, g1, ↓reduceIte, ↓q_is_14, nI_1]
        rw [q_ca, dn]
        simp (disch := first | rfl | omega | decide | exact Nat.le_of_ble_eq_true rfl) only [hle, decide_false, q_b_0, not_true_eq_false, ↓q_br, ↓reduceIte, ↓q_is_19]
      have next : ∀ (I' : Nat → Nat → Int32) (R' : Nat → Nat → Option Nat) (Y' : Nat → Nat → Int64) (Z' : Nat → Nat → Option Nat) (D' : q_Mem) (s' : Nat × Nat), I' 2 6 = nI l.length → ¬ I' 14 2 = 0 → F_X0_read_21 κ (fv + 1) (some (b + 19)) (nI (c + 1)) (q_H b (I', R', X, Y', Z') M O D', s') = F_X0_read_52 κ (some (b + 19)) (q_H b (I', R', X, Y', Z') M O D', s') := by
        intro I' R' Y' Z' D' s' e1 e2
        have g2 : ¬ nI l.length < nI (c + 1) := by rw [nI_ltI (by omega) (by omega)]; omega
        have dn' := q_isDone_f (κ := κ) (b := b) (R := R') (X := X) (Y := Y') (Z := Z') (M := M) (O := O) (D := D') (s := s') e2
        have one : ¬ (1 : Int32) = 0 := by decide
        rw [F_X0_read_21]
        simp (disch := first | rfl | omega | decide | exact Nat.le_of_ble_eq_true rfl) only [↓q_br, q_rt, q_rz, q_gd, q_ca, ↓reduceIte, F_X0_read_21B, ↓q_gA_19_0, ↓q_gA_19_1, ↓q_gI_2_6, ↓q_is_14, ↓q_is_19, ↓q_gI_2_6, e1, g2, ↓q_is_14, dn', one, not_false_eq_true]
      rw [step]
      by_cases h9 : q_wd B l t 9 = true
      · rw [if_pos h9]
        have so9 := q_so_9 h9
        rw [so9] at so
        obtain ⟨I2, R2, Y2, D2, n2, m2, x1, x2, x3, x4, x5, x6, x7, x8, x9, x10, x11⟩ := q_readInstruction (κ := κ) (b := b) (B := B) (l := l) (zt := zt) (X := X) (Z := Z) (M := M) (O := O) (R := R) (I := I1) (Y := Y) (D := D) (n := n) (m := m) (ni := Js.length) (z := z) (t := t + 1) (L := L) hT1 hK a1 b1 (by rw [fI1 8 (by decide), h82]) hz (by omega) hn hk1 (by rw [fI1 8 (by decide), h84]) hJ
        have neg1 : ¬ (0 : Int32) ≤ -1 := by decide
        have st : ∀ r, F_X0_readInstruction κ (some (b + 19)) (q_H b (I1, R, X, Y, Z) M O D, n, m) = some (.inl (), r) → F_X0_readStatement κ (some (b + 19)) (q_H b (I, R, X, Y, Z) M O D, n, m) = some (.inl (), r) := by
          intro r hr
          rw [hI1] at hr
          simp (disch := first | rfl | omega | decide | exact Nat.le_of_ble_eq_true rfl) only [↓q_br, q_rt, q_rz, q_gd, q_ca, ↓reduceIte, F_X0_readStatement, F_X0_readStatement_41, F_X0_readStatement_70, ↓q_gA_19_0, ↓q_gA_19_1, ↓q_gI_14_1, ↓q_is_14, ↓q_is_19, ↓q_is_2, ↓q_pI_14_1, ha, ↓q_is_19, ↓q_is_2, ↓q_is_14, so, q_mv, neg1, c9, h9, q_b_0, Bool.true_eq_false, not_false_eq_true, nI_1, hr]
        cases hq : q_pi B l L Js.length z (t + 1) with
        | inl e =>
          obtain ⟨k, p⟩ := e
          rw [hq] at x11
          obtain ⟨y1, y2, y3, y4, y5⟩ := x11
          refine ⟨I2, R2, Y2, Z, D2, n2, m2, fun j j1 j2 j3 => by rw [x1 j j1 j2 j3, fI1 j j2], by rw [x2, fI1 8 (by decide)], x4, x5, fun _ _ _ => rfl, x6, x7, by omega, x9, by omega, ?_, y2, y3, y4, y5⟩
          rw [q_ca, st _ y1]
          exact next _ _ _ _ _ _ (by rw [x1 2 (by decide) (by decide) (by decide), fI1 2 (by decide), h.1]) (by rw [y2]; exact nI_ne0 (by omega) (by omega))
        | inr e =>
          obtain ⟨J, t'⟩ := e
          rw [hq] at x11
          obtain ⟨a, y1, y2, y3, y4, y5, y6, y7, y8, y9⟩ := x11
          have fr : ∀ j, j ≠ 8 → j ≠ 14 → j ≠ 19 → I2 j = I j := fun j j1 j2 j3 => by rw [x1 j j1 j2 j3, fI1 j j2]
          have hZ9 : ∀ k, k < L.length → q_u2 Z 10 Js.length (some a) 9 k = Z 9 k := fun k _ => by rw [q_u2_n _ _ _ (by decide)]
          have hk2 : q_CMk b n2 D2 I2 (q_u2 Z 10 Js.length (some a)) L := by
            refine ⟨by rw [x3, fI1 8 (by decide)]; exact hk.1, hk.2.1, fun k K hK' => ?_⟩
            obtain ⟨x, e1, e2⟩ := hk.2.2 k K hK'
            exact ⟨x, by rw [q_u2_n _ _ _ (by decide), e1], q_CKd_mo e2 x7 (fun y _ hy => x6 y hy)⟩
          have hC2 : q_CIs b n2 D2 (q_u2 Z 10 Js.length (some a)) L z (Js ++ [J]) := by
            intro i J' hi
            by_cases hil : i < Js.length
            · rw [List.getElem?_append_left hil] at hi
              obtain ⟨x, e1, e2⟩ := hC i J' hi
              exact ⟨x, by rw [q_u2_s, q_u1_n _ _ (by omega), e1], q_CIn_mo e2 x7 (fun y _ hy => x6 y hy) (List.prefix_refl _) hZ9⟩
            · have hie : i = Js.length := by
                have := (List.getElem?_eq_some_iff.mp hi).1
                simp only [List.length_append, List.length_cons, List.length_nil] at this
                omega
              subst hie
              rw [List.getElem?_append_right (Nat.le_refl _), Nat.sub_self] at hi
              simp only [List.getElem?_cons_zero, Option.some.injEq] at hi
              subst hi
              exact ⟨a, by rw [q_u2_s, q_u1_s], q_CIn_mo y9 (Nat.le_refl _) (fun y _ _ => rfl) (List.prefix_refl _) hZ9⟩
          have hlen : (Js ++ [J]).length = Js.length + 1 := by simp
          obtain ⟨I', R', Y', Z', D', n', m', w1, w2, w3, w4, w5, w6, w7, w8, w9, w10, w11, w12⟩ := ih (fv + 1) (c + 1) t' I2 R2 Y2 (q_u2 Z 10 Js.length (some a)) D2 n2 m2 L (Js ++ [J]) (q_TC_Y h (by rw [fr 2 (by decide) (by decide) (by decide)]) (x5 7 (by decide))) (q_Kp_D hK (fun x hx => x6 x (by omega))) y2 y3 (by rw [x2, fI1 8 (by decide), h82]) y7 (by omega) (by omega) (by omega) (by omega) hk2 (by rw [y5, hlen]) (by omega) hC2
          rw [hlen] at w8 w10
          refine ⟨I', R', Y', Z', D', n', m', fun j j1 j2 j3 => by rw [w1 j j1 j2 j3, fr j j1 j2 j3], by rw [w2, x2, fI1 8 (by decide)], fun j j1 => by rw [w3 j j1, x4 j j1], fun j j1 => by rw [w4 j j1, x5 j j1], fun j j1 j2 => by rw [w5 j j1 j2, q_u2_n _ _ _ j2], fun x hx => by rw [w6 x (by omega), x6 x hx], by omega, by omega, by omega, by omega, ?_, ?_⟩
          · rw [q_ca, st _ y1]
            exact w11
          · simp only
            cases hq2 : q_ps B l z f L (Js ++ [J]) t' with
            | inl e =>
              obtain ⟨k, p⟩ := e
              rw [hq2] at w12
              exact w12
            | inr e =>
              obtain ⟨L', Js'⟩ := e
              rw [hq2] at w12
              obtain ⟨v1, v2, v3⟩ := w12
              exact ⟨v1, by rw [v2, y4, d1], v3⟩
      · rw [if_neg h9]
        have h9' : q_wd B l t 9 = false := by simpa using h9
        cases hso : q_so B l t with
        | none =>
          rw [hso] at so
          have neg1 : ¬ (0 : Int32) ≤ -1 := by decide
          have fl := q_fail (κ := κ) (b := b) (R := R) (X := X) (Y := Y) (Z := Z) (M := M) (O := O) (D := D) (s := (n, m)) (k := 1) ha
          refine ⟨q_ft I 1 (nI t), R, Y, Z, D, n, m, fun j _ j2 _ => by simp only [q_ft, q_u2_n _ _ _ j2], by simp (disch := first | rfl | omega | decide | exact Nat.le_of_ble_eq_true rfl) only [q_ft, q_u2_n], fun _ _ => rfl, fun _ _ => rfl, fun _ _ _ => rfl, fun _ _ => rfl, Nat.le_refl _, by omega, Nat.le_refl _, by omega, ?_, by simp (disch := first | rfl | omega | decide | exact Nat.le_of_ble_eq_true rfl) only [q_u2_s, q_u1_n, q_u1_s, i1], by simp (disch := first | rfl | omega | decide | exact Nat.le_of_ble_eq_true rfl) only [q_u2_s, q_u1_s], by decide, by decide⟩
          have st : F_X0_readStatement κ (some (b + 19)) (q_H b (I, R, X, Y, Z) M O D, n, m) = some (.inl (), (q_H b (q_ft I 1 (nI t), R, X, Y, Z) M O D, n, m)) := by
            simp (disch := first | rfl | omega | decide | exact Nat.le_of_ble_eq_true rfl) only [↓q_br, q_rt, q_rz, q_gd, q_ca, ↓reduceIte, F_X0_readStatement, ↓q_gA_19_0, ↓q_gA_19_1, ↓q_gI_14_1, ↓q_is_14, ↓q_is_19, ↓q_is_2, ha, ↓q_is_19, ↓q_is_2, ↓q_is_14, so, q_mv, neg1, c9, h9', q_b_0, not_true_eq_false, fl]
          rw [q_ca, st]
          exact next _ _ _ _ _ _ (by simp (disch := first | rfl | omega | decide | exact Nat.le_of_ble_eq_true rfl) only [q_ft, q_u2_n, h.1]) (by simp (disch := first | rfl | omega | decide | exact Nat.le_of_ble_eq_true rfl) only [q_u2_s, q_u1_n, q_u1_s]; decide)
        | some sv =>
          rw [hso] at so
          have hs4 := q_so_le hso
          have pos : (0 : Int32) ≤ nI sv := by rw [← nI_0, nI_leI (by decide) (by omega)]; omega
          obtain ⟨D2, n2, m2, x6, x7, x8, x9, x10, x11⟩ := q_readKind (κ := κ) (b := b) (B := B) (l := l) (z := zt) (X := X) (Z := Z) (M := M) (O := O) (R := R) (I := I1) (Y := Y) (D := D) (n := n) (m := m) (so := sv) (t := t + 1) (L := L) hT1 a1 b1 (by omega) hs4 hn hk1
          have st : ∀ r, F_X0_readKind κ (some (b + 19)) (nI sv) (q_H b (I1, R, X, Y, Z) M O D, n, m) = some (.inl (), r) → F_X0_readStatement κ (some (b + 19)) (q_H b (I, R, X, Y, Z) M O D, n, m) = some (.inl (), r) := by
            intro r hr
            rw [hI1] at hr
            simp (disch := first | rfl | omega | decide | exact Nat.le_of_ble_eq_true rfl) only [↓q_br, q_rt, q_rz, q_gd, q_ca, ↓reduceIte, F_X0_readStatement, F_X0_readStatement_41, F_X0_readStatement_70, ↓q_gA_19_0, ↓q_gA_19_1, ↓q_gI_14_1, ↓q_is_14, ↓q_is_19, ↓q_is_2, ↓q_pI_14_1, ha, ↓q_is_19, ↓q_is_2, ↓q_is_14, so, q_mv, pos, nI_1, hr]
          simp only
          cases hq : q_pk B l L sv (t + 1) with
          | inl e =>
            obtain ⟨k, p⟩ := e
            rw [hq] at x11
            obtain ⟨y1, y4, y5⟩ := x11
            have e2 : q_ft (q_u2 I1 14 1 (nI p)) (nI k) (nI p) 14 2 = nI k := by simp (disch := first | rfl | omega | decide | exact Nat.le_of_ble_eq_true rfl) only [q_u2_s, q_u1_n, q_u1_s]
            have e3 : q_ft (q_u2 I1 14 1 (nI p)) (nI k) (nI p) 14 3 = nI p := by simp (disch := first | rfl | omega | decide | exact Nat.le_of_ble_eq_true rfl) only [q_u2_s, q_u1_s]
            have er : ∀ j, j ≠ 14 → q_ft (q_u2 I1 14 1 (nI p)) (nI k) (nI p) j = I j := fun j j1 => by rw [q_ft, q_u2_n _ _ _ j1, q_u2_n _ _ _ j1, q_u2_n _ _ _ j1, fI1 j j1]
            refine ⟨_, R, Y, Z, D2, n2, m2, fun j _ j2 _ => er j j2, by rw [er 8 (by decide)], fun _ _ => rfl, fun _ _ => rfl, fun _ _ _ => rfl, x6, x7, by omega, x9, by omega, ?_, e2, e3, y4, by omega⟩
            rw [q_ca, st _ y1]
            exact next _ _ _ _ _ _ (by rw [er 2 (by decide), h.1]) (by rw [e2]; exact nI_ne0 (by omega) (by omega))
          | inr e =>
            obtain ⟨K, t'⟩ := e
            rw [hq] at x11
            obtain ⟨a, y1, y2, y3, y4, y5⟩ := x11
            obtain ⟨I2, hI2⟩ : ∃ I2, I2 = q_u2 (q_u2 I1 14 1 (nI t')) 8 3 (nI (L.length + 1)) := ⟨_, rfl⟩
            rw [← hI2] at y1
            have fr : ∀ j, j ≠ 8 → j ≠ 14 → I2 j = I j := fun j j1 j2 => by rw [hI2, q_u2_n _ _ _ j1, q_u2_n _ _ _ j2, fI1 j j2]
            have f14 : I2 14 = q_u2 I1 14 1 (nI t') 14 := by rw [hI2, q_u2_n _ _ _ (by decide)]
            have f8 : ∀ k, k ≠ 3 → I2 8 k = I 8 k := fun k hk => by rw [hI2, q_u2_s, q_u1_n _ _ hk, q_u2_n _ _ _ (by decide), fI1 8 (by decide)]
            have f83 : I2 8 3 = nI (L.length + 1) := by rw [hI2, q_u2_s, q_u1_s]
            have hZ9 : ∀ k, k < L.length → q_u2 Z 9 L.length (some a) 9 k = Z 9 k := fun k hk => by rw [q_u2_s, q_u1_n _ _ (by omega)]
            have hlen : (L ++ [K]).length = L.length + 1 := by simp
            have hk2 : q_CMk b n2 D2 I2 (q_u2 Z 9 L.length (some a)) (L ++ [K]) := by
              refine ⟨by rw [f83, hlen], by omega, fun k K' hK' => ?_⟩
              by_cases hkl : k < L.length
              · rw [List.getElem?_append_left hkl] at hK'
                obtain ⟨x, e1, e2⟩ := hk.2.2 k K' hK'
                exact ⟨x, by rw [hZ9 k hkl, e1], q_CKd_mo e2 x7 (fun y _ hy => x6 y hy)⟩
              · have hke : k = L.length := by
                  have := (List.getElem?_eq_some_iff.mp hK').1
                  omega
                subst hke
                rw [List.getElem?_append_right (Nat.le_refl _), Nat.sub_self] at hK'
                simp only [List.getElem?_cons_zero, Option.some.injEq] at hK'
                subst hK'
                exact ⟨a, by rw [q_u2_s, q_u1_s], y5⟩
            have hC2 : q_CIs b n2 D2 (q_u2 Z 9 L.length (some a)) (L ++ [K]) z Js := by
              intro i J' hi
              obtain ⟨x, e1, e2⟩ := hC i J' hi
              exact ⟨x, by rw [q_u2_n _ _ _ (by decide), e1], q_CIn_mo e2 x7 (fun y _ hy => x6 y hy) (List.prefix_append _ _) hZ9⟩
            obtain ⟨I', R', Y', Z', D', n', m', w1, w2, w3, w4, w5, w6, w7, w8, w9, w10, w11, w12⟩ := ih (fv + 1) (c + 1) t' I2 R Y (q_u2 Z 9 L.length (some a)) D2 n2 m2 (L ++ [K]) Js (q_TC_I h (by rw [fr 2 (by decide) (by decide)])) (q_Kp_D hK (fun x hx => x6 x (by omega))) (by rw [f14, q_u2_s, q_u1_s]) (by rw [f14, q_u2_s, q_u1_n _ _ (by decide), b1]) (by rw [f8 2 (by decide), h82]) y3 (by omega) (by omega) (by omega) (by omega) hk2 (by rw [f8 4 (by decide), h84]) hJ hC2
            rw [hlen] at w8 w10
            refine ⟨I', R', Y', Z', D', n', m', fun j j1 j2 j3 => by rw [w1 j j1 j2 j3, fr j j1 j2], by rw [w2, f8 2 (by decide)], w3, w4, fun j j1 j2 => by rw [w5 j j1 j2, q_u2_n _ _ _ j1], fun x hx => by rw [w6 x (by omega), x6 x hx], by omega, by omega, by omega, by omega, ?_, ?_⟩
            · rw [q_ca, st _ y1]
              exact w11
            · simp only
              cases hq2 : q_ps B l z f (L ++ [K]) Js t' with
              | inl e =>
                obtain ⟨k, p⟩ := e
                rw [hq2] at w12
                exact w12
              | inr e =>
                obtain ⟨L', Js'⟩ := e
                rw [hq2] at w12
                obtain ⟨v1, v2, v3⟩ := w12
                exact ⟨v1, by rw [v2, f14, q_u2_s, q_u1_n _ _ (by decide), d1], v3⟩
end QRB
