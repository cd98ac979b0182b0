def q_ova (ad : Nat → Int32) (x : q_Opd) : Int64 := match x.2.1 with
  | none => x.2.2
  | some i => (ad i).toInt64 + x.2.2
section QOV
variable {κ : Nat → Nat} {b : Nat} {B : Nat → Int32} {l : List q_Tok} {zt t : Nat} {I : Nat → Nat → Int32} {R : Nat → Nat → Option Nat} {X : Nat → Nat → Int32} {Y : Nat → Nat → Int64} {Z : Nat → Nat → Option Nat} {M : q_MT} {O : Nat → Int64} {D : q_Mem} {s : Nat × Nat}
theorem q_operandAt {n n' ka c23 : Nat} {K : q_Knd} {LT : List Nat} {la : Nat → Nat} {ad : Nat → Int32} {x : q_Opd} (hT : q_TC B l zt I X Y) (hK : q_CKd b n D ka K) (ht : t ≤ l.length) (hLT : LT.length ≤ 6100) (hY : (q_tok l t).1 = 1 → 1 ≤ q_kS K → q_kS K ≤ 3 → Y 7 t = (q_mv (q_lk B l LT t)).toInt64) (hAL : q_AL κ b n' D I R 23 c23 LT.length la) (hA : ∀ k, k < LT.length → ∃ v0 v1 v2 v3 v4 v5 v6, b + 66 < la k ∧ D (la k) = some (.inr (.inl (6, [v0, v1, v2, v3, v4, v5, v6, .int (ad k)])))) (hx : q_opd B l LT K t = some x) : F_X8_operandAt κ (some (b + 21)) (some ka) (nI t) (q_H b (I, R, X, Y, Z) M O D, s) = some (.inl (q_ova ad x), (q_H b (I, R, X, Y, Z) M O D, s)) := by
  have hzt := hT.2.2.1
  have hl := hT.2.1
  have hK0 := hK
  obtain ⟨hw, a1, a2, a3, f, k1, k2, k3, -⟩ := hK0
  have e3 : b + 66 < ka ∧ D ka = some (.inr (.inl (5, [.int (nI (q_kS K)), .ref a1, .ref a2, .ref a3, .int (nI (q_kZ K)), .int (nI (q_kB K))]))) := ⟨k1, k3⟩
  have l2 : t < 6003 := by omega
  have l3 : t + 1 < 6003 := by omega
  have ad1 : nI t + (1 : Int32) = nI (t + 1) := nI_add t 1
  have ad2 : nI t + (2 : Int32) = nI (t + 2) := nI_add t 2
  have ty2 : (X 4 t = (2 : Int32)) = ((q_tok l t).1 = 2) := propext (q_TC_is (c := 2) hT (by omega) (by decide))
  have ty3 : (X 4 t = (3 : Int32)) = ((q_tok l t).1 = 3) := propext (q_TC_is (c := 3) hT (by omega) (by decide))
  unfold q_opd at hx
  by_cases c0 : q_kS K = 0
  · have t0 : (nI (q_kS K) = 0) = True := eq_true (by rw [c0]; rfl)
    have rg := q_registerAt (κ := κ) (R := R) (Z := Z) (M := M) (O := O) (s := s) hT hK (t := t) (by omega)
    rw [if_pos c0] at hx
    cases hr : q_rgn B K (q_tok l t) with
    | none => rw [hr] at hx; cases hx
    | some v =>
      rw [hr] at rg hx
      cases hx
      have mv : q_mv (some v) = nI v := rfl
      have l64 : (nI v).toInt64 = lN v := nI_l (by have := q_rgn_lt hr; have := hw.2.2.2.1; omega)
      rw [mv] at rg
      simp (disch := first | rfl | omega | decide | exact Nat.le_of_ble_eq_true rfl) only [↓q_br, q_rt, q_rz, q_gd, q_ca, ↓reduceIte, F_X8_operandAt_185, F_X8_operandAt_131, F_X8_operandAt_130, F_X8_operandAt, ↓q_gA_21_1, ↓q_gA_21_5, ↓q_gA_2_1, ↓q_gA_2_4, ↓q_is_2, ↓q_is_21, ↓q_is_22, ↓q_is_23, ↓q_lI_4, ↓q_lL_7, qd_I e3 (k := 0) (v := nI (q_kS K)) rfl, qd_S e3, t0, not_true_eq_false, rg, l64]
      rfl
  · have t0 : (nI (q_kS K) = 0) = False := eq_false (fun h9 => c0 ((nI_eq (b := 0) (by have := hw.1; omega) (by decide)).mp h9))
    rw [if_neg c0] at hx
    by_cases c4 : q_kS K = 4
    · have t4 : (nI (q_kS K) = (4 : Int32)) = True := eq_true (by rw [c4]; rfl)
      have rg := q_memberA (κ := κ) (R := R) (Z := Z) (M := M) (O := O) (s := s) hT hK c4 (t := t) (by omega)
      rw [if_pos c4] at hx
      cases hr : q_mem1 B K (q_tok l t) with
      | none => rw [hr] at hx; cases hx
      | some v =>
        rw [hr] at rg hx
        cases hx
        have mv : q_mv (some v) = nI v := rfl
        have l64 : (nI v).toInt64 = lN v := nI_l (by have := q_mem1_lt hr; have := hw.2.2.2.2.1 c4; omega)
        rw [mv] at rg
        simp (disch := first | rfl | omega | decide | exact Nat.le_of_ble_eq_true rfl) only [↓q_br, q_rt, q_rz, q_gd, q_ca, ↓reduceIte, F_X8_operandAt_185, F_X8_operandAt_131, F_X8_operandAt_130, F_X8_operandAt, ↓q_gA_21_1, ↓q_gA_21_5, ↓q_gA_2_1, ↓q_gA_2_4, ↓q_is_2, ↓q_is_21, ↓q_is_22, ↓q_is_23, ↓q_lI_4, ↓q_lL_7, qd_I e3 (k := 0) (v := nI (q_kS K)) rfl, qd_S e3, t0, t4, not_true_eq_false, not_false_eq_true, rg, l64]
        rfl
    · have t4 : (nI (q_kS K) = (4 : Int32)) = False := eq_false (fun h9 => c4 ((nI_eq (b := 4) (by have := hw.1; omega) (by decide)).mp h9))
      rw [if_neg c4] at hx
      by_cases c2 : (q_tok l t).1 = 2
      · have t2 : ((q_tok l t).1 = 2) = True := eq_true c2
        rw [if_pos c2] at hx
        cases hx
        have wo := q_TC_wo hT (t := t) (q_tok_lt (by omega)) (Or.inl c2)
        simp (disch := first | rfl | omega | decide | exact Nat.le_of_ble_eq_true rfl) only [↓q_br, q_rt, q_rz, q_gd, q_ca, ↓reduceIte, F_X8_operandAt_185, F_X8_operandAt_131, F_X8_operandAt_130, F_X8_operandAt, ↓q_gA_21_1, ↓q_gA_21_5, ↓q_gA_2_1, ↓q_gA_2_4, ↓q_is_2, ↓q_is_21, ↓q_is_22, ↓q_is_23, ↓q_lI_4, ↓q_lL_7, qd_I e3 (k := 0) (v := nI (q_kS K)) rfl, qd_S e3, t0, t4, not_true_eq_false, not_false_eq_true, ty2, t2, wo]
        rfl
      · have t2 : ((q_tok l t).1 = 2) = False := eq_false c2
        rw [if_neg c2] at hx
        cases cs : q_sgn l t 45 with
        | true =>
          rw [cs, if_pos rfl] at hx
          have c3 : (q_tok l t).1 = 3 := (of_decide_eq_true cs).1
          have t3 : ((q_tok l t).1 = 3) = True := eq_true c3
          by_cases d2 : (q_tok l (t + 1)).1 = 2
          · rw [if_pos d2] at hx
            cases hx
            have wo := q_TC_wo hT (t := t + 1) (q_tok_lt (by omega)) (Or.inl d2)
            simp (disch := first | rfl | omega | decide | exact Nat.le_of_ble_eq_true rfl) only [↓q_br, q_rt, q_rz, q_gd, q_ca, ↓reduceIte, F_X8_operandAt_185, F_X8_operandAt_131, F_X8_operandAt_130, F_X8_operandAt, ↓q_gA_21_1, ↓q_gA_21_5, ↓q_gA_2_1, ↓q_gA_2_4, ↓q_is_2, ↓q_is_21, ↓q_is_22, ↓q_is_23, ↓q_lI_4, ↓q_lL_7, qd_I e3 (k := 0) (v := nI (q_kS K)) rfl, qd_S e3, t0, t4, not_true_eq_false, not_false_eq_true, ty2, t2, ty3, t3, ad1, wo]
            rfl
          · rw [if_neg d2] at hx
            cases hx
        | false =>
          rw [cs, if_neg (by decide)] at hx
          by_cases c1 : (q_tok l t).1 = 1
          · have tl : t < l.length := q_tok_lt (by omega)
            have t3 : ((q_tok l t).1 = 3) = False := eq_false (by omega)
            have y7 := hY c1 (by omega) (by have := hw.1; omega)
            have ta := q_hasTail (κ := κ) (b := b) (R := R) (Z := Z) (M := M) (O := O) (D := D) (s := s) hT tl
            have s1 := q_isSign (κ := κ) (b := b) (R := R) (Z := Z) (M := M) (O := O) (D := D) (s := s) (t := t + 1) (c := 43) hT (by omega)
            rw [if_pos c1] at hx
            cases hr : q_lk B l LT t with
            | none => rw [hr] at hx; cases hx
            | some i =>
              rw [hr] at hx
              have hi9 : i < LT.length := by
                have := (q_fi_s _ _ _ hr).2.1
                omega
              have y0 : Y 7 t = (nI i).toInt64 := by rw [y7, hr]; rfl
              have bk : (nI i).toInt64.toInt32 = nI i := Int32.toInt32_toInt64 _
              have p0 : (nI i < 0) = False := eq_false (nI_pos (by omega))
              have c5 : (nI LT.length ≤ nI i) = False := eq_false (nI_ge hi9 (by omega))
              have sz := q_size23 (κ := κ) (b := b) (R := R) (X := X) (Y := Y) (Z := Z) (M := M) (O := O) (D := D) (s := s) hAL.1
              have gt := q_get23 (κ := κ) (b := b) (X := X) (Y := Y) (Z := Z) (M := M) (O := O) (s := s) hAL hi9
              obtain ⟨v0, v1, v2, v3, v4, v5, v6, o1, o2⟩ := hA i hi9
              have e6 := And.intro o1 o2
              have l4 : t + 2 < 6003 := by omega
              cases ct : q_tl l t with
              | true =>
                rw [ct] at ta
                have d2 : (q_tok l (t + 2)).1 = 2 := by
                  unfold q_tl at ct
                  rw [Bool.and_eq_true] at ct
                  exact of_decide_eq_true ct.2
                have wo := q_TC_wo hT (t := t + 2) (q_tok_lt (by omega)) (Or.inl d2)
                simp only [ct, if_true] at hx
                cases c43 : q_sgn l (t + 1) 43 with
                | true =>
                  rw [c43] at s1 hx
                  cases hx
                  simp (disch := first | rfl | omega | decide | exact Nat.le_of_ble_eq_true rfl) only [↓q_br, q_rt, q_rz, q_gd, q_ca, ↓reduceIte, F_X8_operandAt_185, F_X8_operandAt_131, F_X8_operandAt_130, F_X8_operandAt, ↓q_gA_21_1, ↓q_gA_21_5, ↓q_gA_2_1, ↓q_gA_2_4, ↓q_is_2, ↓q_is_21, ↓q_is_22, ↓q_is_23, ↓q_lI_4, ↓q_lL_7, ↓q_is_23, ↓q_is_2, qd_I e3 (k := 0) (v := nI (q_kS K)) rfl, qd_S e3, t0, t4, not_true_eq_false, not_false_eq_true, ty2, t2, ty3, t3, y0, bk, p0, sz, c5, gt, qd_S e6, qd_I e6 (k := 7) (v := ad i) rfl, ta, q_b_0, Bool.true_eq_false, ad1, ad2, wo, s1]
                  rfl
                | false =>
                  rw [c43] at s1 hx
                  cases hx
                  simp (disch := first | rfl | omega | decide | exact Nat.le_of_ble_eq_true rfl) only [↓q_br, q_rt, q_rz, q_gd, q_ca, ↓reduceIte, F_X8_operandAt_185, F_X8_operandAt_131, F_X8_operandAt_130, F_X8_operandAt, ↓q_gA_21_1, ↓q_gA_21_5, ↓q_gA_2_1, ↓q_gA_2_4, ↓q_is_2, ↓q_is_21, ↓q_is_22, ↓q_is_23, ↓q_lI_4, ↓q_lL_7, ↓q_is_23, ↓q_is_2, qd_I e3 (k := 0) (v := nI (q_kS K)) rfl, qd_S e3, t0, t4, not_true_eq_false, not_false_eq_true, ty2, t2, ty3, t3, y0, bk, p0, sz, c5, gt, qd_S e6, qd_I e6 (k := 7) (v := ad i) rfl, ta, q_b_0, Bool.true_eq_false, ad1, ad2, wo, s1]
                  show some (Sum.inl ((ad i).toInt64 - _), _) = some (Sum.inl ((ad i).toInt64 + - _), _)
                  rw [Int64.sub_eq_add_neg]
                  rfl
              | false =>
                rw [ct] at ta
                simp only [ct, if_false, Bool.false_eq_true] at hx
                cases hx
                simp (disch := first | rfl | omega | decide | exact Nat.le_of_ble_eq_true rfl) only [↓q_br, q_rt, q_rz, q_gd, q_ca, ↓reduceIte, F_X8_operandAt_185, F_X8_operandAt_131, F_X8_operandAt_130, F_X8_operandAt, ↓q_gA_21_1, ↓q_gA_21_5, ↓q_gA_2_1, ↓q_gA_2_4, ↓q_is_2, ↓q_is_21, ↓q_is_22, ↓q_is_23, ↓q_lI_4, ↓q_lL_7, ↓q_is_23, ↓q_is_2, qd_I e3 (k := 0) (v := nI (q_kS K)) rfl, qd_S e3, t0, t4, not_true_eq_false, not_false_eq_true, ty2, t2, ty3, t3, y0, bk, p0, sz, c5, gt, qd_S e6, qd_I e6 (k := 7) (v := ad i) rfl, ta, q_b_0, Bool.false_eq_true, ad1, ad2]
                show some (Sum.inl (ad i).toInt64, _) = some (Sum.inl ((ad i).toInt64 + 0), _)
                rw [Int64.add_zero]
          · rw [if_neg c1] at hx
            cases hx
end QOV
