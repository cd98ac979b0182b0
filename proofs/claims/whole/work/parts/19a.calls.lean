/-! ===== the small calls ===== -/
section QCA
variable {κ : Nat → Nat} {b : Nat}
theorem q_VD_P {n n' : Nat} {D D' : q_Mem} {I I' : Nat → Nat → Int32} {Z : Nat → Nat → Option Nat} {P P' : Nat → Int32} {Q Q' : Nat → Nat → Int32} {z : Nat} {L : List q_Knd} {Js : List q_Ins} (h : q_VD b n D I Z P Q z L Js) (hn : n ≤ n') (hD : ∀ x, b < x → x < n → q_t7 (D x) = false → D' x = D x) (hI : I' 8 = I 8) (hP : ∀ j, 19 ≤ j → j ≤ 23 → P' j = P j) (hQ : ∀ j, 34 ≤ j → j ≤ 51 → Q' j = Q j) : q_VD b n' D' I' Z P' Q' z L Js := by
  obtain ⟨h1, h2, h3, h4, h5, h6, h7, h8, ⟨N, top, h9, h10, h11⟩, h12⟩ := h
  exact ⟨h1, by rw [hI, h2], by rw [hP 21 (by decide) (by decide), h3], q_CMk_m7 h4 hn hD (by rw [hI]) rfl, q_CIs_m7 h5 hn hD rfl rfl, by rw [hI, h6], h7, by rw [hP 23 (by decide) (by decide), h8], ⟨N, top, q_PL_P h9 (hP 19 (by decide) (by decide)) (hP 20 (by decide) (by decide)) (hQ 34 (by decide) (by decide)) (hQ 35 (by decide) (by decide)) (hQ 36 (by decide) (by decide)), q_MMk_Q h10 (List.prefix_refl _) (hP 22 (by decide) (by decide)) (fun j j1 j2 => hQ j (by omega) (by omega)), fun i J hi => q_MIn_Q (h11 i J hi) (List.prefix_refl _) (Nat.le_refl _) (fun j j1 j2 => hQ j (by omega) (by omega))⟩, h12⟩
theorem q_VI_7 {C : q_CT} {P P' : Nat → Int32} {Q : Nat → Nat → Int32} {S : Nat → Nat → Int64} {D : q_Mem} {n n' c22 c23 : Nat} (h : q_VI κ b C (P, Q, S) D n c22 c23) (hn : n ≤ n') (hP : ∀ j, j ≠ 7 → P' j = P j) : q_VI κ b C (P', Q, S) D n' c22 c23 := by
  obtain ⟨I, R, X, Y, Z⟩ := C
  obtain ⟨hK, hb, ⟨zt, t1, t2, t3, t4⟩, hk, hp, hlb, hrd, ⟨z, L, Js, hD, m1, m2, m3⟩, ⟨l1, k, l2, l3, l4, l5⟩, hA⟩ := h
  exact ⟨hK, by omega, ⟨zt, t1, t2, by rw [hP 3 (by decide), t3], t4⟩, by rw [hP 5 (by decide), hk], by rw [hP 6 (by decide), hp], by rw [hP 43 (by decide), hlb], by rw [hP 44 (by decide), hrd], ⟨z, L, Js, q_VD_P hD hn (fun _ _ _ _ => rfl) rfl (fun j j1 j2 => hP j (by omega)) (fun _ _ _ => rfl), m1, by rw [hP 42 (by decide), m2], m3⟩, ⟨by rw [hP 8 (by decide), l1], k, l2, l3, by rw [hP 4 (by decide), l4], l5⟩, q_VA_mo hA hn (fun _ _ => rfl) rfl rfl rfl rfl⟩
def q_Same (κ : Nat → Nat) (b : Nat) (f g : q_X Int32) : Prop := ∀ (C : q_CT) (M : q_MT) (O : Nat → Int64) (D : q_Mem) (n m c22 c23 : Nat), q_VI κ b C M D n c22 c23 → ∃ v M2, f (q_H b C M O D, n, m) = some (.inl v, (q_H b C M O D, n, m)) ∧ g (q_H b C M O D, n, m) = some (.inl v, (q_H b C M2 O D, n, m)) ∧ q_VI κ b C M2 D n c22 c23
theorem q_same_kind : q_Same κ b (F_X11_kind κ (some (b + 1))) (F_X13_kind_ κ (some (b + 26))) := by
  rintro ⟨I, R, X, Y, Z⟩ ⟨P, Q, S⟩ O D n m c22 c23 h
  have h5 : I 14 2 = P 5 := h.2.2.2.1
  refine ⟨P 5, (q_u1 P 7 0, Q, S), ?_, ?_, q_VI_7 h (Nat.le_refl _) (fun j hj => q_u1_n _ _ hj)⟩
  · simp (disch := first | rfl | omega | decide | exact Nat.le_of_ble_eq_true rfl) only [↓q_br, q_rt, q_rz, q_gd, q_ca, ↓reduceIte, F_X11_kind, ↓q_gA_1_1, ↓q_gI_14_2, h5]
  · have e : q_u1 P 7 0 5 = P 5 := q_u1_n _ _ (by decide)
    simp (disch := first | rfl | omega | decide | exact Nat.le_of_ble_eq_true rfl) only [↓q_br, q_rt, q_rz, q_gd, q_ca, ↓reduceIte, F_X13_kind_, ↓q_gI_26_5, ↓q_pI_26_7, e]
theorem q_same_place : q_Same κ b (F_X11_place κ (some (b + 1))) (F_X13_place κ (some (b + 26))) := by
  rintro ⟨I, R, X, Y, Z⟩ ⟨P, Q, S⟩ O D n m c22 c23 h
  have h5 : I 14 3 = P 6 := h.2.2.2.2.1
  refine ⟨P 6, (q_u1 P 7 0, Q, S), ?_, ?_, q_VI_7 h (Nat.le_refl _) (fun j hj => q_u1_n _ _ hj)⟩
  · simp (disch := first | rfl | omega | decide | exact Nat.le_of_ble_eq_true rfl) only [↓q_br, q_rt, q_rz, q_gd, q_ca, ↓reduceIte, F_X11_place, ↓q_gA_1_1, ↓q_gI_14_3, h5]
  · have e : q_u1 P 7 0 6 = P 6 := q_u1_n _ _ (by decide)
    simp (disch := first | rfl | omega | decide | exact Nat.le_of_ble_eq_true rfl) only [↓q_br, q_rt, q_rz, q_gd, q_ca, ↓reduceIte, F_X13_place, ↓q_gI_26_6, ↓q_pI_26_7, e]
theorem q_same_which : q_Same κ b (F_X11_which κ (some (b + 1))) (F_X13_which κ (some (b + 26))) := by
  rintro ⟨I, R, X, Y, Z⟩ ⟨P, Q, S⟩ O D n m c22 c23 h
  have h5 : I 15 6 = P 8 := h.2.2.2.2.2.2.2.2.1.1
  refine ⟨P 8, (q_u1 P 7 0, Q, S), ?_, ?_, q_VI_7 h (Nat.le_refl _) (fun j hj => q_u1_n _ _ hj)⟩
  · simp (disch := first | rfl | omega | decide | exact Nat.le_of_ble_eq_true rfl) only [↓q_br, q_rt, q_rz, q_gd, q_ca, ↓reduceIte, F_X11_which, ↓q_gA_1_6, ↓q_gI_15_6, h5]
  · have e : q_u1 P 7 0 8 = P 8 := q_u1_n _ _ (by decide)
    simp (disch := first | rfl | omega | decide | exact Nat.le_of_ble_eq_true rfl) only [↓q_br, q_rt, q_rz, q_gd, q_ca, ↓reduceIte, F_X13_which, ↓q_gI_26_8, ↓q_pI_26_7, e]
theorem q_le0 : ((1 : Int32) ≤ 0) = False := eq_false (by decide)
theorem q_le0' : ((0 : Int32) ≤ 0) = True := eq_true (by decide)
theorem q_le2 : ((2 : Int32) ≤ 0) = False := eq_false (by decide)
/-- a call that leaves all as it is but the reference's thrown -/
theorem q_step_0 {α : Type} {f : q_X Int32} {g : q_X α} {tl : α → Int64} (h : ∀ (C : q_CT) (P : Nat → Int32) (Q : Nat → Nat → Int32) (S : Nat → Nat → Int64) (O : Nat → Int64) (D : q_Mem) (n m c22 c23 : Nat), q_VI κ b C (P, Q, S) D n c22 c23 → (∃ (k : Int32) (O1 : Nat → Int64) (n1 m1 : Nat) (v : α), f (q_H b C (P, Q, S) O D, n, m) = some (.inl k, (q_H b C (P, Q, S) O1 D, n1, m1)) ∧ (n1 = n ∨ n1 = n + 1) ∧ (m1 = m ∨ m1 = m + 6) ∧ (k = 0 → O1 0 = tl v) ∧ g (q_H b C (P, Q, S) O1 D, n1, m1) = some (.inl v, (q_H b C (q_u1 P 7 k, Q, S) O1 D, n1, m1)))) : q_Step κ b f g tl := by
  rintro C ⟨P, Q, S⟩ O D n m c22 c23 hv
  obtain ⟨k, O1, n1, m1, v, e1, e2, e3, e4, e5⟩ := h C P Q S O D n m c22 c23 hv
  exact ⟨k, v, C, O1, D, n1, m1, q_u1 P 7 k, Q, S, D, n1, m1, c22, c23, e1, e5, q_u1_s _ _ _, e4, q_VI_7 hv (by omega) (fun j hj => q_u1_n _ _ hj), by omega, by omega, by omega, by omega⟩
theorem q_cases7 {x : Int32} (h : ¬ x < 0) (h7 : x ≤ 7) : x = 0 ∨ x = 1 ∨ x = 2 ∨ x = 3 ∨ x = 4 ∨ x = 5 ∨ x = 6 ∨ x = 7 := by
  obtain ⟨j, j1, rfl⟩ := nI_of2 (x := x) (M := 7) (n := 7) (by decide) h h7
  have : j = 0 ∨ j = 1 ∨ j = 2 ∨ j = 3 ∨ j = 4 ∨ j = 5 ∨ j = 6 ∨ j = 7 := by omega
  rcases this with rfl | rfl | rfl | rfl | rfl | rfl | rfl | rfl <;> decide
theorem q_step_count (x : Int32) : q_Step κ b (F_L_count κ (some (b + 1)) x (some (b + 66))) (F_X13_count κ (some (b + 26)) x) (fun v => v.toInt64) := by
  refine q_step_0 ?_
  rintro ⟨I, R, X, Y, Z⟩ P Q S O D n m c22 c23 ⟨hK, hb, ⟨zt, t1, t2, t3, t4⟩, hk, hp, hlb, hrd, ⟨z, L, Js, hD, m1, m2, m3⟩, ⟨l1, k, l2, l3, l4, l5⟩, hA⟩
  obtain ⟨h1, h2, h3, h4, h5, h6, h7, h8, ⟨N, top, h9, h10, h11⟩, h12⟩ := hD
  have e3 : I 8 3 = P 22 := h4.1.trans h10.1.symm
  by_cases hx : ¬ x < 0 ∧ x ≤ 7
  · have q0 : ∀ j v, j ≠ 7 → q_u1 P 7 v j = P j := fun j v hj => q_u1_n _ _ hj
    have q7 : ∀ v, q_u1 P 7 v 7 = v := fun v => q_u1_s _ _ _
    have key : ∀ v, F_X11_count κ (some (b + 1)) x (q_H b (I, R, X, Y, Z) (P, Q, S) O D, n, m) = some (.inl v, (q_H b (I, R, X, Y, Z) (P, Q, S) O D, n, m)) → (∀ O1, F_X13_count κ (some (b + 26)) x (q_H b (I, R, X, Y, Z) (P, Q, S) O1 D, n, m) = some (.inl v, (q_H b (I, R, X, Y, Z) (q_u1 P 7 0, Q, S) O1 D, n, m))) → ∃ (k : Int32) (O1 : Nat → Int64) (n1 m1 : Nat) (v : Int32), F_L_count κ (some (b + 1)) x (some (b + 66)) (q_H b (I, R, X, Y, Z) (P, Q, S) O D, n, m) = some (.inl k, (q_H b (I, R, X, Y, Z) (P, Q, S) O1 D, n1, m1)) ∧ (n1 = n ∨ n1 = n + 1) ∧ (m1 = m ∨ m1 = m + 6) ∧ (k = 0 → O1 0 = v.toInt64) ∧ F_X13_count κ (some (b + 26)) x (q_H b (I, R, X, Y, Z) (P, Q, S) O1 D, n1, m1) = some (.inl v, (q_H b (I, R, X, Y, Z) (q_u1 P 7 k, Q, S) O1 D, n1, m1)) := by
      intro v k1 k2
      refine ⟨0, q_u1 O 0 v.toInt64, n, m, v, ?_, Or.inl rfl, Or.inl rfl, fun _ => q_u1_s _ _ _, k2 _⟩
      simp (disch := first | rfl | omega | decide | exact Nat.le_of_ble_eq_true rfl) only [F_L_count, ↓q_is_1, q_cc, k1, ↓q_sO, q_rt]
    have h4' : F_Jx4a65c_size_8abf5 κ (some (b + 23)) (q_H b (I, R, X, Y, Z) (P, Q, S) O D, n, m) = some (.inl (I 23 2), (q_H b (I, R, X, Y, Z) (P, Q, S) O D, n, m)) := by
      simp (disch := first | rfl | omega | decide | exact Nat.le_of_ble_eq_true rfl) only [↓q_br, q_rt, q_rz, q_gd, q_ca, ↓reduceIte, F_Jx4a65c_size_8abf5, ↓q_gI_22_2, ↓q_gI_23_2]
    rcases q_cases7 hx.1 hx.2 with rfl | rfl | rfl | rfl | rfl | rfl | rfl | rfl
    · have a7 : ((0 : Int32).toInt < 0 ∨ 7 < (0 : Int32).toInt) = False := eq_false (by decide)
      have a6 : ((0 : Int32).toInt < 0 ∨ 6 < (0 : Int32).toInt) = False := eq_false (by decide)
      have ng : ((0 : Int32) < 0) = False := eq_false (by decide)
      have le : ((0 : Int32) ≤ 7) = True := eq_true (by decide)
      exact key (nI Js.length) (by simp (disch := first | rfl | omega | decide | exact Nat.le_of_ble_eq_true rfl) only [F_X11_count, a7, a6, ng, le, ↓q_br, ↓reduceIte, ↓q_gA_1_0, ↓q_gA_1_2, ↓q_gA_1_3, ↓q_gA_1_5, ↓q_gA_1_6, ↓q_gA_21_5, ↓q_gI_8_2, ↓q_gI_8_3, ↓q_gI_8_4, ↓q_gI_11_2, ↓q_gI_21_8, ↓q_gI_2_5, ↓q_gI_15_5, q_ca, q_rt, h6]) (fun O1 => by simp (disch := first | rfl | omega | decide | exact Nat.le_of_ble_eq_true rfl) only [F_X13_count, F_X13_count_16, a7, a6, ng, le, q_le0', q7, q0, ↓q_br, ↓reduceIte, ↓q_pI_26_7, ↓q_gI_26_7, ↓q_gI_26_3, ↓q_gI_26_4, ↓q_gI_26_21, ↓q_gI_26_22, ↓q_gI_26_23, ↓q_gI_26_42, ↓q_gI_26_43, ↓q_gI_26_44, q_rt, h8])
    · have n0 : ((1 : Int32) = 0) = False := eq_false (by decide)
      have a7 : ((1 : Int32).toInt < 0 ∨ 7 < (1 : Int32).toInt) = False := eq_false (by decide)
      have a6 : ((1 : Int32).toInt < 0 ∨ 6 < (1 : Int32).toInt) = False := eq_false (by decide)
      have ng : ((1 : Int32) < 0) = False := eq_false (by decide)
      have le : ((1 : Int32) ≤ 7) = True := eq_true (by decide)
      exact key (nI z) (by simp (disch := first | rfl | omega | decide | exact Nat.le_of_ble_eq_true rfl) only [F_X11_count, n0, a7, a6, ng, le, ↓q_br, ↓reduceIte, ↓q_gA_1_0, ↓q_gA_1_2, ↓q_gA_1_3, ↓q_gA_1_5, ↓q_gA_1_6, ↓q_gA_21_5, ↓q_gI_8_2, ↓q_gI_8_3, ↓q_gI_8_4, ↓q_gI_11_2, ↓q_gI_21_8, ↓q_gI_2_5, ↓q_gI_15_5, q_ca, q_rt, h2]) (fun O1 => by simp (disch := first | rfl | omega | decide | exact Nat.le_of_ble_eq_true rfl) only [F_X13_count, F_X13_count_16, n0, a7, a6, ng, le, q_le0', q7, q0, ↓q_br, ↓reduceIte, ↓q_pI_26_7, ↓q_gI_26_7, ↓q_gI_26_3, ↓q_gI_26_4, ↓q_gI_26_21, ↓q_gI_26_22, ↓q_gI_26_23, ↓q_gI_26_42, ↓q_gI_26_43, ↓q_gI_26_44, q_rt, h3])
    · have n0 : ((2 : Int32) = 0) = False := eq_false (by decide)
      have n1 : ((2 : Int32) = 1) = False := eq_false (by decide)
      have a7 : ((2 : Int32).toInt < 0 ∨ 7 < (2 : Int32).toInt) = False := eq_false (by decide)
      have a6 : ((2 : Int32).toInt < 0 ∨ 6 < (2 : Int32).toInt) = False := eq_false (by decide)
      have ng : ((2 : Int32) < 0) = False := eq_false (by decide)
      have le : ((2 : Int32) ≤ 7) = True := eq_true (by decide)
      exact key (P 22) (by simp (disch := first | rfl | omega | decide | exact Nat.le_of_ble_eq_true rfl) only [F_X11_count, n0, n1, a7, a6, ng, le, ↓q_br, ↓reduceIte, ↓q_gA_1_0, ↓q_gA_1_2, ↓q_gA_1_3, ↓q_gA_1_5, ↓q_gA_1_6, ↓q_gA_21_5, ↓q_gI_8_2, ↓q_gI_8_3, ↓q_gI_8_4, ↓q_gI_11_2, ↓q_gI_21_8, ↓q_gI_2_5, ↓q_gI_15_5, q_ca, q_rt, e3]) (fun O1 => by simp (disch := first | rfl | omega | decide | exact Nat.le_of_ble_eq_true rfl) only [F_X13_count, F_X13_count_16, n0, n1, a7, a6, ng, le, q_le0', q7, q0, ↓q_br, ↓reduceIte, ↓q_pI_26_7, ↓q_gI_26_7, ↓q_gI_26_3, ↓q_gI_26_4, ↓q_gI_26_21, ↓q_gI_26_22, ↓q_gI_26_23, ↓q_gI_26_42, ↓q_gI_26_43, ↓q_gI_26_44, q_rt])
    · have n0 : ((3 : Int32) = 0) = False := eq_false (by decide)
      have n1 : ((3 : Int32) = 1) = False := eq_false (by decide)
      have n2 : ((3 : Int32) = 2) = False := eq_false (by decide)
      have a7 : ((3 : Int32).toInt < 0 ∨ 7 < (3 : Int32).toInt) = False := eq_false (by decide)
      have a6 : ((3 : Int32).toInt < 0 ∨ 6 < (3 : Int32).toInt) = False := eq_false (by decide)
      have ng : ((3 : Int32) < 0) = False := eq_false (by decide)
      have le : ((3 : Int32) ≤ 7) = True := eq_true (by decide)
      exact key (P 42) (by simp (disch := first | rfl | omega | decide | exact Nat.le_of_ble_eq_true rfl) only [F_X11_count, n0, n1, n2, a7, a6, ng, le, ↓q_br, ↓reduceIte, ↓q_gA_1_0, ↓q_gA_1_2, ↓q_gA_1_3, ↓q_gA_1_5, ↓q_gA_1_6, ↓q_gA_21_5, ↓q_gI_8_2, ↓q_gI_8_3, ↓q_gI_8_4, ↓q_gI_11_2, ↓q_gI_21_8, ↓q_gI_2_5, ↓q_gI_15_5, q_ca, q_rt, m1, m2]) (fun O1 => by simp (disch := first | rfl | omega | decide | exact Nat.le_of_ble_eq_true rfl) only [F_X13_count, F_X13_count_16, n0, n1, n2, a7, a6, ng, le, q_le0', q7, q0, ↓q_br, ↓reduceIte, ↓q_pI_26_7, ↓q_gI_26_7, ↓q_gI_26_3, ↓q_gI_26_4, ↓q_gI_26_21, ↓q_gI_26_22, ↓q_gI_26_23, ↓q_gI_26_42, ↓q_gI_26_43, ↓q_gI_26_44, q_rt])
    · have n0 : ((4 : Int32) = 0) = False := eq_false (by decide)
      have n1 : ((4 : Int32) = 1) = False := eq_false (by decide)
      have n2 : ((4 : Int32) = 2) = False := eq_false (by decide)
      have n3 : ((4 : Int32) = 3) = False := eq_false (by decide)
      have a7 : ((4 : Int32).toInt < 0 ∨ 7 < (4 : Int32).toInt) = False := eq_false (by decide)
      have a6 : ((4 : Int32).toInt < 0 ∨ 6 < (4 : Int32).toInt) = False := eq_false (by decide)
      have ng : ((4 : Int32) < 0) = False := eq_false (by decide)
      have le : ((4 : Int32) ≤ 7) = True := eq_true (by decide)
      exact key (P 43) (by simp (disch := first | rfl | omega | decide | exact Nat.le_of_ble_eq_true rfl) only [F_X11_count, n0, n1, n2, n3, a7, a6, ng, le, ↓q_br, ↓reduceIte, ↓q_gA_1_0, ↓q_gA_1_2, ↓q_gA_1_3, ↓q_gA_1_5, ↓q_gA_1_6, ↓q_gA_21_5, ↓q_gI_8_2, ↓q_gI_8_3, ↓q_gI_8_4, ↓q_gI_11_2, ↓q_gI_21_8, ↓q_gI_2_5, ↓q_gI_15_5, q_ca, q_rt, ↓q_is_23, h4', hlb]) (fun O1 => by simp (disch := first | rfl | omega | decide | exact Nat.le_of_ble_eq_true rfl) only [F_X13_count, F_X13_count_16, n0, n1, n2, n3, a7, a6, ng, le, q_le0', q7, q0, ↓q_br, ↓reduceIte, ↓q_pI_26_7, ↓q_gI_26_7, ↓q_gI_26_3, ↓q_gI_26_4, ↓q_gI_26_21, ↓q_gI_26_22, ↓q_gI_26_23, ↓q_gI_26_42, ↓q_gI_26_43, ↓q_gI_26_44, q_rt])
    · have n0 : ((5 : Int32) = 0) = False := eq_false (by decide)
      have n1 : ((5 : Int32) = 1) = False := eq_false (by decide)
      have n2 : ((5 : Int32) = 2) = False := eq_false (by decide)
      have n3 : ((5 : Int32) = 3) = False := eq_false (by decide)
      have n4 : ((5 : Int32) = 4) = False := eq_false (by decide)
      have a7 : ((5 : Int32).toInt < 0 ∨ 7 < (5 : Int32).toInt) = False := eq_false (by decide)
      have a6 : ((5 : Int32).toInt < 0 ∨ 6 < (5 : Int32).toInt) = False := eq_false (by decide)
      have ng : ((5 : Int32) < 0) = False := eq_false (by decide)
      have le : ((5 : Int32) ≤ 7) = True := eq_true (by decide)
      exact key (P 44) (by simp (disch := first | rfl | omega | decide | exact Nat.le_of_ble_eq_true rfl) only [F_X11_count, n0, n1, n2, n3, n4, a7, a6, ng, le, ↓q_br, ↓reduceIte, ↓q_gA_1_0, ↓q_gA_1_2, ↓q_gA_1_3, ↓q_gA_1_5, ↓q_gA_1_6, ↓q_gA_21_5, ↓q_gI_8_2, ↓q_gI_8_3, ↓q_gI_8_4, ↓q_gI_11_2, ↓q_gI_21_8, ↓q_gI_2_5, ↓q_gI_15_5, q_ca, q_rt, hrd]) (fun O1 => by simp (disch := first | rfl | omega | decide | exact Nat.le_of_ble_eq_true rfl) only [F_X13_count, F_X13_count_16, n0, n1, n2, n3, n4, a7, a6, ng, le, q_le0', q7, q0, ↓q_br, ↓reduceIte, ↓q_pI_26_7, ↓q_gI_26_7, ↓q_gI_26_3, ↓q_gI_26_4, ↓q_gI_26_21, ↓q_gI_26_22, ↓q_gI_26_23, ↓q_gI_26_42, ↓q_gI_26_43, ↓q_gI_26_44, q_rt])
    · have n0 : ((6 : Int32) = 0) = False := eq_false (by decide)
      have n1 : ((6 : Int32) = 1) = False := eq_false (by decide)
      have n2 : ((6 : Int32) = 2) = False := eq_false (by decide)
      have n3 : ((6 : Int32) = 3) = False := eq_false (by decide)
      have n4 : ((6 : Int32) = 4) = False := eq_false (by decide)
      have n5 : ((6 : Int32) = 5) = False := eq_false (by decide)
      have a7 : ((6 : Int32).toInt < 0 ∨ 7 < (6 : Int32).toInt) = False := eq_false (by decide)
      have a6 : ((6 : Int32).toInt < 0 ∨ 6 < (6 : Int32).toInt) = False := eq_false (by decide)
      have ng : ((6 : Int32) < 0) = False := eq_false (by decide)
      have le : ((6 : Int32) ≤ 7) = True := eq_true (by decide)
      exact key (nI zt) (by simp (disch := first | rfl | omega | decide | exact Nat.le_of_ble_eq_true rfl) only [F_X11_count, n0, n1, n2, n3, n4, n5, a7, a6, ng, le, ↓q_br, ↓reduceIte, ↓q_gA_1_0, ↓q_gA_1_2, ↓q_gA_1_3, ↓q_gA_1_5, ↓q_gA_1_6, ↓q_gA_21_5, ↓q_gI_8_2, ↓q_gI_8_3, ↓q_gI_8_4, ↓q_gI_11_2, ↓q_gI_21_8, ↓q_gI_2_5, ↓q_gI_15_5, q_ca, q_rt, t2]) (fun O1 => by simp (disch := first | rfl | omega | decide | exact Nat.le_of_ble_eq_true rfl) only [F_X13_count, F_X13_count_16, n0, n1, n2, n3, n4, n5, a7, a6, ng, le, q_le0', q7, q0, ↓q_br, ↓reduceIte, ↓q_pI_26_7, ↓q_gI_26_7, ↓q_gI_26_3, ↓q_gI_26_4, ↓q_gI_26_21, ↓q_gI_26_22, ↓q_gI_26_23, ↓q_gI_26_42, ↓q_gI_26_43, ↓q_gI_26_44, q_rt, t3])
    · have n0 : ((7 : Int32) = 0) = False := eq_false (by decide)
      have n1 : ((7 : Int32) = 1) = False := eq_false (by decide)
      have n2 : ((7 : Int32) = 2) = False := eq_false (by decide)
      have n3 : ((7 : Int32) = 3) = False := eq_false (by decide)
      have n4 : ((7 : Int32) = 4) = False := eq_false (by decide)
      have n5 : ((7 : Int32) = 5) = False := eq_false (by decide)
      have n6 : ((7 : Int32) = 6) = False := eq_false (by decide)
      have a7 : ((7 : Int32).toInt < 0 ∨ 7 < (7 : Int32).toInt) = False := eq_false (by decide)
      have a6 : ((7 : Int32).toInt < 0 ∨ 6 < (7 : Int32).toInt) = True := eq_true (by decide)
      have ng : ((7 : Int32) < 0) = False := eq_false (by decide)
      have le : ((7 : Int32) ≤ 7) = True := eq_true (by decide)
      exact key (nI k) (by simp (disch := first | rfl | omega | decide | exact Nat.le_of_ble_eq_true rfl) only [F_X11_count, n0, n1, n2, n3, n4, n5, n6, a7, a6, ng, le, ↓q_br, ↓reduceIte, ↓q_gA_1_0, ↓q_gA_1_2, ↓q_gA_1_3, ↓q_gA_1_5, ↓q_gA_1_6, ↓q_gA_21_5, ↓q_gI_8_2, ↓q_gI_8_3, ↓q_gI_8_4, ↓q_gI_11_2, ↓q_gI_21_8, ↓q_gI_2_5, ↓q_gI_15_5, q_ca, q_rt, l3]) (fun O1 => by simp (disch := first | rfl | omega | decide | exact Nat.le_of_ble_eq_true rfl) only [F_X13_count, F_X13_count_16, n0, n1, n2, n3, n4, n5, n6, a7, a6, ng, le, q_le0', q7, q0, ↓q_br, ↓reduceIte, ↓q_pI_26_7, ↓q_gI_26_7, ↓q_gI_26_3, ↓q_gI_26_4, ↓q_gI_26_21, ↓q_gI_26_22, ↓q_gI_26_23, ↓q_gI_26_42, ↓q_gI_26_43, ↓q_gI_26_44, q_rt, l4])
  · have c1 : (x.toInt < 0 ∨ 7 < x.toInt) = True := eq_true (by
      rcases Decidable.em (x < 0) with h9 | h9
      · exact Or.inl (by have := Int32.lt_iff_toInt_lt.mp h9; simpa using this)
      · refine Or.inr ?_
        have h10 : ¬ x ≤ 7 := fun h => hx ⟨h9, h⟩
        have := Int32.lt_iff_toInt_lt.mp (Int32.not_le.mp h10)
        simpa using this)
    refine ⟨1, O, n + 1, m + 6, 0, ?_, Or.inr rfl, Or.inr rfl, fun h9 => absurd h9 (by decide), ?_⟩
    · simp (disch := first | rfl | omega | decide | exact Nat.le_of_ble_eq_true rfl) only [F_L_count, ↓q_is_1, q_cc, F_X11_count, ↓q_br, c1, ↓reduceIte, q_th, q_rt]
    · have q7 : q_u1 P 7 1 7 = 1 := q_u1_s _ _ _
      by_cases h9 : x < 0
      · simp (disch := first | rfl | omega | decide | exact Nat.le_of_ble_eq_true rfl) only [↓q_br, q_rt, q_rz, q_gd, q_ca, ↓reduceIte, F_X13_count, F_X13_count_11, F_X13_count_16, ↓q_gI_26_21, ↓q_gI_26_22, ↓q_gI_26_23, ↓q_gI_26_3, ↓q_gI_26_4, ↓q_gI_26_42, ↓q_gI_26_43, ↓q_gI_26_44, ↓q_gI_26_7, ↓q_pI_26_7, h9, q7, q_le0]
      · have h10 : ¬ x ≤ 7 := fun h => hx ⟨h9, h⟩
        simp (disch := first | rfl | omega | decide | exact Nat.le_of_ble_eq_true rfl) only [↓q_br, q_rt, q_rz, q_gd, q_ca, ↓reduceIte, F_X13_count, F_X13_count_11, F_X13_count_16, ↓q_gI_26_21, ↓q_gI_26_22, ↓q_gI_26_23, ↓q_gI_26_3, ↓q_gI_26_4, ↓q_gI_26_42, ↓q_gI_26_43, ↓q_gI_26_44, ↓q_gI_26_7, ↓q_pI_26_7, h9, h10, q7, q_le0]
end QCA
