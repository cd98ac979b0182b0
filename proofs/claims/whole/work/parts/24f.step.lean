section QWF
variable {κ : Nat → Nat} {b : Nat}
theorem q_CIs_cl {n : Nat} {D : q_Mem} {Z : Nat → Nat → Option Nat} {L : List q_Knd} {z : Nat} {Js : List q_Ins} (h : q_CIs b n D Z L z Js) : ∀ J ∈ Js, ∀ c ∈ J.2.2.2, c.length = z := by
  intro J hJ
  obtain ⟨i, hi⟩ := List.getElem?_of_mem hJ
  obtain ⟨a, _, h2⟩ := h i J hi
  exact h2.2.2.2.2.2.1
theorem q_CIs_leg {n : Nat} {D : q_Mem} {Z : Nat → Nat → Option Nat} {L : List q_Knd} {z : Nat} {Js : List q_Ins} (h : q_CIs b n D Z L z Js) : ∀ J ∈ Js, q_leg (q_kb L J.2.2.1) J.2.2.1.length J.2.2.2.flatten := by
  intro J hJ
  obtain ⟨i, hi⟩ := List.getElem?_of_mem hJ
  obtain ⟨a, _, h2⟩ := h i J hi
  exact h2.2.2.2.2.2.2
theorem q_step_assemble : q_Step κ b (F_L_assemble κ (some (b + 1)) (some (b + 66))) (F_X13_assemble κ (some (b + 26))) (fun v => v.toInt64) := by
  rintro ⟨I, R, X, Y, Z⟩ ⟨P, Q, S⟩ O D n m c22 c23 hV
  have hV0 := hV
  obtain ⟨hK, hn, ⟨zt, t1, t2, t3, t4⟩, hk, hp, hlb, hrd, ⟨z, L, Js, hD, m1, m2, m3⟩, ⟨l1, l2⟩, hA⟩ := hV
  have hD0 := hD
  obtain ⟨h1, h2, h3, h4, h5, h6, h7, h8, ⟨N, top, h9, h10, h11⟩, h12⟩ := hD
  by_cases hz0 : z = 0
  · have q7 : ∀ v, q_u1 P 7 v 7 = v := fun v => q_u1_s _ _ _
    have g8 : (I 8 2 = 0) = True := eq_true (by rw [h2, hz0]; rfl)
    have g21 : (P 21 = 0) = True := eq_true (by rw [h3, hz0]; rfl)
    have g1 : ((1 : Int32) ≤ 0) = False := eq_false (by decide)
    refine ⟨1, 0, (I, R, X, Y, Z), O, D, n + 1, m + 6, q_u1 P 7 1, Q, S, D, n + 1, m + 6, c22, c23, ?_, ?_, q7 1, fun h9 => absurd h9 (by decide), q_VI_7 hV0 (by omega) (fun j hj => q_u1_n _ _ hj), by omega, by omega, by omega, by omega⟩
    · simp (disch := first | rfl | omega | decide | exact Nat.le_of_ble_eq_true rfl) only [F_L_assemble, ↓q_is_1, q_cc, F_X11_assemble, ↓q_gA_1_2, ↓q_gI_8_2, g8, not_true_eq_false, ↓q_br, ↓reduceIte, q_th, q_rt]
    · simp (disch := first | rfl | omega | decide | exact Nat.le_of_ble_eq_true rfl) only [F_X13_assemble, F_X13_assemble_13, ↓q_gI_26_21, g21, not_true_eq_false, ↓q_br, ↓reduceIte, ↓q_pI_26_7, ↓q_gI_26_7, q7, g1, q_rt]
  · have hz32 : z ≤ 32 := by omega
    have hcl := q_CIs_cl h5
    have hleg := q_CIs_leg h5
    have hkL := q_kbL h4
    obtain ⟨I1, R1, X1, Y1, D1, n1, s1, d22, d23, la0, hla0, a1, a2, a3, a5, a4, a6, a7, a8, a9, a10, a15⟩ := q_X11_assemble (κ := κ) (b := b) (M := (P, Q, S)) (O := O) (zt := zt) (n := n) (m := m) (I := I) (R := R) (X := X) (Y := Y) (Z := Z) hK t1 t2 (fun i hi => (t4 i hi).2) hn m1 (q_lc_le _) (q_lc_z _) hA hz0 hz32 h2 ⟨h5, h4, h6, h7, h12⟩
    have vt0 : ∀ (P2 : Nat → Int32) (Q2 : Nat → Nat → Int32), P2 3 = 0 → ∃ zt, q_VT I1 X1 P2 Q2 zt := fun P2 Q2 h => ⟨0, by decide, by rw [a2]; rfl, by rw [h]; rfl, fun i hi => by omega⟩
    have vl : ∀ (P2 : Nat → Int32) (Q2 : Nat → Nat → Int32), P2 4 = P 4 → P2 8 = P 8 → Q2 29 = Q 29 → q_VL I1 X1 P2 Q2 := fun P2 Q2 e1 e2 e3 => by
      obtain ⟨k, k1, k2, k3, k4⟩ := l2
      have i15 : I1 15 = I 15 := a1 15 (by decide) (by decide) (by decide) (by decide) (by decide) (by decide)
      have x18 : X1 18 = X 18 := a3 18 (by decide) (by decide) (by decide) (by decide) (by decide)
      exact ⟨by rw [i15, e2, l1], k, k1, by rw [i15, k2], by rw [e1, k3], by rw [e3, x18]; exact k4⟩
    have i8 : I1 8 = I 8 := a1 8 (by decide) (by decide) (by decide) (by decide) (by decide) (by decide)
    cases hq : q_as (X 3) (q_sc true (X 3) zt zt 0) z L Js la0 (Y 12) with
    | inl e =>
      obtain ⟨k, p⟩ := e
      rw [hq] at a15
      obtain ⟨c1, c2, c3, c4, c5, c6, c7⟩ := a15
      obtain ⟨P2, Q2, S2, D2, n2, s2, r, d1, d2, d3, d4, d5, d6, d7, d8, d9, d13⟩ := q_massemble (κ := κ) (b := b) (C := (I1, R1, X1, Y1, Z)) (O := O) (n := n1 + 1) (m := s1 + 6) (zt := zt) (z := z) (B := X 3) (S := S) (D := D1) (P := P) (Q := Q) (wo0 := Y 12) a5 t1 t3 (fun i hi => by rw [(t4 i hi).1]; exact (t4 i hi).2) (fun i hi => (t4 i hi).1) (by omega) hz0 hz32 h9 h11 h10 h8 h3 h7 h12 hcl hleg hkL hla0
      rw [hq] at d13
      obtain ⟨e1, e2, e3, e4, e5, e6, e7, e8⟩ := d13
      have q0 := q_lc_0 4096 c7
      have ne : ¬ "java/lang/UnsupportedOperationException" = "java/lang/IllegalStateException" := by decide
      refine ⟨2, r, (I1, R1, X1, Y1, Z), O, D1, n1 + 1, s1 + 6, P2, Q2, S2, D2, n2, s2, d22, d23, ?_, d1, e4, fun h9 => absurd h9 (by decide), ⟨q_Kp_D a5 (fun x hx => d4 x (by omega)), by omega, vt0 P2 Q2 d9, by rw [c2, e2], by rw [c3, e3], by rw [c6, e6], by rw [c5, e7], ⟨z, L, Js, q_VD_P hD0 (by omega) (fun x x1 x2 x3 => by rw [d4 x (by omega), a4 x x1 x2 x3]) i8 (fun j j1 j2 => d2 j (by omega) (by omega) (by omega) (by omega) (by omega)) (fun j j1 j2 => d3 j (by omega)), by rw [q0, c4]; rfl, by rw [q0, e5]; rfl, fun i hi => ⟨by rw [e8 i hi, c7 i hi], Or.inl (c7 i hi), fun h9 => absurd ((c7 i hi).symm.trans h9) (by decide)⟩⟩, vl P2 Q2 (d2 4 (by omega) (by omega) (by omega) (by omega) (by omega)) (d2 8 (by omega) (by omega) (by omega) (by omega) (by omega)) (d3 29 (by omega)), q_VA_mo a6 (by omega) (fun x hx => d4 x (by omega)) rfl rfl rfl rfl⟩, by omega, by omega, by omega, by omega⟩
      simp (disch := first | rfl | omega | decide | exact Nat.le_of_ble_eq_true rfl) only [F_L_assemble, ↓q_is_1, q_cc, c1, ↓q_br, ↓reduceIte, ne, q_rt]
    | inr e =>
      obtain ⟨FL, rd, la, wo⟩ := e
      rw [hq] at a15
      obtain ⟨c1, c2, c3, c4, c5, c6, c7, c8, c9⟩ := a15
      obtain ⟨P2, Q2, S2, D2, n2, s2, r, d1, d2, d3, d4, d5, d6, d7, d8, d9, d13⟩ := q_massemble (κ := κ) (b := b) (C := (I1, R1, X1, Y1, Z)) (O := q_u1 O 0 (nI (q_lc la 4096)).toInt64) (n := n1) (m := s1) (zt := zt) (z := z) (B := X 3) (S := S) (D := D1) (P := P) (Q := Q) (wo0 := Y 12) a5 t1 t3 (fun i hi => by rw [(t4 i hi).1]; exact (t4 i hi).2) (fun i hi => (t4 i hi).1) (by omega) hz0 hz32 h9 h11 h10 h8 h3 h7 h12 hcl hleg hkL hla0
      rw [hq] at d13
      obtain ⟨e1, e2, e3, e4, e5, e6, e7, e8⟩ := d13
      have vv := q_as_v (q_sc_wf true (X 3) zt zt 0).1 hz32 hcl hla0 hq
      rw [c6] at c8 c9
      refine ⟨0, r, (I1, R1, X1, Y1, Z), q_u1 O 0 (nI (q_lc la 4096)).toInt64, D1, n1, s1, P2, Q2, S2, D2, n2, s2, d22, d23, ?_, d1, e4, fun _ => by rw [q_u1_s, e1, e7], ⟨q_Kp_D a5 (fun x hx => d4 x (by omega)), by omega, vt0 P2 Q2 d9, by rw [c2, e2], by rw [c3, e3], by rw [c5, e5], by rw [c4, e6], ⟨z, L, Js, q_VD_P hD0 (by omega) (fun x x1 x2 x3 => by rw [d4 x (by omega), a4 x x1 x2 x3]) i8 (fun j j1 j2 => d2 j (by omega) (by omega) (by omega) (by omega) (by omega)) (fun j j1 j2 => d3 j (by omega)), by rw [c6]; exact c8, by rw [c6]; exact e7, fun i hi => ⟨by rw [(e8 i hi).1, c6], by rw [c6]; exact c9 i hi, fun h9 => ?_⟩⟩, vl P2 Q2 (d2 4 (by omega) (by omega) (by omega) (by omega) (by omega)) (d2 8 (by omega) (by omega) (by omega) (by omega) (by omega)) (d3 29 (by omega)), q_VA_mo a6 (by omega) (fun x hx => d4 x (by omega)) rfl rfl rfl rfl⟩, by omega, by omega, by omega, by omega⟩
      · simp (disch := first | rfl | omega | decide | exact Nat.le_of_ble_eq_true rfl) only [F_L_assemble, ↓q_is_1, q_cc, c1, ↓q_sO, q_rt]
      · rw [c6] at h9
        have hne : ¬ la i = 0 := by rw [h9]; decide
        rw [c7]
        exact ⟨(e8 i hi).2 hne, vv i hi hne⟩
end QWF
