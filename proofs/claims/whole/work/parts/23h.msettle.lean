section QM7
variable {κ : Nat → Nat} {b : Nat} {B : Nat → Int32} {l : List q_Tok} {zt : Nat} {C : q_CT} {O : Nat → Int64} {D : q_Mem} {n m : Nat}
theorem q_MF_44 {P : Nat → Int32} {Q : Nat → Nat → Int32} {S : Nat → Nat → Int64} {v : Int32} : q_MF P (q_u1 P 44 v) Q Q S S := ⟨fun j _ h2 => q_u1_n _ _ h2, fun _ _ _ _ _ => rfl, fun _ _ _ => rfl⟩
theorem q_m76 {N : List q_Nam} {top z : Nat} {L : List q_Knd} {Js : List q_Ins} {FL : List q_Lin} (hn : b + 66 < n) (hJ : ∀ J ∈ Js, q_Jok J) (h96 : Js.length ≤ 96) (hXP : ∀ x ∈ FL, q_XP B l z x) (hIN : q_INC FL) (hG : q_LG B l (q_LT FL)) (hK : (q_LT FL).length ≤ 6000) (hFL : FL.length ≤ 6001) (hW : ∀ fo, ∀ x ∈ FL, q_wds Js fo x ≤ 6100) : ∀ f fuel rd (fo ad : Nat → Nat) (P : Nat → Int32) (Q : Nat → Nat → Int32) (S : Nat → Nat → Int64), q_pot Js.length fo FL < f → f < fuel → q_ME B l zt N top L z Js FL P Q S → P 44 = nI rd → (∀ j, j < FL.length → q_sS (q_lg FL j) = 1 → Q 58 j = nI (fo (q_sF (q_lg FL j)))) → q_FO B l (q_LT FL) L Js FL fo →
    ∃ P' Q' S', q_MF P P' Q Q' S S' ∧ (∀ j, j ≠ 44 → P' j = P j) ∧ (∀ j, j ≠ 58 → j ≠ 59 → j ≠ 64 → Q' j = Q j) ∧ (∀ j, j ≠ 65 → S' j = S j) ∧ (match q_set l Js (q_fit B l (q_LT FL) L Js) (q_nfx B l (q_LT FL) L Js) FL f (rd + 1) fo ad with
      | .inl (k, p) => F_X13_assembled_76 κ fuel (some (b + 26)) 0 (q_H b C (P, Q, S) O D, n, m) = q_thr Unit b C (P', Q', S') O D n m (nI k) (nI p)
      | .inr (fo', ad', rd') => F_X13_assembled_76 κ fuel (some (b + 26)) 0 (q_H b C (P, Q, S) O D, n, m) = F_X13_assembled_205 κ q_fu (some (b + 26)) 0 (q_H b C (P', Q', S') O D, n, m) ∧ P' 44 = nI rd' ∧ (∀ j, j < FL.length → q_sS (q_lg FL j) = 1 → Q' 58 j = nI (fo' (q_sF (q_lg FL j)))) ∧ q_FO B l (q_LT FL) L Js FL fo' ∧ q_M59 Q' FL ad') := by
  intro f
  induction f with
  | zero => intro fuel rd fo ad P Q S h1; omega
  | succ f ih =>
    intro fuel rd fo ad P Q S h1 h2 hM h44 h58 hFO
    obtain ⟨g, rfl⟩ : ∃ g, fuel = g + 1 + 1 := ⟨fuel - 2, by omega⟩
    obtain ⟨P1, hP1⟩ : ∃ P1, P1 = q_u1 P 44 (nI (rd + 1)) := ⟨_, rfl⟩
    have p44 : P1 44 = nI (rd + 1) := by rw [hP1, q_u1_s]
    have gP : ∀ j, j ≠ 44 → P1 j = P j := fun j hj => by rw [hP1, q_u1_n _ _ hj]
    have f1 : q_MF P P1 Q Q S S := by rw [hP1]; exact q_MF_44
    have hM1 := q_ME_u hM f1
    have z0 : (¬ (0 : Int32) = 0) = False := eq_false (fun h => h rfl)
    obtain ⟨Q1, r1, r2⟩ := q_addr_4 (κ := κ) (b := b) (C := C) (O := O) (D := D) (m := m) hn h96 hXP hIN hFL (hW fo) (fun x hx hs => (hFO x hx hs).1) FL.length q_fu 0 0 ad Q (by omega) (by unfold q_fu; omega) (by decide) hM1 h58 (fun j hj => by omega)
    rw [List.drop_zero, nI_0] at r2
    have f2 : q_MF P P1 Q Q1 S S := q_MF_t f1 ⟨fun _ _ _ => rfl, fun j _ _ h3 _ => r1 j h3, fun _ _ _ => rfl⟩
    cases had : q_ad l (q_wds Js fo) FL 0 ad with
    | inl e =>
      rw [had] at r2
      obtain ⟨k, p⟩ := e
      have es : q_set l Js (q_fit B l (q_LT FL) L Js) (q_nfx B l (q_LT FL) L Js) FL (f + 1) (rd + 1) fo ad = .inl (k, p) := by rw [q_set, had]
      rw [es]
      have ga : F_X13_addresses κ (some (b + 26)) (q_H b C (P1, Q, S) O D, n, m) = q_thr Unit b C (P1, Q1, S) O D n m (nI k) (nI p) := r2
      refine ⟨P1, Q1, S, f2, gP, fun j _ j2 _ => r1 j j2, fun _ _ => rfl, ?_⟩
      show F_X13_assembled_76 κ (g + 1 + 1) (some (b + 26)) 0 (q_H b C (P, Q, S) O D, n, m) = q_thr Unit b C (P1, Q1, S) O D n m (nI k) (nI p)
      rw [F_X13_assembled_76]
      simp (disch := first | rfl | omega | decide | exact Nat.le_of_ble_eq_true rfl) only [↓q_br, q_rt, q_rz, q_gd, q_ca, ↓reduceIte, F_X13_assembled_76B, ↓q_gI_26_44, ↓q_is_26, ↓q_pI_26_44, not_true_eq_false, h44, nI_1, ← hP1, ↓q_is_26, ga]
    | inr ad1 =>
      rw [had] at r2
      obtain ⟨r2, r3⟩ := r2
      have ga : F_X13_addresses κ (some (b + 26)) (q_H b C (P1, Q, S) O D, n, m) = some (.inl (), (q_H b C (P1, Q1, S) O D, n, m)) := r2
      obtain ⟨Q2, S2, w1, w2, w3, w4⟩ := q_m98 (κ := κ) (b := b) (C := C) (O := O) (D := D) (m := m) (ad := ad1) (r76 := F_X13_assembled_76 κ (g + 1)) hn hJ h96 hXP hIN hG hK hFL FL.length q_fu 0 fo false Q1 S (by omega) (by unfold q_fu; omega) (q_ME_u hM f2) (fun j hj hs => by rw [r1 58 (by decide)]; exact h58 j hj hs) hFO r3
      rw [List.drop_zero, nI_0] at w4
      have eb : q_b (!false) = 1 := rfl
      rw [eb] at w4
      have f3 : q_MF P P1 Q Q2 S S2 := q_MF_t f2 w1
      have gQ : ∀ j, j ≠ 58 → j ≠ 59 → j ≠ 64 → Q2 j = Q j := fun j j1 j2 j3 => by rw [w2 j j1 j3, r1 j j2]
      have road : F_X13_assembled_76 κ (g + 1 + 1) (some (b + 26)) 0 (q_H b C (P, Q, S) O D, n, m) = F_X13_assembled_98 κ (F_X13_assembled_76 κ (g + 1)) q_fu (some (b + 26)) 1 0 (q_H b C (P1, Q1, S) O D, n, m) := by
        rw [F_X13_assembled_76]
        simp (disch := first | rfl | omega | decide | exact Nat.le_of_ble_eq_true rfl) only [↓q_br, q_rt, q_rz, q_gd, q_ca, ↓reduceIte, F_X13_assembled_76B, ↓q_gI_26_44, ↓q_is_26, ↓q_pI_26_44, not_true_eq_false, h44, nI_1, ← hP1, ↓q_is_26, ga]
      cases hmm : q_mm (q_fit B l (q_LT FL) L Js ad1) (q_nfx B l (q_LT FL) L Js) FL fo false with
      | inl e =>
        rw [hmm] at w4
        obtain ⟨k, p⟩ := e
        have es : q_set l Js (q_fit B l (q_LT FL) L Js) (q_nfx B l (q_LT FL) L Js) FL (f + 1) (rd + 1) fo ad = .inl (k, p) := by
          rw [q_set, had]
          simp only [hmm]
        rw [es]
        refine ⟨P1, Q2, S2, f3, gP, gQ, w3, ?_⟩
        show F_X13_assembled_76 κ (g + 1 + 1) (some (b + 26)) 0 (q_H b C (P, Q, S) O D, n, m) = q_thr Unit b C (P1, Q2, S2) O D n m (nI k) (nI p)
        rw [road]
        exact w4
      | inr y =>
        rw [hmm] at w4
        obtain ⟨fo1, mv1⟩ := y
        obtain ⟨x1, x2, x3⟩ := w4
        have m59 : q_M59 Q2 FL ad1 := fun j hj hr => by rw [w2 59 (by decide) (by decide)]; exact r3 j hj hr
        cases hmv : mv1 with
        | true =>
          rw [hmv] at x1 hmm
          obtain ⟨p1, p2⟩ := q_mm_p q_nfx_le _ _ _ _ hmm
          obtain ⟨x, xm, xs, xl⟩ := p2 rfl rfl
          have plt := q_pot_lt (N := Js.length) p1 FL ⟨x, xm, xs, xl, (hFO x xm xs).1⟩
          obtain ⟨P', Q', S', v1, v2, v3, v4, v5⟩ := ih (g + 1) (rd + 1) fo1 ad1 P1 Q2 S2 (by simp only at plt; omega) (by omega) (q_ME_u hM f3) p44 x2 x3
          have es : q_set l Js (q_fit B l (q_LT FL) L Js) (q_nfx B l (q_LT FL) L Js) FL (f + 1) (rd + 1) fo ad = q_set l Js (q_fit B l (q_LT FL) L Js) (q_nfx B l (q_LT FL) L Js) FL f (rd + 1 + 1) fo1 ad1 := by
            rw [q_set, had]
            simp only [hmm, if_true]
          rw [es]
          refine ⟨P', Q', S', q_MF_t f3 v1, fun j hj => by rw [v2 j hj, gP j hj], fun j j1 j2 j3 => by rw [v3 j j1 j2 j3, gQ j j1 j2 j3], fun j hj => by rw [v4 j hj, w3 j hj], ?_⟩
          rw [road, x1]
          exact v5
        | false =>
          rw [hmv] at x1 hmm
          have es : q_set l Js (q_fit B l (q_LT FL) L Js) (q_nfx B l (q_LT FL) L Js) FL (f + 1) (rd + 1) fo ad = .inr (fo1, ad1, rd + 1) := by
            rw [q_set, had]
            simp only [hmm, if_false, Bool.false_eq_true]
          rw [es]
          refine ⟨P1, Q2, S2, f3, gP, gQ, w3, ?_, p44, x2, x3, m59⟩
          have z1 : (¬ (1 : Int32) = 0) = True := eq_true (by decide)
          rw [road, x1]
          show F_X13_assembled_76 κ (g + 1) (some (b + 26)) 1 (q_H b C (P1, Q2, S2) O D, n, m) = _
          rw [F_X13_assembled_76]
          simp (disch := first | rfl | omega | decide | exact Nat.le_of_ble_eq_true rfl) only [↓q_br, q_rt, q_rz, q_gd, q_ca, ↓reduceIte, F_X13_assembled_76B, ↓q_gI_26_44, ↓q_is_26, ↓q_pI_26_44, z1]
end QM7
