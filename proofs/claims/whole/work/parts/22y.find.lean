section QFL
variable {κ : Nat → Nat} {b : Nat} {B : Nat → Int32} {l : List q_Tok} {zt : Nat} {I : Nat → Nat → Int32} {R : Nat → Nat → Option Nat} {X : Nat → Nat → Int32} {Z : Nat → Nat → Option Nat} {M : q_MT} {O : Nat → Int64} {s : Nat × Nat}
theorem q_findL_7 {D : q_Mem} {n c23 hd en : Nat} {LT : List Nat} {la : Nat → Nat} (hE : q_LE l hd en) (hAL : q_AL κ b n D I R 23 c23 LT.length la) (hLB : q_LBo b D B l LT la) (hLT : ∀ k, k < LT.length → LT.getD k 0 < l.length) (hK : LT.length ≤ 6100) (hX : ∀ g, g < 256 → X 24 g = q_mv (q_prev (fun k => q_hk B l (LT.getD k 0)) g LT.length)) (hu : q_UQ B l LT) : ∀ d fuel t (Y : Nat → Nat → Int64), t + d = en → d < fuel → hd < t → q_TC B l zt I X Y → ∃ Y', F_X8_findLabelsOf_7 κ fuel (some (b + 21)) (nI t) (q_H b (I, R, X, Y, Z) M O D, s) = some (.inl (), (q_H b (I, R, X, Y', Z) M O D, s)) ∧ q_YY B l LT Y Y' ∧ ∀ u, t ≤ u → u < en → (q_tok l u).1 = 1 → Y' 7 u = (q_mv (q_lk B l LT u)).toInt64 := by
  intro d
  induction d with
  | zero =>
    intro fuel t Y h1 h2 h3 hT
    obtain ⟨g, rfl⟩ : ∃ g, fuel = g + 1 := ⟨fuel - 1, by omega⟩
    have hzt := hT.2.2.1
    have hl := hT.2.1
    have h26 := hT.1
    have te : t = en := by omega
    have tl := hE.2.1
    have t6 : t < 6003 := by omega
    refine ⟨Y, ?_, q_YY_r, fun u h4 h5 => by omega⟩
    rw [F_X8_findLabelsOf_7]
    by_cases c : l.length ≤ t
    · have tc : (nI l.length ≤ nI t) = True := eq_true (nI_le c (by omega))
      simp (disch := first | rfl | omega | decide | exact Nat.le_of_ble_eq_true rfl) only [↓q_br, q_rt, q_rz, q_gd, q_ca, ↓reduceIte, F_X8_findLabelsOf_7B, F_X8_findLabelsOf_65, ↓q_gA_21_1, ↓q_gA_2_1, ↓q_gA_2_4, ↓q_gI_2_6, ↓q_is_21, ↓q_lI_4, ↓q_sL_7, h26, tc]
    · have tc : (nI l.length ≤ nI t) = False := eq_false (nI_ge (by omega) (by omega))
      have c4 : (q_tok l t).1 = 4 := by
        rcases hE.2.2.2 with h9 | h9
        · rw [te]; exact h9
        · rw [← te] at h9
          have := (hT.2.2.2.2.1 t _ (q_tok_s (by omega))).1
          omega
      have ty : (X 4 t = (4 : Int32)) = True := eq_true ((q_TC_is (c := 4) hT (by omega) (by decide)).mpr c4)
      simp (disch := first | rfl | omega | decide | exact Nat.le_of_ble_eq_true rfl) only [↓q_br, q_rt, q_rz, q_gd, q_ca, ↓reduceIte, F_X8_findLabelsOf_7B, F_X8_findLabelsOf_65, ↓q_gA_21_1, ↓q_gA_2_1, ↓q_gA_2_4, ↓q_gI_2_6, ↓q_is_21, ↓q_lI_4, ↓q_sL_7, h26, tc, ty]
  | succ d ih =>
    intro fuel t Y h1 h2 h3 hT
    obtain ⟨g, rfl⟩ : ∃ g, fuel = g + 1 := ⟨fuel - 1, by omega⟩
    have hzt := hT.2.2.1
    have hl := hT.2.1
    have h26 := hT.1
    have tl := hE.2.1
    have t6 : t < 6003 := by omega
    have tc : (nI l.length ≤ nI t) = False := eq_false (nI_ge (by omega) (by omega))
    have c4 := (hE.2.2.1 t (by omega) (by omega)).1
    have ty : (X 4 t = (4 : Int32)) = False := eq_false (fun h9 => c4 ((q_TC_is (c := 4) hT (by omega) (by decide)).mp h9))
    have ty1 : (X 4 t = (1 : Int32)) = ((q_tok l t).1 = 1) := propext (q_TC_is (c := 1) hT (by omega) (by decide))
    by_cases c1 : (q_tok l t).1 = 1
    · have t1 : ((q_tok l t).1 = 1) = True := eq_true c1
      have lk := q_labelAt (κ := κ) (Z := Z) (M := M) (O := O) (s := s) (t := t) hT (by omega) hAL hLB hLT hK hX hu
      obtain ⟨Y1, hY1⟩ : ∃ Y1, Y1 = q_u2 Y 7 t (q_mv (q_lk B l LT t)).toInt64 := ⟨_, rfl⟩
      have yy : q_YY B l LT Y Y1 := by
        refine ⟨fun j hj => by rw [hY1, q_u2_n _ _ _ hj], fun u => ?_⟩
        by_cases hu9 : u = t
        · right
          rw [hu9, hY1, q_u2_s, q_u1_s]
          exact ⟨c1, rfl⟩
        · left
          rw [hY1, q_u2_s, q_u1_n _ _ hu9]
      obtain ⟨Y', r1, r2, r3⟩ := ih g (t + 1) Y1 (by omega) (by omega) (by omega) (q_TC_N hT yy)
      refine ⟨Y', ?_, q_YY_t yy r2, fun u h4 h5 h6 => ?_⟩
      · rw [F_X8_findLabelsOf_7]
        simp (disch := first | rfl | omega | decide | exact Nat.le_of_ble_eq_true rfl) only [↓q_br, q_rt, q_rz, q_gd, q_ca, ↓reduceIte, F_X8_findLabelsOf_7B, F_X8_findLabelsOf_59, ↓q_gA_21_1, ↓q_gA_2_1, ↓q_gA_2_4, ↓q_gI_2_6, ↓q_is_21, ↓q_lI_4, ↓q_sL_7, h26, tc, ty, ty1, t1, not_true_eq_false, lk, ← hY1, nI_1, r1]
      · by_cases hu9 : u = t
        · rcases r2.2 u with e | e
          · rw [e, hu9, hY1, q_u2_s, q_u1_s]
          · exact e.2
        · exact r3 u (by omega) h5 h6
    · have t1 : ((q_tok l t).1 = 1) = False := eq_false c1
      obtain ⟨Y', r1, r2, r3⟩ := ih g (t + 1) Y (by omega) (by omega) (by omega) hT
      refine ⟨Y', ?_, r2, fun u h4 h5 h6 => ?_⟩
      · rw [F_X8_findLabelsOf_7]
        simp (disch := first | rfl | omega | decide | exact Nat.le_of_ble_eq_true rfl) only [↓q_br, q_rt, q_rz, q_gd, q_ca, ↓reduceIte, F_X8_findLabelsOf_7B, F_X8_findLabelsOf_59, ↓q_gA_21_1, ↓q_gA_2_1, ↓q_gA_2_4, ↓q_gI_2_6, ↓q_is_21, ↓q_lI_4, ↓q_sL_7, h26, tc, ty, ty1, t1, not_false_eq_true, nI_1, r1]
      · by_cases hu9 : u = t
        · rw [hu9] at h6
          exact absurd h6 c1
        · exact r3 u (by omega) h5 h6
theorem q_read_43 {D0 : q_Mem} {n0 n z c22 c23 : Nat} {L : List q_Knd} {Js : List q_Ins} {Ls : List q_Lin} {aa : Nat → Nat} (hEn : q_Env b n0 D0 Z I L z Js) (hn0 : b + 66 < n0) (hXP : ∀ x ∈ Ls, q_XP B l z x) (hIN : q_INC Ls) (hG : q_LG B l (q_LT Ls)) (hK : (q_LT Ls).length ≤ 6000) (hLs : Ls.length ≤ 6100) (h14 : I 14 2 = 0) : ∀ d fuel i (fo : Nat → Nat) (Y : Nat → Nat → Int64) (D : q_Mem) (xx : Nat → q_Lx), i + d = Ls.length → d + 1 < fuel → q_PR κ b n0 n D I R X B l Ls aa xx c22 c23 → q_S8 n0 D0 D → q_TC B l zt I X Y → (∀ j, j < i → q_CF B l (q_LT Ls) L Js fo (xx j) ∧ (q_sS (q_lg Ls j) = 1 → q_YL B l (q_LT Ls) Y (q_lg Ls j))) → (∀ j, i ≤ j → j < Ls.length → q_xf (xx j) = -1 ∧ q_xw (xx j) = nI (q_sW (q_lg Ls j))) →
    ∃ I' Y' D' xx', q_IA I I' ∧ q_YY B l (q_LT Ls) Y Y' ∧ q_PR κ b n0 n D' I' R X B l Ls aa xx' c22 c23 ∧ q_S8 n0 D0 D' ∧ (match q_ff (q_nfx B l (q_LT Ls) L Js) (Ls.drop i) fo with
      | .inl (k, p) => F_X8_read_43 κ fuel (some (b + 21)) (nI i) (q_H b (I, R, X, Y, Z) M O D, s) = some (.inl 0, (q_H b (I', R, X, Y', Z) M O D', s)) ∧ I' 14 2 = nI k ∧ I' 14 3 = nI p
      | .inr fo' => F_X8_read_43 κ fuel (some (b + 21)) (nI i) (q_H b (I, R, X, Y, Z) M O D, s) = some (.inl 1, (q_H b (I', R, X, Y', Z) M O D', s)) ∧ I' = I ∧ ∀ j, j < Ls.length → q_CF B l (q_LT Ls) L Js fo' (xx' j) ∧ (q_sS (q_lg Ls j) = 1 → q_YL B l (q_LT Ls) Y' (q_lg Ls j))) := by
  obtain ⟨hC, hCM, h84, h96, hJk⟩ := hEn
  intro d
  induction d with
  | zero =>
    intro fuel i fo Y D xx h1 h2 hP hS hT hlo hhi
    obtain ⟨g, rfl⟩ : ∃ g, fuel = g + 1 := ⟨fuel - 1, by omega⟩
    have h3 : Ls.length ≤ i := by omega
    refine ⟨I, Y, D, xx, fun _ _ => rfl, q_YY_r, hP, hS, ?_⟩
    rw [List.drop_eq_nil_of_le h3, q_ff]
    have sz := q_size22 (κ := κ) (b := b) (R := R) (X := X) (Y := Y) (Z := Z) (M := M) (O := O) (D := D) (s := s) hP.1.1
    have hf := q_hasFault (κ := κ) (b := b) (I := I) (R := R) (X := X) (Y := Y) (Z := Z) (M := M) (O := O) (D := D) (s := s)
    rw [h14, show (!decide ((0 : Int32) = 0)) = false from rfl] at hf
    have c1 : ((1 : Int32) = 0 ∨ (1 : Int32) = 1) = True := eq_true (Or.inr rfl)
    have le : (nI Ls.length ≤ nI i) = True := eq_true (nI_le h3 (by omega))
    refine ⟨?_, rfl, fun j hj => hlo j (by omega)⟩
    rw [F_X8_read_43]
    simp (disch := first | rfl | omega | decide | exact Nat.le_of_ble_eq_true rfl) only [↓q_br, q_rt, q_rz, q_gd, q_ca, ↓reduceIte, F_X8_read_43B, F_X8_read_116, F_X8_read_131, ↓q_gA_21_0, ↓q_gA_21_4, ↓q_is_14, ↓q_is_21, ↓q_is_22, ↓q_is_23, ↓q_is_22, sz, le, hf, q_b_0, not_true_eq_false, or_true]
  | succ d ih =>
    intro fuel i fo Y D xx h1 h2 hP hS hT hlo hhi
    obtain ⟨g, rfl⟩ : ∃ g, fuel = g + 1 := ⟨fuel - 1, by omega⟩
    have hi9 : i < Ls.length := by omega
    have hzt := hT.2.2.1
    have hl := hT.2.1
    have hwf : ∀ i, i < l.length → (q_tok l i).1 ≤ 4 := fun i hi => (hT.2.2.2.2.1 i _ (q_tok_s hi)).1
    have sz := q_size22 (κ := κ) (b := b) (R := R) (X := X) (Y := Y) (Z := Z) (M := M) (O := O) (D := D) (s := s) hP.1.1
    have gt := q_get22 (κ := κ) (b := b) (X := X) (Y := Y) (Z := Z) (M := M) (O := O) (s := s) hP.1 hi9
    have hf := q_hasFault (κ := κ) (b := b) (I := I) (R := R) (X := X) (Y := Y) (Z := Z) (M := M) (O := O) (D := D) (s := s)
    rw [h14, show (!decide ((0 : Int32) = 0)) = false from rfl] at hf
    have le : (nI Ls.length ≤ nI i) = False := eq_false (nI_ge hi9 (by omega))
    obtain ⟨⟨o1, o2, o3, o4⟩, -⟩ := hP.2.2.1 i hi9
    have ex : (xx i).1 = q_lg Ls i := hP.2.2.2.1 i hi9
    have eo : b + 66 < aa i ∧ D (aa i) = some (.inr (.inl (6, [.int (nI (q_sS (xx i).1)), .int (nI (q_sF (xx i).1)), .int (nI (q_sH (xx i).1)), .int (q_xo (xx i)), .ref (aa i + 1), .int (q_xf (xx i)), .int (q_xw (xx i)), .int (q_xa (xx i))]))) := ⟨by omega, o3⟩
    rw [q_lg_d hi9, q_ff]
    by_cases c1 : q_sS (q_lg Ls i) = 1
    · have t1 : (nI (q_sS (xx i).1) = (1 : Int32)) = True := eq_true (by rw [ex, c1]; rfl)
      have t1x : (nI (q_sS (q_lg Ls i)) = (1 : Int32)) = True := eq_true (by rw [c1]; rfl)
      obtain ⟨hE, hy1⟩ := q_XP_E hwf (hXP _ (q_lg_m hi9)) c1
      rw [if_pos c1]
      have lbo := q_PR_LB hP hn0
      obtain ⟨Y1, f1, f2, f3⟩ := q_findL_7 (κ := κ) (b := b) (Z := Z) (M := M) (O := O) (s := s) hE hP.2.1 lbo hG.2 (by omega) hP.2.2.2.2.2.1 hG.1 (q_sE (q_lg Ls i) - (q_sH (q_lg Ls i) + 1)) q_fu (q_sH (q_lg Ls i) + 1) Y (by have := hE.1; omega) (by have := hE.2.1; unfold q_fu; omega) (by omega) hT
      have hT1 := q_TC_N hT f2
      have hYL : q_YL B l (q_LT Ls) Y1 (q_lg Ls i) := fun t g1 g2 g3 => f3 t (by omega) g2 g3
      have la5 : D (aa i + 1) = some (.inl (1, 5, .inl (q_xp (xx i)))) := by
        rw [o4]
        unfold q_La
        rw [if_pos (by rw [ex]; exact c1)]
      have xf := (hhi i (Nat.le_refl _) hi9).1
      obtain ⟨f', w⟩ := q_take_7 (κ := κ) (R := R) (M := M) (O := O) (s := s) (v0 := .int (nI (q_sS (xx i).1))) (v1 := .int (nI (q_sF (xx i).1))) (v3 := .int (q_xo (xx i))) (v5 := .int (q_xf (xx i))) (v6 := .int (q_xw (xx i))) (v7 := .int (q_xa (xx i))) (a := aa i) hT1 hE hy1 hYL (by omega) hC hCM h84 h96 hJk o1 hn0 Js.length q_fu 0 (q_xp (xx i)) D (by omega) (by unfold q_fu; omega) hS (by rw [← ex]; exact eo.2) la5
      rw [nI_0] at w
      have enf : q_nfx B l (q_LT Ls) L Js (q_lg Ls i) 0 = q_fi (fun i_1 => (q_isf B l (q_LT Ls) L (q_jg Js i_1) (q_sH (q_lg Ls i)) (q_sE (q_lg Ls i))).isSome) Js.length 0 := rfl
      have fl : F_X8_findLabelsOf κ (some (b + 21)) (some (aa i)) (q_H b (I, R, X, Y, Z) M O D, s) = some (.inl (), (q_H b (I, R, X, Y1, Z) M O D, s)) := by
        simp (disch := first | rfl | omega | decide | exact Nat.le_of_ble_eq_true rfl) only [↓q_br, q_rt, q_rz, q_gd, q_ca, ↓reduceIte, F_X8_findLabelsOf, qd_I eo (k := 2) (v := nI (q_sH (xx i).1)) rfl, nI_1, ex, f1]
      have m1 : (-1 : Int32) + 1 = 0 := by decide
      have tk : F_X8_takeNextForm κ (some (b + 21)) (some (aa i)) (q_H b (I, R, X, Y1, Z) M O D, s) = F_X8_takeNextForm_7 κ q_fu (some (b + 21)) (some (aa i)) 0 (q_H b (I, R, X, Y1, Z) M O D, s) := by
        simp (disch := first | rfl | omega | decide | exact Nat.le_of_ble_eq_true rfl) only [↓q_br, q_rt, q_rz, q_gd, q_ca, ↓reduceIte, F_X8_takeNextForm, qd_I eo (k := 5) (v := q_xf (xx i)) rfl, xf, m1]
      rw [enf]
      cases hnf : q_fi (fun i_1 => (q_isf B l (q_LT Ls) L (q_jg Js i_1) (q_sH (q_lg Ls i)) (q_sE (q_lg Ls i))).isSome) Js.length 0 with
      | none =>
        rw [hnf] at w
        simp only at w
        rw [w] at tk
        have up := q_PR_u (x := ((xx i).1, (xx i).2.1, f')) hP hi9 rfl rfl
        have ela : q_La ((xx i).1, (xx i).2.1, f') = .inl (1, 5, .inl f') := by
          unfold q_La
          rw [if_pos (by show q_sS (xx i).1 = 1; rw [ex]; exact c1)]
        have elc : q_up (q_up D (aa i + 1) (q_La ((xx i).1, (xx i).2.1, f'))) (aa i) (q_Lc (aa i) ((xx i).1, (xx i).2.1, f')) = q_up D (aa i + 1) (.inl (1, 5, .inl f')) := by
          rw [ela]
          exact q_up_id (by rw [q_up_n _ _ (by omega)]; exact o3)
        rw [elc] at up
        obtain ⟨I2, hI2⟩ : ∃ I2, I2 = q_ft I 6 (nI (q_sH (q_lg Ls i))) := ⟨_, rfl⟩
        have ia : q_IA I I2 := by rw [hI2]; exact q_IA_f
        obtain ⟨z1, z2⟩ := q_ft_2 (I := I) (k := 6) (p := nI (q_sH (q_lg Ls i)))
        rw [← hI2] at z1 z2
        have up2 : q_PR κ b n0 n (q_up D (aa i + 1) (.inl (1, 5, .inl f'))) I2 R X B l Ls aa (q_u1 xx i ((xx i).1, (xx i).2.1, f')) c22 c23 := by
          obtain ⟨p1, p2, p3⟩ := up
          refine ⟨?_, ?_, p3⟩
          · unfold q_AL at p1 ⊢
            rw [ia 22 (by decide)]
            exact p1
          · unfold q_AL at p2 ⊢
            rw [ia 23 (by decide)]
            exact p2
        refine ⟨I2, Y1, _, _, ia, f2, up2, q_S8_up hS (by omega), ?_, z1, z2⟩
        obtain ⟨g2, rfl⟩ : ∃ g2, g = g2 + 1 := ⟨g - 1, by omega⟩
        have fa := q_failAt (κ := κ) (b := b) (I := I) (R := R) (X := X) (Y := Y1) (Z := Z) (M := M) (O := O) (D := q_up D (aa i + 1) (.inl (1, 5, .inl f'))) (s := s) (k := 6) (p := nI (q_sH (q_lg Ls i)))
        rw [← hI2] at fa
        have eo2 : b + 66 < aa i ∧ q_up D (aa i + 1) (.inl (1, 5, .inl f')) (aa i) = some (.inr (.inl (6, [.int (nI (q_sS (xx i).1)), .int (nI (q_sF (xx i).1)), .int (nI (q_sH (xx i).1)), .int (q_xo (xx i)), .ref (aa i + 1), .int (q_xf (xx i)), .int (q_xw (xx i)), .int (q_xa (xx i))]))) := ⟨by omega, by rw [q_up_n _ _ (by omega)]; exact o3⟩
        have sz2 := q_size22 (κ := κ) (b := b) (R := R) (X := X) (Y := Y1) (Z := Z) (M := M) (O := O) (D := q_up D (aa i + 1) (.inl (1, 5, .inl f'))) (s := s) up2.1.1
        have hf2 := q_hasFault (κ := κ) (b := b) (I := I2) (R := R) (X := X) (Y := Y1) (Z := Z) (M := M) (O := O) (D := q_up D (aa i + 1) (.inl (1, 5, .inl f'))) (s := s)
        rw [z1, show (!decide ((6 : Int32) = 0)) = true from rfl] at hf2
        have c0 : ((0 : Int32) = 0 ∨ (0 : Int32) = 1) = True := eq_true (Or.inl rfl)
        have st : F_X8_read_43 κ (g2 + 1 + 1) (some (b + 21)) (nI i) (q_H b (I, R, X, Y, Z) M O D, s) = F_X8_read_43 κ (g2 + 1) (some (b + 21)) (nI (i + 1)) (q_H b (I2, R, X, Y1, Z) M O (q_up D (aa i + 1) (.inl (1, 5, .inl f'))), s) := by
          rw [F_X8_read_43]
          simp (disch := first | rfl | omega | decide | exact Nat.le_of_ble_eq_true rfl) only [↓q_br, q_rt, q_rz, q_gd, q_ca, ↓reduceIte, F_X8_read_43B, F_X8_read_110, ↓q_gA_21_0, ↓q_gA_21_4, ↓q_is_14, ↓q_is_21, ↓q_is_22, ↓q_is_23, ↓q_is_22, ↓q_is_21, ↓q_is_14, sz, le, hf, q_b_0, not_true_eq_false, gt, qd_S eo, qd_I eo (k := 0) (v := nI (q_sS (xx i).1)) rfl, t1, fl, tk, qd_I eo2 (k := 2) (v := nI (q_sH (xx i).1)) rfl, ex, t1x, fa, nI_1]
        rw [st, F_X8_read_43]
        by_cases c9 : Ls.length ≤ i + 1
        · have le2 : (nI Ls.length ≤ nI (i + 1)) = True := eq_true (nI_le c9 (by omega))
          simp (disch := first | rfl | omega | decide | exact Nat.le_of_ble_eq_true rfl) only [↓q_br, q_rt, q_rz, q_gd, q_ca, ↓reduceIte, F_X8_read_43B, F_X8_read_116, F_X8_read_131, ↓q_gA_21_0, ↓q_gA_21_4, ↓q_is_14, ↓q_is_21, ↓q_is_22, ↓q_is_23, ↓q_is_22, ↓q_is_14, sz2, le2, hf2, q_b_0, Bool.true_eq_false, not_false_eq_true, true_or]
        · have le2 : (nI Ls.length ≤ nI (i + 1)) = False := eq_false (nI_ge (by omega) (by omega))
          simp (disch := first | rfl | omega | decide | exact Nat.le_of_ble_eq_true rfl) only [↓q_br, q_rt, q_rz, q_gd, q_ca, ↓reduceIte, F_X8_read_43B, F_X8_read_116, F_X8_read_131, ↓q_gA_21_0, ↓q_gA_21_4, ↓q_is_14, ↓q_is_21, ↓q_is_22, ↓q_is_23, ↓q_is_22, ↓q_is_14, sz2, le2, hf2, q_b_0, Bool.true_eq_false, not_false_eq_true, true_or]
      | some j =>
        rw [hnf] at w
        obtain ⟨w, w2⟩ := w
        rw [w] at tk
        obtain ⟨j1, j2, ps, j3⟩ := q_nf_s (i := 0) (hd := q_sH (q_lg Ls i)) (en := q_sE (q_lg Ls i)) (L := L) (Js := Js) (LT := q_LT Ls) (B := B) (l := l) hnf (Nat.zero_le _)
        obtain ⟨x', hx'⟩ : ∃ x' : q_Lx, x' = ((xx i).1, (q_xo (xx i), nI j, nI (q_jg Js j).2.2.2.length, q_xa (xx i)), f') := ⟨_, rfl⟩
        have up := q_PR_u (x := x') hP hi9 (by rw [hx']) (by rw [hx'])
        have ela : q_La x' = .inl (1, 5, .inl f') := by
          rw [hx']
          unfold q_La
          rw [if_pos (by show q_sS (xx i).1 = 1; rw [ex]; exact c1)]
        have elc : q_Lc (aa i) x' = .inr (.inl (6, [.int (nI (q_sS (xx i).1)), .int (nI (q_sF (xx i).1)), .int (nI (q_sH (q_lg Ls i))), .int (q_xo (xx i)), .ref (aa i + 1), .int (nI j), .int (nI (q_jg Js j).2.2.2.length), .int (q_xa (xx i))])) := by
          rw [hx', ← ex]
          rfl
        rw [ela, elc] at up
        have s8 := q_S8_up (c := .inr (.inl (6, [.int (nI (q_sS (xx i).1)), .int (nI (q_sF (xx i).1)), .int (nI (q_sH (q_lg Ls i))), .int (q_xo (xx i)), .ref (aa i + 1), .int (nI j), .int (nI (q_jg Js j).2.2.2.length), .int (q_xa (xx i))]))) (q_S8_up (a := aa i + 1) (c := .inl (1, 5, .inl f')) hS (by omega)) o1
        have sF : ∀ u, u < Ls.length → q_sF (xx u).1 = q_sF (q_lg Ls u) := fun u hu => by rw [hP.2.2.2.1 u hu]; rfl
        obtain ⟨I', Y', D', xx', r1, r2, r3, r4, r5⟩ := ih g (i + 1) (q_u1 fo (q_sF (q_lg Ls i)) j) Y1 _ _ (by omega) (by omega) up s8 hT1 (fun u hu => by
          by_cases hui : u = i
          · rw [hui, q_u1_s]
            refine ⟨⟨fun _ => ?_, fun h9 => ?_⟩, fun _ => hYL⟩
            · have e1 : x'.1 = q_lg Ls i := by rw [hx']; exact ex
              rw [e1, q_u1_s, hx']
              exact ⟨j2, rfl, rfl, ps, j3, fun o ho => w2 ps j3 o ho⟩
            · exact absurd (by rw [hx']; show q_sS (xx i).1 = 1; rw [ex]; exact c1) h9
          · rw [q_u1_n _ _ hui]
            obtain ⟨v1, v2⟩ := hlo u (by omega)
            refine ⟨q_CF_k v1 ?_, fun h9 => q_YY_L f2 (v2 h9)⟩
            rw [sF u (by omega), q_u1_n _ _ (q_INC_n hIN (by omega) hi9 hui)]) (fun u h4 h5 => by
          rw [q_u1_n _ _ (by omega)]
          exact hhi u (by omega) h5)
        refine ⟨I', Y', D', xx', r1, q_YY_t f2 r2, r3, r4, ?_⟩
        have st : F_X8_read_43 κ (g + 1) (some (b + 21)) (nI i) (q_H b (I, R, X, Y, Z) M O D, s) = F_X8_read_43 κ g (some (b + 21)) (nI (i + 1)) (q_H b (I, R, X, Y1, Z) M O (q_up (q_up D (aa i + 1) (.inl (1, 5, .inl f'))) (aa i) (.inr (.inl (6, [.int (nI (q_sS (xx i).1)), .int (nI (q_sF (xx i).1)), .int (nI (q_sH (q_lg Ls i))), .int (q_xo (xx i)), .ref (aa i + 1), .int (nI j), .int (nI (q_jg Js j).2.2.2.length), .int (q_xa (xx i))])))), s) := by
          have z1 : (¬ (1 : Int32) = 0) = True := eq_true (by decide)
          rw [F_X8_read_43]
          simp (disch := first | rfl | omega | decide | exact Nat.le_of_ble_eq_true rfl) only [↓q_br, q_rt, q_rz, q_gd, q_ca, ↓reduceIte, F_X8_read_43B, F_X8_read_110, ↓q_gA_21_0, ↓q_gA_21_4, ↓q_is_14, ↓q_is_21, ↓q_is_22, ↓q_is_23, ↓q_is_22, ↓q_is_21, ↓q_is_14, sz, le, hf, q_b_0, not_true_eq_false, gt, qd_S eo, qd_I eo (k := 0) (v := nI (q_sS (xx i).1)) rfl, t1, fl, tk, z1, nI_1]
        rw [st]
        exact r5
    · have t1 : (nI (q_sS (xx i).1) = (1 : Int32)) = False := eq_false (fun h9 => c1 (by
        obtain ⟨LT, t, ht, hx⟩ := hXP _ (q_lg_m hi9)
        have b8 := (q_ln1_b hwf hx ht).2.2.2.2.2.2.2.1
        rw [ex] at h9
        exact (nI_eq (b := 1) (by omega) (by decide)).mp h9))
      rw [if_neg c1]
      obtain ⟨I', Y', D', xx', r1, r2, r3, r4, r5⟩ := ih g (i + 1) fo Y D xx (by omega) (by omega) hP hS hT (fun u hu => by
        by_cases hui : u = i
        · rw [hui]
          refine ⟨⟨fun h9 => absurd (by rw [← ex]; exact h9) c1, fun _ => ?_⟩, fun h9 => absurd h9 c1⟩
          rw [ex]
          exact (hhi i (Nat.le_refl _) hi9).2
        · exact hlo u (by omega)) (fun u h4 h5 => hhi u (by omega) h5)
      refine ⟨I', Y', D', xx', r1, r2, r3, r4, ?_⟩
      have st : F_X8_read_43 κ (g + 1) (some (b + 21)) (nI i) (q_H b (I, R, X, Y, Z) M O D, s) = F_X8_read_43 κ g (some (b + 21)) (nI (i + 1)) (q_H b (I, R, X, Y, Z) M O D, s) := by
        rw [F_X8_read_43]
        simp (disch := first | rfl | omega | decide | exact Nat.le_of_ble_eq_true rfl) only [↓q_br, q_rt, q_rz, q_gd, q_ca, ↓reduceIte, F_X8_read_43B, F_X8_read_110, ↓q_gA_21_0, ↓q_gA_21_4, ↓q_is_14, ↓q_is_21, ↓q_is_22, ↓q_is_23, ↓q_is_22, ↓q_is_21, ↓q_is_14, sz, le, hf, q_b_0, not_true_eq_false, gt, qd_S eo, qd_I eo (k := 0) (v := nI (q_sS (xx i).1)) rfl, t1, not_false_eq_true, nI_1]
      rw [st]
      exact r5
end QFL
