section QRJ
variable {κ : Nat → Nat} {b : Nat} {B : Nat → Int32} {l : List q_Tok} {zt : Nat} {Y : Nat → Nat → Int64} {Z : Nat → Nat → Option Nat} {M : q_MT} {O : Nat → Int64}
/-- forms and words before the first forms are given -/
def q_F0 (Ls : List q_Lin) (xx : Nat → q_Lx) : Prop := ∀ i, i < Ls.length → q_xf (xx i) = -1 ∧ q_xw (xx i) = nI (q_sW (Ls.getD i (0, 0, 0, 0, 0)))
theorem q_last {Ls : List q_Lin} {x : q_Lin} : (Ls ++ [x]).getD Ls.length (0, 0, 0, 0, 0) = x := by
  rw [List.getD_eq_getElem?_getD, List.getElem?_append_right (Nat.le_refl _), Nat.sub_self]
  rfl
theorem q_lbs_x {Ls : List q_Lin} {x y : q_Lin} (h : q_sF x = q_sF y) (h' : q_sH x = q_sH y) : q_LT (Ls ++ [x]) = q_LT (Ls ++ [y]) ∧ q_lbs (Ls ++ [x]) = q_lbs (Ls ++ [y]) := by
  have e : q_lab x = q_lab y := by unfold q_lab; rw [h, h']
  rw [q_LT_a, q_LT_a, q_lbs_a, q_lbs_a, e, h]
  exact ⟨rfl, rfl⟩
/-- the last line's end and words become known -/
theorem q_PR_x {I I' : Nat → Nat → Int32} {R : Nat → Nat → Option Nat} {X : Nat → Nat → Int32} {D : q_Mem} {n0 n c22 c23 : Nat} {Ls : List q_Lin} {aa : Nat → Nat} {xx : Nat → q_Lx} {x y : q_Lin} {ol w : Int32} {f : Nat → Int32} (h : q_PR κ b n0 n D I R X B l (Ls ++ [x]) aa (q_u1 xx Ls.length (x, (ol, -1, 0, 0), f)) c22 c23) (hI : q_IA I I') (hS : q_sS x = q_sS y) (hF : q_sF x = q_sF y) (hH : q_sH x = q_sH y) : q_PR κ b n0 n (q_up D (aa Ls.length) (q_Lc (aa Ls.length) (y, (ol, -1, w, 0), f))) I' R X B l (Ls ++ [y]) aa (q_u1 xx Ls.length (y, (ol, -1, w, 0), f)) c22 c23 := by
  obtain ⟨p1, p2, p3, p4, p5, p6, p7⟩ := h
  obtain ⟨e1, e2⟩ := q_lbs_x (Ls := Ls) hF hH
  have len : (Ls ++ [x]).length = Ls.length + 1 := by simp
  have len' : (Ls ++ [y]).length = Ls.length + 1 := by simp
  rw [len] at p1 p3
  have o := (p3 Ls.length (by omega)).1
  have a7 : q_t7 (D (aa Ls.length)) = false := by rw [o.2.2.1]; rfl
  have ls := q_LS_o (i := Ls.length) (x := (y, (ol, -1, w, 0), f)) p3 (by omega) (by rw [q_u1_s]; exact hS.symm) (by rw [q_u1_s])
  rw [q_u1_u1] at ls
  refine ⟨?_, ?_, by rw [len']; exact ls, ?_, ?_, by rw [← e1]; exact p6, p7⟩
  · rw [len']
    exact q_AL_o (n0 := 0) (q_AL_mo p1 (Nat.le_refl _) (by rw [hI 22 (by decide)]) rfl (fun _ _ _ => rfl)) a7
  · rw [← e1, ← e2]
    exact q_AL_o (n0 := 0) (q_AL_mo p2 (Nat.le_refl _) (by rw [hI 23 (by decide)]) rfl (fun _ _ _ => rfl)) a7
  · intro i hi
    rw [len'] at hi
    by_cases hil : i = Ls.length
    · subst hil
      rw [q_u1_s, q_last]
    · have := p4 i (by rw [len]; omega)
      rw [q_u1_n _ _ hil] at this ⊢
      rw [this, List.getD_eq_getElem?_getD, List.getD_eq_getElem?_getD, List.getElem?_append_left (by omega), List.getElem?_append_left (by omega)]
  · intro k hk
    rw [← e1] at hk ⊢
    rw [← e2]
    have := p5 k hk
    rw [← this]
    by_cases hil : (q_lbs (Ls ++ [x])).getD k 0 = Ls.length
    · rw [hil, q_u1_s, q_u1_s]
    · rw [q_u1_n _ _ hil, q_u1_n _ _ hil]
theorem q_st1_s {z h : Nat} {x : Nat × Nat × Nat} (hx : q_st1 B l z h = .inr x) : x.1 = q_srt B l h := by
  unfold q_st1 at hx
  unfold q_srt
  split at hx
  · rename_i h1
    cases hx
    rw [if_pos h1]
  · rename_i h1
    rw [if_neg h1]
    split at hx
    · rename_i h2
      rw [if_pos h2]
      split at hx
      · rename_i h3
        have nw : ¬ q_wd B l (h + 1) 13 = true := by
          intro h9
          unfold q_wd at h3 h9
          rw [decide_eq_true_eq] at h3 h9
          exact q_tx13.2.2 (by rw [← h3.2, h9.2])
        rw [if_neg nw]
        split at hx
        · cases hx
        · cases hx; rfl
      · split at hx
        · rename_i h4
          rw [if_pos h4]
          split at hx
          · cases hx
          · cases hx; rfl
        · cases hx
    · rename_i h2
      cases hx
      rw [if_neg h2]
/-- the class reads a line -/
theorem q_readLine {I : Nat → Nat → Int32} {R : Nat → Nat → Option Nat} {X : Nat → Nat → Int32} {D D0 : q_Mem} {z t n0 n m c22 c23 : Nat} {Ls : List q_Lin} {aa : Nat → Nat} {xx : Nat → q_Lx} (hz : z ≤ 32) (hP : q_PR κ b n0 n D I R X B l Ls aa xx c22 c23) (hF : q_F0 Ls xx) (hn0 : b + 66 < n0) (hn : n0 ≤ n) (hT : q_TC B l zt I X Y) (hK : q_Kp κ b D) (hS : q_S8 n0 D0 D) (h1 : I 14 1 = nI t) (h2 : I 14 2 = 0) (h8 : I 8 2 = nI z) (ht : t < l.length) (hN : Ls.length ≤ 6000) (hLT : ∀ k, k < (q_LT Ls).length → (q_LT Ls).getD k 0 < l.length) (hu : q_UQ B l (q_LT Ls)) :
    ∃ I' R' X' D' n' m' d22 d23, F_X8_readLine κ (some (b + 21)) (q_H b (I, R, X, Y, Z) M O D, n, m) = some (.inl (), (q_H b (I', R', X', Y, Z) M O D', n', m')) ∧ (∀ j, j ≠ 14 → j ≠ 22 → j ≠ 23 → I' j = I j) ∧ (∀ j, j ≠ 22 → j ≠ 23 → R' j = R j) ∧ (∀ j, j ≠ 24 → X' j = X j) ∧ n ≤ n' ∧ m ≤ m' ∧ n' + c22 + c23 ≤ n + 2 + d22 + d23 ∧ m' + 4 * (c22 + c23) ≤ m + 13 + 4 * (d22 + d23) ∧ q_S8 n0 D0 D' ∧ q_Kp κ b D' ∧ (match q_ln1 B l z (q_LT Ls) t with
      | .inl (k, p) => I' 14 2 = nI k ∧ I' 14 3 = nI p ∧ 1 ≤ k ∧ k ≤ 8 ∧ q_VA κ b n' D' I' R' d22 d23
      | .inr x => I' 14 1 = nI (q_sE x + 1) ∧ I' 14 2 = 0 ∧ I' 14 3 = I 14 3 ∧ (q_rea x = false → n' = n ∧ m' = m ∧ d22 = c22 ∧ d23 = c23) ∧ ∃ aa' xx', q_PR κ b n0 n' D' I' R' X' B l (if q_rea x = true then Ls ++ [x] else Ls) aa' xx' d22 d23 ∧ q_F0 (if q_rea x = true then Ls ++ [x] else Ls) xx') := by
  have hzt := hT.2.2.1
  have hl := hT.2.1
  have VA : ∀ {n D I R X Ls aa xx c22 c23}, q_PR κ b n0 n D I R X B l Ls aa xx c22 c23 → q_VA κ b n D I R c22 c23 := fun h => ⟨q_AL_W h.1, q_AL_W h.2.1, h.2.2.2.2.2.2⟩
  have VAI : ∀ {n D I I' R c22 c23}, q_VA κ b n D I R c22 c23 → q_IA I I' → q_VA κ b n D I' R c22 c23 := fun h hI => q_VA_mo h (Nat.le_refl _) (fun _ _ => rfl) (by rw [hI 22 (by decide)]) (by rw [hI 23 (by decide)]) rfl rfl
  have nm := q_isAtName (κ := κ) (b := b) (R := R) (Z := Z) (M := M) (O := O) (D := D) (s := (n, m)) hT h1 (by omega)
  have sg := q_isSign (κ := κ) (b := b) (R := R) (Z := Z) (M := M) (O := O) (D := D) (s := (n, m)) (c := 58) hT (by omega : t + 1 < l.length + 3)
  have start : F_X8_readLine κ (some (b + 21)) (q_H b (I, R, X, Y, Z) M O D, n, m) = F_X8_readLine_38 κ (some (b + 21)) (nI t) (q_b (q_isl l t)) (q_H b (I, R, X, Y, Z) M O D, n, m) := by
    unfold q_isl
    by_cases c1 : (q_tok l t).1 = 1
    · rw [decide_eq_true c1] at nm ⊢
      cases hs : q_sgn l (t + 1) 58 with
      | true =>
        rw [hs] at sg
        simp (disch := first | rfl | omega | decide | exact Nat.le_of_ble_eq_true rfl) only [↓q_br, q_rt, q_rz, q_gd, q_ca, ↓reduceIte, F_X8_readLine, ↓q_gA_21_0, ↓q_gA_21_1, ↓q_gI_14_1, ↓q_is_14, ↓q_is_2, ↓q_gI_14_1, h1, ↓q_is_14, ↓q_is_2, nm, q_b_0, Bool.true_eq_false, nI_1, sg, Bool.true_and]
        rfl
      | false =>
        rw [hs] at sg
        simp (disch := first | rfl | omega | decide | exact Nat.le_of_ble_eq_true rfl) only [↓q_br, q_rt, q_rz, q_gd, q_ca, ↓reduceIte, F_X8_readLine, F_X8_readLine_37, ↓q_gA_21_0, ↓q_gA_21_1, ↓q_gI_14_1, ↓q_is_14, ↓q_is_2, ↓q_gI_14_1, h1, ↓q_is_14, ↓q_is_2, nm, q_b_0, Bool.true_eq_false, nI_1, sg, Bool.and_false]
        rfl
    · rw [decide_eq_false c1] at nm ⊢
      simp (disch := first | rfl | omega | decide | exact Nat.le_of_ble_eq_true rfl) only [↓q_br, q_rt, q_rz, q_gd, q_ca, ↓reduceIte, F_X8_readLine, F_X8_readLine_37, ↓q_gA_21_0, ↓q_gA_21_1, ↓q_gI_14_1, ↓q_is_14, ↓q_is_2, ↓q_gI_14_1, h1, ↓q_is_14, ↓q_is_2, nm, q_b_0, Bool.false_and]
      rfl
  rw [start]
  obtain ⟨L, hL⟩ : ∃ L, L = q_isl l t := ⟨_, rfl⟩
  have lb := q_labelAt (κ := κ) (b := b) (Z := Z) (M := M) (O := O) (s := (n, m)) hT ht hP.2.1 (q_PR_LB hP hn0) hLT (by
    have : (q_LT Ls).length ≤ Ls.length := by
      unfold q_LT
      rw [List.length_map]
      exact List.length_filter_le _ _
    omega) hP.2.2.2.2.2.1 hu
  by_cases hdup : (q_isl l t && (q_lk B l (q_LT Ls) t).isSome) = true
  · -- the label is there already
    rw [Bool.and_eq_true] at hdup
    obtain ⟨k, hk⟩ : ∃ k, q_lk B l (q_LT Ls) t = some k := Option.isSome_iff_exists.mp hdup.2
    have kl : k < (q_LT Ls).length := by
      unfold q_lk at hk
      have := (q_fi_s _ _ _ hk).2.1
      omega
    refine ⟨q_ft I 2 (nI t), R, X, D, n, m, c22, c23, ?_, fun j j1 _ _ => q_IA_f j j1, fun _ _ _ => rfl, fun _ _ => rfl, Nat.le_refl _, Nat.le_refl _, by omega, by omega, hS, hK, ?_⟩
    · rw [hk] at lb
      have ng : (q_mv (some k) < 0) = False := eq_false (nI_pos (n := k) (by
        have : (q_LT Ls).length ≤ Ls.length := by
          unfold q_LT
          rw [List.length_map]
          exact List.length_filter_le _ _
        omega))
      rw [hdup.1]
      have z0 : (q_b true = 0) = False := eq_false (by decide)
      simp (disch := first | rfl | omega | decide | exact Nat.le_of_ble_eq_true rfl) only [↓q_br, q_rt, q_rz, q_gd, q_ca, ↓reduceIte, F_X8_readLine_38, ↓q_gA_21_0, ↓q_is_14, ↓q_is_21, z0, ↓q_is_21, lb, ng, ↓q_is_14, q_fail h1]
    · unfold q_ln1
      rw [if_pos (by rw [Bool.and_eq_true]; exact hdup)]
      exact ⟨q_ft_2.1, q_ft_2.2, by decide, by decide, VAI (VA hP) q_IA_f⟩
  · -- the line begins
    have hln : q_ln1 B l z (q_LT Ls) t = (match q_st1 B l z (q_hd l t) with
      | .inl e => .inl e
      | .inr x => if (q_tok l x.2.1).1 = 4 ∨ (q_tok l x.2.1).1 = 5 then .inr (x.1, t, q_hd l t, x.2.1, x.2.2) else .inl (1, x.2.1)) := by
      unfold q_ln1
      rw [if_neg hdup]
      cases q_st1 B l z (q_hd l t) <;> rfl
    have to61 : F_X8_readLine_38 κ (some (b + 21)) (nI t) (q_b (q_isl l t)) (q_H b (I, R, X, Y, Z) M O D, n, m) = F_X8_readLine_72 κ (some (b + 21)) (nI t) (q_b (q_isl l t)) (nI (q_hd l t)) (q_H b (I, R, X, Y, Z) M O D, n, m) := by
      unfold q_hd
      cases hi : q_isl l t with
      | false =>
        have z0 : (q_b false = 0) = True := eq_true rfl
        simp (disch := first | rfl | omega | decide | exact Nat.le_of_ble_eq_true rfl) only [↓q_br, q_rt, q_rz, q_gd, q_ca, ↓reduceIte, F_X8_readLine_38, F_X8_readLine_61, ↓q_gA_21_0, ↓q_is_14, ↓q_is_21, z0, Bool.false_eq_true]
      | true =>
        have z0 : (q_b true = 0) = False := eq_false (by decide)
        have none9 : q_lk B l (q_LT Ls) t = none := by
          cases h9 : q_lk B l (q_LT Ls) t with
          | none => rfl
          | some k => rw [hi, h9] at hdup; exact absurd rfl hdup
        rw [none9] at lb
        have ng : (q_mv none < 0) = True := eq_true (by decide)
        have ad2 : nI t + (2 : Int32) = nI (t + 2) := nI_add t 2
        simp (disch := first | rfl | omega | decide | exact Nat.le_of_ble_eq_true rfl) only [↓q_br, q_rt, q_rz, q_gd, q_ca, ↓reduceIte, F_X8_readLine_38, F_X8_readLine_61, ↓q_gA_21_0, ↓q_is_14, ↓q_is_21, z0, ↓q_is_21, lb, ng, ad2]
    rw [to61]
    obtain ⟨h, hh⟩ : ∃ h, h = q_hd l t := ⟨_, rfl⟩
    rw [← hh] at hln ⊢
    have hhl : t ≤ h ∧ h ≤ l.length := by
      rw [hh]
      unfold q_hd
      split
      · rename_i h9
        unfold q_isl at h9
        rw [Bool.and_eq_true] at h9
        have := h9.2
        unfold q_sgn at this
        rw [decide_eq_true_eq] at this
        have := q_tok_lt (l := l) (t := t + 1) (by omega)
        exact ⟨by omega, by omega⟩
      · exact ⟨Nat.le_refl _, by omega⟩
    have hL1 : L = true → ¬ t = h ∧ t < l.length := fun h9 => ⟨by rw [hh]; unfold q_hd; rw [← hL, h9, if_pos rfl]; omega, ht⟩
    have hL0 : L = false → t = h := fun h9 => by rw [hh]; unfold q_hd; rw [← hL, h9, if_neg (by decide)]
    obtain ⟨I1, hI1⟩ : ∃ I1, I1 = q_u2 I 14 1 (nI h) := ⟨_, rfl⟩
    have ia1 : q_IA I I1 := by rw [hI1]; exact q_IA_u
    have a1 : I1 14 1 = nI h := by rw [hI1, q_u2_s, q_u1_s]
    have a2 : I1 14 2 = 0 := by rw [hI1, q_u2_s, q_u1_n _ _ (by decide), h2]
    have hT1 : q_TC B l zt I1 X Y := q_TC_I hT (by rw [ia1 2 (by decide)])
    have srt := q_sortAt (κ := κ) (b := b) (R := R) (Z := Z) (M := M) (O := O) (s := (n, m)) hT1 hK hhl.2
    have srl := q_srt_le (B := B) (l := l) (h := h)
    -- the end of the line
    have tail : ∀ (I2 : Nat → Nat → Int32) (R2 : Nat → Nat → Option Nat) (X2 : Nat → Nat → Int32) (D2 : q_Mem) (s2 : Nat × Nat) (en : Nat), q_TC B l zt I2 X2 Y → I2 14 1 = nI en → I2 14 2 = 0 → en ≤ l.length → F_X8_readLine_136 κ (some (b + 21)) (q_H b (I2, R2, X2, Y, Z) M O D2, s2) = some (.inl (), (q_H b (if (q_tok l en).1 = 4 ∨ (q_tok l en).1 = 5 then q_u2 I2 14 1 (nI (en + 1)) else q_ft I2 1 (nI en), R2, X2, Y, Z) M O D2, s2)) := by
      intro I2 R2 X2 D2 s2 en hT2 e1 e2 he
      have hf := q_hasFault (κ := κ) (b := b) (I := I2) (R := R2) (X := X2) (Y := Y) (Z := Z) (M := M) (O := O) (D := D2) (s := s2)
      rw [decide_eq_true e2] at hf
      have le := q_isLE (κ := κ) (b := b) (R := R2) (Z := Z) (M := M) (O := O) (D := D2) (s := s2) hT2 (by omega : en < l.length + 3)
      by_cases c9 : (q_tok l en).1 = 4 ∨ (q_tok l en).1 = 5
      · rw [if_pos c9]
        rw [decide_eq_true c9] at le
        simp (disch := first | rfl | omega | decide | exact Nat.le_of_ble_eq_true rfl) only [↓q_br, q_rt, q_rz, q_gd, q_ca, ↓reduceIte, F_X8_readLine_136, ↓q_gA_21_0, ↓q_gA_21_1, ↓q_gI_14_1, ↓q_is_14, ↓q_is_2, ↓q_pI_14_1, ↓q_is_14, ↓q_is_2, hf, Bool.not_true, q_b_0, ↓q_gI_14_1, e1, le, Bool.true_eq_false, not_false_eq_true, nI_1]
      · rw [if_neg c9]
        rw [decide_eq_false c9] at le
        simp (disch := first | rfl | omega | decide | exact Nat.le_of_ble_eq_true rfl) only [↓q_br, q_rt, q_rz, q_gd, q_ca, ↓reduceIte, F_X8_readLine_136, ↓q_gA_21_0, ↓q_gA_21_1, ↓q_gI_14_1, ↓q_is_14, ↓q_is_2, ↓q_pI_14_1, ↓q_is_14, ↓q_is_2, hf, Bool.not_true, q_b_0, ↓q_gI_14_1, e1, le, not_true_eq_false, q_fail e1]
    have tailF : ∀ (I2 : Nat → Nat → Int32) (R2 : Nat → Nat → Option Nat) (X2 : Nat → Nat → Int32) (D2 : q_Mem) (s2 : Nat × Nat), ¬ I2 14 2 = 0 → F_X8_readLine_136 κ (some (b + 21)) (q_H b (I2, R2, X2, Y, Z) M O D2, s2) = some (.inl (), (q_H b (I2, R2, X2, Y, Z) M O D2, s2)) := by
      intro I2 R2 X2 D2 s2 e2
      have hf := q_hasFault (κ := κ) (b := b) (I := I2) (R := R2) (X := X2) (Y := Y) (Z := Z) (M := M) (O := O) (D := D2) (s := s2)
      rw [decide_eq_false e2] at hf
      simp (disch := first | rfl | omega | decide | exact Nat.le_of_ble_eq_true rfl) only [↓q_br, q_rt, q_rz, q_gd, q_ca, ↓reduceIte, F_X8_readLine_136, ↓q_gA_21_0, ↓q_gA_21_1, ↓q_gI_14_1, ↓q_is_14, ↓q_is_2, ↓q_pI_14_1, ↓q_is_14, hf, Bool.not_false, q_b_0, Bool.true_eq_false]
    by_cases hre : L = true ∨ ¬ q_srt B l h = 0
    · -- an object for the line
      have to97 : F_X8_readLine_72 κ (some (b + 21)) (nI t) (q_b (q_isl l t)) (nI h) (q_H b (I, R, X, Y, Z) M O D, n, m) = F_X8_readLine_97 κ (some (b + 21)) (nI t) (q_b L) (nI h) (nI (q_srt B l h)) (q_H b (I1, R, X, Y, Z) M O D, n, m) := by
        rw [← hL]
        cases hLb : L with
        | true =>
          have z0 : (¬ q_b true = 0) = True := eq_true (by decide)
          simp (disch := first | rfl | omega | decide | exact Nat.le_of_ble_eq_true rfl) only [↓q_br, q_rt, q_rz, q_gd, q_ca, ↓reduceIte, F_X8_readLine_72, ↓q_gA_21_0, ↓q_is_21, ↓q_pI_14_1, ↓q_pI_14_1, ← hI1, ↓q_is_21, srt, z0]
        | false =>
          have z0 : (¬ q_b false = 0) = False := eq_false (fun h9 => h9 rfl)
          have ns : (nI (q_srt B l h) = 0) = False := eq_false (nI_ne0 (by
            rcases hre with h9 | h9
            · rw [hLb] at h9; cases h9
            · omega) (by omega))
          simp (disch := first | rfl | omega | decide | exact Nat.le_of_ble_eq_true rfl) only [↓q_br, q_rt, q_rz, q_gd, q_ca, ↓reduceIte, F_X8_readLine_72, ↓q_gA_21_0, ↓q_is_21, ↓q_pI_14_1, ↓q_pI_14_1, ← hI1, ↓q_is_21, srt, z0, ns]
      rw [to97]
      have hP1 : q_PR κ b n0 n D I1 R X B l Ls aa xx c22 c23 := ⟨q_AL_mo hP.1 (Nat.le_refl _) (by rw [ia1 22 (by decide)]) rfl (fun _ _ _ => rfl), q_AL_mo hP.2.1 (Nat.le_refl _) (by rw [ia1 23 (by decide)]) rfl (fun _ _ _ => rfl), hP.2.2⟩
      obtain ⟨I2, R2, X2, D2, n2, m2, d22, d23, ol, r1, r2, r3, r4, r5, r6, r7, r8, r9, r10, r11⟩ := q_line97 (κ := κ) (b := b) (Z := Z) (M := M) (O := O) (m := m) (h := h) hP1 hn0 hn hT1 hK hS srl hL1 hL0 hN
      rw [r1]
      have hT2 : q_TC B l zt I2 X2 Y := by
        obtain ⟨q1, q2, q3, q4, q5, q6, q7⟩ := hT1
        refine ⟨by rw [r2 2 (by decide) (by decide), q1], q2, q3, ?_, q5, by rw [r4 3 (by decide)]; exact q6, q7⟩
        obtain ⟨w1, w2⟩ := q4
        exact ⟨by rw [r4 4 (by decide), r4 5 (by decide), r4 6 (by decide)]; exact w1, by rw [r4 4 (by decide)]; exact w2⟩
      have lsl := (r11.2.2.1 Ls.length (by simp)).1
      rw [q_u1_s, q_u1_s] at lsl
      obtain ⟨o1, o2, o3, o4⟩ := lsl
      have b1 : I2 14 1 = nI h := by rw [r2 14 (by decide) (by decide), a1]
      have b2 : I2 14 2 = 0 := by rw [r2 14 (by decide) (by decide), a2]
      obtain ⟨I3, c', s1, s2, s3⟩ := q_readStmt (κ := κ) (b := b) (Z := Z) (M := M) (O := O) (R := R2) (s := (n2, m2)) hz (by omega : b + 66 < n) hT2 r10 b1 b2 (by rw [r2 8 (by decide) (by decide), ia1 8 (by decide), h8]) hhl.2 o3
      have hT3 : q_TC B l zt I3 X2 Y := q_TC_I hT2 (by rw [s1 2 (by decide)])
      obtain ⟨D3, hD3⟩ : ∃ D3, D3 = q_up D2 n (.inr (.inl (6, [.int (nI (q_srt B l h)), .int (nI t), .int (nI h), .int ol, .ref (n + 1), .int (-1), .int (nI c'), .int 0]))) := ⟨_, rfl⟩
      have S3 : q_S8 n0 D0 D3 := by rw [hD3]; exact q_S8_up r9 hn
      have K3 : q_Kp κ b D3 := by rw [hD3]; exact q_Kp_up r10 (by omega)
      have s2' : F_X8_readStatement κ (some (b + 21)) (some n) (q_H b (I2, R2, X2, Y, Z) M O D2, n2, m2) = some (.inl (), (q_H b (I3, R2, X2, Y, Z) M O D3, n2, m2)) := by rw [hD3]; exact s2
      have fin : F_X8_readLine_130 κ (some (b + 21)) (some n) (q_H b (I2, R2, X2, Y, Z) M O D2, n2, m2) = F_X8_readLine_136 κ (some (b + 21)) (q_H b (I3, R2, X2, Y, Z) M O D3, n2, m2) := by
        simp (disch := first | rfl | omega | decide | exact Nat.le_of_ble_eq_true rfl) only [F_X8_readLine_130, ↓q_is_21, q_ca, s2']
      rw [fin]
      have fr : ∀ {I4 : Nat → Nat → Int32}, q_IA I3 I4 → ∀ j, j ≠ 14 → j ≠ 22 → j ≠ 23 → I4 j = I j := fun hI4 j j1 j2 j3 => by rw [hI4 j j1, s1 j j1, r2 j j2 j3, ia1 j j1]
      have va3 : ∀ {I4 : Nat → Nat → Int32}, q_IA I3 I4 → q_VA κ b n2 D3 I4 R2 d22 d23 := fun hI4 => by
        have h9 := q_PR_x (κ := κ) (w := nI c') (y := (q_srt B l h, t, h, 0, 0)) r11 (q_IA_t s1 hI4) rfl rfl rfl
        rw [q_u1_s] at h9
        have h10 := VA h9
        rw [hD3]
        exact h10
      cases hq : q_st1 B l z h with
      | inl e =>
        obtain ⟨k, p⟩ := e
        rw [hq] at s3 hln
        obtain ⟨e1, e2, e3, e4⟩ := s3
        refine ⟨I3, R2, X2, D3, n2, m2, d22, d23, tailF I3 R2 X2 D3 (n2, m2) (by rw [e1]; exact nI_ne0 (by omega) (by omega)), fr (fun _ _ => rfl), fun j j1 j2 => r3 j j1 j2, r4, by omega, r6, r7, r8, S3, K3, ?_⟩
        rw [hln]
        exact ⟨e1, e2, e3, e4, va3 (fun _ _ => rfl)⟩
      | inr e =>
        have hso := q_st1_s hq
        obtain ⟨so, en, wd⟩ := e
        rw [hq] at s3 hln
        obtain ⟨e1, e2, e3, e4, e5⟩ := s3
        have hso' : so = q_srt B l h := hso
        have enl : en ≤ l.length := by
          have hwf : ∀ i, i < l.length → (q_tok l i).1 ≤ 4 := fun i hi => (hT.2.2.2.2.1 i _ (q_tok_s hi)).1
          by_cases c9 : (q_tok l en).1 = 4 ∨ (q_tok l en).1 = 5
          · simp only [c9, if_true] at hln
            have := (q_ln1_b hwf hln (by omega)).2.2.2.2.1
            exact this
          · have := q_tok_lt (l := l) (t := en) (by omega)
            omega
        have tl := tail I3 R2 X2 D3 (n2, m2) en hT3 e3 e4 enl
        by_cases c9 : (q_tok l en).1 = 4 ∨ (q_tok l en).1 = 5
        · rw [if_pos c9] at tl
          simp only [c9, if_true] at hln
          refine ⟨_, R2, X2, D3, n2, m2, d22, d23, tl, fr q_IA_u, fun j j1 j2 => r3 j j1 j2, r4, by omega, r6, r7, r8, S3, K3, ?_⟩
          rw [hln]
          have rea : q_rea (so, t, h, en, wd) = true := by
            unfold q_rea q_lab
            rcases hre with h9 | h9
            · have := (hL1 h9).1
              simp [this]
            · rw [← hso'] at h9
              simp [h9]
          refine ⟨by rw [q_u2_s, q_u1_s], by rw [q_u2_s, q_u1_n _ _ (by decide), e4], by rw [q_u2_s, q_u1_n _ _ (by decide), e5, r2 14 (by decide) (by decide), hI1, q_u2_s, q_u1_n _ _ (by decide)], (fun h9 => by rw [rea] at h9; cases h9), q_u1 aa Ls.length n, q_u1 xx Ls.length ((so, t, h, en, wd), (ol, -1, nI c', 0), fun _ => 0), ?_, ?_⟩
          · rw [if_pos rea]
            have h9 := q_PR_x (κ := κ) (w := nI c') (y := (so, t, h, en, wd)) (I' := q_u2 I3 14 1 (nI (en + 1))) r11 (q_IA_t s1 q_IA_u) hso'.symm rfl rfl
            rw [q_u1_s] at h9
            rw [hD3, ← hso']
            exact h9
          · rw [if_pos rea]
            intro i hi
            rw [List.length_append, List.length_singleton] at hi
            by_cases hil : i = Ls.length
            · subst hil
              rw [q_u1_s, q_last]
              exact ⟨rfl, by show nI c' = nI wd; rw [e2]⟩
            · rw [q_u1_n _ _ hil, List.getD_eq_getElem?_getD, List.getElem?_append_left (by omega), ← List.getD_eq_getElem?_getD]
              exact hF i (by omega)
        · rw [if_neg c9] at tl
          simp only [c9, if_false] at hln
          refine ⟨_, R2, X2, D3, n2, m2, d22, d23, tl, fr q_IA_f, fun j j1 j2 => r3 j j1 j2, r4, by omega, r6, r7, r8, S3, K3, ?_⟩
          rw [hln]
          exact ⟨q_ft_2.1, q_ft_2.2, by decide, by decide, va3 q_IA_f⟩
    · -- nothing on the line
      have hLf : L = false := by
        cases hLb : L with
        | false => rfl
        | true => exact absurd (Or.inl hLb) hre
      have s0 : q_srt B l h = 0 := Decidable.byContradiction fun h9 => hre (Or.inr h9)
      have th := hL0 hLf
      have to136 : F_X8_readLine_72 κ (some (b + 21)) (nI t) (q_b (q_isl l t)) (nI h) (q_H b (I, R, X, Y, Z) M O D, n, m) = F_X8_readLine_136 κ (some (b + 21)) (q_H b (I1, R, X, Y, Z) M O D, n, m) := by
        rw [← hL, hLf]
        have z0 : (¬ q_b false = 0) = False := eq_false (fun h9 => h9 rfl)
        have ns : (nI (q_srt B l h) = 0) = True := eq_true (by rw [s0]; rfl)
        simp (disch := first | rfl | omega | decide | exact Nat.le_of_ble_eq_true rfl) only [↓q_br, q_rt, q_rz, q_gd, q_ca, ↓reduceIte, F_X8_readLine_72, ↓q_gA_21_0, ↓q_is_21, ↓q_pI_14_1, ↓q_pI_14_1, ← hI1, ↓q_is_21, srt, z0, ns]
      rw [to136]
      have st0 : q_st1 B l z h = .inr (0, h, 0) := by
        unfold q_st1
        unfold q_srt at s0
        split at s0
        · omega
        · rename_i h9
          rw [if_neg h9]
          split at s0
          · split at s0 <;> omega
          · rename_i h10
            rw [if_neg h10]
      rw [st0] at hln
      have tl := tail I1 R X D (n, m) h hT1 a1 a2 hhl.2
      by_cases c9 : (q_tok l h).1 = 4 ∨ (q_tok l h).1 = 5
      · rw [if_pos c9] at tl
        simp only [c9, if_true] at hln
        refine ⟨_, R, X, D, n, m, c22, c23, tl, fun j j1 _ _ => by rw [q_u2_n _ _ _ j1, ia1 j j1], fun _ _ _ => rfl, fun _ _ => rfl, Nat.le_refl _, Nat.le_refl _, by omega, by omega, hS, hK, ?_⟩
        rw [hln]
        have rea : q_rea (0, t, h, h, 0) = false := by
          unfold q_rea q_lab
          simp [th]
        refine ⟨by rw [q_u2_s, q_u1_s], by rw [q_u2_s, q_u1_n _ _ (by decide), a2], by rw [q_u2_s, q_u1_n _ _ (by decide), hI1, q_u2_s, q_u1_n _ _ (by decide)], fun _ => ⟨rfl, rfl, rfl, rfl⟩, aa, xx, ?_, ?_⟩
        · rw [if_neg (by rw [rea]; decide)]
          have iab : q_IA I (q_u2 I1 14 1 (nI (h + 1))) := q_IA_t ia1 q_IA_u
          exact ⟨q_AL_mo hP.1 (Nat.le_refl _) (by rw [iab 22 (by decide)]) rfl (fun _ _ _ => rfl), q_AL_mo hP.2.1 (Nat.le_refl _) (by rw [iab 23 (by decide)]) rfl (fun _ _ _ => rfl), hP.2.2⟩
        · rw [if_neg (by rw [rea]; decide)]
          exact hF
      · rw [if_neg c9] at tl
        simp only [c9, if_false] at hln
        refine ⟨_, R, X, D, n, m, c22, c23, tl, fun j j1 _ _ => by rw [q_IA_f j j1, ia1 j j1], fun _ _ _ => rfl, fun _ _ => rfl, Nat.le_refl _, Nat.le_refl _, by omega, by omega, hS, hK, ?_⟩
        rw [hln]
        exact ⟨q_ft_2.1, q_ft_2.2, by decide, by decide, VAI (VA hP) (q_IA_t ia1 q_IA_f)⟩
end QRJ
