theorem q_UQ_a {B : Nat → Int32} {l : List q_Tok} {LT : List Nat} {t : Nat} (h : q_UQ B l LT) (hn : q_lk B l LT t = none) : q_UQ B l (LT ++ [t]) := by
  intro i j hij hj
  rw [List.length_append, List.length_singleton] at hj
  rw [q_getD_a (by omega)]
  by_cases hjl : j = LT.length
  · subst hjl
    rw [q_getD_e]
    unfold q_lk at hn
    have := q_fi_n _ _ hn i (by omega) (by omega)
    exact of_decide_eq_false this
  · rw [q_getD_a (by omega)]
    exact h i j hij (by omega)
theorem q_ln1_lab {B : Nat → Int32} {l : List q_Tok} {z t : Nat} {LT : List Nat} {x : q_Lin} (hwf : ∀ i, i < l.length → (q_tok l i).1 ≤ 4) (h : q_ln1 B l z LT t = .inr x) (ht : t ≤ l.length) (hl : q_lab x = true) : q_lk B l LT t = none ∧ t < l.length ∧ (q_tok l t).1 = 1 := by
  obtain ⟨b1, b2, -⟩ := q_ln1_b hwf h ht
  have hi : q_isl l t = true := by
    cases hi : q_isl l t with
    | true => rfl
    | false =>
      unfold q_hd at b2
      rw [hi, if_neg (by decide)] at b2
      unfold q_lab at hl
      rw [b1, b2] at hl
      simp at hl
  have hi2 := hi
  unfold q_isl at hi2
  rw [Bool.and_eq_true, decide_eq_true_eq] at hi2
  refine ⟨?_, q_tok_lt (by omega), hi2.1⟩
  unfold q_ln1 at h
  split at h
  · cases h
  · rename_i hd
    cases hk : q_lk B l LT t with
    | none => rfl
    | some k => rw [hi, hk] at hd; exact absurd rfl hd
/-- what is true of the labels while lines are read -/
def q_LG (B : Nat → Int32) (l : List q_Tok) (LT : List Nat) : Prop := q_UQ B l LT ∧ ∀ k, k < LT.length → LT.getD k 0 < l.length
theorem q_LG_a {B : Nat → Int32} {l : List q_Tok} {z t : Nat} {Ls : List q_Lin} {x : q_Lin} (hwf : ∀ i, i < l.length → (q_tok l i).1 ≤ 4) (hG : q_LG B l (q_LT Ls)) (h : q_ln1 B l z (q_LT Ls) t = .inr x) (ht : t ≤ l.length) : q_LG B l (q_LT (if q_rea x = true then Ls ++ [x] else Ls)) := by
  obtain ⟨b1, -⟩ := q_ln1_b hwf h ht
  split
  · rw [q_LT_a]
    split
    · rename_i hl
      obtain ⟨l1, l2, -⟩ := q_ln1_lab hwf h ht hl
      rw [b1]
      refine ⟨q_UQ_a hG.1 l1, fun k hk => ?_⟩
      rw [List.length_append, List.length_singleton] at hk
      by_cases hkl : k = (q_LT Ls).length
      · rw [hkl, q_getD_e]; exact l2
      · rw [q_getD_a (by omega)]; exact hG.2 k (by omega)
    · exact hG
  · exact hG
def q_LP (B : Nat → Int32) (l : List q_Tok) (z : Nat) (x : q_Lin) : Prop := q_rea x = true ∧ ∃ LT t, t ≤ l.length ∧ q_ln1 B l z LT t = .inr x
theorem q_lnc_p {B : Nat → Int32} {l : List q_Tok} {z : Nat} (hwf : ∀ i, i < l.length → (q_tok l i).1 ≤ 4) : ∀ f t Ls G, q_lnc B l z f t Ls = .inr G → q_LG B l (q_LT Ls) → (∀ x ∈ Ls, q_LP B l z x) → 2 * Ls.length ≤ t → t ≤ l.length + 1 → q_LG B l (q_LT G) ∧ (∀ x ∈ G, q_LP B l z x) ∧ 2 * G.length ≤ l.length + 1 := by
  intro f
  induction f with
  | zero =>
    intro t Ls G h hG hP h2 ht
    cases h
    exact ⟨hG, hP, by omega⟩
  | succ f ih =>
    intro t Ls G h hG hP h2 ht
    rw [q_lnc] at h
    split at h
    · cases h
      exact ⟨hG, hP, by omega⟩
    · rename_i htl
      split at h
      · cases h
      · rename_i x hx
        obtain ⟨b1, b2, b3, b4, b5, b6, b7, -⟩ := q_ln1_b hwf hx (by omega)
        refine ih _ _ _ h (q_LG_a hwf hG hx (by omega)) ?_ ?_ (by omega)
        · intro y hy
          split at hy
          · rename_i hr
            rw [List.mem_append, List.mem_singleton] at hy
            rcases hy with hy | rfl
            · exact hP y hy
            · exact ⟨hr, _, t, by omega, hx⟩
          · exact hP y hy
        · split
          · rename_i hr
            rw [List.length_append, List.length_singleton]
            have := b7 hr
            omega
          · omega
section QRK
variable {κ : Nat → Nat} {b : Nat} {B : Nat → Int32} {l : List q_Tok} {zt : Nat} {Y : Nat → Nat → Int64} {Z : Nat → Nat → Option Nat} {M : q_MT} {O : Nat → Int64}
theorem q_TC_X {I I' : Nat → Nat → Int32} {X X' : Nat → Nat → Int32} (h : q_TC B l zt I X Y) (hI : I' 2 = I 2) (hX : ∀ j, j ≠ 24 → X' j = X j) : q_TC B l zt I' X' Y := by
  obtain ⟨q1, q2, q3, q4, q5, q6, q7⟩ := h
  refine ⟨by rw [hI, q1], q2, q3, ?_, q5, by rw [hX 3 (by decide)]; exact q6, q7⟩
  obtain ⟨w1, w2⟩ := q4
  exact ⟨by rw [hX 4 (by decide), hX 5 (by decide), hX 6 (by decide)]; exact w1, by rw [hX 4 (by decide)]; exact w2⟩
/-- the class reads the lines -/
theorem q_read_10 {D0 : q_Mem} {z n0 : Nat} (hz : z ≤ 32) (hn0 : b + 66 < n0) : ∀ f fuel cn t (I : Nat → Nat → Int32) (R : Nat → Nat → Option Nat) (X : Nat → Nat → Int32) (D : q_Mem) (n m c22 c23 : Nat) (Ls : List q_Lin) (aa : Nat → Nat) (xx : Nat → q_Lx), q_PR κ b n0 n D I R X B l Ls aa xx c22 c23 → q_F0 Ls xx → n0 ≤ n → q_TC B l zt I X Y → q_Kp κ b D → q_S8 n0 D0 D → I 14 1 = nI t → I 14 2 = 0 → I 8 2 = nI z → q_LG B l (q_LT Ls) → l.length + 1 < t + f → f < fuel → cn ≤ t → t ≤ l.length + 1 → 2 * Ls.length ≤ t →
    ∃ I' R' X' D' n' m' d22 d23, F_X8_read_10 κ fuel (some (b + 21)) (nI cn) (q_H b (I, R, X, Y, Z) M O D, n, m) = F_X8_read_41 κ (some (b + 21)) (q_H b (I', R', X', Y, Z) M O D', n', m') ∧ (∀ j, j ≠ 14 → j ≠ 22 → j ≠ 23 → I' j = I j) ∧ (∀ j, j ≠ 22 → j ≠ 23 → R' j = R j) ∧ (∀ j, j ≠ 24 → X' j = X j) ∧ n ≤ n' ∧ m ≤ m' ∧ n' + c22 + c23 + t ≤ n + (l.length + 3) + d22 + d23 ∧ m' + 4 * (c22 + c23) + 7 * t ≤ m + 7 * (l.length + 3) + 4 * (d22 + d23) ∧ q_S8 n0 D0 D' ∧ q_Kp κ b D' ∧ (match q_lnc B l z f t Ls with
      | .inl (k, p) => I' 14 2 = nI k ∧ I' 14 3 = nI p ∧ 1 ≤ k ∧ k ≤ 8 ∧ q_VA κ b n' D' I' R' d22 d23
      | .inr G => I' 14 2 = 0 ∧ I' 14 3 = I 14 3 ∧ ∃ aa' xx', q_PR κ b n0 n' D' I' R' X' B l G aa' xx' d22 d23 ∧ q_F0 G xx') := by
  intro f
  induction f with
  | zero => intro fuel cn t I R X D n m c22 c23 Ls aa xx hP hF hn hT hK hS h1 h2 h8 hG hf hfu hc ht hL; omega
  | succ f ih =>
    intro fuel cn t I R X D n m c22 c23 Ls aa xx hP hF hn hT hK hS h1 h2 h8 hG hf hfu hc ht hL
    have hzt := hT.2.2.1
    have hl := hT.2.1
    have h6 := hT.1
    have hwf : ∀ i, i < l.length → (q_tok l i).1 ≤ 4 := fun i hi => (hT.2.2.2.2.1 i _ (q_tok_s hi)).1
    obtain ⟨g, rfl⟩ : ∃ g, fuel = g + 1 := ⟨fuel - 1, by omega⟩
    have dn := q_isDone (κ := κ) (b := b) (R := R) (X := X) (Y := Y) (Z := Z) (M := M) (O := O) (D := D) (s := (n, m)) h1 h6 (by omega) (by omega)
    rw [decide_eq_true h2] at dn
    rw [q_lnc]
    by_cases htl : l.length ≤ t
    · rw [if_pos htl]
      rw [decide_eq_true htl] at dn
      refine ⟨I, R, X, D, n, m, c22, c23, ?_, fun _ _ _ _ => rfl, fun _ _ _ => rfl, fun _ _ => rfl, Nat.le_refl _, Nat.le_refl _, by omega, by omega, hS, hK, h2, rfl, aa, xx, hP, hF⟩
      rw [F_X8_read_10]
      by_cases hlt : nI l.length < nI cn
      · simp (disch := first | rfl | omega | decide | exact Nat.le_of_ble_eq_true rfl) only [↓q_br, q_rt, q_rz, q_gd, q_ca, ↓reduceIte, F_X8_read_10B, ↓q_gA_21_0, ↓q_gA_21_1, ↓q_gI_2_6, ↓q_is_14, ↓q_is_21, ↓q_gI_2_6, h6, hlt]
      · simp (disch := first | rfl | omega | decide | exact Nat.le_of_ble_eq_true rfl) only [↓q_br, q_rt, q_rz, q_gd, q_ca, ↓reduceIte, F_X8_read_10B, ↓q_gA_21_0, ↓q_gA_21_1, ↓q_gI_2_6, ↓q_is_14, ↓q_is_21, ↓q_gI_2_6, h6, hlt, ↓q_is_14, dn, Bool.not_true, Bool.false_or, q_b_0, Bool.true_eq_false, not_false_eq_true]
    · rw [if_neg htl]
      rw [decide_eq_false htl] at dn
      have hlt : (nI l.length < nI cn) = False := eq_false (nI_nlt (by omega) (by omega))
      obtain ⟨I1, R1, X1, D1, n1, m1, d22, d23, r1, r2, r3, r4, r5, r6, r7, r8, r9, r10, r11⟩ := q_readLine (κ := κ) (b := b) (Z := Z) (M := M) (O := O) (m := m) hz hP hF hn0 hn hT hK hS h1 h2 h8 (by omega : t < l.length) (by omega) hG.2 hG.1
      have step : F_X8_read_10 κ (g + 1) (some (b + 21)) (nI cn) (q_H b (I, R, X, Y, Z) M O D, n, m) = F_X8_read_10 κ g (some (b + 21)) (nI (cn + 1)) (q_H b (I1, R1, X1, Y, Z) M O D1, n1, m1) := by
        rw [F_X8_read_10]
        simp (disch := first | rfl | omega | decide | exact Nat.le_of_ble_eq_true rfl) only [↓q_br, q_rt, q_rz, q_gd, q_ca, ↓reduceIte, F_X8_read_10B, ↓q_gA_21_0, ↓q_gA_21_1, ↓q_gI_2_6, ↓q_is_14, ↓q_is_21, ↓q_gI_2_6, h6, hlt, ↓q_is_14, dn, Bool.not_true, Bool.or_self, q_b_0, not_true_eq_false, ↓q_is_21, r1, nI_1]
      rw [step]
      cases hq : q_ln1 B l z (q_LT Ls) t with
      | inl e =>
        obtain ⟨k, p⟩ := e
        rw [hq] at r11
        obtain ⟨e1, e2, e3, e4, e5⟩ := r11
        obtain ⟨g2, rfl⟩ : ∃ g2, g = g2 + 1 := ⟨g - 1, by omega⟩
        have ne : ¬ I1 14 2 = 0 := by rw [e1]; exact nI_ne0 (by omega) (by omega)
        have h61 : I1 2 6 = nI l.length := by rw [r2 2 (by decide) (by decide) (by decide), h6]
        refine ⟨I1, R1, X1, D1, n1, m1, d22, d23, ?_, r2, r3, r4, r5, r6, by omega, by omega, r9, r10, e1, e2, e3, e4, e5⟩
        have hf := q_hasFault (κ := κ) (b := b) (I := I1) (R := R1) (X := X1) (Y := Y) (Z := Z) (M := M) (O := O) (D := D1) (s := (n1, m1))
        rw [decide_eq_false ne] at hf
        have dn1 : F_X9_isDone κ (some (b + 14)) (q_H b (I1, R1, X1, Y, Z) M O D1, n1, m1) = some (.inl 1, (q_H b (I1, R1, X1, Y, Z) M O D1, n1, m1)) := by
          simp (disch := first | rfl | omega | decide | exact Nat.le_of_ble_eq_true rfl) only [↓q_br, q_rt, q_rz, q_gd, q_ca, ↓reduceIte, F_X9_isDone, F_X9_isDone_21, F_X9_isDone_26, ↓q_gA_14_0, ↓q_gI_14_1, ↓q_gI_2_6, ↓q_is_14, ↓q_is_14, hf, Bool.not_false, q_b_0, Bool.true_eq_false, not_false_eq_true, or_true]
        have one0 : (¬ (1 : Int32) = 0) = True := eq_true (by decide)
        rw [F_X8_read_10]
        by_cases hlt2 : nI l.length < nI (cn + 1)
        · simp (disch := first | rfl | omega | decide | exact Nat.le_of_ble_eq_true rfl) only [↓q_br, q_rt, q_rz, q_gd, q_ca, ↓reduceIte, F_X8_read_10B, ↓q_gA_21_0, ↓q_gA_21_1, ↓q_gI_2_6, ↓q_is_14, ↓q_is_21, ↓q_gI_2_6, h61, hlt2]
        · simp (disch := first | rfl | omega | decide | exact Nat.le_of_ble_eq_true rfl) only [↓q_br, q_rt, q_rz, q_gd, q_ca, ↓reduceIte, F_X8_read_10B, ↓q_gA_21_0, ↓q_gA_21_1, ↓q_gI_2_6, ↓q_is_14, ↓q_is_21, ↓q_gI_2_6, h61, hlt2, ↓q_is_14, dn1, one0]
      | inr x =>
        rw [hq] at r11
        obtain ⟨e1, e2, e23, e3, aa1, xx1, e4, e5⟩ := r11
        obtain ⟨b1, b2, b3, b4, b5, b6, b7, -⟩ := q_ln1_b hwf hq (by omega)
        have gl := q_LG_a hwf hG hq (by omega)
        have lenb : 2 * (if q_rea x = true then Ls ++ [x] else Ls).length ≤ q_sE x + 1 := by
          split
          · rename_i hr
            have := b7 hr
            rw [List.length_append, List.length_singleton]
            omega
          · omega
        obtain ⟨I2, R2, X2, D2, n2, m2, f22, f23, s1, s2, s3, s4, s5, s6, s7, s8, s9, s10, s11⟩ := ih g (cn + 1) (q_sE x + 1) I1 R1 X1 D1 n1 m1 d22 d23 _ aa1 xx1 e4 e5 (by omega) (q_TC_X hT (r2 2 (by decide) (by decide) (by decide)) r4) r10 r9 e1 e2 (by rw [r2 8 (by decide) (by decide) (by decide), h8]) gl (by omega) (by omega) (by omega) (by omega) lenb
        have bud : n1 + c22 + c23 + t ≤ n + (q_sE x + 1) + d22 + d23 ∧ m1 + 4 * (c22 + c23) + 7 * t ≤ m + 7 * (q_sE x + 1) + 4 * (d22 + d23) := by
          cases hr : q_rea x with
          | true =>
            have := b7 hr
            omega
          | false =>
            obtain ⟨x1, x2, x3, x4⟩ := e3 hr
            omega
        rw [e23] at s11
        refine ⟨I2, R2, X2, D2, n2, m2, f22, f23, s1, fun j j1 j2 j3 => by rw [s2 j j1 j2 j3, r2 j j1 j2 j3], fun j j1 j2 => by rw [s3 j j1 j2, r3 j j1 j2], fun j j1 => by rw [s4 j j1, r4 j j1], by omega, by omega, by omega, by omega, s9, s10, s11⟩
end QRK
