section QST
variable {κ : Nat → Nat} {b : Nat} {B : Nat → Int32} {l : List q_Tok} {zt t : Nat} {R : Nat → Nat → Option Nat} {X : Nat → Nat → Int32} {Y : Nat → Nat → Int64} {Z : Nat → Nat → Option Nat} {M : q_MT} {O : Nat → Int64} {s : Nat × Nat}
theorem q_num1_c {l : List q_Tok} {t hi : Nat} : (∃ k, q_num1 l t hi = .inl (k, t) ∧ (k = 1 ∧ ¬ (q_tok l t).1 = 2 ∨ k = 3 ∧ (q_tok l t).1 = 2 ∧ ¬ (0 ≤ q_nv l t ∧ q_nv l t ≤ lN hi))) ∨ (q_num1 l t hi = .inr (q_vn l t) ∧ (q_tok l t).1 = 2 ∧ 0 ≤ q_nv l t ∧ q_nv l t ≤ lN hi) := by
  unfold q_num1
  by_cases h1 : (q_tok l t).1 = 2
  · rw [if_pos h1]
    by_cases h2 : 0 ≤ q_nv l t ∧ q_nv l t ≤ lN hi
    · rw [if_pos h2]
      exact Or.inr ⟨rfl, h1, h2⟩
    · rw [if_neg h2]
      exact Or.inl ⟨3, rfl, Or.inr ⟨rfl, h1, h2⟩⟩
  · rw [if_neg h1]
    exact Or.inl ⟨1, rfl, Or.inl ⟨rfl, h1⟩⟩
theorem q_tn1 {I : Nat → Nat → Int32} {D : q_Mem} {hi : Nat} {w : Int64} (h : q_TC B l zt I X Y) (ha : I 14 1 = nI t) (ht : t < l.length + 3) (hw : w = lN hi) : (∃ v k, q_num1 l t hi = .inl (k, t) ∧ 1 ≤ k ∧ k ≤ 3 ∧ F_X9_takeNumber κ (some (b + 14)) 0 w (q_H b (I, R, X, Y, Z) M O D, s) = some (.inl v, (q_H b (q_ft I (nI k) (nI t), R, X, Y, Z) M O D, s))) ∨ (∃ v u, q_num1 l t hi = .inr u ∧ t < l.length ∧ F_X9_takeNumber κ (some (b + 14)) 0 w (q_H b (I, R, X, Y, Z) M O D, s) = some (.inl v, (q_H b (q_u2 I 14 1 (nI (t + 1)), R, X, Y, Z) M O D, s))) := by
  subst hw
  have e := q_takeNumber (κ := κ) (b := b) (R := R) (Z := Z) (M := M) (O := O) (D := D) (s := s) (lo := 0) (hi := lN hi) h ha ht
  obtain ⟨v, hv⟩ : ∃ v, v = (if (q_tok l t).1 = 2 ∧ 0 ≤ q_nv l t ∧ q_nv l t ≤ lN hi then q_nv l t else -1) := ⟨_, rfl⟩
  rw [← hv] at e
  rcases q_num1_c (l := l) (t := t) (hi := hi) with ⟨k, h1, h2⟩ | ⟨h1, h2, h3⟩
  · refine Or.inl ⟨v, k, h1, ?_, ?_, ?_⟩
    · rcases h2 with h2 | h2 <;> omega
    · rcases h2 with h2 | h2 <;> omega
    · rw [e]
      rcases h2 with ⟨rfl, h3⟩ | ⟨rfl, h3, h4⟩
      · rw [if_neg (c := (q_tok l t).1 = 2) h3]
        rfl
      · rw [if_pos (c := (q_tok l t).1 = 2) h3, if_neg (c := 0 ≤ q_nv l t ∧ q_nv l t ≤ lN hi) h4]
        rfl
  · refine Or.inr ⟨v, q_vn l t, h1, q_tok_lt (by omega), ?_⟩
    rw [e, if_pos (c := (q_tok l t).1 = 2) h2, if_pos (c := 0 ≤ q_nv l t ∧ q_nv l t ≤ lN hi) h3]
theorem q_skip_8 {I : Nat → Nat → Int32} {D : q_Mem} (h : q_TC B l zt I X Y) : ∀ d fuel p, p + d = l.length → d < fuel → F_X8_skipToLineEnd_8 κ fuel (some (b + 21)) (nI p) (q_H b (I, R, X, Y, Z) M O D, s) = some (.inl (), (q_H b (q_u2 I 14 1 (nI (q_to (fun i => !decide ((q_tok l i).1 = 4)) d p)), R, X, Y, Z) M O D, s)) := by
  have hz := h.2.2.1
  have hl := h.2.1
  have h6 := h.1
  intro d
  induction d with
  | zero =>
    intro fuel p h1 h2
    obtain ⟨f, rfl⟩ : ∃ f, fuel = f + 1 := ⟨fuel - 1, by omega⟩
    have h3 : l.length ≤ p := by omega
    rw [F_X8_skipToLineEnd_8, q_to]
    simp (disch := first | rfl | omega | decide | exact Nat.le_of_ble_eq_true rfl) only [↓q_br, q_rt, q_rz, q_gd, q_ca, ↓reduceIte, F_X8_skipToLineEnd_8B, F_X8_skipToLineEnd_38, ↓q_gA_21_0, ↓q_gA_21_1, ↓q_gA_2_1, ↓q_gI_2_6, ↓q_lI_4, ↓q_pI_14_1, ↓q_gI_2_6, ↓q_pI_14_1, h6, nI_leI, h3]
  | succ d ih =>
    intro fuel p h1 h2
    obtain ⟨f, rfl⟩ : ∃ f, fuel = f + 1 := ⟨fuel - 1, by omega⟩
    have h3 : ¬ l.length ≤ p := by omega
    have p6 : p < 6003 := by omega
    have ty : (X 4 p = (4 : Int32)) = ((q_tok l p).1 = 4) := propext (q_TC_is (c := 4) h (by omega) (by decide))
    have ihk := ih f (p + 1) (by omega) (by omega)
    rw [F_X8_skipToLineEnd_8, q_to]
    by_cases h4 : (q_tok l p).1 = 4
    · have t4 : ((q_tok l p).1 = 4) = True := eq_true h4
      simp (disch := first | rfl | omega | decide | exact Nat.le_of_ble_eq_true rfl) only [↓q_br, q_rt, q_rz, q_gd, q_ca, ↓reduceIte, F_X8_skipToLineEnd_8B, F_X8_skipToLineEnd_38, ↓q_gA_21_0, ↓q_gA_21_1, ↓q_gA_2_1, ↓q_gI_2_6, ↓q_lI_4, ↓q_pI_14_1, ↓q_gI_2_6, ↓q_gA_2_1, ↓q_lI_4, ↓q_pI_14_1, h6, nI_leI, h3, ty, t4, decide_true, Bool.not_true, Bool.false_eq_true]
    · have t4 : ((q_tok l p).1 = 4) = False := eq_false h4
      simp (disch := first | rfl | omega | decide | exact Nat.le_of_ble_eq_true rfl) only [↓q_br, q_rt, q_rz, q_gd, q_ca, ↓reduceIte, F_X8_skipToLineEnd_8B, F_X8_skipToLineEnd_38, ↓q_gA_21_0, ↓q_gA_21_1, ↓q_gA_2_1, ↓q_gI_2_6, ↓q_lI_4, ↓q_pI_14_1, ↓q_gI_2_6, ↓q_gA_2_1, ↓q_lI_4, h6, nI_leI, h3, ty, t4, nI_1, ihk, decide_false, Bool.not_false]
theorem q_highest {I : Nat → Nat → Int32} {D : q_Mem} {z : Nat} (h2 : I 8 2 = nI z) (hz : z ≤ 32) : F_X5_highestWord κ (some (b + 8)) (q_H b (I, R, X, Y, Z) M O D, s) = some (.inl (lN (2 ^ z - 1)), (q_H b (I, R, X, Y, Z) M O D, s)) := by
  have sh := q_shlz hz
  have e : lN (2 ^ z) - 1 = lN (2 ^ z - 1) := lN_sub (b := 1) (Nat.pos_of_ne_zero (by simp))
  simp (disch := first | rfl | omega | decide | exact Nat.le_of_ble_eq_true rfl) only [↓q_br, q_rt, q_rz, q_gd, q_ca, ↓reduceIte, F_X5_highestWord, ↓q_gI_8_2, h2, sh, e]
/-- what a statement leaves as it is -/
def q_IA (I I' : Nat → Nat → Int32) : Prop := ∀ j, j ≠ 14 → I' j = I j
theorem q_IA_t {I I' I'' : Nat → Nat → Int32} (h : q_IA I I') (h' : q_IA I' I'') : q_IA I I'' := fun j hj => by rw [h' j hj, h j hj]
theorem q_IA_u {I : Nat → Nat → Int32} {k : Nat} {v : Int32} : q_IA I (q_u2 I 14 k v) := fun j hj => q_u2_n _ _ _ hj
theorem q_IA_f {I : Nat → Nat → Int32} {k p : Int32} : q_IA I (q_ft I k p) := fun j hj => by
  show q_u2 (q_u2 I 14 2 k) 14 3 p j = I j
  rw [q_u2_n _ _ _ hj, q_u2_n _ _ _ hj]
theorem q_ft_2 {I : Nat → Nat → Int32} {k p : Int32} : q_ft I k p 14 2 = k ∧ q_ft I k p 14 3 = p := by
  show q_u2 (q_u2 I 14 2 k) 14 3 p 14 2 = k ∧ q_u2 (q_u2 I 14 2 k) 14 3 p 14 3 = p
  exact ⟨by rw [q_u2_s, q_u1_n _ _ (by decide), q_u2_s, q_u1_s], by rw [q_u2_s, q_u1_s]⟩
theorem q_words_33 {z a : Nat} {v0 v1 v2 v3 v4 v5 v7 : Value} (hz : z ≤ 32) (ha : b + 66 < a) : ∀ f fuel cn t c (I : Nat → Nat → Int32) (D : q_Mem), q_TC B l zt I X Y → I 14 1 = nI t → I 14 2 = 0 → I 8 2 = nI z → D a = some (.inr (.inl (6, [v0, v1, v2, v3, v4, v5, .int (nI c), v7]))) → t < l.length → 2 * cn ≤ t → c ≤ cn → l.length < t + f → f + 1 < fuel → ∃ I' c', q_IA I I' ∧ F_X8_readWords_33 κ fuel (some (b + 21)) (some a) 1 (nI cn) (q_H b (I, R, X, Y, Z) M O D, s) = some (.inl (), (q_H b (I', R, X, Y, Z) M O (q_up D a (.inr (.inl (6, [v0, v1, v2, v3, v4, v5, .int (nI c'), v7])))), s)) ∧ (match q_nms l (2 ^ z - 1) f (t + 1) c with
    | .inl (k, p) => I' 14 2 = nI k ∧ I' 14 3 = nI p ∧ 1 ≤ k ∧ k ≤ 8
    | .inr (c2, t2) => c' = c2 ∧ I' 14 1 = nI t2 ∧ I' 14 2 = 0 ∧ I' 14 3 = I 14 3) := by
  intro f
  induction f with
  | zero => intro fuel cn t c I D hT h1 h2 h8 hD ht hc hcc hf hfu; omega
  | succ f ih =>
    intro fuel cn t c I D hT h1 h2 h8 hD ht hc hcc hf hfu
    have hzt := hT.2.2.1
    have hl := hT.2.1
    have h6 := hT.1
    obtain ⟨g, rfl⟩ : ∃ g, fuel = g + 1 := ⟨fuel - 1, by omega⟩
    obtain ⟨g2, rfl⟩ : ∃ g2, g = g2 + 1 := ⟨g - 1, by omega⟩
    have cn1 : (nI l.length < nI cn) = False := eq_false (nI_nlt (by omega) (by omega))
    have one0 : ((1 : Int32) = 0) = False := eq_false (by decide)
    obtain ⟨I1, hI1⟩ : ∃ I1, I1 = q_u2 I 14 1 (nI (t + 1)) := ⟨_, rfl⟩
    have a1 : I1 14 1 = nI (t + 1) := by rw [hI1, q_u2_s, q_u1_s]
    have a2 : I1 14 2 = 0 := by rw [hI1, q_u2_s, q_u1_n _ _ (by decide), h2]
    have a8 : I1 8 2 = nI z := by rw [hI1, q_u2_n _ _ _ (by decide), h8]
    have hT1 : q_TC B l zt I1 X Y := q_TC_I hT (by rw [hI1, q_u2_n _ _ _ (by decide)])
    have hw := q_highest (κ := κ) (b := b) (R := R) (X := X) (Y := Y) (Z := Z) (M := M) (O := O) (D := D) (s := s) a8 hz
    have eD : b + 66 < a ∧ D a = some (.inr (.inl (6, [v0, v1, v2, v3, v4, v5, .int (nI c), v7]))) := ⟨ha, hD⟩
    obtain ⟨D1, hD1⟩ : ∃ D1, D1 = q_up D a (.inr (.inl (6, [v0, v1, v2, v3, v4, v5, .int (nI (c + 1)), v7]))) := ⟨_, rfl⟩
    have ia : q_IA I I1 := by rw [hI1]; exact q_IA_u
    have stop : ∀ (I2 : Nat → Nat → Int32) (cn' : Nat), I2 2 6 = nI l.length → F_X8_readWords_33 κ (g2 + 1) (some (b + 21)) (some a) 0 (nI cn') (q_H b (I2, R, X, Y, Z) M O D1, s) = some (.inl (), (q_H b (I2, R, X, Y, Z) M O D1, s)) := by
      intro I2 cn' h26
      rw [F_X8_readWords_33]
      by_cases hlt : nI l.length < nI cn'
      · simp (disch := first | rfl | omega | decide | exact Nat.le_of_ble_eq_true rfl) only [↓q_br, q_rt, q_rz, q_gd, q_ca, ↓reduceIte, F_X8_readWords_33B, F_X8_readWords_121, ↓q_gA_21_0, ↓q_gA_21_1, ↓q_gA_21_2, ↓q_gI_14_1, ↓q_gI_2_6, ↓q_is_14, ↓q_is_8, ↓q_pI_14_1, ↓q_gI_2_6, h26, hlt]
      · simp (disch := first | rfl | omega | decide | exact Nat.le_of_ble_eq_true rfl) only [↓q_br, q_rt, q_rz, q_gd, q_ca, ↓reduceIte, F_X8_readWords_33B, F_X8_readWords_121, ↓q_gA_21_0, ↓q_gA_21_1, ↓q_gA_21_2, ↓q_gI_14_1, ↓q_gI_2_6, ↓q_is_14, ↓q_is_8, ↓q_pI_14_1, ↓q_gI_2_6, h26, hlt]
    -- up to the count of the words
    have front : ∀ (I2 : Nat → Nat → Int32) (v : Int64), F_X9_takeNumber κ (some (b + 14)) 0 (lN (2 ^ z - 1)) (q_H b (I1, R, X, Y, Z) M O D, s) = some (.inl v, (q_H b (I2, R, X, Y, Z) M O D, s)) → F_X8_readWords_33 κ (g2 + 1 + 1) (some (b + 21)) (some a) 1 (nI cn) (q_H b (I, R, X, Y, Z) M O D, s) = (if I2 14 2 = 0 then q_ca (F_X9_isAt κ (some (b + 14)) 44) (fun v103 => q_br (v103 = 0) (F_X8_readWords_113 κ (F_X8_readWords_33 κ (g2 + 1)) (some (b + 21)) (some a) (nI cn)) (F_X8_readWords_114 κ (F_X8_readWords_33 κ (g2 + 1)) (some (b + 21)) (some a) (nI cn) 1)) (q_H b (I2, R, X, Y, Z) M O D1, s) else F_X8_readWords_113 κ (F_X8_readWords_33 κ (g2 + 1)) (some (b + 21)) (some a) (nI cn) (q_H b (I2, R, X, Y, Z) M O D1, s)) := by
      intro I2 v hv
      have hf := q_hasFault (κ := κ) (b := b) (I := I2) (R := R) (X := X) (Y := Y) (Z := Z) (M := M) (O := O) (D := D1) (s := s)
      rw [F_X8_readWords_33]
      simp (disch := first | rfl | omega | decide | exact Nat.le_of_ble_eq_true rfl) only [↓q_br, q_rt, q_rz, q_gd, q_ca, ↓reduceIte, F_X8_readWords_33B, ↓q_gA_21_0, ↓q_gA_21_1, ↓q_gA_21_2, ↓q_gI_14_1, ↓q_gI_2_6, ↓q_is_14, ↓q_is_8, ↓q_pI_14_1, ↓q_gI_2_6, h6, cn1, one0, ↓q_gI_14_1, h1, nI_1, ↓q_pI_14_1, ← hI1, ↓q_is_8, hw, ↓q_is_14, hv, qd_I eD (k := 6) (v := nI c) rfl]
      rw [qd_W eD (by simp)]
      simp only [List.set_cons_succ, List.set_cons_zero, ← hD1]
      by_cases hI2 : I2 14 2 = 0
      · rw [if_pos hI2]
        rw [decide_eq_true hI2] at hf
        simp (disch := first | rfl | omega | decide | exact Nat.le_of_ble_eq_true rfl) only [↓q_br, q_rt, q_rz, q_gd, q_ca, ↓reduceIte, ↓q_gA_21_0, ↓q_is_14, hf, Bool.not_true, q_b_0, not_true_eq_false]
      · rw [if_neg hI2]
        rw [decide_eq_false hI2] at hf
        simp (disch := first | rfl | omega | decide | exact Nat.le_of_ble_eq_true rfl) only [↓q_br, q_rt, q_rz, q_gd, q_ca, ↓reduceIte, ↓q_gA_21_0, ↓q_is_14, hf, Bool.not_false, q_b_0, Bool.true_eq_false, not_false_eq_true]
    rcases q_tn1 (κ := κ) (b := b) (R := R) (Z := Z) (M := M) (O := O) (D := D) (s := s) (hi := 2 ^ z - 1) hT1 a1 (by omega) rfl with ⟨v, k, n1, n2, n3, n4⟩ | ⟨v, u, n1, n2, n4⟩
    · -- no such number
      obtain ⟨I2, hI2⟩ : ∃ I2, I2 = q_ft I1 (nI k) (nI (t + 1)) := ⟨_, rfl⟩
      rw [← hI2] at n4
      have b2 : I2 14 2 = nI k := by rw [hI2]; exact q_ft_2.1
      have b3 : I2 14 3 = nI (t + 1) := by rw [hI2]; exact q_ft_2.2
      have ib : q_IA I I2 := q_IA_t ia (by rw [hI2]; exact q_IA_f)
      have ne : ¬ I2 14 2 = 0 := by rw [b2]; exact nI_ne0 (by omega) (by omega)
      refine ⟨I2, c + 1, ib, ?_, ?_⟩
      · rw [front I2 v n4, if_neg ne, ← hD1]
        have st := stop I2 (cn + 1) (by rw [ib 2 (by decide), h6])
        simp (disch := first | rfl | omega | decide | exact Nat.le_of_ble_eq_true rfl) only [↓q_br, q_rt, q_rz, q_gd, q_ca, ↓reduceIte, F_X8_readWords_113, F_X8_readWords_114, nI_1, st]
      · rw [q_nms, n1]
        exact ⟨b2, b3, n2, by omega⟩
    · obtain ⟨I2, hI2⟩ : ∃ I2, I2 = q_u2 I1 14 1 (nI (t + 1 + 1)) := ⟨_, rfl⟩
      rw [← hI2] at n4
      have b1 : I2 14 1 = nI (t + 2) := by rw [hI2, q_u2_s, q_u1_s]
      have b2 : I2 14 2 = 0 := by rw [hI2, q_u2_s, q_u1_n _ _ (by decide), a2]
      have b33 : I2 14 3 = I 14 3 := by rw [hI2, q_u2_s, q_u1_n _ _ (by decide), hI1, q_u2_s, q_u1_n _ _ (by decide)]
      have ib : q_IA I I2 := q_IA_t ia (by rw [hI2]; exact q_IA_u)
      have hT2 : q_TC B l zt I2 X Y := q_TC_I hT (by rw [ib 2 (by decide)])
      have at9 := q_isAt (κ := κ) (b := b) (R := R) (Z := Z) (M := M) (O := O) (D := D1) (s := s) (c := 44) hT2 b1 (by omega)
      rw [q_nms, n1]
      simp only
      cases hs : q_sgn l (t + 1 + 1) 44 with
      | false =>
        have hs' : q_sgn l (t + 2) 44 = false := hs
        rw [hs'] at at9
        refine ⟨I2, c + 1, ib, ?_, ?_⟩
        · rw [front I2 v n4, if_pos b2, ← hD1]
          have st := stop I2 (cn + 1) (by rw [ib 2 (by decide), h6])
          simp (disch := first | rfl | omega | decide | exact Nat.le_of_ble_eq_true rfl) only [↓q_br, q_rt, q_rz, q_gd, q_ca, ↓reduceIte, F_X8_readWords_113, F_X8_readWords_114, at9, q_b_0, nI_1, st]
        · simp only [Bool.false_eq_true, if_false]
          exact ⟨trivial, b1, b2, b33⟩
      | true =>
        have hs' : q_sgn l (t + 2) 44 = true := hs
        rw [hs'] at at9
        have lt2 : t + 2 < l.length := by
          unfold q_sgn at hs'
          rw [decide_eq_true_eq] at hs'
          exact q_tok_lt (by omega)
        obtain ⟨I3, c3, r1, r2, r3⟩ := ih (g2 + 1) (cn + 1) (t + 2) (c + 1) I2 D1 hT2 b1 b2 (by rw [ib 8 (by decide), h8]) (by rw [hD1, q_up_s]) lt2 (by omega) (by omega) (by omega) (by omega)
        have uu : q_up D1 a (.inr (.inl (6, [v0, v1, v2, v3, v4, v5, .int (nI c3), v7]))) = q_up D a (.inr (.inl (6, [v0, v1, v2, v3, v4, v5, .int (nI c3), v7]))) := by
          rw [hD1]
          funext x
          unfold q_up
          by_cases hx : x = a
          · simp [hx]
          · simp [hx]
        rw [uu] at r2
        refine ⟨I3, c3, q_IA_t ib r1, ?_, ?_⟩
        · rw [front I2 v n4, if_pos b2]
          simp (disch := first | rfl | omega | decide | exact Nat.le_of_ble_eq_true rfl) only [↓q_br, q_rt, q_rz, q_gd, q_ca, ↓reduceIte, F_X8_readWords_114, at9, q_b_0, Bool.true_eq_false, nI_1, r2]
        · simp only [if_true]
          rw [b33] at r3
          exact r3
end QST
