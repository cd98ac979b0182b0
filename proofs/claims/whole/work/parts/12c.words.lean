def q_eqf (f g : Nat → Int32) : Nat → Nat → Bool
  | 0, _ => true
  | n + 1, j => decide (f j = g j) && q_eqf f g n (j + 1)
theorem q_eqf_i (f g : Nat → Int32) : ∀ n j, q_eqf f g n j = true ↔ ∀ k, j ≤ k → k < j + n → f k = g k := by
  intro n
  induction n with
  | zero => intro j; exact ⟨fun _ k h1 h2 => by omega, fun _ => rfl⟩
  | succ n ih =>
    intro j
    unfold q_eqf
    rw [Bool.and_eq_true, decide_eq_true_eq, ih]
    constructor
    · rintro ⟨h1, h2⟩ k h3 h4
      rcases Nat.eq_or_lt_of_le h3 with h5 | h5
      · rw [← h5]; exact h1
      · exact h2 k h5 (by omega)
    · intro h
      exact ⟨h j (Nat.le_refl _) (by omega), fun k h1 h2 => h k (by omega) (by omega)⟩
theorem q_lex {a c : q_Nam} : a = c ↔ a.length = c.length ∧ ∀ k, k < c.length → a.getD k 0 = c.getD k 0 := by
  constructor
  · rintro rfl; exact ⟨rfl, fun _ _ => rfl⟩
  · rintro ⟨h1, h2⟩
    apply List.ext_getElem h1
    intro i i1 i2
    have := h2 i i2
    simpa [List.getD, i1, i2] using this
theorem q_tB_eq {B : Nat → Int32} {x : q_Tok} {nm : q_Nam} : q_tB B x = nm ↔ x.2.2.1 - x.2.1 = nm.length ∧ q_eqf (fun k => B (x.2.1 + k)) (fun k => nm.getD k 0) nm.length 0 = true := by
  rw [q_lex, q_tB_len, q_eqf_i]
  constructor
  · rintro ⟨h1, h2⟩
    refine ⟨h1, fun k _ hk => ?_⟩
    rw [← h2 k (by omega), q_tB_g (by omega)]
  · rintro ⟨h1, h2⟩
    refine ⟨h1, fun k hk => ?_⟩
    rw [q_tB_g (by omega)]
    exact h2 k (Nat.zero_le _) (by omega)
theorem q_pfx {B : Nat → Int32} {x : q_Tok} {nm : q_Nam} : nm.isPrefixOf (q_tB B x) = true ↔ nm.length ≤ x.2.2.1 - x.2.1 ∧ q_eqf (fun k => B (x.2.1 + k)) (fun k => nm.getD k 0) nm.length 0 = true := by
  rw [List.isPrefixOf_iff_prefix, List.prefix_iff_getElem?, q_eqf_i]
  constructor
  · intro h
    have h1 : nm.length ≤ x.2.2.1 - x.2.1 := by
      apply Classical.byContradiction
      intro h2
      have h3 := h (x.2.2.1 - x.2.1) (by omega)
      rw [List.getElem?_eq_none (by rw [q_tB_len]; omega)] at h3
      cases h3
    refine ⟨h1, fun k _ hk => ?_⟩
    have h4 := h k (by omega)
    have h5 : (q_tB B x).getD k 0 = nm.getD k 0 := by
      simp only [List.getD, h4]
      have : k < nm.length := by omega
      simp [this]
    rw [← h5, q_tB_g (by omega)]
  · rintro ⟨h1, h2⟩ i hi
    have h3 := h2 i (Nat.zero_le _) (by omega)
    have h4 : i < (q_tB B x).length := by rw [q_tB_len]; omega
    have h5 : (q_tB B x).getD i 0 = nm.getD i 0 := by rw [q_tB_g (by omega)]; exact h3
    rw [List.getElem?_eq_getElem h4]
    simpa [List.getD, h4, hi] using h5
/-- how many bytes a token that is a name has behind a name -/
def q_bb (B : Nat → Int32) (x : q_Tok) (nm : q_Nam) : Int32 := if x.1 = 1 ∧ nm.isPrefixOf (q_tB B x) = true then nI (x.2.2.1 - x.2.1 - nm.length) else -1
theorem q_bb_0 {B : Nat → Int32} {x : q_Tok} {nm : q_Nam} (h : x.2.2.1 < 2 ^ 31) : q_bb B x nm = 0 ↔ x.1 = 1 ∧ q_tB B x = nm := by
  unfold q_bb
  by_cases h1 : x.1 = 1 ∧ nm.isPrefixOf (q_tB B x) = true
  · rw [if_pos h1]
    obtain ⟨h2, h3⟩ := q_pfx.mp h1.2
    have h4 : (nI (x.2.2.1 - x.2.1 - nm.length) = 0) ↔ x.2.2.1 - x.2.1 - nm.length = 0 := nI_eq (b := 0) (by omega) (by decide)
    rw [h4, q_tB_eq]
    constructor
    · intro h5; exact ⟨h1.1, by omega, h3⟩
    · rintro ⟨_, h5, _⟩; omega
  · rw [if_neg h1]
    constructor
    · intro h2; exact absurd h2 (by decide)
    · rintro ⟨h2, h3⟩
      exact absurd ⟨h2, by rw [h3]; simp⟩ h1
def q_CN (b n : Nat) (D : q_Mem) (a : Nat) (nm : q_Nam) : Prop := ∃ l f, b + 66 < a ∧ a < n ∧ b + 66 < l ∧ l < n ∧ D a = some (.inr (.inl (10, [.ref l]))) ∧ D l = some (.inl (0, nm.length, .inl f)) ∧ nm.length ≤ 20 ∧ ∀ i, i < nm.length → f i = nm.getD i 0
theorem q_CN_mo {b n n' : Nat} {D D' : q_Mem} {a : Nat} {nm : q_Nam} (h : q_CN b n D a nm) (hn : n ≤ n') (hD : ∀ x, b < x → x < n → D' x = D x) : q_CN b n' D' a nm := by
  obtain ⟨l, f, h1, h2, h3, h4, h5, h6, h7⟩ := h
  exact ⟨l, f, h1, by omega, h3, by omega, by rw [hD a (by omega) h2, h5], by rw [hD l (by omega) h4, h6], h7⟩
section QTE
variable {κ : Nat → Nat} {b : Nat} {B : Nat → Int32} {l : List q_Tok} {z t : Nat} {I : Nat → Nat → Int32} {R : Nat → Nat → Option Nat} {X : Nat → Nat → Int32} {Y : Nat → Nat → Int64} {Z : Nat → Nat → Option Nat} {C : q_CT} {M : q_MT} {P : Nat → Int32} {Q : Nat → Nat → Int32} {S : Nat → Nat → Int64} {O : Nat → Int64} {D : q_Mem} {s : Nat × Nat}
theorem q_says_34 {i : Nat} (h : q_TC B l z I X Y) (hK : q_Kp κ b D) (hi : i < q_tx.length) (ht : t < l.length) (hlen : (q_tok l t).2.2.1 - (q_tok l t).2.1 = (q_tt i).length) : ∀ n fuel j, j + n = (q_tt i).length → n < fuel → F_X10_says_34 κ fuel (some (b + 2)) (nI t) (some (κ i)) (nI j) (q_H b (I, R, X, Y, Z) M O D, s) = some (.inl (q_b (q_eqf (fun k => B ((q_tok l t).2.1 + k)) (fun k => (q_tt i).getD k 0) n j)), (q_H b (I, R, X, Y, Z) M O D, s)) := by
  have hz := h.2.2.1
  have hl := h.2.1
  have hL := q_tt_len i hi
  obtain ⟨w1, w2, w3, -⟩ := h.2.2.2.2.1 t _ (q_tok_s ht)
  intro n
  induction n with
  | zero =>
    intro fuel j h1 h2
    obtain ⟨f, rfl⟩ : ∃ f, fuel = f + 1 := ⟨fuel - 1, by omega⟩
    have h3 : (q_tt i).length ≤ j := by omega
    simp (disch := first | rfl | omega | decide | exact Nat.le_of_ble_eq_true rfl) only [F_X10_says_34, ↓q_br, q_rt, q_rz, q_gd, q_ca, ↓reduceIte, F_X10_says_34B, ↓q_gA_2_0, ↓q_gA_2_2, ↓q_lI_3, ↓q_lI_5, q_sp_0 hK hi, q_J0_length hK hi, nI_leI, h3, q_eqf]
    rfl
  | succ n ih =>
    intro fuel j h1 h2
    obtain ⟨f, rfl⟩ : ∃ f, fuel = f + 1 := ⟨fuel - 1, by omega⟩
    have h3 : ¬ (q_tt i).length ≤ j := by omega
    have h4 := q_TC_st h ht
    have h5 : X 3 ((q_tok l t).2.1 + j) = B ((q_tok l t).2.1 + j) := h.2.2.2.2.2.1 _ (by omega)
    have h6 := q_J0_charAt (κ := κ) (C := (I, R, X, Y, Z)) (M := M) (O := O) (s := s) hK hi (j := j) (by omega)
    simp (disch := first | rfl | omega | decide | exact Nat.le_of_ble_eq_true rfl) only [F_X10_says_34, ↓q_br, q_rt, q_rz, q_gd, q_ca, ↓reduceIte, F_X10_says_34B, ↓q_gA_2_0, ↓q_gA_2_2, ↓q_lI_3, ↓q_lI_5, q_sp_0 hK hi, q_J0_length hK hi, nI_leI, h3, h4, nI_add, h5, h6, nI_1, q_eqf]
    by_cases h7 : B ((q_tok l t).2.1 + j) = (q_tt i).getD j 0
    · simp only [h7, if_true, decide_true, Bool.true_and]
      exact ih f (j + 1) (by omega) (by omega)
    · simp only [h7, if_false, decide_false, Bool.false_and]
      simp [q_b]
theorem q_says {i : Nat} (h : q_TC B l z I X Y) (hK : q_Kp κ b D) (hi : i < q_tx.length) (ht : t < l.length + 3) : F_X10_says κ (some (b + 2)) (nI t) (some (κ i)) (q_H b (I, R, X, Y, Z) M O D, s) = some (.inl (q_b (q_wd B l t i)), (q_H b (I, R, X, Y, Z) M O D, s)) := by
  have hz := h.2.2.1
  have hl := h.2.1
  have hL := q_tt_len i hi
  have h3 : (X 4 t = (1 : Int32)) ↔ (q_tok l t).1 = 1 := q_TC_is (c := 1) h ht (by decide)
  by_cases h4 : (q_tok l t).1 = 1
  · have hlt := q_tok_lt (l := l) (t := t) (by omega)
    obtain ⟨w1, w2, w3, -⟩ := h.2.2.2.2.1 t _ (q_tok_s hlt)
    have e1 := q_TC_st h hlt
    have e2 := q_TC_en h hlt
    simp (disch := first | rfl | omega | decide | exact Nat.le_of_ble_eq_true rfl) only [↓q_br, q_rt, q_rz, q_gd, q_ca, ↓reduceIte, F_X10_says, F_X10_says_30, ↓q_gA_2_1, ↓q_gA_2_2, ↓q_gA_2_3, ↓q_lI_4, ↓q_lI_5, ↓q_lI_6, h3, h4, e1, e2, nI_sub, q_sp_0 hK hi, q_J0_length hK hi, nI_eq, not_true_eq_false, q_wd, true_and]
    by_cases h5 : (q_tok l t).2.2.1 - (q_tok l t).2.1 = (q_tt i).length
    · have h6 := q_says_34 (κ := κ) (R := R) (Z := Z) (M := M) (O := O) (s := s) h hK hi hlt h5 (q_tt i).length q_fu 0 (by omega) (by unfold q_fu; omega)
      rw [nI_0] at h6
      simp only [h5, if_true, h6]
      congr 4
      cases h7 : q_eqf (fun k => B ((q_tok l t).2.1 + k)) (fun k => (q_tt i).getD k 0) (q_tt i).length 0 with
      | true => exact (decide_eq_true (q_tB_eq.mpr ⟨h5, h7⟩)).symm
      | false => exact (decide_eq_false (fun h8 => by rw [(q_tB_eq.mp h8).2] at h7; cases h7)).symm
    · have h7 : ¬ q_tB B (q_tok l t) = q_tt i := fun h8 => h5 (q_tB_eq.mp h8).1
      rw [if_neg h5, decide_eq_false h7]
      rfl
  · simp (disch := first | rfl | omega | decide | exact Nat.le_of_ble_eq_true rfl) only [↓q_br, q_rt, q_rz, q_gd, q_ca, ↓reduceIte, F_X10_says, F_X10_says_30, ↓q_gA_2_1, ↓q_gA_2_2, ↓q_gA_2_3, ↓q_lI_4, ↓q_lI_5, ↓q_lI_6, h3, h4, q_wd]
    simp [q_b]
theorem q_isWord_27 {i : Nat} (h : q_TM B l z P Q S) (hK : q_Kp κ b D) (hi : i < q_tx.length) (ht : t < l.length) (hlen : (q_tok l t).2.2.1 - (q_tok l t).2.1 = (q_tt i).length) : ∀ n fuel j, j + n = (q_tt i).length → n < fuel → F_X13_isWord_27 κ fuel (some (b + 26)) (nI t) (some (κ i)) (nI j) (q_H b C (P, Q, S) O D, s) = some (.inl (q_b (q_eqf (fun k => B ((q_tok l t).2.1 + k)) (fun k => (q_tt i).getD k 0) n j)), (q_H b C (P, Q, S) O D, s)) := by
  have hz := h.2.2.1
  have hl := h.2.1
  have hL := q_tt_len i hi
  obtain ⟨w1, w2, w3, -⟩ := h.2.2.2.2.1 t _ (q_tok_s ht)
  intro n
  induction n with
  | zero =>
    intro fuel j h1 h2
    obtain ⟨f, rfl⟩ : ∃ f, fuel = f + 1 := ⟨fuel - 1, by omega⟩
    have h3 : (q_tt i).length ≤ j := by omega
    simp (disch := first | rfl | omega | decide | exact Nat.le_of_ble_eq_true rfl) only [F_X13_isWord_27, ↓q_br, q_rt, q_rz, q_gd, q_ca, ↓reduceIte, F_X13_isWord_27B, ↓q_gA_26_1, ↓q_gA_26_10, ↓q_lI_28, ↓q_lI_31, q_sp_0 hK hi, q_J0_length hK hi, nI_leI, h3, q_eqf]
    rfl
  | succ n ih =>
    intro fuel j h1 h2
    obtain ⟨f, rfl⟩ : ∃ f, fuel = f + 1 := ⟨fuel - 1, by omega⟩
    have h3 : ¬ (q_tt i).length ≤ j := by omega
    have h4 := q_TM_st h ht
    have h5 : Q 28 ((q_tok l t).2.1 + j) = B ((q_tok l t).2.1 + j) := h.2.2.2.2.2.1 _ (by omega)
    have h6 := q_J0_charAt (κ := κ) (C := C) (M := (P, Q, S)) (O := O) (s := s) hK hi (j := j) (by omega)
    simp (disch := first | rfl | omega | decide | exact Nat.le_of_ble_eq_true rfl) only [F_X13_isWord_27, ↓q_br, q_rt, q_rz, q_gd, q_ca, ↓reduceIte, F_X13_isWord_27B, ↓q_gA_26_1, ↓q_gA_26_10, ↓q_lI_28, ↓q_lI_31, q_sp_0 hK hi, q_J0_length hK hi, nI_leI, h3, h4, nI_add, h5, h6, nI_1, q_eqf]
    by_cases h7 : B ((q_tok l t).2.1 + j) = (q_tt i).getD j 0
    · simp only [h7, if_true, decide_true, Bool.true_and]
      exact ih f (j + 1) (by omega) (by omega)
    · simp only [h7, if_false, decide_false, Bool.false_and]
      simp [q_b]
theorem q_isWord {i : Nat} (h : q_TM B l z P Q S) (hK : q_Kp κ b D) (hi : i < q_tx.length) (ht : t < l.length + 2) : F_X13_isWord κ (some (b + 26)) (nI t) (some (κ i)) (q_H b C (P, Q, S) O D, s) = some (.inl (q_b (q_wd B l t i)), (q_H b C (P, Q, S) O D, s)) := by
  have hz := h.2.2.1
  have hl := h.2.1
  have hL := q_tt_len i hi
  have h3 : (Q 30 t = (1 : Int32)) ↔ (q_tok l t).1 = 1 := q_TM_is (c := 1) h ht (by decide)
  by_cases h4 : (q_tok l t).1 = 1
  · have hlt := q_tok_lt (l := l) (t := t) (by omega)
    obtain ⟨w1, w2, w3, -⟩ := h.2.2.2.2.1 t _ (q_tok_s hlt)
    have e1 := q_TM_ln h hlt
    simp (disch := first | rfl | omega | decide | exact Nat.le_of_ble_eq_true rfl) only [↓q_br, q_rt, q_rz, q_gd, q_ca, ↓reduceIte, F_X13_isWord, F_X13_isWord_23, ↓q_gA_26_11, ↓q_gA_26_9, ↓q_lI_30, ↓q_lI_32, h3, h4, e1, q_sp_0 hK hi, q_J0_length hK hi, nI_eq, not_true_eq_false, q_wd, true_and]
    by_cases h5 : (q_tok l t).2.2.1 - (q_tok l t).2.1 = (q_tt i).length
    · have h6 := q_isWord_27 (κ := κ) (C := C) (O := O) (s := s) h hK hi hlt h5 (q_tt i).length q_fu 0 (by omega) (by unfold q_fu; omega)
      rw [nI_0] at h6
      simp only [h5, if_true, h6]
      congr 4
      cases h7 : q_eqf (fun k => B ((q_tok l t).2.1 + k)) (fun k => (q_tt i).getD k 0) (q_tt i).length 0 with
      | true => exact (decide_eq_true (q_tB_eq.mpr ⟨h5, h7⟩)).symm
      | false => exact (decide_eq_false (fun h8 => by rw [(q_tB_eq.mp h8).2] at h7; cases h7)).symm
    · have h7 : ¬ q_tB B (q_tok l t) = q_tt i := fun h8 => h5 (q_tB_eq.mp h8).1
      rw [if_neg h5, decide_eq_false h7]
      rfl
  · simp (disch := first | rfl | omega | decide | exact Nat.le_of_ble_eq_true rfl) only [↓q_br, q_rt, q_rz, q_gd, q_ca, ↓reduceIte, F_X13_isWord, F_X13_isWord_23, ↓q_gA_26_11, ↓q_gA_26_9, ↓q_lI_30, ↓q_lI_32, h3, h4, q_wd]
    simp [q_b]
end QTE
