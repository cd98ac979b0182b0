/-! ===== copies of bytes; a new name of the class ===== -/
theorem qd_aru {b a : Nat} {C : q_CT} {M : q_MT} {O : Nat → Int64} {D : q_Mem} {t n : Nat} {g : (Nat → Int32) ⊕ (Nat → Int64) ⊕ (Nat → UInt32) ⊕ (Nat → UInt64) ⊕ (Nat → Option Nat)} (h : b + 66 < a ∧ D a = some (.inl (t, n, g))) : q_ar (some a) (q_H b C M O D) = some (a, t, n, g) := by
  rw [q_ar_d (Or.inr h.1)]
  unfold q_ar
  simp only [h.2]
def q_cp (Q : Nat → Nat → Int32) (i j sp dp n : Nat) : Nat → Nat → Int32 := fun a => if a = j then va_cpy (Q i) (Q j) sp dp n else Q a
theorem q_cp_n (Q : Nat → Nat → Int32) {i j sp dp n a : Nat} (h : a ≠ j) : q_cp Q i j sp dp n a = Q a := if_neg h
theorem q_cp_s (Q : Nat → Nat → Int32) (i j sp dp n : Nat) : q_cp Q i j sp dp n j = va_cpy (Q i) (Q j) sp dp n := if_pos rfl
section QCB
variable {β : Type} {b i j n1 n2 sp dp n : Nat} {I : Nat → Nat → Int32} {R : Nat → Nat → Option Nat} {X : Nat → Nat → Int32} {Y : Nat → Nat → Int64} {Z : Nat → Nat → Option Nat} {C : q_CT} {M : q_MT} {P : Nat → Int32} {Q : Nat → Nat → Int32} {S : Nat → Nat → Int64} {O : Nat → Int64} {D : q_Mem} {s : Nat × Nat}
theorem q_nIc {k : Nat} (h : k < 2 ^ 31) : (¬ nI k < 0) ∧ (nI k).toNatClampNeg = k := ⟨nI_pos h, nI_clamp h⟩
/-- from an array of the reference to another -/
theorem q_cB_m {f : q_X β} (h1 : q_okA i 0 n1 = true) (h2 : q_okA j 0 n2 = true) (hi : 26 < i ∧ i < 66) (hj : 26 < j ∧ j < 66) (hs : sp + n ≤ n1) (hd : dp + n ≤ n2) (hn : n1 < 2 ^ 31 ∧ n2 < 2 ^ 31) (hB : ∀ x, x < n → q_By (Q i (sp + x))) : q_wr (q_cB (some (b + i)) (nI sp) (some (b + j)) (nI dp) (nI n)) f (q_H b C (P, Q, S) O D, s) = f (q_H b C (P, q_cp Q i j sp dp n, S) O D, s) := by
  obtain ⟨a1, a2⟩ := q_nIc (k := sp) (by omega)
  obtain ⟨b1, b2⟩ := q_nIc (k := dp) (by omega)
  obtain ⟨c1, c2⟩ := q_nIc (k := n) (by omega)
  have A1 : q_ar (some (b + i)) (q_H b C (P, Q, S) O D) = some (b + i, 0, n1, .inl (Q i)) := by rw [q_ar_s (by omega) (q_okA_e h1), if_neg (by decide), if_pos (by decide), if_neg (by omega)]
  have A2 : q_ar (some (b + j)) (q_H b C (P, Q, S) O D) = some (b + j, 0, n2, .inl (Q j)) := by rw [q_ar_s (by omega) (q_okA_e h2), if_neg (by decide), if_pos (by decide), if_neg (by omega)]
  refine q_wr_g ?_
  unfold q_cB
  rw [A1, A2, Option.bind_some, Option.bind_some]
  simp only [a2, b2, c2]
  rw [if_pos ⟨by simp, ⟨a1, b1, c1, hs, hd⟩, fun x hx => q_By_m (hB x hx)⟩]
  refine congrArg some (q_H_up (by omega) (q_tb_le (q_okA_e h2)) ?_ ?_)
  · rw [q_ic_a (q_okA_e h2), if_neg (by decide), if_pos (by decide), if_neg (by omega)]
    simp only [q_cp, if_true]
  · intro x hx
    unfold q_ic
    simp only [q_cp, if_neg hx]
/-- from the class's text to a new array -/
theorem q_cB_d {f : q_X β} {a : Nat} {g : Nat → Int32} (ha : b + 66 < a) (hs : sp + n ≤ 6000) (hd : n ≤ n2) (hn : n2 < 2 ^ 31) (hB : ∀ x, x < n → q_By (X 3 (sp + x))) : q_wr (q_cB (some (b + 3)) (nI sp) (some a) 0 (nI n)) f (q_H b (I, R, X, Y, Z) M O (q_up D a (.inl (0, n2, .inl g))), s) = f (q_H b (I, R, X, Y, Z) M O (q_up D a (.inl (0, n2, .inl (va_cpy (X 3) g sp 0 n)))), s) := by
  obtain ⟨a1, a2⟩ := q_nIc (k := sp) (by omega)
  obtain ⟨c1, c2⟩ := q_nIc (k := n) (by omega)
  have b1 : ¬ (0 : Int32) < 0 := by decide
  have b2 : (0 : Int32).toNatClampNeg = 0 := by decide
  refine q_wr_g ?_
  unfold q_cB
  rw [q_ar_s (t := 0) (n := 6000) (by decide) rfl, if_neg (by decide), if_pos (by decide), if_pos (by decide), Option.bind_some, qd_aru ⟨ha, q_up_s _ _ _⟩, Option.bind_some]
  simp only [a2, b2, c2]
  rw [if_pos ⟨by simp, ⟨a1, b1, c1, hs, by omega⟩, fun x hx => q_By_m (hB x hx)⟩, q_H_upd (Or.inr ha), q_up_up]
end QCB
section QNB
variable {κ : Nat → Nat} {b : Nat} {B : Nat → Int32} {l : List q_Tok} {z t : Nat} {I : Nat → Nat → Int32} {R : Nat → Nat → Option Nat} {X : Nat → Nat → Int32} {Y : Nat → Nat → Int64} {Z : Nat → Nat → Option Nat} {M : q_MT} {O : Nat → Int64} {D : q_Mem}
theorem q_copyOfRange {n m f e : Nat} (hf : f < e) (he : e - f ≤ 20) (he2 : e ≤ 6000) (hn : b + 66 < n) (hB : ∀ x, f ≤ x → x < e → q_By (X 3 x)) : F_J7_copyOfRange_39247 κ (some (b + 3)) (nI f) (nI e) (q_H b (I, R, X, Y, Z) M O D, n, m) = some (.inl (some n), (q_H b (I, R, X, Y, Z) M O (q_up D n (.inl (0, e - f, .inl (va_cpy (X 3) (fun _ => 0) f 0 (e - f))))), n + 1, m + (e - f))) := by
  have g1 : F_J7_copyOfRange_39247_10 κ (some (b + 3)) (nI f) (nI e) (q_H b (I, R, X, Y, Z) M O D, n, m) = some (.inl (some n), (q_H b (I, R, X, Y, Z) M O (q_up D n (.inl (0, e - f, .inl (va_cpy (X 3) (fun _ => 0) f 0 (e - f))))), n + 1, m + (e - f))) := by
    have e1 : nI e - nI f = nI (e - f) := nI_sub (by omega)
    obtain ⟨c1, c2⟩ := q_nIc (k := e - f) (by omega)
    have e2 : nI f ≤ nI e := nI_le (by omega) (by omega)
    have e3 : nI 6000 - nI f = nI (6000 - f) := nI_sub (by omega)
    have e4 : nI (e - f) < nI (6000 - f) ↔ e - f < 6000 - f := nI_ltI (by omega) (by omega)
    have e5 : q_nI 0 (nI (e - f)) = .inl (0, e - f, .inl (fun _ => 0)) := by unfold q_nI; rw [c2]
    have e6 := q_cB_d (β := Option Nat) (b := b) (sp := f) (n := e - f) (n2 := e - f) (I := I) (R := R) (X := X) (Y := Y) (Z := Z) (M := M) (O := O) (D := D) (s := (n + 1, m + (e - f))) (f := q_rt (some n)) (a := n) (g := fun _ => 0) hn (by omega) (Nat.le_refl _) (by omega) (fun x hx => hB _ (by omega) (by omega))
    simp (disch := first | rfl | omega | decide | exact Nat.le_of_ble_eq_true rfl) only [F_J7_copyOfRange_39247_10, F_J7_copyOfRangeByte_39247, F_J7_checkLength_df160, F_J9_min_7cf53, F_J9_min_7cf53_10, q_ca, q_br, q_rt, q_gd, e2, if_true, e1, c1, c2, not_false_eq_true, true_and, e5, q_mk_H, ↓q_ln_3, e3, e4]
    rw [if_pos (by omega)]
    by_cases h9 : e - f < 6000 - f
    · simp only [h9, if_true]
      simp only [q_rt] at e6
      rw [e6]
    · simp only [h9, if_false]
      have h10 : 6000 - f = e - f := by omega
      simp only [h10]
      simp only [q_rt] at e6
      rw [e6]
  simp only [F_J7_copyOfRange_39247, q_br]
  by_cases h0 : nI f = 0
  · have h1 : f = 0 := by
      have : nI f = nI 0 := by rw [nI_0]; exact h0
      exact (nI_eq (by omega) (by omega)).mp this
    have h2 : ¬ nI e = nI 6000 := by
      rw [nI_eq (by omega) (by omega)]
      omega
    simp (disch := first | rfl | omega | decide | exact Nat.le_of_ble_eq_true rfl) only [h0, not_true_eq_false, if_false, ↓q_ln_3, q_br, h2]
    rw [h0] at g1
    exact g1
  · simp only [h0, not_false_eq_true, if_true]
    exact g1
theorem q_newName {a n m : Nat} (h : q_TC B l z I X Y) (hy : (q_tok l t).1 = 1) (hn : b + 66 < n) (ha : b + 66 < a ∧ a < n) (hD : D a = some (.inr (.inl (10, [.null])))) : ∃ D', F_X7_init κ (some a) (some (b + 2)) (nI t) (q_H b (I, R, X, Y, Z) M O D, n, m) = some (.inl (), (q_H b (I, R, X, Y, Z) M O D', n + 1, m + ((q_tok l t).2.2.1 - (q_tok l t).2.1))) ∧ q_CN b (n + 1) D' a (q_tB B (q_tok l t)) ∧ (∀ x, x ≠ a → x < n → D' x = D x) := by
  have hz := h.2.2.1
  have hl := h.2.1
  have hlt := q_tok_lt (l := l) (t := t) (by omega)
  obtain ⟨w1, w2, w3, w4, -⟩ := h.2.2.2.2.1 t _ (q_tok_s hlt)
  have w5 := w4 hy
  have e1 := q_TC_st h hlt
  have e2 := q_TC_en h hlt
  have hX : ∀ i, i < z → X 3 i = B i := h.2.2.2.2.2.1
  have e3 := q_copyOfRange (κ := κ) (b := b) (I := I) (R := R) (X := X) (Y := Y) (Z := Z) (M := M) (O := O) (D := D) (n := n) (m := m) w2 w5 (by omega) hn (fun x _ hx2 => by rw [hX x (by omega)]; exact h.2.2.2.2.2.2 x (by omega))
  refine ⟨q_up (q_up D n (.inl (0, (q_tok l t).2.2.1 - (q_tok l t).2.1, .inl (va_cpy (X 3) (fun _ => 0) (q_tok l t).2.1 0 ((q_tok l t).2.2.1 - (q_tok l t).2.1))))) a (.inr (.inl (10, [.ref n]))), ?_, ?_, ?_⟩
  · have hD2 : b + 66 < a ∧ q_up D n (.inl (0, (q_tok l t).2.2.1 - (q_tok l t).2.1, .inl (va_cpy (X 3) (fun _ => 0) (q_tok l t).2.1 0 ((q_tok l t).2.2.1 - (q_tok l t).2.1)))) a = some (.inr (.inl (10, [.null]))) := ⟨ha.1, by rw [q_up_n _ _ (by omega), hD]⟩
    simp (disch := first | rfl | omega | decide | exact Nat.le_of_ble_eq_true rfl) only [↓q_br, q_rt, q_rz, q_gd, q_ca, ↓reduceIte, F_X7_init, ↓q_gA_2_0, ↓q_gA_2_2, ↓q_gA_2_3, ↓q_lI_3, ↓q_lI_5, ↓q_lI_6, reduceCtorEq, not_false_eq_true, e1, e2, e3, ↓q_gA_2_0, ↓q_gA_2_2, ↓q_gA_2_3, ↓q_lI_5, ↓q_lI_6]
    rw [qd_W hD2 (by decide)]
    rfl
  · refine ⟨n, va_cpy (X 3) (fun _ => 0) (q_tok l t).2.1 0 ((q_tok l t).2.2.1 - (q_tok l t).2.1), ha.1, by omega, hn, by omega, q_up_s _ _ _, ?_, ?_, ?_⟩
    · rw [q_up_n _ _ (by omega), q_up_s, q_tB_len]
    · rw [q_tB_len]; exact w5
    · intro i hi
      rw [q_tB_len] at hi
      rw [q_tB_g hi]
      unfold va_cpy
      rw [if_pos (by omega), hX _ (by omega), Nat.sub_zero]
  · intro x hx hxn
    rw [q_up_n _ _ hx, q_up_n _ _ (by omega)]
end QNB
