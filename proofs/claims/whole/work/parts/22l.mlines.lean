section QML
variable {κ : Nat → Nat} {b : Nat} {B : Nat → Int32} {l : List q_Tok} {zt : Nat} {C : q_CT} {S : Nat → Nat → Int64} {O : Nat → Int64} {D : q_Mem} {n m : Nat}
/-- what the reading of lines leaves as it is -/
def q_PL9 (P P' : Nat → Int32) (Q Q' : Nat → Nat → Int32) : Prop := (∀ j, j ≠ 15 → j ≠ 43 → j ≠ 52 → P' j = P j) ∧ (∀ j, (j < 55 ∨ 63 < j ∨ j = 58 ∨ j = 59) → Q' j = Q j)
theorem q_PL9_r (P : Nat → Int32) (Q : Nat → Nat → Int32) : q_PL9 P P Q Q := ⟨fun _ _ _ _ => rfl, fun _ _ => rfl⟩
theorem q_PL9_t {P P' P'' : Nat → Int32} {Q Q' Q'' : Nat → Nat → Int32} (h : q_PL9 P P' Q Q') (h' : q_PL9 P' P'' Q' Q'') : q_PL9 P P'' Q Q'' := ⟨fun j a1 a2 a3 => by rw [h'.1 j a1 a2 a3, h.1 j a1 a2 a3], fun j hj => by rw [h'.2 j hj, h.2 j hj]⟩
theorem q_TM_9 {P P' : Nat → Int32} {Q Q' : Nat → Nat → Int32} (h : q_TM B l zt P Q S) (h9 : q_PL9 P P' Q Q') : q_TM B l zt P' Q' S := q_TM_P h (h9.1 13 (by decide) (by decide) (by decide)) (h9.2 28 (by decide)) (h9.2 30 (by decide)) (h9.2 31 (by decide)) (h9.2 32 (by decide))
/-- what else a line's statement leaves as it is: the lines before, the labels, the line's own beginning -/
def q_ST9 (i : Nat) (P P' : Nat → Int32) (Q Q' : Nat → Nat → Int32) : Prop := (∀ j, j ≠ 15 → P' j = P j) ∧ (∀ j, j ≠ 57 → j ≠ 60 → j ≠ 61 → Q' j = Q j) ∧ (∀ j k, k ≠ i → Q' j k = Q j k)
theorem q_ST9_r (i : Nat) (P : Nat → Int32) (Q : Nat → Nat → Int32) : q_ST9 i P P Q Q := ⟨fun _ _ => rfl, fun _ _ _ _ => rfl, fun _ _ _ => rfl⟩
theorem q_ST9_t {i : Nat} {P P' P'' : Nat → Int32} {Q Q' Q'' : Nat → Nat → Int32} (h : q_ST9 i P P' Q Q') (h' : q_ST9 i P' P'' Q' Q'') : q_ST9 i P P'' Q Q'' := ⟨fun j a => by rw [h'.1 j a, h.1 j a], fun j a1 a2 a3 => by rw [h'.2.1 j a1 a2 a3, h.2.1 j a1 a2 a3], fun j k hk => by rw [h'.2.2 j k hk, h.2.2 j k hk]⟩
theorem q_ST9_P {i : Nat} {P : Nat → Int32} {Q : Nat → Nat → Int32} {v : Int32} : q_ST9 i P (q_u1 P 15 v) Q Q := ⟨fun j a => q_u1_n _ _ a, fun _ _ _ _ => rfl, fun _ _ _ => rfl⟩
theorem q_ST9_Q {i j0 : Nat} {P : Nat → Int32} {Q : Nat → Nat → Int32} {v : Int32} (h : j0 = 57 ∨ j0 = 60 ∨ j0 = 61) : q_ST9 i P P Q (q_u2 Q j0 i v) := by
  refine ⟨fun _ _ => rfl, fun j a1 a2 a3 => q_u2_n _ _ _ (by omega), fun j k hk => ?_⟩
  by_cases hj : j = j0
  · subst hj; rw [q_u2_s, q_u1_n _ _ hk]
  · rw [q_u2_n _ _ _ hj]
theorem q_ST9_T {i : Nat} {P P' : Nat → Int32} {Q Q' : Nat → Nat → Int32} (h : q_TM B l zt P Q S) (h9 : q_ST9 i P P' Q Q') : q_TM B l zt P' Q' S := q_TM_P h (h9.1 13 (by decide)) (h9.2.1 28 (by decide) (by decide) (by decide)) (h9.2.1 30 (by decide) (by decide) (by decide)) (h9.2.1 31 (by decide) (by decide) (by decide)) (h9.2.1 32 (by decide) (by decide) (by decide))
theorem q_m396 {r : Option Nat → q_X Unit} {P : Nat → Int32} {Q : Nat → Nat → Int32} {i en : Nat} (h : q_TM B l zt P Q S) (ha : P 15 = nI en) (he : en ≤ l.length) (hi : i < 6002) (hn : b + 66 < n) : F_X13_lines_396 κ r (some (b + 26)) (nI i) (q_H b C (P, Q, S) O D, n, m) = (if (q_tok l en).1 = 5 then some (.inl (), (q_H b C (P, q_u2 Q 61 i (nI en), S) O D, n, m)) else if (q_tok l en).1 = 4 then r (some (b + 26)) (q_H b C (q_u1 P 15 (nI (en + 1)), q_u2 Q 61 i (nI en), S) O D, n, m) else q_thr Unit b C (P, q_u2 Q 61 i (nI en), S) O D n m 1 (nI en)) := by
  have hz := h.2.2.1
  have hl := h.2.1
  have e6 : en < 6002 := by omega
  have h' : q_TM B l zt P (q_u2 Q 61 i (nI en)) S := q_ST9_T h (q_ST9_Q (Or.inr (Or.inr rfl)))
  have t0 : (q_u2 Q 61 i (nI en) 30 en = 0) = ((q_tok l en).1 = 5) := propext (q_TM_end h' (by omega))
  have t4 : (q_u2 Q 61 i (nI en) 30 en = (4 : Int32)) = ((q_tok l en).1 = 4) := propext (q_TM_is (c := 4) h' (by omega) (by decide))
  by_cases c5 : (q_tok l en).1 = 5
  · have e5 : ((q_tok l en).1 = 5) = True := eq_true c5
    rw [if_pos c5]
    simp (disch := first | rfl | omega | decide | exact Nat.le_of_ble_eq_true rfl) only [↓q_br, q_rt, q_rz, q_gd, q_ca, ↓reduceIte, F_X13_lines_396, ↓q_gA_26_51, ↓q_gA_26_9, ↓q_gI_26_15, ↓q_lI_30, ↓q_lI_61, ↓q_pI_26_15, ↓q_sI_30, ↓q_sI_61, ha, t0, e5, not_true_eq_false]
  · have e5 : ((q_tok l en).1 = 5) = False := eq_false c5
    rw [if_neg c5]
    by_cases c4 : (q_tok l en).1 = 4
    · have e4 : ((q_tok l en).1 = 4) = True := eq_true c4
      rw [if_pos c4]
      simp (disch := first | rfl | omega | decide | exact Nat.le_of_ble_eq_true rfl) only [↓q_br, q_rt, q_rz, q_gd, q_ca, ↓reduceIte, F_X13_lines_396, ↓q_gA_26_51, ↓q_gA_26_9, ↓q_gI_26_15, ↓q_lI_30, ↓q_lI_61, ↓q_pI_26_15, ↓q_sI_30, ↓q_sI_61, ha, t0, e5, not_false_eq_true, t4, e4, nI_1]
    · have e4 : ((q_tok l en).1 = 4) = False := eq_false c4
      rw [if_neg c4]
      simp (disch := first | rfl | omega | decide | exact Nat.le_of_ble_eq_true rfl) only [↓q_br, q_rt, q_rz, q_gd, q_ca, ↓reduceIte, F_X13_lines_396, ↓q_gA_26_51, ↓q_gA_26_9, ↓q_gI_26_15, ↓q_lI_30, ↓q_lI_61, ↓q_pI_26_15, ↓q_sI_30, ↓q_sI_61, ha, t0, e5, not_false_eq_true, t4, e4, q_mk_H, reduceCtorEq, not_false_eq_true, q_fault, qd_Su, q_tr]
theorem q_m179 {r : Option Nat → q_X Unit} {i : Nat} {Q : Nat → Nat → Int32} : ∀ d fuel p (P : Nat → Int32), q_TM B l zt P Q S → P 15 = nI p → p + d = l.length → d < fuel → F_X13_lines_179 κ r fuel (some (b + 26)) (nI i) (q_H b C (P, Q, S) O D, n, m) = F_X13_lines_396 κ r (some (b + 26)) (nI i) (q_H b C (q_u1 P 15 (nI (q_to (fun i => !decide ((q_tok l i).1 = 4)) d p)), Q, S) O D, n, m) := by
  intro d
  induction d with
  | zero =>
    intro fuel p P h ha h1 h2
    have hz := h.2.2.1
    have hl := h.2.1
    obtain ⟨f, rfl⟩ : ∃ f, fuel = f + 1 := ⟨fuel - 1, by omega⟩
    have ie := q_misEnd (κ := κ) (b := b) (C := C) (O := O) (D := D) (s := (n, m)) h (by omega : p < l.length + 2)
    have t5 : (q_tok l p).1 = 5 := by rw [q_tok_e (by omega)]
    rw [decide_eq_true (Or.inr t5)] at ie
    rw [F_X13_lines_179, q_to, q_u1_id _ _ ha]
    simp (disch := first | rfl | omega | decide | exact Nat.le_of_ble_eq_true rfl) only [↓q_br, q_rt, q_rz, q_gd, q_ca, ↓reduceIte, F_X13_lines_179B, ↓q_gI_26_15, ↓q_is_26, ↓q_pI_26_15, ha, ↓q_is_26, ie, q_b_0, Bool.true_eq_false, not_false_eq_true]
  | succ d ih =>
    intro fuel p P h ha h1 h2
    have hz := h.2.2.1
    have hl := h.2.1
    obtain ⟨f, rfl⟩ : ∃ f, fuel = f + 1 := ⟨fuel - 1, by omega⟩
    have ie := q_misEnd (κ := κ) (b := b) (C := C) (O := O) (D := D) (s := (n, m)) h (by omega : p < l.length + 2)
    have t5 : ¬ (q_tok l p).1 = 5 := by
      have := (h.2.2.2.2.1 p _ (q_tok_s (by omega))).1
      omega
    rw [F_X13_lines_179, q_to]
    by_cases c4 : (q_tok l p).1 = 4
    · rw [decide_eq_true (Or.inl c4)] at ie
      rw [decide_eq_true c4, Bool.not_true, if_neg (by decide), q_u1_id _ _ ha]
      simp (disch := first | rfl | omega | decide | exact Nat.le_of_ble_eq_true rfl) only [↓q_br, q_rt, q_rz, q_gd, q_ca, ↓reduceIte, F_X13_lines_179B, ↓q_gI_26_15, ↓q_is_26, ↓q_pI_26_15, ha, ↓q_is_26, ie, q_b_0, Bool.true_eq_false, not_false_eq_true]
    · rw [decide_eq_false (by omega)] at ie
      rw [decide_eq_false c4, Bool.not_false, if_pos rfl]
      have ihk := ih f (p + 1) (q_u1 P 15 (nI (p + 1))) (q_TM_P h (q_u1_n _ _ (by decide)) rfl rfl rfl rfl) (q_u1_s _ _ _) (by omega) (by omega)
      rw [q_u1_u1] at ihk
      simp (disch := first | rfl | omega | decide | exact Nat.le_of_ble_eq_true rfl) only [↓q_br, q_rt, q_rz, q_gd, q_ca, ↓reduceIte, F_X13_lines_179B, ↓q_gI_26_15, ↓q_is_26, ↓q_pI_26_15, ha, ↓q_is_26, ie, q_b_0, not_true_eq_false, nI_1, ihk]
theorem q_m346 {r : Option Nat → q_X Unit} {i z : Nat} (hz : z ≤ 32) (hi : i < 6002) (hn : b + 66 < n) : ∀ f fuel t c (P : Nat → Int32) (Q : Nat → Nat → Int32), q_TM B l zt P Q S → P 15 = nI t → P 21 = nI z → Q 60 i = nI c → t ≤ l.length → l.length < t + f → f < fuel → ∃ P' Q', q_ST9 i P P' Q Q' ∧ Q' 57 = Q 57 ∧ (match (if q_sgn l t 44 = true then q_nms l (2 ^ z - 1) f (t + 1) c else .inr (c, t)) with
    | .inl (k, p) => F_X13_lines_346 κ r fuel (some (b + 26)) (nI i) (q_H b C (P, Q, S) O D, n, m) = q_thr Unit b C (P', Q', S) O D n m (nI k) (nI p)
    | .inr (c', t') => F_X13_lines_346 κ r fuel (some (b + 26)) (nI i) (q_H b C (P, Q, S) O D, n, m) = F_X13_lines_396 κ r (some (b + 26)) (nI i) (q_H b C (P', Q', S) O D, n, m) ∧ P' 15 = nI t' ∧ Q' 60 i = nI c') := by
  have sh := q_shlz hz
  have e1 : lN (2 ^ z) - 1 = lN (2 ^ z - 1) := lN_sub (b := 1) (Nat.pos_of_ne_zero (by simp))
  intro f
  induction f with
  | zero => intro fuel t c P Q h ha h21 h60 ht hf hfu; omega
  | succ f ih =>
    intro fuel t c P Q h ha h21 h60 ht hf hfu
    have hzt := h.2.2.1
    have hl := h.2.1
    obtain ⟨g, rfl⟩ : ∃ g, fuel = g + 1 := ⟨fuel - 1, by omega⟩
    have sg := q_msign (κ := κ) (b := b) (C := C) (O := O) (D := D) (s := (n, m)) (c := 44) h (by omega : t < l.length + 2)
    cases hs : q_sgn l t 44 with
    | false =>
      rw [hs] at sg
      refine ⟨P, Q, q_ST9_r i P Q, rfl, ?_⟩
      simp only [Bool.false_eq_true, if_false]
      refine ⟨?_, ha, h60⟩
      rw [F_X13_lines_346]
      simp (disch := first | rfl | omega | decide | exact Nat.le_of_ble_eq_true rfl) only [↓q_br, q_rt, q_rz, q_gd, q_ca, ↓reduceIte, F_X13_lines_346B, ↓q_gA_26_50, ↓q_gI_26_15, ↓q_gI_26_21, ↓q_is_26, ↓q_lI_60, ↓q_pI_26_15, ↓q_sI_60, ha, ↓q_is_26, sg, q_b_0]
    | true =>
      rw [hs] at sg
      have tl : t < l.length := by
        unfold q_sgn at hs
        rw [decide_eq_true_eq] at hs
        exact q_tok_lt (by omega)
      obtain ⟨P1, hP1⟩ : ∃ P1, P1 = q_u1 P 15 (nI (t + 1)) := ⟨_, rfl⟩
      have p1 : P1 15 = nI (t + 1) := by rw [hP1, q_u1_s]
      have p21 : P1 21 = nI z := by rw [hP1, q_u1_n _ _ (by decide), h21]
      have h1 : q_TM B l zt P1 Q S := q_TM_P h (by rw [hP1, q_u1_n _ _ (by decide)]) rfl rfl rfl rfl
      have st1 : q_ST9 i P P1 Q Q := by rw [hP1]; exact q_ST9_P
      simp only [if_true]
      rcases q_num1_c (l := l) (t := t + 1) (hi := 2 ^ z - 1) with ⟨k, n1, n2⟩ | ⟨n1, n2, n3, n4⟩
      · refine ⟨P1, Q, st1, rfl, ?_⟩
        rw [q_nms, n1]
        rcases n2 with ⟨rfl, n2⟩ | ⟨rfl, n2, n3⟩
        · have ex := q_expectNumber_n (κ := κ) (b := b) (C := C) (O := O) (D := D) (m := m) (lo := 0) (hi := lN (2 ^ z - 1)) h1 p1 (by omega) n2 hn
          rw [F_X13_lines_346]
          simp (disch := first | rfl | omega | decide | exact Nat.le_of_ble_eq_true rfl) only [↓q_br, q_rt, q_rz, q_gd, q_ca, ↓reduceIte, F_X13_lines_346B, ↓q_gA_26_50, ↓q_gI_26_15, ↓q_gI_26_21, ↓q_is_26, ↓q_lI_60, ↓q_pI_26_15, ↓q_sI_60, ha, ↓q_is_26, sg, q_b_0, Bool.true_eq_false, nI_1, ← hP1, p21, sh, e1, ex]
          rfl
        · have ex := q_expectNumber_f (κ := κ) (b := b) (C := C) (O := O) (D := D) (m := m) (lo := 0) (hi := lN (2 ^ z - 1)) h1 p1 n2 n3 hn
          rw [F_X13_lines_346]
          simp (disch := first | rfl | omega | decide | exact Nat.le_of_ble_eq_true rfl) only [↓q_br, q_rt, q_rz, q_gd, q_ca, ↓reduceIte, F_X13_lines_346B, ↓q_gA_26_50, ↓q_gI_26_15, ↓q_gI_26_21, ↓q_is_26, ↓q_lI_60, ↓q_pI_26_15, ↓q_sI_60, ha, ↓q_is_26, sg, q_b_0, Bool.true_eq_false, nI_1, ← hP1, p21, sh, e1, ex]
          rfl
      · have ex := q_expectNumber_t (κ := κ) (b := b) (C := C) (O := O) (D := D) (s := (n, m)) (lo := 0) (hi := lN (2 ^ z - 1)) h1 p1 n2 n3 n4
        have tl2 : t + 1 < l.length := q_tok_lt (by omega)
        obtain ⟨P2, hP2⟩ : ∃ P2, P2 = q_u1 P1 15 (nI (t + 1 + 1)) := ⟨_, rfl⟩
        rw [← hP2] at ex
        obtain ⟨Q2, hQ2⟩ : ∃ Q2, Q2 = q_u2 Q 60 i (nI (c + 1)) := ⟨_, rfl⟩
        have st2 : q_ST9 i P1 P2 Q Q := by rw [hP2]; exact q_ST9_P
        have st3 : q_ST9 i P2 P2 Q Q2 := by rw [hQ2]; exact q_ST9_Q (Or.inr (Or.inl rfl))
        have stA := q_ST9_t (q_ST9_t st1 st2) st3
        obtain ⟨P3, Q3, r1, r2, r3⟩ := ih g (t + 2) (c + 1) P2 Q2 (q_ST9_T h stA) (by rw [hP2, q_u1_s]) (by rw [hP2, q_u1_n _ _ (by decide), p21]) (by rw [hQ2, q_u2_s, q_u1_s]) (by omega) (by omega) (by omega)
        refine ⟨P3, Q3, q_ST9_t stA r1, by rw [r2, hQ2, q_u2_n _ _ _ (by decide)], ?_⟩
        have step : F_X13_lines_346 κ r (g + 1) (some (b + 26)) (nI i) (q_H b C (P, Q, S) O D, n, m) = F_X13_lines_346 κ r g (some (b + 26)) (nI i) (q_H b C (P2, Q2, S) O D, n, m) := by
          rw [F_X13_lines_346]
          simp (disch := first | rfl | omega | decide | exact Nat.le_of_ble_eq_true rfl) only [↓q_br, q_rt, q_rz, q_gd, q_ca, ↓reduceIte, F_X13_lines_346B, ↓q_gA_26_50, ↓q_gI_26_15, ↓q_gI_26_21, ↓q_is_26, ↓q_lI_60, ↓q_pI_26_15, ↓q_sI_60, ha, ↓q_is_26, sg, q_b_0, Bool.true_eq_false, nI_1, ← hP1, p21, sh, e1, ex, h60, ← hQ2]
        rw [step, q_nms, n1]
        exact r3
end QML
