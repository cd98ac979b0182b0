/-! ===== the reference's names ===== -/
def q_PN (Q : Nat → Nat → Int32) (top w : Nat) (nm : q_Nam) : Prop := nm.length ≤ 20 ∧ Q 36 w = nI nm.length ∧ ∃ o, Q 35 w = nI o ∧ o + nm.length ≤ top ∧ ∀ i, i < nm.length → Q 34 (o + i) = nm.getD i 0
def q_PL (N : List q_Nam) (top : Nat) (P : Nat → Int32) (Q : Nat → Nat → Int32) : Prop := P 19 = nI N.length ∧ P 20 = nI top ∧ N.length ≤ 6000 ∧ top ≤ 6000 ∧ N.Nodup ∧ ∀ w nm, N[w]? = some nm → q_PN Q top w nm
section QPA
variable {κ : Nat → Nat} {b : Nat} {B : Nat → Int32} {l : List q_Tok} {z t : Nat} {C : q_CT} {P : Nat → Int32} {Q : Nat → Nat → Int32} {S : Nat → Nat → Int64} {O : Nat → Int64} {D : q_Mem} {s : Nat × Nat}
theorem q_isName_19 {w o top : Nat} {nm : q_Nam} (h : q_TM B l z P Q S) (ht : t < l.length) (hw : w < 8000) (h20 : nm.length ≤ 20) (ho : Q 35 w = nI o) (hto : o + nm.length ≤ top) (htop : top ≤ 6000) (hp : ∀ i, i < nm.length → Q 34 (o + i) = nm.getD i 0) (hlen : (q_tok l t).2.2.1 - (q_tok l t).2.1 = nm.length) : ∀ n fuel j, j + n = nm.length → n < fuel → F_X13_isName_19 κ fuel (some (b + 26)) (nI w) (nI t) (nI j) (q_H b C (P, Q, S) O D, s) = some (.inl (q_b (q_eqf (fun k => B ((q_tok l t).2.1 + k)) (fun k => nm.getD k 0) n j)), (q_H b C (P, Q, S) O D, s)) := by
  have hz := h.2.2.1
  have hl := h.2.1
  obtain ⟨w1, w2, w3, -⟩ := h.2.2.2.2.1 t _ (q_tok_s ht)
  have e1 := q_TM_st h ht
  have e2 := q_TM_ln h ht
  rw [hlen] at e2
  intro n
  induction n with
  | zero =>
    intro fuel j j1 j2
    obtain ⟨f, rfl⟩ : ∃ f, fuel = f + 1 := ⟨fuel - 1, by omega⟩
    have h3 : nm.length ≤ j := by omega
    simp (disch := first | rfl | omega | decide | exact Nat.le_of_ble_eq_true rfl) only [F_X13_isName_19, ↓q_br, q_rt, q_rz, q_gd, q_ca, ↓reduceIte, F_X13_isName_19B, ↓q_gA_26_1, ↓q_gA_26_10, ↓q_gA_26_11, ↓q_gA_26_16, ↓q_gA_26_17, ↓q_lI_28, ↓q_lI_31, ↓q_lI_32, ↓q_lI_34, ↓q_lI_35, e2, nI_leI, h3, q_eqf]
    rfl
  | succ n ih =>
    intro fuel j j1 j2
    obtain ⟨f, rfl⟩ : ∃ f, fuel = f + 1 := ⟨fuel - 1, by omega⟩
    have h3 : ¬ nm.length ≤ j := by omega
    have h5 : Q 28 ((q_tok l t).2.1 + j) = B ((q_tok l t).2.1 + j) := h.2.2.2.2.2.1 _ (by omega)
    have h6 := hp j (by omega)
    simp (disch := first | rfl | omega | decide | exact Nat.le_of_ble_eq_true rfl) only [F_X13_isName_19, ↓q_br, q_rt, q_rz, q_gd, q_ca, ↓reduceIte, F_X13_isName_19B, ↓q_gA_26_1, ↓q_gA_26_10, ↓q_gA_26_11, ↓q_gA_26_16, ↓q_gA_26_17, ↓q_lI_28, ↓q_lI_31, ↓q_lI_32, ↓q_lI_34, ↓q_lI_35, e1, e2, nI_leI, h3, ho, nI_add, h6, h5, nI_1, q_eqf]
    by_cases h7 : B ((q_tok l t).2.1 + j) = nm.getD j 0
    · simp only [h7, if_true, decide_true, Bool.true_and]
      exact ih f (j + 1) (by omega) (by omega)
    · have h8 : ¬ nm.getD j 0 = B ((q_tok l t).2.1 + j) := fun h9 => h7 h9.symm
      simp only [h7, h8, if_false, decide_false, Bool.false_and]
      simp [q_b]
theorem q_isName {w top : Nat} {nm : q_Nam} (h : q_TM B l z P Q S) (ht : t < l.length) (hw : w < 8000) (htop : top ≤ 6000) (hp : q_PN Q top w nm) : F_X13_isName κ (some (b + 26)) (nI w) (nI t) (q_H b C (P, Q, S) O D, s) = some (.inl (q_b (decide (q_tB B (q_tok l t) = nm))), (q_H b C (P, Q, S) O D, s)) := by
  have hz := h.2.2.1
  have hl := h.2.1
  obtain ⟨w1, w2, w3, -⟩ := h.2.2.2.2.1 t _ (q_tok_s ht)
  obtain ⟨p1, p2, o, p3, p4, p5⟩ := hp
  have e2 := q_TM_ln h ht
  simp (disch := first | rfl | omega | decide | exact Nat.le_of_ble_eq_true rfl) only [↓q_br, q_rt, q_rz, q_gd, q_ca, ↓reduceIte, F_X13_isName, ↓q_gA_26_11, ↓q_gA_26_18, ↓q_lI_32, ↓q_lI_36, p2, e2, nI_eq]
  by_cases h5 : (q_tok l t).2.2.1 - (q_tok l t).2.1 = nm.length
  · have h6 := q_isName_19 (κ := κ) (b := b) (C := C) (O := O) (D := D) (s := s) h ht hw p1 p3 p4 htop p5 h5 nm.length q_fu 0 (by omega) (by unfold q_fu; omega)
    rw [nI_0] at h6
    rw [if_pos h5.symm, h6]
    congr 4
    cases h7 : q_eqf (fun k => B ((q_tok l t).2.1 + k)) (fun k => nm.getD k 0) nm.length 0 with
    | true => exact (decide_eq_true (q_tB_eq.mpr ⟨h5, h7⟩)).symm
    | false => exact (decide_eq_false (fun h8 => by rw [(q_tB_eq.mp h8).2] at h7; cases h7)).symm
  · have h7 : ¬ q_tB B (q_tok l t) = nm := fun h8 => h5 (q_tB_eq.mp h8).1
    rw [if_neg (fun h9 => h5 h9.symm), decide_eq_false h7]
    rfl
/-- the number of a name, old or new -/
theorem q_nameOf_2 {N : List q_Nam} {top : Nat} (h : q_TM B l z P Q S) (hy : (q_tok l t).1 = 1) (hP : q_PL N top P Q) (hN : N.length ≤ t) (ht : top ≤ (q_tok l t).2.1) : ∀ n fuel w, w + n = N.length → n < fuel → (∀ v, v < w → N[v]? ≠ some (q_tB B (q_tok l t))) → ∃ N' top' w' P' Q', F_X13_nameOf_2 κ fuel (some (b + 26)) (nI t) (nI w) (q_H b C (P, Q, S) O D, s) = some (.inl (nI w'), (q_H b C (P', Q', S) O D, s)) ∧ q_PL N' top' P' Q' ∧ N'[w']? = some (q_tB B (q_tok l t)) ∧ (N' = N ∨ N' = N ++ [q_tB B (q_tok l t)]) ∧ top' ≤ (q_tok l t).2.2.1 ∧ (∀ k, k ≠ 19 → k ≠ 20 → P' k = P k) ∧ (∀ j, j ≠ 34 → j ≠ 35 → j ≠ 36 → Q' j = Q j) := by
  have hz := h.2.2.1
  have hl := h.2.1
  have hlt := q_tok_lt (l := l) (t := t) (by omega)
  obtain ⟨w1, w2, w3, w4, -⟩ := h.2.2.2.2.1 t _ (q_tok_s hlt)
  have w5 := w4 hy
  have e1 := q_TM_st h hlt
  have e2 := q_TM_ln h hlt
  obtain ⟨p1, p2, p3, p4, p5, p6⟩ := hP
  intro n
  induction n with
  | zero =>
    intro fuel w j1 j2 j3
    obtain ⟨f, rfl⟩ : ∃ f, fuel = f + 1 := ⟨fuel - 1, by omega⟩
    have h3 : N.length ≤ w := by omega
    refine ⟨N ++ [q_tB B (q_tok l t)], top + ((q_tok l t).2.2.1 - (q_tok l t).2.1), N.length, q_u1 (q_u1 P 20 (nI (top + ((q_tok l t).2.2.1 - (q_tok l t).2.1)))) 19 (nI (N.length + 1)), q_cp (q_u2 (q_u2 Q 35 N.length (nI top)) 36 N.length (nI ((q_tok l t).2.2.1 - (q_tok l t).2.1))) 28 34 (q_tok l t).2.1 top ((q_tok l t).2.2.1 - (q_tok l t).2.1), ?_, ?_, ?_, Or.inr rfl, by omega, ?_, ?_⟩
    · have c1 : ∀ f : q_X Int32, q_wr (q_cB (some (b + 28)) (nI (q_tok l t).2.1) (some (b + 34)) (nI top) (nI ((q_tok l t).2.2.1 - (q_tok l t).2.1))) f (q_H b C (P, q_u2 (q_u2 Q 35 N.length (nI top)) 36 N.length (nI ((q_tok l t).2.2.1 - (q_tok l t).2.1)), S) O D, s) = f (q_H b C (P, q_cp (q_u2 (q_u2 Q 35 N.length (nI top)) 36 N.length (nI ((q_tok l t).2.2.1 - (q_tok l t).2.1))) 28 34 (q_tok l t).2.1 top ((q_tok l t).2.2.1 - (q_tok l t).2.1), S) O D, s) := fun f => q_cB_m (n1 := 6000) (n2 := 60000) rfl rfl (by decide) (by decide) (by omega) (by omega) (by decide) (fun x hx => by
          simp (disch := first | rfl | omega | decide | exact Nat.le_of_ble_eq_true rfl) only [q_u2_n]
          rw [h.2.2.2.2.2.1 _ (by omega)]
          exact h.2.2.2.2.2.2 _ (by omega))
      have c2 : q_cp (q_u2 (q_u2 Q 35 N.length (nI top)) 36 N.length (nI ((q_tok l t).2.2.1 - (q_tok l t).2.1))) 28 34 (q_tok l t).2.1 top ((q_tok l t).2.2.1 - (q_tok l t).2.1) 32 t = nI ((q_tok l t).2.2.1 - (q_tok l t).2.1) := by
        simp (disch := first | rfl | omega | decide | exact Nat.le_of_ble_eq_true rfl) only [q_cp_n, q_u2_n, e2]
      simp (disch := first | rfl | omega | decide | exact Nat.le_of_ble_eq_true rfl) only [F_X13_nameOf_2, ↓q_br, q_rt, q_rz, q_gd, q_ca, ↓reduceIte, F_X13_nameOf_2B, ↓q_gA_26_1, ↓q_gA_26_10, ↓q_gA_26_11, ↓q_gA_26_16, ↓q_gA_26_17, ↓q_gA_26_18, ↓q_gI_26_19, ↓q_gI_26_20, ↓q_is_26, ↓q_lI_28, ↓q_lI_31, ↓q_lI_32, ↓q_lI_34, ↓q_lI_35, ↓q_lI_36, ↓q_pI_26_19, ↓q_pI_26_20, ↓q_sI_28, ↓q_sI_31, ↓q_sI_32, ↓q_sI_34, ↓q_sI_35, ↓q_sI_36, p1, p2, nI_leI, h3, q_u2_n, e1, e2, c1, c2, nI_add, nI_1, q_u1_s, q_u1_n, nI_pred]
    · refine ⟨by rw [q_u1_s]; simp, by rw [q_u1_n _ _ (by decide), q_u1_s], by simp; omega, by omega, ?_, ?_⟩
      · rw [List.nodup_append]
        refine ⟨p5, by simp, ?_⟩
        intro a ha c hc
        simp only [List.mem_singleton] at hc
        subst hc
        rintro rfl
        obtain ⟨v, hv1, hv2⟩ := List.mem_iff_getElem.mp ha
        exact j3 v (by omega) (by rw [List.getElem?_eq_getElem hv1, hv2])
      · intro w nm hw
        by_cases hwl : w < N.length
        · rw [List.getElem?_append_left hwl] at hw
          obtain ⟨q1, q2, o, q3, q4, q5⟩ := p6 w nm hw
          have hne : w ≠ N.length := by omega
          refine ⟨q1, ?_, o, ?_, by omega, fun i hi => ?_⟩
          · simp (disch := first | rfl | omega | decide | exact Nat.le_of_ble_eq_true rfl) only [q_cp_n, q_u2_n, q_u2_s, q_u1_n]
            exact q2
          · simp (disch := first | rfl | omega | decide | exact Nat.le_of_ble_eq_true rfl) only [q_cp_n, q_u2_n, q_u2_s, q_u1_n]
            exact q3
          · simp (disch := first | rfl | omega | decide | exact Nat.le_of_ble_eq_true rfl) only [q_cp, if_true, va_cpy, q_u2_n]
            rw [if_neg (by omega)]
            exact q5 i hi
        · have hwe : w = N.length := by
            have := (List.getElem?_eq_some_iff.mp hw).1
            simp only [List.length_append, List.length_cons, List.length_nil] at this
            omega
          subst hwe
          rw [List.getElem?_append_right (Nat.le_refl _), Nat.sub_self] at hw
          simp only [List.getElem?_cons_zero, Option.some.injEq] at hw
          subst hw
          refine ⟨by rw [q_tB_len]; exact w5, ?_, top, ?_, by rw [q_tB_len]; omega, fun i hi => ?_⟩
          · rw [q_tB_len]
            simp (disch := first | rfl | omega | decide | exact Nat.le_of_ble_eq_true rfl) only [q_cp_n, q_u2_n, q_u2_s, q_u1_s]
          · simp (disch := first | rfl | omega | decide | exact Nat.le_of_ble_eq_true rfl) only [q_cp_n, q_u2_n, q_u2_s, q_u1_s]
          · rw [q_tB_len] at hi
            rw [q_tB_g hi]
            simp (disch := first | rfl | omega | decide | exact Nat.le_of_ble_eq_true rfl) only [q_cp, if_true, va_cpy, q_u2_n]
            rw [if_pos (by omega), Nat.add_sub_cancel_left]
            exact h.2.2.2.2.2.1 _ (by omega)
    · rw [List.getElem?_append_right (Nat.le_refl _), Nat.sub_self]
      rfl
    · intro k k1 k2
      rw [q_u1_n _ _ k1, q_u1_n _ _ k2]
    · intro j j1 j2 j3
      simp only [q_cp, if_neg j1]
      rw [q_u2_n _ _ _ j3, q_u2_n _ _ _ j2]
  | succ n ih =>
    intro fuel w j1 j2 j3
    obtain ⟨f, rfl⟩ : ∃ f, fuel = f + 1 := ⟨fuel - 1, by omega⟩
    have h3 : ¬ N.length ≤ w := by omega
    have hwl : w < N.length := by omega
    have hg := List.getElem?_eq_getElem hwl
    have e5 := q_isName (κ := κ) (b := b) (C := C) (O := O) (D := D) (s := s) h hlt (w := w) (by omega) p4 (p6 w _ hg)
    by_cases h7 : q_tB B (q_tok l t) = N[w]
    · refine ⟨N, top, w, P, Q, ?_, ⟨p1, p2, p3, p4, p5, p6⟩, by rw [hg, h7], Or.inl rfl, by omega, fun _ _ _ => rfl, fun _ _ _ _ => rfl⟩
      simp (disch := first | rfl | omega | decide | exact Nat.le_of_ble_eq_true rfl) only [F_X13_nameOf_2, ↓q_br, q_rt, q_rz, q_gd, q_ca, ↓reduceIte, F_X13_nameOf_2B, ↓q_gA_26_1, ↓q_gA_26_10, ↓q_gA_26_11, ↓q_gA_26_16, ↓q_gA_26_17, ↓q_gA_26_18, ↓q_gI_26_19, ↓q_gI_26_20, ↓q_is_26, ↓q_lI_28, ↓q_lI_31, ↓q_lI_32, ↓q_lI_34, ↓q_lI_35, ↓q_lI_36, ↓q_pI_26_19, ↓q_pI_26_20, ↓q_sI_28, ↓q_sI_31, ↓q_sI_32, ↓q_sI_34, ↓q_sI_35, ↓q_sI_36, p1, nI_leI, h3, e5, q_b_0, h7, decide_true, Bool.true_eq_false]
    · obtain ⟨N', top', w', P', Q', r1, r2⟩ := ih f (w + 1) (by omega) (by omega) (fun v hv => by
        rcases Nat.lt_succ_iff_lt_or_eq.mp hv with hv | hv
        · exact j3 v hv
        · rw [hv, hg]; intro h9; exact h7 (Option.some.inj h9).symm)
      refine ⟨N', top', w', P', Q', ?_, r2⟩
      simp (disch := first | rfl | omega | decide | exact Nat.le_of_ble_eq_true rfl) only [F_X13_nameOf_2, ↓q_br, q_rt, q_rz, q_gd, q_ca, ↓reduceIte, F_X13_nameOf_2B, ↓q_gA_26_1, ↓q_gA_26_10, ↓q_gA_26_11, ↓q_gA_26_16, ↓q_gA_26_17, ↓q_gA_26_18, ↓q_gI_26_19, ↓q_gI_26_20, ↓q_is_26, ↓q_lI_28, ↓q_lI_31, ↓q_lI_32, ↓q_lI_34, ↓q_lI_35, ↓q_lI_36, ↓q_pI_26_19, ↓q_pI_26_20, ↓q_sI_28, ↓q_sI_31, ↓q_sI_32, ↓q_sI_34, ↓q_sI_35, ↓q_sI_36, p1, nI_leI, h3, e5, q_b_0, h7, decide_false, nI_1]
      exact r1
theorem q_nameOf {N : List q_Nam} {top : Nat} (h : q_TM B l z P Q S) (hy : (q_tok l t).1 = 1) (hP : q_PL N top P Q) (hN : N.length ≤ t) (ht : top ≤ (q_tok l t).2.1) : ∃ N' top' w' P' Q', F_X13_nameOf κ (some (b + 26)) (nI t) (q_H b C (P, Q, S) O D, s) = some (.inl (nI w'), (q_H b C (P', Q', S) O D, s)) ∧ q_PL N' top' P' Q' ∧ N'[w']? = some (q_tB B (q_tok l t)) ∧ (N' = N ∨ N' = N ++ [q_tB B (q_tok l t)]) ∧ top' ≤ (q_tok l t).2.2.1 ∧ (∀ k, k ≠ 19 → k ≠ 20 → P' k = P k) ∧ (∀ j, j ≠ 34 → j ≠ 35 → j ≠ 36 → Q' j = Q j) := by
  have h1 := q_nameOf_2 (κ := κ) (b := b) (C := C) (O := O) (D := D) (s := s) h hy hP hN ht N.length q_fu 0 (by omega) (by have := hP.2.2.1; unfold q_fu; omega) (fun v hv => by omega)
  rw [nI_0] at h1
  unfold F_X13_nameOf
  exact h1
end QPA
