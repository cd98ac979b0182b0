section QMC
variable {κ : Nat → Nat} {b : Nat} {B : Nat → Int32} {l : List q_Tok} {z t : Nat} {C : q_CT} {P : Nat → Int32} {Q : Nat → Nat → Int32} {S : Nat → Nat → Int64} {O : Nat → Int64} {D : q_Mem}
theorem q_MK_ext {N N' : List q_Nam} {Q' : Nat → Nat → Int32} {L : List q_Knd} (h : ∀ k K, L[k]? = some K → q_WK K ∧ q_MKd N Q k K) (hp : N <+: N') (h37 : ∀ j i, 37 ≤ j → j ≤ 41 → i < L.length → Q' j i = Q j i) (h42 : ∀ i, i < 32 * L.length → Q' 42 i = Q 42 i) : ∀ k K, L[k]? = some K → q_WK K ∧ q_MKd N' Q' k K := by
  intro k K hK
  have hk := (List.getElem?_eq_some_iff.mp hK).1
  obtain ⟨hw, m1, ⟨v, m2, m3⟩, m4, m5, m6, m7⟩ := h k K hK
  refine ⟨hw, by rw [h37 38 k (by decide) (by decide) hk, m1], ⟨v, by rw [h37 37 k (by decide) (by decide) hk, m2], q_pre_g hp m3⟩, fun h0 => ?_, fun h0 => ?_, by rw [h37 41 k (by decide) (by decide) hk, m6], fun h4 i nm hi => ?_⟩
  · obtain ⟨v, e1, e2⟩ := m4 h0
    exact ⟨v, by rw [h37 39 k (by decide) (by decide) hk, e1], q_pre_g hp e2⟩
  · rw [h37 40 k (by decide) (by decide) hk, m5 h0]
  · obtain ⟨v, e1, e2⟩ := m7 h4 i nm hi
    have hi2 := (List.getElem?_eq_some_iff.mp hi).1
    have hi3 := hw.2.2.2.2.1 h4
    exact ⟨v, by rw [h42 _ (by omega), e1], q_pre_g hp e2⟩
theorem q_mfin {n m w so cnt top : Nat} {N : List q_Nam} {L : List q_Knd} {K : q_Knd} (h : q_TM B l z P Q S) (ha : P 15 = nI t) (ht : t ≤ l.length) (hk : L.length < 40) (h22 : P 22 = nI L.length) (hn : b + 66 < n) (hP : q_PL N top P Q) (old : ∀ k K, L[k]? = some K → q_WK K ∧ q_MKd N Q k K) (hWK : q_WK K) (hKs : q_kS K = so) (hw : N[w]? = some (q_kN K)) (hc : (so = 0 ∨ so = 4) → cnt = q_kZ K) (h41 : Q 41 L.length = nI (q_kB K)) (h39 : so = 0 → ∃ w, Q 39 L.length = nI w ∧ N[w]? = some (q_kW K)) (h42 : so = 4 → q_MS N Q L.length (q_kM K)) :
    ∃ P' Q', (∀ j, j ≠ 22 → P' j = P j) ∧ (∀ j, j ≠ 37 → j ≠ 38 → j ≠ 40 → Q' j = Q j) ∧ (match q_fin l K t with
      | .inl (e, p) => F_X13_kind_362 κ (some (b + 26)) (nI so) (nI w) (nI L.length) (nI cnt) (q_H b C (P, Q, S) O D, n, m) = q_thr Unit b C (P', Q', S) O D n m (nI e) (nI p)
      | .inr (K', t') => F_X13_kind_362 κ (some (b + 26)) (nI so) (nI w) (nI L.length) (nI cnt) (q_H b C (P, Q, S) O D, n, m) = some (.inl (), (q_H b C (P', Q', S) O D, n, m)) ∧ t' = t + 1 ∧ q_sgn l t 59 = true ∧ q_PL N top P' Q' ∧ q_MMk N P' Q' (L ++ [K'])) := by
  have e1 := q_k362 (κ := κ) (b := b) (C := C) (O := O) (D := D) (m := m) (w := w) (so := so) (cnt := cnt) h ha ht hk h22 hn
  have i1 : nI 1 = 1 := rfl
  unfold q_fin
  by_cases hs : q_sgn l t 59 = true
  · rw [if_pos hs] at e1 ⊢
    refine ⟨q_u1 P 22 (nI (L.length + 1)), q_u2 (q_u2 (q_u2 Q 37 L.length (nI w)) 38 L.length (nI so)) 40 L.length (nI cnt), fun j hj => q_u1_n _ _ hj, fun j j1 j2 j3 => by rw [q_u2_n _ _ _ j3, q_u2_n _ _ _ j2, q_u2_n _ _ _ j1], e1, rfl, hs, ?_, ?_⟩
    · exact q_PL_P hP (q_u1_n _ _ (by decide)) (q_u1_n _ _ (by decide)) (by simp (disch := first | rfl | omega | decide | exact Nat.le_of_ble_eq_true rfl) only [q_u2_n]) (by simp (disch := first | rfl | omega | decide | exact Nat.le_of_ble_eq_true rfl) only [q_u2_n]) (by simp (disch := first | rfl | omega | decide | exact Nat.le_of_ble_eq_true rfl) only [q_u2_n])
    · refine ⟨by rw [q_u1_s]; simp, by simp; omega, fun k K' hK' => ?_⟩
      by_cases hkl : k < L.length
      · rw [List.getElem?_append_left hkl] at hK'
        refine q_MK_ext old (List.prefix_refl _) (fun j i j1 j2 hi => ?_) (fun i hi => ?_) k K' hK'
        · have hne : i ≠ L.length := by omega
          have hj : j = 37 ∨ j = 38 ∨ j = 39 ∨ j = 40 ∨ j = 41 := by omega
          rcases hj with rfl | rfl | rfl | rfl | rfl <;> simp (disch := first | rfl | omega | decide | exact Nat.le_of_ble_eq_true rfl) only [q_u2_s, q_u2_n, q_u1_n]
        · simp (disch := first | rfl | omega | decide | exact Nat.le_of_ble_eq_true rfl) only [q_u2_n]
      · have hke : k = L.length := by
          have := (List.getElem?_eq_some_iff.mp hK').1
          simp only [List.length_append, List.length_cons, List.length_nil] at this
          omega
        subst hke
        rw [List.getElem?_append_right (Nat.le_refl _), Nat.sub_self] at hK'
        simp only [List.getElem?_cons_zero, Option.some.injEq] at hK'
        subst hK'
        refine ⟨hWK, ?_, ⟨w, ?_, hw⟩, fun h0 => ?_, fun h0 => ?_, ?_, fun h4 i nm hi => ?_⟩
        · simp (disch := first | rfl | omega | decide | exact Nat.le_of_ble_eq_true rfl) only [q_u2_s, q_u2_n, q_u1_s]
          rw [hKs]
        · simp (disch := first | rfl | omega | decide | exact Nat.le_of_ble_eq_true rfl) only [q_u2_s, q_u2_n, q_u1_s]
        · obtain ⟨v, v1, v2⟩ := h39 (hKs ▸ h0)
          exact ⟨v, by simp (disch := first | rfl | omega | decide | exact Nat.le_of_ble_eq_true rfl) only [q_u2_n]; exact v1, v2⟩
        · simp (disch := first | rfl | omega | decide | exact Nat.le_of_ble_eq_true rfl) only [q_u2_s, q_u1_s]
          rw [hc (hKs ▸ h0)]
        · simp (disch := first | rfl | omega | decide | exact Nat.le_of_ble_eq_true rfl) only [q_u2_n]
          exact h41
        · obtain ⟨v, v1, v2⟩ := h42 (hKs ▸ h4) i nm hi
          exact ⟨v, by simp (disch := first | rfl | omega | decide | exact Nat.le_of_ble_eq_true rfl) only [q_u2_n]; exact v1, v2⟩
  · rw [if_neg hs] at e1 ⊢
    exact ⟨P, q_u2 (q_u2 (q_u2 Q 37 L.length (nI w)) 38 L.length (nI so)) 40 L.length (nI cnt), fun _ _ => rfl, fun j j1 j2 j3 => by rw [q_u2_n _ _ _ j3, q_u2_n _ _ _ j2, q_u2_n _ _ _ j1], e1⟩
theorem q_mkind {n m so top : Nat} {N : List q_Nam} {L : List q_Knd} (h : q_TM B l z P Q S) (ha : P 15 = nI t) (ht : t ≤ l.length) (hso : so ≤ 4) (hn : b + 66 < n) (hP : q_PL N top P Q) (hN : N.length ≤ t) (hT : q_TP l top t) (hk : q_MMk N P Q L) :
    ∃ P' Q', (∀ j, j ≠ 15 → j ≠ 19 → j ≠ 20 → j ≠ 22 → P' j = P j) ∧ (∀ j, j < 34 ∨ 42 < j → Q' j = Q j) ∧ (match q_pk B l L so t with
      | .inl (e, p) => F_X13_kind κ (some (b + 26)) (nI so) (q_H b C (P, Q, S) O D, n, m) = q_thr Unit b C (P', Q', S) O D n m (nI e) (nI p)
      | .inr (K, t') => F_X13_kind κ (some (b + 26)) (nI so) (q_H b C (P, Q, S) O D, n, m) = some (.inl (), (q_H b C (P', Q', S) O D, n, m)) ∧ ∃ t1, t' = t1 + 1 ∧ P' 15 = nI t1 ∧ q_sgn l t1 59 = true ∧ ∃ N' top', q_PL N' top' P' Q' ∧ N <+: N' ∧ N'.length ≤ t' ∧ q_TP l top' t' ∧ q_MMk N' P' Q' (L ++ [K])) := by
  have hz := h.2.2.1
  have hl := h.2.1
  have hwf := h.2.2.2.2.1
  have i1 : nI 1 = 1 := rfl
  have i2 : nI 2 = 2 := rfl
  have i3 : nI 3 = 3 := rfl
  unfold q_pk
  by_cases hy : (q_tok l t).1 = 1
  · rw [if_pos hy]
    have hlt := q_tok_lt (l := l) (t := t) (by omega)
    have c1 := q_expectName_t (κ := κ) (b := b) (C := C) (O := O) (D := D) (s := (n, m)) h ha hy
    have h1 : q_TM B l z (q_u1 P 15 (nI (t + 1))) Q S := q_TM_P h (q_u1_n _ _ (by decide)) rfl rfl rfl rfl
    have hP1 : q_PL N top (q_u1 P 15 (nI (t + 1))) Q := q_PL_P hP (q_u1_n _ _ (by decide)) (q_u1_n _ _ (by decide)) rfl rfl rfl
    obtain ⟨N2, top2, w, P2, Q2, n1, n2, n3, n4, n5, n6, n7⟩ := q_nameOf (κ := κ) (b := b) (C := C) (O := O) (D := D) (s := (n, m)) h1 hy hP1 hN (hT t (Nat.le_refl _) hlt)
    have hpre : N <+: N2 := by
      rcases n4 with e | e <;> rw [e]
      · exact List.prefix_refl _
      · exact List.prefix_append _ _
    have hN2 : N2.length ≤ t + 1 := by
      rcases n4 with e | e <;> rw [e]
      · omega
      · simp only [List.length_append, List.length_cons, List.length_nil]; omega
    have ha2 : P2 15 = nI (t + 1) := by rw [n6 15 (by decide) (by decide), q_u1_s]
    have h22 : P2 22 = nI L.length := by rw [n6 22 (by decide) (by decide), q_u1_n _ _ (by decide), hk.1]
    have h2 : q_TM B l z P2 Q2 S := q_TM_P h1 (n6 13 (by decide) (by decide)) (n7 28 (by decide) (by decide) (by decide)) (n7 30 (by decide) (by decide) (by decide)) (n7 31 (by decide) (by decide) (by decide)) (n7 32 (by decide) (by decide) (by decide))
    have old2 : ∀ k K, L[k]? = some K → q_WK K ∧ q_MKd N2 Q2 k K := q_MK_ext hk.2.2 hpre (fun j i j1 j2 _ => by rw [n7 j (by omega) (by omega) (by omega)]) (fun i _ => by rw [n7 42 (by decide) (by decide) (by decide)])
    have hk2 : q_MMk N2 P2 Q2 L := ⟨h22, hk.2.1, old2⟩
    have hT2 : q_TP l top2 (t + 1) := q_TP_next hwf n5
    have fP2 : ∀ j, j ≠ 15 → j ≠ 19 → j ≠ 20 → j ≠ 22 → P2 j = P j := fun j j1 j2 j3 _ => by rw [n6 j j2 j3, q_u1_n _ _ j1]
    have fQ2 : ∀ j, j < 34 ∨ 42 < j → Q2 j = Q j := fun j hj => n7 j (by omega) (by omega) (by omega)
    have step : F_X13_kind κ (some (b + 26)) (nI so) (q_H b C (P, Q, S) O D, n, m) = F_X13_kind_14 κ q_fu (some (b + 26)) (nI so) (nI t) (nI w) 0 (q_H b C (P2, Q2, S) O D, n, m) := by
      simp (disch := first | rfl | omega | decide | exact Nat.le_of_ble_eq_true rfl) only [↓q_br, q_rt, q_rz, q_gd, q_ca, ↓reduceIte, F_X13_kind, ↓q_is_26, c1, n1]
    rw [step]
    by_cases hin : (q_fi (fun i => decide (q_tB B (q_tok l t) = q_kN (q_kg L i))) L.length 0).isSome = true
    · rw [if_pos hin]
      have r := q_k14_s (κ := κ) (b := b) (C := C) (S := S) (O := O) (D := D) (m := m) (so := nI so) (tt := nI t) n2 hk2 n3 hn L.length q_fu 0 (by omega) (by have := hk.2.1; unfold q_fu; omega) hin
      rw [nI_0] at r
      exact ⟨P2, Q2, fP2, fQ2, r⟩
    · rw [if_neg hin]
      have hnone : q_fi (fun i => decide (q_tB B (q_tok l t) = q_kN (q_kg L i))) L.length 0 = none := by
        cases hq : q_fi (fun i => decide (q_tB B (q_tok l t) = q_kN (q_kg L i))) L.length 0 with
        | none => rfl
        | some i => rw [hq] at hin; simp at hin
      obtain ⟨f, r⟩ := q_k14_n (κ := κ) (b := b) (C := C) (S := S) (O := O) (D := D) (s := (n, m)) (so := nI so) (tt := nI t) n2 hk2 n3 L.length q_fu 0 (by omega) (by have := hk.2.1; unfold q_fu; omega) hnone
      rw [nI_0] at r
      rw [r, F_X13_kind_14]
      have e9 : nI L.length ≤ nI L.length := Int32.le_refl _
      by_cases h40 : L.length = 40
      · rw [if_pos h40]
        have e8 : nI L.length = 40 := by rw [h40]; rfl
        have e10 : (40 : Int32) ≤ 40 := by decide
        refine ⟨P2, Q2, fP2, fQ2, ?_⟩
        simp (disch := first | rfl | omega | decide | exact Nat.le_of_ble_eq_true rfl) only [↓q_br, q_rt, q_rz, q_gd, q_ca, ↓reduceIte, F_X13_kind_14B, ↓q_gA_26_24, ↓q_gA_26_28, ↓q_gI_26_22, ↓q_is_26, ↓q_lI_37, ↓q_lI_41, ↓q_sI_37, ↓q_sI_41, h22, e8, e10, not_true_eq_false, q_mk_H, reduceCtorEq, not_false_eq_true, q_fault, qd_Su, q_tr, i3]
      · rw [if_neg h40]
        have hL : L.length < 40 := by have := hk.2.1; omega
        have e8 : ¬ nI L.length = 40 := fun h9 => h40 ((nI_eq (b := 40) (by omega) (by decide)).mp h9)
        have s0 : (nI so = (0 : Int32)) ↔ so = 0 := nI_eq (b := 0) (by omega) (by decide)
        have s4 : (nI so = (4 : Int32)) ↔ so = 4 := nI_eq (b := 4) (by omega) (by decide)
        unfold q_pr
        by_cases hs0 : so = 0
        · rw [if_pos hs0]
          by_cases hy1 : (q_tok l (t + 1)).1 = 1
          · have hlt1 := q_tok_lt (l := l) (t := t + 1) (by omega)
            have c2 := q_expectName_t (κ := κ) (b := b) (C := C) (O := O) (D := D) (s := (n, m)) h2 ha2 hy1
            have h3 : q_TM B l z (q_u1 P2 15 (nI (t + 1 + 1))) Q2 S := q_TM_P h2 (q_u1_n _ _ (by decide)) rfl rfl rfl rfl
            have hP3 : q_PL N2 top2 (q_u1 P2 15 (nI (t + 1 + 1))) Q2 := q_PL_P n2 (q_u1_n _ _ (by decide)) (q_u1_n _ _ (by decide)) rfl rfl rfl
            have step2 : F_X13_kind_14B κ (F_X13_kind_14 κ f) (some (b + 26)) (nI so) (nI t) (nI w) (nI L.length) (q_H b C (P2, Q2, S) O D, n, m) = F_X13_kind_253 κ q_fu (some (b + 26)) (nI so) (nI w) (nI L.length) (nI (t + 1)) 0 (q_H b C (q_u1 P2 15 (nI (t + 1 + 1)), Q2, S) O D, n, m) := by
              have s4' : ¬ nI so = 4 := fun h9 => by have := s4.mp h9; omega
              have s0' : (nI so = 0) = True := eq_true (s0.mpr hs0)
              simp (disch := first | rfl | omega | decide | exact Nat.le_of_ble_eq_true rfl) only [↓q_br, q_rt, q_rz, q_gd, q_ca, ↓reduceIte, F_X13_kind_14B, ↓q_gA_26_24, ↓q_gA_26_28, ↓q_gI_26_22, ↓q_is_26, ↓q_lI_37, ↓q_lI_41, ↓q_sI_37, ↓q_sI_41, h22, e9, e8, s4', s0', not_false_eq_true, not_true_eq_false, c2]
            rw [step2]
            have frP : ∀ j, j ≠ 15 → j ≠ 19 → j ≠ 20 → j ≠ 22 → q_u1 P2 15 (nI (t + 1 + 1)) j = P j := fun j j1 j2 j3 j4 => by rw [q_u1_n _ _ j1, fP2 j j1 j2 j3 j4]
            by_cases hlet : q_lt B (q_tok l (t + 1)) = true
            · rw [if_pos ⟨hy1, hlet⟩]
              rw [q_al_lt] at hlet
              obtain ⟨f2, r2⟩ := q_k253_t (κ := κ) (b := b) (C := C) (O := O) (D := D) (s := (n, m)) (so := nI so) (w := nI w) (k := nI L.length) h3 hlt1 ((q_tok l (t + 1)).2.2.1 - (q_tok l (t + 1)).2.1) q_fu 0 (by omega) (by have := (hwf (t + 1) _ (q_tok_s hlt1)).2.2.1; unfold q_fu; omega) hlet
              rw [nI_0] at r2
              rw [r2]
              obtain ⟨N4, top4, w4, P4, Q4, m1, m2, m3, m4, m5, m6, m7⟩ := q_nameOf (κ := κ) (b := b) (C := C) (O := O) (D := D) (s := (n, m)) h3 hy1 hP3 hN2 (hT2 (t + 1) (Nat.le_refl _) hlt1)
              have hpre4 : N2 <+: N4 := by
                rcases m4 with e | e <;> rw [e]
                · exact List.prefix_refl _
                · exact List.prefix_append _ _
              have hN4 : N4.length ≤ t + 2 := by
                rcases m4 with e | e <;> rw [e]
                · omega
                · simp only [List.length_append, List.length_cons, List.length_nil]; omega
              have ha4 : P4 15 = nI (t + 1 + 1) := by rw [m6 15 (by decide) (by decide), q_u1_s]
              have e2 : Q2 32 (t + 1) = nI ((q_tok l (t + 1)).2.2.1 - (q_tok l (t + 1)).2.1) := q_TM_ln h3 hlt1
              have e3 : nI ((q_tok l (t + 1)).2.2.1 - (q_tok l (t + 1)).2.1) ≤ nI ((q_tok l (t + 1)).2.2.1 - (q_tok l (t + 1)).2.1) := Int32.le_refl _
              have h4 : q_TM B l z P4 (q_u2 Q4 39 L.length (nI w4)) S := q_TM_P h3 (m6 13 (by decide) (by decide)) (by rw [q_u2_n _ _ _ (by decide), m7 28 (by decide) (by decide) (by decide)]) (by rw [q_u2_n _ _ _ (by decide), m7 30 (by decide) (by decide) (by decide)]) (by rw [q_u2_n _ _ _ (by decide), m7 31 (by decide) (by decide) (by decide)]) (by rw [q_u2_n _ _ _ (by decide), m7 32 (by decide) (by decide) (by decide)])
              have frP4 : ∀ j, j ≠ 15 → j ≠ 19 → j ≠ 20 → j ≠ 22 → P4 j = P j := fun j j1 j2 j3 j4 => by rw [m6 j j2 j3, frP j j1 j2 j3 j4]
              have frQ4 : ∀ j, j < 34 ∨ 42 < j → q_u2 Q4 39 L.length (nI w4) j = Q j := fun j hj => by rw [q_u2_n _ _ _ (by omega), m7 j (by omega) (by omega) (by omega), fQ2 j hj]
              have e22 : P4 22 = nI L.length := by rw [m6 22 (by decide) (by decide), q_u1_n _ _ (by decide), h22]
              by_cases hn2 : (q_tok l (t + 2)).1 = 2
              · rw [if_pos hn2]
                by_cases hv : 1 ≤ q_nv l (t + 2) ∧ q_nv l (t + 2) ≤ 64
                · rw [if_pos hv]
                  have c5 := q_expectNumber_t (κ := κ) (b := b) (C := C) (O := O) (D := D) (s := (n, m)) h4 ha4 hn2 hv.1 hv.2
                  obtain ⟨v1, v2⟩ := q_vn_b (hi := 64) hwf hn2 hv.1 hv.2 (by decide)
                  have v3 : (q_nv l (t + 2)).toInt32 = nI (q_vn l (t + 2)) := by rw [(q_vn_e hwf hn2).1, lN_i]
                  have e10 : nI (q_vn l (t + 2)) - 1 = nI (q_vn l (t + 2) - 1) := nI_sub (b := 1) (by omega)
                  have e11 := q_needed (κ := κ) (a := q_vn l (t + 2) - 1) (σ := (q_H b C (q_u1 P4 15 (nI (t + 1 + 1 + 1)), q_u2 Q4 39 L.length (nI w4), S) O D, n, m)) (by omega)
                  have e12 : q_vn l (t + 2) - 1 + 1 = q_vn l (t + 2) := by omega
                  rw [e12] at e11
                  have hlt2 := q_tok_lt (l := l) (t := t + 2) (by omega)
                  have st3 : F_X13_kind_253 κ (f2 + 1) (some (b + 26)) (nI so) (nI w) (nI L.length) (nI (t + 1)) (nI ((q_tok l (t + 1)).2.2.1 - (q_tok l (t + 1)).2.1)) (q_H b C (q_u1 P2 15 (nI (t + 1 + 1)), Q2, S) O D, n, m) = F_X13_kind_362 κ (some (b + 26)) (nI so) (nI w) (nI L.length) (nI (q_vn l (t + 2))) (q_H b C (q_u1 P4 15 (nI (t + 1 + 1 + 1)), q_u2 (q_u2 Q4 39 L.length (nI w4)) 41 L.length (nI (q_nd (q_vn l (t + 2)) 6 1)), S) O D, n, m) := by
                    rw [F_X13_kind_253]
                    simp (disch := first | rfl | omega | decide | exact Nat.le_of_ble_eq_true rfl) only [↓q_br, q_rt, q_rz, q_gd, q_ca, ↓reduceIte, F_X13_kind_253B, ↓q_gA_26_1, ↓q_gA_26_10, ↓q_gA_26_11, ↓q_gA_26_26, ↓q_gA_26_28, ↓q_is_26, ↓q_lI_28, ↓q_lI_31, ↓q_lI_32, ↓q_lI_39, ↓q_lI_41, ↓q_sI_28, ↓q_sI_31, ↓q_sI_32, ↓q_sI_39, ↓q_sI_41, e2, e3, m1, c5, v3, e10, e11]
                  rw [st3]
                  obtain ⟨nb1, nb2, nb3⟩ := q_nd_b _ v2
                  have h5 : q_TM B l z (q_u1 P4 15 (nI (t + 1 + 1 + 1))) (q_u2 (q_u2 Q4 39 L.length (nI w4)) 41 L.length (nI (q_nd (q_vn l (t + 2)) 6 1))) S := q_TM_P h4 (q_u1_n _ _ (by decide)) (q_u2_n _ _ _ (by decide)) (q_u2_n _ _ _ (by decide)) (q_u2_n _ _ _ (by decide)) (q_u2_n _ _ _ (by decide))
                  have hP5 : q_PL N4 top4 (q_u1 P4 15 (nI (t + 1 + 1 + 1))) (q_u2 (q_u2 Q4 39 L.length (nI w4)) 41 L.length (nI (q_nd (q_vn l (t + 2)) 6 1))) := q_PL_P m2 (q_u1_n _ _ (by decide)) (q_u1_n _ _ (by decide)) (by simp (disch := first | rfl | omega | decide | exact Nat.le_of_ble_eq_true rfl) only [q_u2_n]) (by simp (disch := first | rfl | omega | decide | exact Nat.le_of_ble_eq_true rfl) only [q_u2_n]) (by simp (disch := first | rfl | omega | decide | exact Nat.le_of_ble_eq_true rfl) only [q_u2_n])
                  obtain ⟨P', Q', g1, g2, g3⟩ := q_mfin (κ := κ) (b := b) (C := C) (O := O) (D := D) (m := m) (w := w) (so := so) (cnt := q_vn l (t + 2)) (K := (so, q_tB B (q_tok l t), q_tB B (q_tok l (t + 1)), [], q_vn l (t + 2), q_nd (q_vn l (t + 2)) 6 1)) h5 (q_u1_s _ _ _) (by omega) hL (by rw [q_u1_n _ _ (by decide), e22]) hn hP5
                    (q_MK_ext old2 hpre4 (fun j i j1 j2 hi => by
                      have hne : i ≠ L.length := by omega
                      have hj : j = 37 ∨ j = 38 ∨ j = 39 ∨ j = 40 ∨ j = 41 := by omega
                      rw [← m7 j (by omega) (by omega) (by omega)]
                      rcases hj with rfl | rfl | rfl | rfl | rfl <;> simp (disch := first | rfl | omega | decide | exact Nat.le_of_ble_eq_true rfl) only [q_u2_s, q_u2_n, q_u1_n]) (fun i _ => by simp (disch := first | rfl | omega | decide | exact Nat.le_of_ble_eq_true rfl) only [q_u2_n]; rw [m7 42 (by decide) (by decide) (by decide)]))
                    (q_WK_i (by omega) nb1 nb2 v2 (fun h9 => by omega) (fun _ => ⟨nb3, v1⟩)) rfl (q_pre_g hpre4 n3) (fun _ => rfl) (by rw [q_u2_s, q_u1_s]) (fun _ => ⟨w4, by simp (disch := first | rfl | omega | decide | exact Nat.le_of_ble_eq_true rfl) only [q_u2_s, q_u2_n, q_u1_s], m3⟩) (fun h9 => by omega)
                  refine ⟨P', Q', fun j j1 j2 j3 j4 => by rw [g1 j j4, q_u1_n _ _ j1, frP4 j j1 j2 j3 j4], fun j hj => by rw [g2 j (by omega) (by omega) (by omega), q_u2_n _ _ _ (by omega), frQ4 j hj], ?_⟩
                  simp only
                  cases hq : q_fin l (so, q_tB B (q_tok l t), q_tB B (q_tok l (t + 1)), [], q_vn l (t + 2), q_nd (q_vn l (t + 2)) 6 1) (t + 3) with
                  | inl e =>
                    obtain ⟨k', p⟩ := e
                    rw [hq] at g3
                    exact g3
                  | inr e =>
                    obtain ⟨K', t'⟩ := e
                    rw [hq] at g3
                    obtain ⟨y1, y2, y3, y4, y5⟩ := g3
                    refine ⟨y1, t + 3, y2, by rw [g1 15 (by decide), q_u1_s], y3, N4, top4, y4, hpre.trans hpre4, by omega, ?_, y5⟩
                    rw [y2]
                    exact fun t'' h1 h2 => q_TP_next hwf m5 t'' (by omega) h2
                · rw [if_neg hv]
                  have c5 := q_expectNumber_f (κ := κ) (b := b) (C := C) (O := O) (D := D) (m := m) h4 ha4 hn2 hv hn
                  refine ⟨P4, q_u2 Q4 39 L.length (nI w4), frP4, frQ4, ?_⟩
                  show F_X13_kind_253 κ (f2 + 1) (some (b + 26)) (nI so) (nI w) (nI L.length) (nI (t + 1)) (nI ((q_tok l (t + 1)).2.2.1 - (q_tok l (t + 1)).2.1)) (q_H b C (q_u1 P2 15 (nI (t + 1 + 1)), Q2, S) O D, n, m) = _
                  rw [F_X13_kind_253]
                  simp (disch := first | rfl | omega | decide | exact Nat.le_of_ble_eq_true rfl) only [↓q_br, q_rt, q_rz, q_gd, q_ca, ↓reduceIte, F_X13_kind_253B, ↓q_gA_26_1, ↓q_gA_26_10, ↓q_gA_26_11, ↓q_gA_26_26, ↓q_gA_26_28, ↓q_is_26, ↓q_lI_28, ↓q_lI_31, ↓q_lI_32, ↓q_lI_39, ↓q_lI_41, ↓q_sI_28, ↓q_sI_31, ↓q_sI_32, ↓q_sI_39, ↓q_sI_41, e2, e3, m1, c5, i3]
              · rw [if_neg hn2]
                have c5 := q_expectNumber_n (κ := κ) (b := b) (C := C) (O := O) (D := D) (m := m) (lo := 1) (hi := 64) h4 ha4 (by omega) hn2 hn
                refine ⟨P4, q_u2 Q4 39 L.length (nI w4), frP4, frQ4, ?_⟩
                show F_X13_kind_253 κ (f2 + 1) (some (b + 26)) (nI so) (nI w) (nI L.length) (nI (t + 1)) (nI ((q_tok l (t + 1)).2.2.1 - (q_tok l (t + 1)).2.1)) (q_H b C (q_u1 P2 15 (nI (t + 1 + 1)), Q2, S) O D, n, m) = _
                rw [F_X13_kind_253]
                simp (disch := first | rfl | omega | decide | exact Nat.le_of_ble_eq_true rfl) only [↓q_br, q_rt, q_rz, q_gd, q_ca, ↓reduceIte, F_X13_kind_253B, ↓q_gA_26_1, ↓q_gA_26_10, ↓q_gA_26_11, ↓q_gA_26_26, ↓q_gA_26_28, ↓q_is_26, ↓q_lI_28, ↓q_lI_31, ↓q_lI_32, ↓q_lI_39, ↓q_lI_41, ↓q_sI_28, ↓q_sI_31, ↓q_sI_32, ↓q_sI_39, ↓q_sI_41, e2, e3, m1, c5, i1]
            · rw [if_neg (fun y => hlet y.2)]
              have hlet' : q_lt B (q_tok l (t + 1)) = false := by simpa using hlet
              rw [q_al_lt] at hlet'
              have r2 := q_k253_f (κ := κ) (b := b) (C := C) (O := O) (D := D) (m := m) (so := nI so) (w := nI w) (k := nI L.length) h3 hlt1 hn ((q_tok l (t + 1)).2.2.1 - (q_tok l (t + 1)).2.1) q_fu 0 (by omega) (by have := (hwf (t + 1) _ (q_tok_s hlt1)).2.2.1; unfold q_fu; omega) hlet'
              rw [nI_0] at r2
              exact ⟨q_u1 P2 15 (nI (t + 1 + 1)), Q2, frP, fQ2, r2⟩
          · rw [if_neg (fun y => hy1 y.1)]
            have c2 := q_expectName_f (κ := κ) (b := b) (C := C) (O := O) (D := D) (m := m) h2 ha2 (by omega) hy1 hn
            refine ⟨P2, Q2, fP2, fQ2, ?_⟩
            have s4' : ¬ nI so = 4 := fun h9 => by have := s4.mp h9; omega
            have s0' : (nI so = 0) = True := eq_true (s0.mpr hs0)
            simp (disch := first | rfl | omega | decide | exact Nat.le_of_ble_eq_true rfl) only [↓q_br, q_rt, q_rz, q_gd, q_ca, ↓reduceIte, F_X13_kind_14B, ↓q_gA_26_24, ↓q_gA_26_28, ↓q_gI_26_22, ↓q_is_26, ↓q_lI_37, ↓q_lI_41, ↓q_sI_37, ↓q_sI_41, h22, e9, e8, s4', s0', not_false_eq_true, not_true_eq_false, c2, i1]
        · rw [if_neg hs0]
          by_cases hs4 : so = 4
          · rw [if_pos hs4]
            subst hs4
            have step2 : F_X13_kind_14B κ (F_X13_kind_14 κ f) (some (b + 26)) (nI 4) (nI t) (nI w) (nI L.length) (q_H b C (P2, Q2, S) O D, n, m) = F_X13_kind_83 κ q_fu (some (b + 26)) (nI 4) (nI w) (nI L.length) 0 (q_H b C (P2, Q2, S) O D, n, m) := by
              simp (disch := first | rfl | omega | decide | exact Nat.le_of_ble_eq_true rfl) only [↓q_br, q_rt, q_rz, q_gd, q_ca, ↓reduceIte, F_X13_kind_14B, ↓q_gA_26_24, ↓q_gA_26_28, ↓q_gI_26_22, ↓q_is_26, ↓q_lI_37, ↓q_lI_41, ↓q_sI_37, ↓q_sI_41, h22, e9, e8, s4, not_false_eq_true, not_true_eq_false]
            rw [step2]
            obtain ⟨P3, Q3, g1, g2, g3, g4⟩ := q_k83 (κ := κ) (b := b) (C := C) (S := S) (O := O) (D := D) (m := m) (k := L.length) (w := w) hL hn (l.length + 1) q_fu (t + 1) P2 Q2 N2 top2 [] h2 ha2 (by omega) (by omega) (by simp) (by unfold q_fu; omega) n2 hN2 hT2 (fun i nm hi => by simp at hi)
            rw [List.length_nil, nI_0] at g4
            have frP3 : ∀ j, j ≠ 15 → j ≠ 19 → j ≠ 20 → j ≠ 22 → P3 j = P j := fun j j1 j2 j3 j4 => by rw [g1 j j1 j2 j3, fP2 j j1 j2 j3 j4]
            have frQ3 : ∀ j, j < 34 ∨ 42 < j → Q3 j = Q j := fun j hj => by rw [g2 j (by omega) (by omega) (by omega) (by omega), fQ2 j hj]
            cases hq : q_mset B l (l.length + 1) [] (t + 1) with
            | inl e =>
              obtain ⟨k', p⟩ := e
              rw [hq] at g4
              exact ⟨P3, Q3, frP3, frQ3, g4⟩
            | inr e =>
              obtain ⟨mem', t'⟩ := e
              rw [hq] at g4
              obtain ⟨y1, y2, y3, y4, y5, y6, N', top', y7, y8, y9, y10, y11⟩ := g4
              rw [y1]
              obtain ⟨nb1, nb2, nb3⟩ := q_nd_b mem'.length (by omega)
              have h5 : q_TM B l z P3 (q_u2 Q3 41 L.length (nI (q_nd mem'.length 6 1))) S := q_TM_P h2 (g1 13 (by decide) (by decide) (by decide)) (by rw [q_u2_n _ _ _ (by decide), g2 28 (by decide) (by decide) (by decide) (by decide)]) (by rw [q_u2_n _ _ _ (by decide), g2 30 (by decide) (by decide) (by decide) (by decide)]) (by rw [q_u2_n _ _ _ (by decide), g2 31 (by decide) (by decide) (by decide) (by decide)]) (by rw [q_u2_n _ _ _ (by decide), g2 32 (by decide) (by decide) (by decide) (by decide)])
              have hP5 : q_PL N' top' P3 (q_u2 Q3 41 L.length (nI (q_nd mem'.length 6 1))) := q_PL_P y7 rfl rfl (q_u2_n _ _ _ (by decide)) (q_u2_n _ _ _ (by decide)) (q_u2_n _ _ _ (by decide))
              obtain ⟨P', Q', x1, x2, x3⟩ := q_mfin (κ := κ) (b := b) (C := C) (O := O) (D := D) (m := m) (w := w) (so := 4) (cnt := mem'.length) (K := (4, q_tB B (q_tok l t), q_tB B (q_tok l t), mem', mem'.length, q_nd mem'.length 6 1)) h5 y2 (by omega) hL (by rw [g1 22 (by decide) (by decide) (by decide), h22]) hn hP5
                (q_MK_ext old2 y8 (fun j i j1 j2 hi => by
                  have hne : i ≠ L.length := by omega
                  rw [← g2 j (by omega) (by omega) (by omega) (by omega)]
                  by_cases hj : j = 41
                  · subst hj; rw [q_u2_s, q_u1_n _ _ hne]
                  · rw [q_u2_n _ _ _ hj]) (fun i hi => by rw [q_u2_n _ _ _ (by decide), g3 i (Or.inl hi)]))
                (q_WK_i (by omega) nb1 nb2 (by omega) (fun _ => ⟨rfl, y5⟩) (fun _ => ⟨nb3, by omega⟩)) rfl (q_pre_g y8 n3) (fun _ => rfl) (by rw [q_u2_s, q_u1_s]) (fun h9 => by omega) (fun _ i nm hi => by
                  obtain ⟨v, v1, v2⟩ := y11 i nm hi
                  exact ⟨v, by rw [q_u2_n _ _ _ (by decide), v1], v2⟩)
              refine ⟨P', Q', fun j j1 j2 j3 j4 => by rw [x1 j j4, frP3 j j1 j2 j3 j4], fun j hj => by rw [x2 j (by omega) (by omega) (by omega), q_u2_n _ _ _ (by omega), frQ3 j hj], ?_⟩
              simp only
              cases hq2 : q_fin l (4, q_tB B (q_tok l t), q_tB B (q_tok l t), mem', mem'.length, q_nd mem'.length 6 1) t' with
              | inl e =>
                obtain ⟨k', p⟩ := e
                rw [hq2] at x3
                exact x3
              | inr e =>
                obtain ⟨K', t2⟩ := e
                rw [hq2] at x3
                obtain ⟨z1, z2, z3, z4, z5⟩ := x3
                refine ⟨z1, t', z2, by rw [x1 15 (by decide), y2], z3, N', top', z4, hpre.trans y8, by omega, ?_, z5⟩
                rw [z2]
                exact fun t'' h1 h2 => y10 t'' (by omega) h2
          · rw [if_neg hs4]
            by_cases hn2 : (q_tok l (t + 1)).1 = 2
            · rw [if_pos hn2]
              by_cases hv : 1 ≤ q_nv l (t + 1) ∧ q_nv l (t + 1) ≤ 32
              · rw [if_pos hv]
                have c5 := q_expectNumber_t (κ := κ) (b := b) (C := C) (O := O) (D := D) (s := (n, m)) h2 ha2 hn2 hv.1 hv.2
                obtain ⟨v1, v2⟩ := q_vn_b (hi := 32) hwf hn2 hv.1 hv.2 (by decide)
                have v3 : (q_nv l (t + 1)).toInt32 = nI (q_vn l (t + 1)) := by rw [(q_vn_e hwf hn2).1, lN_i]
                have hlt2 := q_tok_lt (l := l) (t := t + 1) (by omega)
                have step2 : F_X13_kind_14B κ (F_X13_kind_14 κ f) (some (b + 26)) (nI so) (nI t) (nI w) (nI L.length) (q_H b C (P2, Q2, S) O D, n, m) = F_X13_kind_362 κ (some (b + 26)) (nI so) (nI w) (nI L.length) (nI (q_vn l (t + 1))) (q_H b C (q_u1 P2 15 (nI (t + 1 + 1)), q_u2 Q2 41 L.length (nI (q_vn l (t + 1))), S) O D, n, m) := by
                  simp (disch := first | rfl | omega | decide | exact Nat.le_of_ble_eq_true rfl) only [↓q_br, q_rt, q_rz, q_gd, q_ca, ↓reduceIte, F_X13_kind_14B, ↓q_gA_26_24, ↓q_gA_26_28, ↓q_gI_26_22, ↓q_is_26, ↓q_lI_37, ↓q_lI_41, ↓q_sI_37, ↓q_sI_41, h22, e9, e8, s4, hs4, s0, hs0, not_false_eq_true, c5, v3]
                rw [step2]
                have h5 : q_TM B l z (q_u1 P2 15 (nI (t + 1 + 1))) (q_u2 Q2 41 L.length (nI (q_vn l (t + 1)))) S := q_TM_P h2 (q_u1_n _ _ (by decide)) (q_u2_n _ _ _ (by decide)) (q_u2_n _ _ _ (by decide)) (q_u2_n _ _ _ (by decide)) (q_u2_n _ _ _ (by decide))
                have hP5 : q_PL N2 top2 (q_u1 P2 15 (nI (t + 1 + 1))) (q_u2 Q2 41 L.length (nI (q_vn l (t + 1)))) := q_PL_P n2 (q_u1_n _ _ (by decide)) (q_u1_n _ _ (by decide)) (q_u2_n _ _ _ (by decide)) (q_u2_n _ _ _ (by decide)) (q_u2_n _ _ _ (by decide))
                obtain ⟨P', Q', x1, x2, x3⟩ := q_mfin (κ := κ) (b := b) (C := C) (O := O) (D := D) (m := m) (w := w) (so := so) (cnt := q_vn l (t + 1)) (K := (so, q_tB B (q_tok l t), q_tB B (q_tok l t), [], 0, q_vn l (t + 1))) h5 (q_u1_s _ _ _) (by omega) hL (by rw [q_u1_n _ _ (by decide), h22]) hn hP5
                  (q_MK_ext old2 (List.prefix_refl _) (fun j i j1 j2 hi => by
                    have hne : i ≠ L.length := by omega
                    by_cases hj : j = 41
                    · subst hj; rw [q_u2_s, q_u1_n _ _ hne]
                    · rw [q_u2_n _ _ _ hj]) (fun i hi => by rw [q_u2_n _ _ _ (by decide)]))
                  (q_WK_i hso v1 v2 (by omega) (fun h9 => absurd h9 hs4) (fun h9 => by omega)) rfl n3 (fun h9 => by omega) (by rw [q_u2_s, q_u1_s]) (fun h9 => absurd h9 hs0) (fun h9 => absurd h9 hs4)
                refine ⟨P', Q', fun j j1 j2 j3 j4 => by rw [x1 j j4, q_u1_n _ _ j1, fP2 j j1 j2 j3 j4], fun j hj => by rw [x2 j (by omega) (by omega) (by omega), q_u2_n _ _ _ (by omega), fQ2 j hj], ?_⟩
                simp only
                cases hq2 : q_fin l (so, q_tB B (q_tok l t), q_tB B (q_tok l t), [], 0, q_vn l (t + 1)) (t + 1 + 1) with
                | inl e =>
                  obtain ⟨k', p⟩ := e
                  rw [hq2] at x3
                  exact x3
                | inr e =>
                  obtain ⟨K', t2⟩ := e
                  rw [hq2] at x3
                  obtain ⟨z1, z2, z3, z4, z5⟩ := x3
                  refine ⟨z1, t + 1 + 1, z2, by rw [x1 15 (by decide), q_u1_s], z3, N2, top2, z4, hpre, by omega, ?_, z5⟩
                  rw [z2]
                  exact fun t'' h1 h2 => hT2 t'' (by omega) h2
              · rw [if_neg hv]
                have c5 := q_expectNumber_f (κ := κ) (b := b) (C := C) (O := O) (D := D) (m := m) h2 ha2 hn2 hv hn
                refine ⟨P2, Q2, fP2, fQ2, ?_⟩
                simp (disch := first | rfl | omega | decide | exact Nat.le_of_ble_eq_true rfl) only [↓q_br, q_rt, q_rz, q_gd, q_ca, ↓reduceIte, F_X13_kind_14B, ↓q_gA_26_24, ↓q_gA_26_28, ↓q_gI_26_22, ↓q_is_26, ↓q_lI_37, ↓q_lI_41, ↓q_sI_37, ↓q_sI_41, h22, e9, e8, s4, hs4, s0, hs0, not_false_eq_true, c5, i3]
            · rw [if_neg hn2]
              have c5 := q_expectNumber_n (κ := κ) (b := b) (C := C) (O := O) (D := D) (m := m) (lo := 1) (hi := 32) h2 ha2 (by omega) hn2 hn
              refine ⟨P2, Q2, fP2, fQ2, ?_⟩
              simp (disch := first | rfl | omega | decide | exact Nat.le_of_ble_eq_true rfl) only [↓q_br, q_rt, q_rz, q_gd, q_ca, ↓reduceIte, F_X13_kind_14B, ↓q_gA_26_24, ↓q_gA_26_28, ↓q_gI_26_22, ↓q_is_26, ↓q_lI_37, ↓q_lI_41, ↓q_sI_37, ↓q_sI_41, h22, e9, e8, s4, hs4, s0, hs0, not_false_eq_true, c5, i1]
  · rw [if_neg hy]
    have c1 := q_expectName_f (κ := κ) (b := b) (C := C) (O := O) (D := D) (m := m) h ha (by omega) hy hn
    refine ⟨P, Q, fun _ _ _ _ _ => rfl, fun _ _ => rfl, ?_⟩
    simp (disch := first | rfl | omega | decide | exact Nat.le_of_ble_eq_true rfl) only [↓q_br, q_rt, q_rz, q_gd, q_ca, ↓reduceIte, F_X13_kind, ↓q_is_26, c1, i1]
end QMC
