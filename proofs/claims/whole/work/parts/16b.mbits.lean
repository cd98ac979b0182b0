section QNB9
variable {κ : Nat → Nat} {b : Nat} {B : Nat → Int32} {l : List q_Tok} {zt t : Nat} {C : q_CT} {P : Nat → Int32} {Q : Nat → Nat → Int32} {S : Nat → Nat → Int64} {O : Nat → Int64} {D : q_Mem}
theorem q_mkb {N : List q_Nam} {i o : Nat} {L : List q_Knd} {ps : List Int32} {os : q_Ops} (hm : q_MIo N Q L.length i ps os) (hk : q_MMk N P Q L) (ho : o < os.length) : ∃ kx, Q 50 (5 * i + o) = nI kx ∧ kx < 40 ∧ Q 41 kx = nI (q_kb L os o) ∧ 1 ≤ q_kb L os o ∧ q_kb L os o ≤ 32 := by
  obtain ⟨-, v3, v4⟩ := hm.2 o _ (q_og_s ho)
  obtain ⟨hw, m⟩ := hk.2.2 _ _ (q_kg_s v4)
  exact ⟨_, v3, by have := hk.2.1; omega, m.2.2.2.2.1, hw.2.1, hw.2.2.1⟩
theorem q_m297 {r : Option Nat → Int32 → Int32 → Int32 → Int32 → q_X Unit} {N : List q_Nam} {top nk i w : Nat} {l2 l3 l4 tt : Int32} {tb : q_Nam} {ps : List Int32} {os : q_Ops} {s : Nat × Nat} (hP : q_PL N top P Q) (hm : q_MIo N Q nk i ps os) (h45 : Q 45 i = nI os.length) (hi : i < 96) (ho : os.length ≤ 5) (hw : N[w]? = some tb) : ∀ d fuel j, j + d = os.length → d < fuel → F_X13_words_297 κ r fuel (some (b + 26)) (nI i) l2 l3 l4 tt (nI w) (nI j) (q_H b C (P, Q, S) O D, s) = F_X13_words_330 κ r (some (b + 26)) (nI i) l2 l3 l4 tt (nI ((q_fi (fun k => decide (tb = q_og os k)) d j).getD os.length)) (q_H b C (P, Q, S) O D, s) := by
  intro d
  induction d with
  | zero =>
    intro fuel j h1 h2
    obtain ⟨f, rfl⟩ : ∃ f, fuel = f + 1 := ⟨fuel - 1, by omega⟩
    have h4 : os.length ≤ j := by omega
    have h5 : j = os.length := by omega
    rw [F_X13_words_297]
    simp (disch := first | rfl | omega | decide | exact Nat.le_of_ble_eq_true rfl) only [↓q_br, q_rt, q_rz, q_gd, q_ca, ↓reduceIte, F_X13_words_297B, ↓q_gA_26_32, ↓q_gA_26_36, ↓q_lI_45, ↓q_lI_49, h45, nI_leI, h4, q_fi, Option.getD_none]
    rw [h5]
  | succ d ih =>
    intro fuel j h1 h2
    obtain ⟨f, rfl⟩ : ∃ f, fuel = f + 1 := ⟨fuel - 1, by omega⟩
    have h4 : ¬ os.length ≤ j := by omega
    obtain ⟨⟨v, q2, q3⟩, -⟩ := hm.2 j _ (q_og_s (by omega))
    have h5 := q_id_eq hP.2.2.2.2.1 (by have := hP.2.2.1; omega) q3 hw
    have h6 : (5 : Int32) * nI i + nI j = nI (5 * i + j) := q_mulI 5 i j
    rw [F_X13_words_297]
    unfold q_fi
    by_cases hc : tb = q_og os j
    · have h7 : nI v = nI w := h5.mpr hc.symm
      rw [if_pos (decide_eq_true hc)]
      simp (disch := first | rfl | omega | decide | exact Nat.le_of_ble_eq_true rfl) only [↓q_br, q_rt, q_rz, q_gd, q_ca, ↓reduceIte, F_X13_words_297B, ↓q_gA_26_32, ↓q_gA_26_36, ↓q_lI_45, ↓q_lI_49, h45, nI_leI, h4, h6, q2, h7, Option.getD_some]
    · have h7 : ¬ nI v = nI w := fun h9 => hc ((h5.mp h9).symm)
      rw [if_neg (by simpa using hc)]
      refine Eq.trans ?_ (ih f (j + 1) (by omega) (by omega))
      simp (disch := first | rfl | omega | decide | exact Nat.le_of_ble_eq_true rfl) only [↓q_br, q_rt, q_rz, q_gd, q_ca, ↓reduceIte, F_X13_words_297B, ↓q_gA_26_32, ↓q_gA_26_36, ↓q_lI_45, ↓q_lI_49, h45, nI_leI, h4, h6, q2, h7, nI_1]
theorem q_m330 {r : Option Nat → Int32 → Int32 → Int32 → Int32 → q_X Unit} {N : List q_Nam} {i o n m : Nat} {l2 l3 l4 tt : Int32} {L : List q_Knd} {ps : List Int32} {os : q_Ops} (h : q_TM B l zt P Q S) (ha : P 15 = nI t) (ht : t ≤ l.length) (hm : q_MIo N Q L.length i ps os) (hk : q_MMk N P Q L) (h45 : Q 45 i = nI os.length) (hi : i < 96) (hos : os.length ≤ 5) (ho : o < os.length) (hn : b + 66 < n) :
    ∃ P', (∀ j, j ≠ 15 → P' j = P j) ∧ (match q_pc l (q_kb L os o) t with
      | .inl (k, p) => F_X13_words_330 κ r (some (b + 26)) (nI i) l2 l3 l4 tt (nI o) (q_H b C (P, Q, S) O D, n, m) = q_thr Unit b C (P', Q, S) O D n m (nI k) (nI p)
      | .inr (hi', lo, t') => F_X13_words_330 κ r (some (b + 26)) (nI i) l2 l3 l4 tt (nI o) (q_H b C (P, Q, S) O D, n, m) = F_X13_words_461 κ r q_fu (some (b + 26)) (nI i) l2 l3 l4 (nI o) (nI lo) (nI hi') (q_H b C (q_u1 P 15 (nI t'), Q, S) O D, n, m) ∧ lo ≤ hi' ∧ hi' < q_kb L os o ∧ t ≤ t' ∧ t' ≤ l.length) := by
  have hzt := h.2.2.1
  have hl := h.2.1
  have hwf := h.2.2.2.2.1
  obtain ⟨kx, x1, x2, x3, x4, x5⟩ := q_mkb hm hk ho
  have h6 : (5 : Int32) * nI i + nI o = nI (5 * i + o) := q_mulI 5 i o
  have hne : ¬ nI o = nI os.length := by
    rw [nI_eq (by omega) (by omega)]
    omega
  have hsz : nI (q_kb L os o) - 1 = nI (q_kb L os o - 1) := nI_sub (b := 1) x4
  have hl1 : (nI (q_kb L os o - 1)).toInt64 = lN (q_kb L os o - 1) := nI_l (by omega)
  have hT : ∀ v, q_TM B l zt (q_u1 P 15 v) Q S := fun v => q_TM_P h (q_u1_n _ _ (by decide)) rfl rfl rfl rfl
  have hA : ∀ v, q_u1 P 15 v 15 = v := fun v => q_u1_s _ _ _
  have hul : ∀ u v, q_u1 (q_u1 P 15 u) 15 v = q_u1 P 15 v := fun u v => q_u1_u1 _ _ _ _
  have i1 : nI 1 = 1 := rfl
  have i3 : nI 3 = 3 := rfl
  have c1 := q_msign (κ := κ) (b := b) (C := C) (O := O) (D := D) (s := (n, m)) (c := 91) h (t := t) (by omega)
  have expn : ∀ (v hi9 : Nat), v ≤ l.length + 1 → (match q_num1 l v hi9 with
      | .inl (k, p) => F_X13_expectNumber κ (some (b + 26)) 0 (lN hi9) (q_H b C (q_u1 P 15 (nI v), Q, S) O D, n, m) = q_thr Int32 b C (q_u1 P 15 (nI v), Q, S) O D n m (nI k) (nI p)
      | .inr x => F_X13_expectNumber κ (some (b + 26)) 0 (lN hi9) (q_H b C (q_u1 P 15 (nI v), Q, S) O D, n, m) = some (.inl (nI x), (q_H b C (q_u1 P 15 (nI (v + 1)), Q, S) O D, n, m))) := by
    intro v hi9 hv
    unfold q_num1
    by_cases hy : (q_tok l v).1 = 2
    · rw [if_pos hy]
      by_cases hr : 0 ≤ q_nv l v ∧ q_nv l v ≤ lN hi9
      · rw [if_pos hr]
        have e := q_expectNumber_t (κ := κ) (b := b) (C := C) (O := O) (D := D) (s := (n, m)) (hT (nI v)) (hA _) hy hr.1 hr.2
        rw [hul] at e
        show F_X13_expectNumber κ (some (b + 26)) 0 (lN hi9) (q_H b C (q_u1 P 15 (nI v), Q, S) O D, n, m) = some (.inl (nI (q_vn l v)), (q_H b C (q_u1 P 15 (nI (v + 1)), Q, S) O D, n, m))
        rw [e]
        have e9 : (q_nv l v).toInt32 = nI (q_vn l v) := by rw [(q_vn_e hwf hy).1, lN_i]
        rw [e9]
      · rw [if_neg hr]
        exact q_expectNumber_f (hT _) (hA _) hy hr hn
    · rw [if_neg hy]
      exact q_expectNumber_n (hT _) (hA _) (by omega) hy hn
  unfold q_pc
  by_cases hs91 : q_sgn l t 91 = true
  · rw [if_pos hs91]
    have hlt := q_tok_lt (l := l) (t := t) (by have := (of_decide_eq_true hs91).1; omega)
    have e1 := expn (t + 1) (q_kb L os o - 1) (by omega)
    cases hn1 : q_num1 l (t + 1) (q_kb L os o - 1) with
    | inl e =>
      obtain ⟨k, p⟩ := e
      rw [hn1] at e1
      simp only at e1
      refine ⟨q_u1 P 15 (nI (t + 1)), fun j hj => q_u1_n _ _ hj, ?_⟩
      simp only
      simp (disch := first | rfl | omega | decide | exact Nat.le_of_ble_eq_true rfl) only [↓q_br, q_rt, q_rz, q_gd, q_ca, ↓reduceIte, F_X13_words_330, ↓q_gA_26_28, ↓q_gA_26_32, ↓q_gA_26_37, ↓q_gI_26_15, ↓q_is_26, ↓q_lI_41, ↓q_lI_45, ↓q_lI_50, ↓q_pI_26_15, h45, hne, not_false_eq_true, h6, x1, x3, ha, c1, hs91, q_b_0, Bool.true_eq_false, nI_1, hsz, hl1, e1]
    | inr hi' =>
      rw [hn1] at e1
      simp only at e1
      obtain ⟨n1, n2, n3, n4, n5⟩ := q_num1_b hwf (by omega) hn1
      have hlt1 := q_tok_lt (l := l) (t := t + 1) (by omega)
      have hi64 : (nI hi').toInt64 = lN hi' := nI_l (by omega)
      have c2 := q_msign (κ := κ) (b := b) (C := C) (O := O) (D := D) (s := (n, m)) (c := 58) (hT (nI (t + 1 + 1))) (t := t + 1 + 1) (by omega)
      simp only
      by_cases hs58 : q_sgn l (t + 2) 58 = true
      · rw [if_pos hs58]
        have hs58' : q_sgn l (t + 1 + 1) 58 = true := hs58
        have hlt2 := q_tok_lt (l := l) (t := t + 2) (by have := (of_decide_eq_true hs58).1; omega)
        have e2 := expn (t + 1 + 1 + 1) hi' (by omega)
        have hq9 : q_num1 l (t + 1 + 1 + 1) hi' = q_num1 l (t + 3) hi' := rfl
        rw [hq9] at e2
        cases hn3 : q_num1 l (t + 3) hi' with
        | inl e =>
          obtain ⟨k, p⟩ := e
          rw [hn3] at e2
          simp only at e2
          refine ⟨q_u1 P 15 (nI (t + 1 + 1 + 1)), fun j hj => q_u1_n _ _ hj, ?_⟩
          simp only
          simp (disch := first | rfl | omega | decide | exact Nat.le_of_ble_eq_true rfl) only [↓q_br, q_rt, q_rz, q_gd, q_ca, ↓reduceIte, F_X13_words_330, ↓q_gA_26_28, ↓q_gA_26_32, ↓q_gA_26_37, ↓q_gI_26_15, ↓q_is_26, ↓q_lI_41, ↓q_lI_45, ↓q_lI_50, ↓q_pI_26_15, h45, hne, not_false_eq_true, h6, x1, x3, ha, c1, hs91, q_b_0, Bool.true_eq_false, nI_1, hsz, hl1, e1, hA, c2, hs58', hul, hi64, e2]
        | inr lo =>
          rw [hn3] at e2
          simp only at e2
          obtain ⟨m1, m2, m3, m4, m5⟩ := q_num1_b hwf (by omega) hn3
          have hlt3 := q_tok_lt (l := l) (t := t + 3) (by omega)
          simp only
          by_cases hs93 : q_sgn l (t + 4) 93 = true
          · rw [if_pos hs93]
            have hlt4 := q_tok_lt (l := l) (t := t + 4) (by have := (of_decide_eq_true hs93).1; omega)
            have c3 := q_expect_t (κ := κ) (b := b) (C := C) (O := O) (D := D) (s := (n, m)) (c := 93) (hT (nI (t + 1 + 1 + 1 + 1))) (t := t + 1 + 1 + 1 + 1) (hA _) hs93
            rw [hul] at c3
            refine ⟨P, fun _ _ => rfl, ?_, m5, by omega, by omega, by omega⟩
            simp (disch := first | rfl | omega | decide | exact Nat.le_of_ble_eq_true rfl) only [↓q_br, q_rt, q_rz, q_gd, q_ca, ↓reduceIte, F_X13_words_330, F_X13_words_451, F_X13_words_457, ↓q_gA_26_28, ↓q_gA_26_32, ↓q_gA_26_37, ↓q_gI_26_15, ↓q_is_26, ↓q_lI_41, ↓q_lI_45, ↓q_lI_50, ↓q_pI_26_15, h45, hne, not_false_eq_true, h6, x1, x3, ha, c1, hs91, q_b_0, Bool.true_eq_false, nI_1, hsz, hl1, e1, hA, c2, hs58', hul, hi64, e2, c3]
          · rw [if_neg hs93]
            have hs93' : q_sgn l (t + 1 + 1 + 1 + 1) 93 = false := by simpa using hs93
            have c3 := q_expect_f (κ := κ) (b := b) (C := C) (O := O) (D := D) (m := m) (c := 93) (hT (nI (t + 1 + 1 + 1 + 1))) (t := t + 1 + 1 + 1 + 1) (hA _) (by omega) hs93' hn
            refine ⟨q_u1 P 15 (nI (t + 1 + 1 + 1 + 1)), fun j hj => q_u1_n _ _ hj, ?_⟩
            simp (disch := first | rfl | omega | decide | exact Nat.le_of_ble_eq_true rfl) only [↓q_br, q_rt, q_rz, q_gd, q_ca, ↓reduceIte, F_X13_words_330, F_X13_words_451, F_X13_words_457, ↓q_gA_26_28, ↓q_gA_26_32, ↓q_gA_26_37, ↓q_gI_26_15, ↓q_is_26, ↓q_lI_41, ↓q_lI_45, ↓q_lI_50, ↓q_pI_26_15, h45, hne, not_false_eq_true, h6, x1, x3, ha, c1, hs91, q_b_0, Bool.true_eq_false, nI_1, hsz, hl1, e1, hA, c2, hs58', hul, hi64, e2, c3, i1]
      · rw [if_neg hs58]
        have hs58' : q_sgn l (t + 1 + 1) 58 = false := by simpa using hs58
        by_cases hs93 : q_sgn l (t + 2) 93 = true
        · rw [if_pos hs93]
          have hlt2 := q_tok_lt (l := l) (t := t + 2) (by have := (of_decide_eq_true hs93).1; omega)
          have c3 := q_expect_t (κ := κ) (b := b) (C := C) (O := O) (D := D) (s := (n, m)) (c := 93) (hT (nI (t + 1 + 1))) (t := t + 1 + 1) (hA _) hs93
          rw [hul] at c3
          refine ⟨P, fun _ _ => rfl, ?_, Nat.le_refl _, by omega, by omega, by omega⟩
          simp (disch := first | rfl | omega | decide | exact Nat.le_of_ble_eq_true rfl) only [↓q_br, q_rt, q_rz, q_gd, q_ca, ↓reduceIte, F_X13_words_330, F_X13_words_451, F_X13_words_457, ↓q_gA_26_28, ↓q_gA_26_32, ↓q_gA_26_37, ↓q_gI_26_15, ↓q_is_26, ↓q_lI_41, ↓q_lI_45, ↓q_lI_50, ↓q_pI_26_15, h45, hne, not_false_eq_true, h6, x1, x3, ha, c1, hs91, q_b_0, Bool.true_eq_false, nI_1, hsz, hl1, e1, hA, c2, hs58', c3]
        · rw [if_neg hs93]
          have hs93' : q_sgn l (t + 1 + 1) 93 = false := by simpa using hs93
          have c3 := q_expect_f (κ := κ) (b := b) (C := C) (O := O) (D := D) (m := m) (c := 93) (hT (nI (t + 1 + 1))) (t := t + 1 + 1) (hA _) (by omega) hs93' hn
          refine ⟨q_u1 P 15 (nI (t + 1 + 1)), fun j hj => q_u1_n _ _ hj, ?_⟩
          simp (disch := first | rfl | omega | decide | exact Nat.le_of_ble_eq_true rfl) only [↓q_br, q_rt, q_rz, q_gd, q_ca, ↓reduceIte, F_X13_words_330, F_X13_words_451, F_X13_words_457, ↓q_gA_26_28, ↓q_gA_26_32, ↓q_gA_26_37, ↓q_gI_26_15, ↓q_is_26, ↓q_lI_41, ↓q_lI_45, ↓q_lI_50, ↓q_pI_26_15, h45, hne, not_false_eq_true, h6, x1, x3, ha, c1, hs91, q_b_0, Bool.true_eq_false, nI_1, hsz, hl1, e1, hA, c2, hs58', c3, i1]
  · rw [if_neg hs91]
    have hs91' : q_sgn l t 91 = false := by simpa using hs91
    refine ⟨P, fun _ _ => rfl, ?_, by omega, by omega, Nat.le_refl _, ht⟩
    rw [q_u1_id _ _ ha, nI_0]
    simp (disch := first | rfl | omega | decide | exact Nat.le_of_ble_eq_true rfl) only [↓q_br, q_rt, q_rz, q_gd, q_ca, ↓reduceIte, F_X13_words_330, F_X13_words_457, ↓q_gA_26_28, ↓q_gA_26_32, ↓q_gA_26_37, ↓q_gI_26_15, ↓q_is_26, ↓q_lI_41, ↓q_lI_45, ↓q_lI_50, ↓q_pI_26_15, h45, hne, not_false_eq_true, h6, x1, x3, ha, c1, hs91', q_b_0, hsz]
/-- whether each bit is there once -/
theorem q_m549 {r : Option Nat → Int32 → Int32 → Int32 → Int32 → q_X Unit} {N : List q_Nam} {i o n m : Nat} {l2 l4 : Int32} {L : List q_Knd} {ps : List Int32} {os : q_Ops} {tot : List Int32} (ha : P 15 = nI t) (hm : q_MIo N Q L.length i ps os) (hk : q_MMk N P Q L) (hi : i < 96) (hos : os.length ≤ 5) (ho : o < os.length) (hmc : q_MC Q tot) (htl : tot.length < 10000000) (hn : b + 66 < n) : ∀ d fuel k, k + d = q_kb L os o → d < fuel → F_X13_words_549 κ r fuel (some (b + 26)) (nI i) l2 l4 (nI o) (nI k) (q_H b C (P, Q, S) O D, n, m) = if q_al (fun k => decide (tot.count (nI (32 * o + k)) = 1)) d k = true then r (some (b + 26)) (nI i) l2 l4 (nI (o + 1)) (q_H b C (P, Q, S) O D, n, m) else q_thr Unit b C (P, Q, S) O D n m 5 (nI t) := by
  obtain ⟨kx, x1, x2, x3, x4, x5⟩ := q_mkb hm hk ho
  have h6 : (5 : Int32) * nI i + nI o = nI (5 * i + o) := q_mulI 5 i o
  intro d
  induction d with
  | zero =>
    intro fuel k h1 h2
    obtain ⟨f, rfl⟩ : ∃ f, fuel = f + 1 := ⟨fuel - 1, by omega⟩
    have h3 : q_kb L os o ≤ k := by omega
    rw [if_pos (by rfl), F_X13_words_549]
    simp (disch := first | rfl | omega | decide | exact Nat.le_of_ble_eq_true rfl) only [↓q_br, q_rt, q_rz, q_gd, q_ca, ↓reduceIte, F_X13_words_549B, ↓q_gA_26_28, ↓q_gA_26_37, ↓q_gA_26_39, ↓q_gI_26_15, ↓q_lI_41, ↓q_lI_50, ↓q_lI_52, h6, x1, x3, nI_leI, h3, nI_1]
  | succ d ih =>
    intro fuel k h1 h2
    obtain ⟨f, rfl⟩ : ∃ f, fuel = f + 1 := ⟨fuel - 1, by omega⟩
    have h3 : ¬ q_kb L os o ≤ k := by omega
    have h7 : (32 : Int32) * nI o + nI k = nI (32 * o + k) := q_mulI 32 o k
    have hcv := hmc (32 * o + k) (by omega)
    have hcl : tot.count (nI (32 * o + k)) ≤ tot.length := List.count_le_length
    have h8 : (nI (tot.count (nI (32 * o + k))) = (1 : Int32)) ↔ tot.count (nI (32 * o + k)) = 1 := nI_eq (b := 1) (by omega) (by decide)
    unfold q_al
    rw [F_X13_words_549]
    by_cases hc : tot.count (nI (32 * o + k)) = 1
    · have h8' : (nI (tot.count (nI (32 * o + k))) = (1 : Int32)) = True := eq_true (h8.mpr hc)
      rw [decide_eq_true hc, Bool.true_and]
      refine Eq.trans ?_ (ih f (k + 1) (by omega) (by omega))
      simp (disch := first | rfl | omega | decide | exact Nat.le_of_ble_eq_true rfl) only [↓q_br, q_rt, q_rz, q_gd, q_ca, ↓reduceIte, F_X13_words_549B, ↓q_gA_26_28, ↓q_gA_26_37, ↓q_gA_26_39, ↓q_gI_26_15, ↓q_lI_41, ↓q_lI_50, ↓q_lI_52, h6, x1, x3, nI_leI, h3, h7, hcv, h8', nI_1]
    · rw [decide_eq_false hc, Bool.false_and, if_neg (by decide)]
      simp (disch := first | rfl | omega | decide | exact Nat.le_of_ble_eq_true rfl) only [↓q_br, q_rt, q_rz, q_gd, q_ca, ↓reduceIte, F_X13_words_549B, ↓q_gA_26_28, ↓q_gA_26_37, ↓q_gA_26_39, ↓q_gI_26_15, ↓q_lI_41, ↓q_lI_50, ↓q_lI_52, h6, x1, x3, nI_leI, h3, h7, hcv, h8, hc, ha, q_mk_H, reduceCtorEq, not_false_eq_true, q_fault, qd_Su, q_tr]
theorem q_m535 {N : List q_Nam} {i n m wn dg : Nat} {L : List q_Knd} {ps : List Int32} {os : q_Ops} {tot : List Int32} (ha : P 15 = nI t) (hm : q_MIo N Q L.length i ps os) (hk : q_MMk N P Q L) (h45 : Q 45 i = nI os.length) (hi : i < 96) (hos : os.length ≤ 5) (hmc : q_MC Q tot) (htl : tot.length < 10000000) (hn : b + 66 < n) : ∀ d fuel o, o + d = os.length → d < fuel → F_X13_words_535 κ fuel (some (b + 26)) (nI i) (nI wn) (nI dg) (nI o) (q_H b C (P, Q, S) O D, n, m) = if q_al (fun o => q_al (fun k => decide (tot.count (nI (32 * o + k)) = 1)) (q_kb L os o) 0) d o = true then some (.inl (), (q_H b C (P, q_u2 (q_u2 Q 46 i (nI wn)) 47 i (nI dg), S) O D, n, m)) else q_thr Unit b C (P, Q, S) O D n m 5 (nI t) := by
  intro d
  induction d with
  | zero =>
    intro fuel o h1 h2
    obtain ⟨f, rfl⟩ : ∃ f, fuel = f + 1 := ⟨fuel - 1, by omega⟩
    have h3 : os.length ≤ o := by omega
    rw [if_pos (by rfl), F_X13_words_535]
    simp (disch := first | rfl | omega | decide | exact Nat.le_of_ble_eq_true rfl) only [↓q_br, q_rt, q_rz, q_gd, q_ca, ↓reduceIte, F_X13_words_535B, ↓q_gA_26_32, ↓q_gA_26_33, ↓q_gA_26_34, ↓q_lI_45, ↓q_lI_46, ↓q_lI_47, ↓q_sI_45, ↓q_sI_46, ↓q_sI_47, h45, nI_leI, h3]
  | succ d ih =>
    intro fuel o h1 h2
    obtain ⟨f, rfl⟩ : ∃ f, fuel = f + 1 := ⟨fuel - 1, by omega⟩
    have h3 : ¬ os.length ≤ o := by omega
    obtain ⟨kx, x1, x2, x3, x4, x5⟩ := q_mkb hm hk (o := o) (by omega)
    have r := q_m549 (κ := κ) (b := b) (C := C) (S := S) (O := O) (D := D) (r := F_X13_words_535 κ f) (l2 := nI wn) (l4 := nI dg) (m := m) ha hm hk hi hos (o := o) (by omega) hmc htl hn (q_kb L os o) q_fu 0 (by omega) (by unfold q_fu; omega)
    rw [nI_0] at r
    unfold q_al
    rw [F_X13_words_535]
    have st : F_X13_words_535B κ (F_X13_words_535 κ f) (some (b + 26)) (nI i) (nI wn) (nI dg) (nI o) (q_H b C (P, Q, S) O D, n, m) = F_X13_words_549 κ (F_X13_words_535 κ f) q_fu (some (b + 26)) (nI i) (nI wn) (nI dg) (nI o) 0 (q_H b C (P, Q, S) O D, n, m) := by
      simp (disch := first | rfl | omega | decide | exact Nat.le_of_ble_eq_true rfl) only [↓q_br, q_rt, q_rz, q_gd, q_ca, ↓reduceIte, F_X13_words_535B, ↓q_gA_26_32, ↓q_gA_26_33, ↓q_gA_26_34, ↓q_lI_45, ↓q_lI_46, ↓q_lI_47, ↓q_sI_45, ↓q_sI_46, ↓q_sI_47, h45, nI_leI, h3]
    rw [st, r]
    by_cases hc : q_al (fun k => decide (tot.count (nI (32 * o + k)) = 1)) (q_kb L os o) 0 = true
    · rw [if_pos hc, ih f (o + 1) (by omega) (by omega), hc, Bool.true_and]
    · have hc' : q_al (fun k => decide (tot.count (nI (32 * o + k)) = 1)) (q_kb L os o) 0 = false := by simpa using hc
      rw [if_neg hc, hc', Bool.false_and, if_neg (by decide)]
end QNB9
