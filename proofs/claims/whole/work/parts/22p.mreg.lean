section QMP
variable {κ : Nat → Nat} {b : Nat} {B : Nat → Int32} {l : List q_Tok} {zt t : Nat} {C : q_CT} {P : Nat → Int32} {Q : Nat → Nat → Int32} {S : Nat → Nat → Int64} {O : Nat → Int64} {D : q_Mem} {s : Nat × Nat}
theorem q_m75 {k o w top : Nat} {nm : q_Nam} (h : q_TM B l zt P Q S) (tl : t < l.length) (hw : w < 8000) (htop : top ≤ 6000) (hN : q_PN Q top w nm) (hle : nm.length ≤ (q_tok l t).2.2.1 - (q_tok l t).2.1) : ∀ d fuel i, i + d = nm.length → d < fuel → F_X13_operand_75 κ fuel (some (b + 26)) (nI t) (nI k) (nI o) (nI w) (nI nm.length) 0 (nI i) (q_H b C (P, Q, S) O D, s) = (if q_eqf (fun k => B ((q_tok l t).2.1 + k)) (fun k => nm.getD k 0) d i = true then F_X13_operand_126 κ q_fu (some (b + 26)) (nI t) (nI k) (nI o) (nI nm.length) 0 (nI nm.length) (q_H b C (P, Q, S) O D, s) else some (.inl (-1), (q_H b C (P, Q, S) O D, s))) := by
  have hz := h.2.2.1
  have hl := h.2.1
  obtain ⟨w1, w2, w3, -⟩ := h.2.2.2.2.1 t _ (q_tok_s tl)
  have st := q_TM_st h tl
  have hB := h.2.2.2.2.2.1
  obtain ⟨n1, n2, off, n3, n4, n5⟩ := hN
  have t6 : t < 6002 := by omega
  intro d
  induction d with
  | zero =>
    intro fuel i h1 h2
    obtain ⟨f, rfl⟩ : ∃ f, fuel = f + 1 := ⟨fuel - 1, by omega⟩
    have h3 : nm.length ≤ i := by omega
    rw [F_X13_operand_75, q_eqf, if_pos rfl]
    simp (disch := first | rfl | omega | decide | exact Nat.le_of_ble_eq_true rfl) only [↓q_br, q_rt, q_rz, q_gd, q_ca, ↓reduceIte, F_X13_operand_75B, ↓q_gA_26_1, ↓q_gA_26_10, ↓q_gA_26_16, ↓q_gA_26_17, ↓q_lI_28, ↓q_lI_31, ↓q_lI_34, ↓q_lI_35, nI_leI, h3]
  | succ d ih =>
    intro fuel i h1 h2
    obtain ⟨f, rfl⟩ : ∃ f, fuel = f + 1 := ⟨fuel - 1, by omega⟩
    have h3 : ¬ nm.length ≤ i := by omega
    have p1 := n5 i (by omega)
    have b1 := hB ((q_tok l t).2.1 + i) (by omega)
    have l1 : off + i < 60000 := by omega
    have l2 : (q_tok l t).2.1 + i < 6000 := by omega
    have ihk := ih f (i + 1) (by omega) (by omega)
    rw [F_X13_operand_75, q_eqf]
    by_cases he : B ((q_tok l t).2.1 + i) = nm.getD i 0
    · have te : (nm.getD i 0 = B ((q_tok l t).2.1 + i)) = True := eq_true he.symm
      rw [decide_eq_true he, Bool.true_and]
      simp (disch := first | rfl | omega | decide | exact Nat.le_of_ble_eq_true rfl) only [↓q_br, q_rt, q_rz, q_gd, q_ca, ↓reduceIte, F_X13_operand_75B, ↓q_gA_26_1, ↓q_gA_26_10, ↓q_gA_26_16, ↓q_gA_26_17, ↓q_lI_28, ↓q_lI_31, ↓q_lI_34, ↓q_lI_35, nI_leI, h3, n3, nI_add, p1, st, b1, te, nI_1, ihk]
    · have te : (nm.getD i 0 = B ((q_tok l t).2.1 + i)) = False := eq_false (fun h9 => he h9.symm)
      rw [decide_eq_false he, Bool.false_and, if_neg (by decide)]
      simp (disch := first | rfl | omega | decide | exact Nat.le_of_ble_eq_true rfl) only [↓q_br, q_rt, q_rz, q_gd, q_ca, ↓reduceIte, F_X13_operand_75B, ↓q_gA_26_1, ↓q_gA_26_10, ↓q_gA_26_16, ↓q_gA_26_17, ↓q_lI_28, ↓q_lI_31, ↓q_lI_34, ↓q_lI_35, nI_leI, h3, n3, nI_add, p1, st, b1, te]
theorem q_ac8 (a c : Int32) : a + c - 48 = a + (c - 48) := by
  rw [Int32.sub_eq_add_neg, Int32.sub_eq_add_neg, Int32.add_assoc]
theorem q_mreg {k o : Nat} {N : List q_Nam} {top : Nat} {K : q_Knd} (h : q_TM B l zt P Q S) (ht : t < l.length + 2) (hk : k < 40) (ho : o < 5) (hPL : q_PL N top P Q) (hWK : q_WK K) (hMK : q_MKd N Q k K) (hS : q_kS K = 0) : (∃ v, q_rgn B K (q_tok l t) = some v ∧ v < 100 ∧ F_X13_operand κ (some (b + 26)) (nI t) (nI k) (nI o) (q_H b C (P, Q, S) O D, s) = some (.inl (nI (t + 1)), (q_H b C (P, q_u2 Q 64 o (-1), q_u2 S 65 o (lN v)) O D, s))) ∨ (q_rgn B K (q_tok l t) = none ∧ F_X13_operand κ (some (b + 26)) (nI t) (nI k) (nI o) (q_H b C (P, Q, S) O D, s) = some (.inl (-1), (q_H b C (P, q_u2 Q 64 o (-1), S) O D, s))) := by
  have hzt := h.2.2.1
  have hl := h.2.1
  obtain ⟨w, y1, y2⟩ := hMK.2.2.1 hS
  have many : Q 40 k = nI (q_kZ K) := hMK.2.2.2.1 (Or.inl hS)
  have hz64 := hWK.2.2.2.1
  have wl : w < N.length := (List.getElem?_eq_some_iff.mp y2).1
  have hpn := hPL.2.2.2.2.2 w _ y2
  have w8 : w < 8000 := by have := hPL.2.2.1; omega
  obtain ⟨Q1, hQ1⟩ : ∃ Q1, Q1 = q_u2 Q 64 o (-1) := ⟨_, rfl⟩
  have fQ : ∀ j, j ≠ 64 → Q1 j = Q j := fun j hj => by rw [hQ1, q_u2_n _ _ _ hj]
  have h1 : q_TM B l zt P Q1 S := q_TM_P h rfl (fQ 28 (by decide)) (fQ 30 (by decide)) (fQ 31 (by decide)) (fQ 32 (by decide))
  have hpn1 : q_PN Q1 top w (q_kW K) := by
    obtain ⟨n1, n2, off, n3, n4, n5⟩ := hpn
    exact ⟨n1, by rw [fQ 36 (by decide), n2], off, by rw [fQ 35 (by decide), n3], n4, fun i hi => by rw [fQ 34 (by decide), n5 i hi]⟩
  have srt : Q1 38 k = 0 := by rw [fQ 38 (by decide), hMK.1, hS]; rfl
  have y1' : Q1 39 k = nI w := by rw [fQ 39 (by decide), y1]
  have nl : Q1 36 w = nI (q_kW K).length := hpn1.2.1
  have n20 := hpn1.1
  have many1 : Q1 40 k = nI (q_kZ K) := by rw [fQ 40 (by decide), many]
  have t6 : t < 6002 := by omega
  have ty : (Q1 30 t = (1 : Int32)) = ((q_tok l t).1 = 1) := propext (q_TM_is (c := 1) h1 ht (by decide))
  have z0 : (¬ (0 : Int32) = 0) = False := eq_false (fun h9 => h9 rfl)
  rw [← hQ1]
  unfold q_rgn
  by_cases c1 : (q_tok l t).1 = 1
  · have t1 : ((q_tok l t).1 = 1) = True := eq_true c1
    have tl : t < l.length := q_tok_lt (by omega)
    obtain ⟨w1, w2, w3, w4, -⟩ := h.2.2.2.2.1 t _ (q_tok_s tl)
    have ln := q_TM_ln h1 tl
    have stt := q_TM_st h1 tl
    have hB := h1.2.2.2.2.2.1
    have hBy := h1.2.2.2.2.2.2
    obtain ⟨e, he⟩ : ∃ e, e = (q_tok l t).2.2.1 := ⟨_, rfl⟩
    obtain ⟨st, hst⟩ : ∃ st, st = (q_tok l t).2.1 := ⟨_, rfl⟩
    obtain ⟨r, hr⟩ : ∃ r, r = (q_kW K).length := ⟨_, rfl⟩
    have pf := q_pfx (B := B) (x := q_tok l t) (nm := q_kW K)
    rw [← he, ← hst] at w2 ln pf ⊢
    rw [← hst] at stt
    rw [← he] at w3
    rw [← hr] at nl n20 pf ⊢
    have ad2 : nI r + (2 : Int32) = nI (r + 2) := nI_add r 2
    by_cases d0 : e - st ≤ r
    · -- too short
      have le : (nI (e - st) ≤ nI r) = True := eq_true (nI_le d0 (by omega))
      refine Or.inr ⟨?_, ?_⟩
      · split
        · rw [if_neg (by omega), if_neg (by omega)]
        · rfl
      · simp (disch := first | rfl | omega | decide | exact Nat.le_of_ble_eq_true rfl) only [↓q_br, q_rt, q_rz, q_gd, q_ca, ↓reduceIte, F_X13_operand, F_X13_operand_70, ↓q_gA_26_11, ↓q_gA_26_12, ↓q_gA_26_18, ↓q_gA_26_25, ↓q_gA_26_26, ↓q_gA_26_55, ↓q_gA_26_56, ↓q_gA_26_9, ↓q_is_26, ↓q_lI_30, ↓q_lI_32, ↓q_lI_36, ↓q_lI_38, ↓q_lI_39, ↓q_lI_64, ↓q_lL_33, ↓q_lL_65, ↓q_sI_30, ↓q_sI_32, ↓q_sI_36, ↓q_sI_38, ↓q_sI_39, ↓q_sI_64, ↓q_sL_33, ↓q_sL_65, ← hQ1, srt, z0, y1', nl, ty, t1, not_true_eq_false, ln, le]
    · have le : (nI (e - st) ≤ nI r) = False := eq_false (nI_ge (by omega) (by omega))
      by_cases d3 : e - st ≤ r + 2
      · have le2 : (nI (e - st) ≤ nI (r + 2)) = True := eq_true (nI_le d3 (by omega))
        have to75 := q_m75 (κ := κ) (b := b) (C := C) (O := O) (D := D) (s := s) (k := k) (o := o) h1 tl w8 hPL.2.2.2.1 hpn1 (by rw [← he, ← hst, ← hr]; omega) (q_kW K).length q_fu 0 (by omega) (by rw [← hr]; unfold q_fu; omega)
        rw [nI_0, ← hr, ← hst] at to75
        have road : F_X13_operand κ (some (b + 26)) (nI t) (nI k) (nI o) (q_H b C (P, Q, S) O D, s) = F_X13_operand_75 κ q_fu (some (b + 26)) (nI t) (nI k) (nI o) (nI w) (nI r) 0 0 (q_H b C (P, Q1, S) O D, s) := by
          simp (disch := first | rfl | omega | decide | exact Nat.le_of_ble_eq_true rfl) only [↓q_br, q_rt, q_rz, q_gd, q_ca, ↓reduceIte, F_X13_operand, ↓q_gA_26_11, ↓q_gA_26_12, ↓q_gA_26_18, ↓q_gA_26_25, ↓q_gA_26_26, ↓q_gA_26_55, ↓q_gA_26_56, ↓q_gA_26_9, ↓q_is_26, ↓q_lI_30, ↓q_lI_32, ↓q_lI_36, ↓q_lI_38, ↓q_lI_39, ↓q_lI_64, ↓q_lL_33, ↓q_lL_65, ↓q_sI_30, ↓q_sI_32, ↓q_sI_36, ↓q_sI_38, ↓q_sI_39, ↓q_sI_64, ↓q_sL_33, ↓q_sL_65, ← hQ1, srt, z0, y1', nl, ty, t1, not_true_eq_false, ln, le, ad2, le2]
        rw [road, to75]
        by_cases hpf : (q_kW K).isPrefixOf (q_tB B (q_tok l t)) = true
        · rw [if_pos ⟨c1, hpf⟩]
          have eq1 := (pf.mp hpf).2
          rw [if_pos eq1]
          obtain ⟨g, hg⟩ : ∃ g, q_fu = g + 1 + 1 + 1 := ⟨q_fu - 3, by unfold q_fu; omega⟩
          -- one digit more
          have step : ∀ (g' : Nat) (v i : Nat), st + i < e → r ≤ i → F_X13_operand_126 κ (g' + 1) (some (b + 26)) (nI t) (nI k) (nI o) (nI r) (nI v) (nI i) (q_H b C (P, Q1, S) O D, s) = (if q_dgt (B (st + i)) = true then F_X13_operand_126 κ g' (some (b + 26)) (nI t) (nI k) (nI o) (nI r) (nI (10 * v + q_dv9 (B (st + i)))) (nI (i + 1)) (q_H b C (P, Q1, S) O D, s) else some (.inl (-1), (q_H b C (P, Q1, S) O D, s))) := by
            intro g' v i hi hri
            have lle : ¬ e - st ≤ i := by omega
            have b1 := hB (st + i) (by omega)
            have l2 : st + i < 6000 := by omega
            have dg := fun σ => q_X13_isDigit (κ := κ) (σ := σ) (c := B (st + i))
            rw [F_X13_operand_126]
            by_cases hd : q_dgt (B (st + i)) = true
            · rw [if_pos hd]
              rw [hd] at dg
              obtain ⟨v1, v2⟩ := (q_dg9 (hBy (st + i) (by omega))).2.2 hd
              have mu : (10 : Int32) * nI v = nI (10 * v) := (Int32.ofNat_mul 10 v).symm
              simp (disch := first | rfl | omega | decide | exact Nat.le_of_ble_eq_true rfl) only [↓q_br, q_rt, q_rz, q_gd, q_ca, ↓reduceIte, F_X13_operand_126B, ↓q_gA_26_1, ↓q_gA_26_10, ↓q_gA_26_11, ↓q_gA_26_27, ↓q_lI_28, ↓q_lI_31, ↓q_lI_32, ↓q_lI_40, ln, nI_leI, lle, stt, nI_add, b1, dg, q_b_0, Bool.true_eq_false, not_false_eq_true, mu, q_ac8, v1, nI_1]
            · rw [if_neg hd]
              rw [Bool.not_eq_true] at hd
              rw [hd] at dg
              simp (disch := first | rfl | omega | decide | exact Nat.le_of_ble_eq_true rfl) only [↓q_br, q_rt, q_rz, q_gd, q_ca, ↓reduceIte, F_X13_operand_126B, ↓q_gA_26_1, ↓q_gA_26_10, ↓q_gA_26_11, ↓q_gA_26_27, ↓q_lI_28, ↓q_lI_31, ↓q_lI_32, ↓q_lI_40, ln, nI_leI, lle, stt, nI_add, b1, dg, q_b_0, not_true_eq_false]
          -- behind the last one
          have fin : ∀ (g' : Nat) (v : Nat), v < 1000 → F_X13_operand_126 κ (g' + 1) (some (b + 26)) (nI t) (nI k) (nI o) (nI r) (nI v) (nI (e - st)) (q_H b C (P, Q1, S) O D, s) = (if v < q_kZ K ∧ (e - st = r + 2 → 10 ≤ v) then some (.inl (nI (t + 1)), (q_H b C (P, Q1, q_u2 S 65 o (lN v)) O D, s)) else some (.inl (-1), (q_H b C (P, Q1, S) O D, s))) := by
            intro g' v hv
            have lle : (nI (e - st) ≤ nI (e - st)) = True := eq_true (nI_le (Nat.le_refl _) (by omega))
            have l64 : (nI v).toInt64 = lN v := nI_l (by omega)
            rw [F_X13_operand_126]
            by_cases c5 : v < q_kZ K
            · have k1 : (nI (q_kZ K) ≤ nI v) = False := eq_false (nI_ge c5 (by omega))
              by_cases c6 : e - st = r + 2
              · have e6 : (¬ nI (e - st) = nI (r + 2)) = False := eq_false (fun h9 => h9 (by rw [c6]))
                by_cases c7 : 10 ≤ v
                · have k7 : ((10 : Int32) ≤ nI v) = True := eq_true (nI_le (a := 10) c7 (by omega))
                  rw [if_pos ⟨c5, fun _ => c7⟩]
                  simp (disch := first | rfl | omega | decide | exact Nat.le_of_ble_eq_true rfl) only [↓q_br, q_rt, q_rz, q_gd, q_ca, ↓reduceIte, F_X13_operand_126B, F_X13_operand_223, ↓q_gA_26_1, ↓q_gA_26_10, ↓q_gA_26_11, ↓q_gA_26_27, ↓q_gA_26_56, ↓q_lI_28, ↓q_lI_31, ↓q_lI_32, ↓q_lI_40, ↓q_sL_65, ln, lle, many1, k1, ad2, e6, k7, l64, nI_1]
                · have k7 : ((10 : Int32) ≤ nI v) = False := eq_false (nI_ge (b := 10) (by omega) (by decide))
                  rw [if_neg (fun h9 => c7 (h9.2 c6))]
                  simp (disch := first | rfl | omega | decide | exact Nat.le_of_ble_eq_true rfl) only [↓q_br, q_rt, q_rz, q_gd, q_ca, ↓reduceIte, F_X13_operand_126B, F_X13_operand_221, ↓q_gA_26_1, ↓q_gA_26_10, ↓q_gA_26_11, ↓q_gA_26_27, ↓q_lI_28, ↓q_lI_31, ↓q_lI_32, ↓q_lI_40, ln, lle, many1, k1, ad2, e6, k7]
              · have e6 : (¬ nI (e - st) = nI (r + 2)) = True := eq_true (fun h9 => c6 ((nI_eq (by omega) (by omega)).mp h9))
                rw [if_pos ⟨c5, fun h9 => absurd h9 c6⟩]
                simp (disch := first | rfl | omega | decide | exact Nat.le_of_ble_eq_true rfl) only [↓q_br, q_rt, q_rz, q_gd, q_ca, ↓reduceIte, F_X13_operand_126B, F_X13_operand_223, ↓q_gA_26_1, ↓q_gA_26_10, ↓q_gA_26_11, ↓q_gA_26_27, ↓q_gA_26_56, ↓q_lI_28, ↓q_lI_31, ↓q_lI_32, ↓q_lI_40, ↓q_sL_65, ln, lle, many1, k1, ad2, e6, l64, nI_1]
            · have k1 : (nI (q_kZ K) ≤ nI v) = True := eq_true (nI_le (by omega) (by omega))
              rw [if_neg (fun h9 => c5 h9.1)]
              simp (disch := first | rfl | omega | decide | exact Nat.le_of_ble_eq_true rfl) only [↓q_br, q_rt, q_rz, q_gd, q_ca, ↓reduceIte, F_X13_operand_126B, F_X13_operand_221, ↓q_gA_26_1, ↓q_gA_26_10, ↓q_gA_26_11, ↓q_gA_26_27, ↓q_lI_28, ↓q_lI_31, ↓q_lI_32, ↓q_lI_40, ln, lle, many1, k1]
          have z0' : (0 : Int32) = nI 0 := rfl
          rw [hg, z0']
          by_cases d1 : e - st = r + 1
          · rw [if_pos (by omega : e - st - r = 1)]
            have ei : st + r = e - 1 := by omega
            have s1 := step (g + 1 + 1) 0 r (by omega) (Nat.le_refl _)
            rw [s1, ei]
            by_cases hd : q_dgt (B (e - 1)) = true
            · have v2 := ((q_dg9 (hBy (e - 1) (by omega))).2.2 hd).2
              rw [if_pos hd, ← d1, fin (g + 1) _ (by omega)]
              have ee : 10 * 0 + q_dv9 (B (e - 1)) = q_dv9 (B (e - 1)) := by omega
              rw [ee]
              by_cases c5 : q_dv9 (B (e - 1)) < q_kZ K
              · rw [if_pos ⟨hd, c5⟩, if_pos ⟨c5, fun h9 => by omega⟩]
                exact Or.inl ⟨_, rfl, by omega, rfl⟩
              · rw [if_neg (fun h9 => c5 h9.2), if_neg (fun h9 => c5 h9.1)]
                exact Or.inr ⟨rfl, rfl⟩
            · rw [if_neg hd, if_neg (fun h9 => hd h9.1)]
              exact Or.inr ⟨rfl, rfl⟩
          · have d2 : e - st = r + 2 := by omega
            rw [if_neg (by omega : ¬ e - st - r = 1), if_pos (by omega : e - st - r = 2)]
            have ei : st + r = e - 2 := by omega
            have ei2 : st + (r + 1) = e - 1 := by omega
            have s1 := step (g + 1 + 1) 0 r (by omega) (Nat.le_refl _)
            rw [s1, ei]
            by_cases hd : q_dgt (B (e - 2)) = true
            · have v2 := ((q_dg9 (hBy (e - 2) (by omega))).2.2 hd).2
              have ee : 10 * 0 + q_dv9 (B (e - 2)) = q_dv9 (B (e - 2)) := by omega
              have s2 := step (g + 1) (q_dv9 (B (e - 2))) (r + 1) (by omega) (by omega)
              rw [if_pos hd, ee, s2, ei2]
              by_cases hd1 : q_dgt (B (e - 1)) = true
              · have v3 := ((q_dg9 (hBy (e - 1) (by omega))).2.2 hd1).2
                have er : r + 1 + 1 = e - st := by omega
                rw [if_pos hd1, er, fin g _ (by omega)]
                by_cases c5 : 10 * q_dv9 (B (e - 2)) + q_dv9 (B (e - 1)) < q_kZ K
                · by_cases c6 : q_dv9 (B (e - 2)) = 0
                  · rw [if_neg (fun h9 => h9.2.1 c6), if_neg (fun h9 => by have := h9.2 d2; omega)]
                    exact Or.inr ⟨rfl, rfl⟩
                  · rw [if_pos ⟨⟨hd, hd1⟩, c6, c5⟩, if_pos ⟨c5, fun _ => by omega⟩]
                    exact Or.inl ⟨_, rfl, by omega, rfl⟩
                · rw [if_neg (fun h9 => c5 h9.2.2), if_neg (fun h9 => c5 h9.1)]
                  exact Or.inr ⟨rfl, rfl⟩
              · rw [if_neg hd1, if_neg (fun h9 => hd1 h9.1.2)]
                exact Or.inr ⟨rfl, rfl⟩
            · rw [if_neg hd, if_neg (fun h9 => hd h9.1.1)]
              exact Or.inr ⟨rfl, rfl⟩
        · rw [if_neg (fun h9 => hpf h9.2)]
          have neq : ¬ q_eqf (fun k => B (st + k)) (fun k => (q_kW K).getD k 0) r 0 = true := fun h9 => hpf (pf.mpr ⟨by omega, h9⟩)
          rw [if_neg neq]
          exact Or.inr ⟨rfl, rfl⟩
      · have le2 : (nI (e - st) ≤ nI (r + 2)) = False := eq_false (nI_ge (by omega) (by omega))
        refine Or.inr ⟨?_, ?_⟩
        · split
          · rw [if_neg (by omega), if_neg (by omega)]
          · rfl
        · simp (disch := first | rfl | omega | decide | exact Nat.le_of_ble_eq_true rfl) only [↓q_br, q_rt, q_rz, q_gd, q_ca, ↓reduceIte, F_X13_operand, F_X13_operand_70, ↓q_gA_26_11, ↓q_gA_26_12, ↓q_gA_26_18, ↓q_gA_26_25, ↓q_gA_26_26, ↓q_gA_26_55, ↓q_gA_26_56, ↓q_gA_26_9, ↓q_is_26, ↓q_lI_30, ↓q_lI_32, ↓q_lI_36, ↓q_lI_38, ↓q_lI_39, ↓q_lI_64, ↓q_lL_33, ↓q_lL_65, ↓q_sI_30, ↓q_sI_32, ↓q_sI_36, ↓q_sI_38, ↓q_sI_39, ↓q_sI_64, ↓q_sL_33, ↓q_sL_65, ← hQ1, srt, z0, y1', nl, ty, t1, not_true_eq_false, ln, le, ad2, le2]
  · have t1 : ((q_tok l t).1 = 1) = False := eq_false c1
    rw [if_neg (fun h9 => c1 h9.1)]
    refine Or.inr ⟨rfl, ?_⟩
    simp (disch := first | rfl | omega | decide | exact Nat.le_of_ble_eq_true rfl) only [↓q_br, q_rt, q_rz, q_gd, q_ca, ↓reduceIte, F_X13_operand, F_X13_operand_70, ↓q_gA_26_11, ↓q_gA_26_12, ↓q_gA_26_18, ↓q_gA_26_25, ↓q_gA_26_26, ↓q_gA_26_55, ↓q_gA_26_56, ↓q_gA_26_9, ↓q_is_26, ↓q_lI_30, ↓q_lI_32, ↓q_lI_36, ↓q_lI_38, ↓q_lI_39, ↓q_lI_64, ↓q_lL_33, ↓q_lL_65, ↓q_sI_30, ↓q_sI_32, ↓q_sI_36, ↓q_sI_38, ↓q_sI_39, ↓q_sI_64, ↓q_sL_33, ↓q_sL_65, ← hQ1, srt, z0, y1', nl, ty, t1, not_false_eq_true, not_true_eq_false]
end QMP
