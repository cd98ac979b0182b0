def q_QO (o : Nat) (Q Q' : Nat → Nat → Int32) (S S' : Nat → Nat → Int64) : Prop := (∀ j, j ≠ 64 → Q' j = Q j) ∧ (∀ i, i ≠ o → Q' 64 i = Q 64 i) ∧ (∀ j, j ≠ 65 → S' j = S j) ∧ ∀ i, i ≠ o → S' 65 i = S 65 i
theorem q_QO_1 {o : Nat} {Q : Nat → Nat → Int32} {S : Nat → Nat → Int64} (v : Int32) : q_QO o Q (q_u2 Q 64 o v) S S := ⟨fun j hj => q_u2_n _ _ _ hj, fun i hi => by rw [q_u2_s, q_u1_n _ _ hi], fun _ _ => rfl, fun _ _ => rfl⟩
theorem q_QO_2 {o : Nat} {Q : Nat → Nat → Int32} {S : Nat → Nat → Int64} (v : Int32) (w : Int64) : q_QO o Q (q_u2 Q 64 o v) S (q_u2 S 65 o w) := ⟨fun j hj => q_u2_n _ _ _ hj, fun i hi => by rw [q_u2_s, q_u1_n _ _ hi], fun j hj => q_u2_n _ _ _ hj, fun i hi => by rw [q_u2_s, q_u1_n _ _ hi]⟩
theorem q_QO_t {o : Nat} {Q Q' Q2 : Nat → Nat → Int32} {S S' S2 : Nat → Nat → Int64} (h1 : q_QO o Q Q' S S') (h2 : q_QO o Q' Q2 S' S2) : q_QO o Q Q2 S S2 := ⟨fun j hj => by rw [h2.1 j hj, h1.1 j hj], fun j hj => by rw [h2.2.1 j hj, h1.2.1 j hj], fun j hj => by rw [h2.2.2.1 j hj, h1.2.2.1 j hj], fun j hj => by rw [h2.2.2.2 j hj, h1.2.2.2 j hj]⟩
theorem q_nImul (a v : Nat) : (nI a) * nI v = nI (a * v) := (Int32.ofNat_mul a v).symm
section QMO
variable {κ : Nat → Nat} {b : Nat} {B : Nat → Int32} {l : List q_Tok} {zt t : Nat} {C : q_CT} {P : Nat → Int32} {Q : Nat → Nat → Int32} {S : Nat → Nat → Int64} {O : Nat → Int64} {D : q_Mem} {s : Nat × Nat}
theorem q_m261 {k o : Nat} {N : List q_Nam} {top : Nat} {K : q_Knd} (h : q_TM B l zt P Q S) (tl : t < l.length) (hk : k < 40) (ho : o < 5) (hPL : q_PL N top P Q) (hWK : q_WK K) (hMK : q_MKd N Q k K) (hS : q_kS K = 4) : ∀ d fuel i, i + d = (q_kM K).length → d < fuel → F_X13_operand_261 κ fuel (some (b + 26)) (nI t) (nI k) (nI o) (nI i) (q_H b C (P, Q, S) O D, s) = (match q_fi (fun i => decide (q_tB B (q_tok l t) = (q_kM K).getD i [])) d i with
    | none => some (.inl (-1), (q_H b C (P, Q, S) O D, s))
    | some v => some (.inl (nI (t + 1)), (q_H b C (P, Q, q_u2 S 65 o (lN v)) O D, s))) := by
  have hzt := h.2.2.1
  have hl := h.2.1
  obtain ⟨z1, z2⟩ := hWK.2.2.2.2.1 hS
  have many := hMK.2.2.2.1 (Or.inr hS)
  have mem := hMK.2.2.2.2.2 hS
  have t6 : t < 6002 := by omega
  intro d
  induction d with
  | zero =>
    intro fuel i h1 h2
    obtain ⟨g, rfl⟩ : ∃ g, fuel = g + 1 := ⟨fuel - 1, by omega⟩
    have h3 : q_kZ K ≤ i := by omega
    rw [F_X13_operand_261]
    simp (disch := first | rfl | omega | decide | exact Nat.le_of_ble_eq_true rfl) only [↓q_br, q_rt, q_rz, q_gd, q_ca, ↓reduceIte, F_X13_operand_261B, ↓q_gA_26_27, ↓q_gA_26_29, ↓q_gA_26_56, ↓q_is_26, ↓q_lI_40, ↓q_lI_42, ↓q_sL_65, many, nI_leI, h3, q_fi]
  | succ d ih =>
    intro fuel i h1 h2
    obtain ⟨g, rfl⟩ : ∃ g, fuel = g + 1 := ⟨fuel - 1, by omega⟩
    have h3 : ¬ q_kZ K ≤ i := by omega
    have h5 : i < (q_kM K).length := by omega
    have hg := List.getElem?_eq_getElem h5
    obtain ⟨w, y1, y2⟩ := mem i _ hg
    have hgd : (q_kM K).getD i [] = (q_kM K)[i] := by simp [List.getD, h5]
    have wl : w < N.length := (List.getElem?_eq_some_iff.mp y2).1
    have hpn := hPL.2.2.2.2.2 w _ y2
    have w8 : w < 8000 := by have := hPL.2.2.1; omega
    have nm := q_isName (κ := κ) (b := b) (C := C) (O := O) (D := D) (s := s) h tl w8 hPL.2.2.2.1 hpn
    have mu : (32 : Int32) * nI k + nI i = nI (32 * k + i) := by rw [show (32 : Int32) = nI 32 from rfl, q_nImul, nI_add]
    have ix : 32 * k + i < 1280 := by omega
    have l64 : (nI i).toInt64 = lN i := nI_l (by omega)
    have ihk := ih g (i + 1) (by omega) (by omega)
    rw [F_X13_operand_261, q_fi]
    by_cases he : q_tB B (q_tok l t) = (q_kM K).getD i []
    · rw [if_pos (decide_eq_true he)]
      rw [← hgd, decide_eq_true he] at nm
      simp (disch := first | rfl | omega | decide | exact Nat.le_of_ble_eq_true rfl) only [↓q_br, q_rt, q_rz, q_gd, q_ca, ↓reduceIte, F_X13_operand_261B, ↓q_gA_26_27, ↓q_gA_26_29, ↓q_gA_26_56, ↓q_is_26, ↓q_lI_40, ↓q_lI_42, ↓q_sL_65, many, nI_leI, h3, mu, y1, nm, q_b_0, Bool.true_eq_false, not_false_eq_true, l64, nI_1]
    · rw [if_neg (fun h9 => he (of_decide_eq_true h9))]
      rw [← hgd, decide_eq_false he] at nm
      simp (disch := first | rfl | omega | decide | exact Nat.le_of_ble_eq_true rfl) only [↓q_br, q_rt, q_rz, q_gd, q_ca, ↓reduceIte, F_X13_operand_261B, ↓q_gA_26_27, ↓q_gA_26_29, ↓q_gA_26_56, ↓q_is_26, ↓q_lI_40, ↓q_lI_42, ↓q_sL_65, many, nI_leI, h3, mu, y1, nm, q_b_0, not_true_eq_false, nI_1, ihk]
theorem q_mopd {k o : Nat} {N : List q_Nam} {top : Nat} {K : q_Knd} {LT : List Nat} (h : q_TM B l zt P Q S) (ht : t ≤ l.length) (hk : k < 40) (ho : o < 5) (hPL : q_PL N top P Q) (hWK : q_WK K) (hMK : q_MKd N Q k K) (h43 : P 43 = nI LT.length) (hQL : ∀ k, k < LT.length → Q 62 k = nI (LT.getD k 0)) (hLT : ∀ k, k < LT.length → LT.getD k 0 < l.length) (hKl : LT.length ≤ 6000) : ∃ Q' S', q_QO o Q Q' S S' ∧ F_X13_operand κ (some (b + 26)) (nI t) (nI k) (nI o) (q_H b C (P, Q, S) O D, s) = some (.inl (q_mv ((q_opd B l LT K t).map fun x => x.1)), (q_H b C (P, Q', S') O D, s)) ∧ ∀ x, q_opd B l LT K t = some x → Q' 64 o = q_mv x.2.1 ∧ S' 65 o = x.2.2 := by
  have hzt := h.2.2.1
  have hl := h.2.1
  have t6 : t < 6002 := by omega
  by_cases c0 : q_kS K = 0
  · rcases q_mreg (κ := κ) (b := b) (C := C) (O := O) (D := D) (s := s) (o := o) h (t := t) (by omega) hk ho hPL hWK hMK c0 with ⟨v, v1, v2, v3⟩ | ⟨v1, v3⟩
    · refine ⟨q_u2 Q 64 o (-1), q_u2 S 65 o (lN v), q_QO_2 _ _, ?_, ?_⟩
      · rw [v3]
        unfold q_opd
        rw [if_pos c0, v1]
        rfl
      · intro x hx
        unfold q_opd at hx
        rw [if_pos c0, v1] at hx
        cases hx
        rw [q_u2_s, q_u1_s, q_u2_s, q_u1_s]
        exact ⟨rfl, rfl⟩
    · refine ⟨q_u2 Q 64 o (-1), S, q_QO_1 _, ?_, ?_⟩
      · rw [v3]
        unfold q_opd
        rw [if_pos c0, v1]
        rfl
      · intro x hx
        unfold q_opd at hx
        rw [if_pos c0, v1] at hx
        cases hx
  · obtain ⟨Q1, hQ1⟩ : ∃ Q1, Q1 = q_u2 Q 64 o (-1) := ⟨_, rfl⟩
    have fQ : ∀ j, j ≠ 64 → Q1 j = Q j := fun j hj => by rw [hQ1, q_u2_n _ _ _ hj]
    have h1 : q_TM B l zt P Q1 S := q_TM_P h rfl (fQ 28 (by decide)) (fQ 30 (by decide)) (fQ 31 (by decide)) (fQ 32 (by decide))
    have o1 : q_QO o Q Q1 S S := by rw [hQ1]; exact q_QO_1 _
    have q64 : Q1 64 o = -1 := by rw [hQ1, q_u2_s, q_u1_s]
    have srt : Q1 38 k = nI (q_kS K) := by rw [fQ 38 (by decide), hMK.1]
    have t0 : (nI (q_kS K) = 0) = False := eq_false (fun h9 => c0 ((nI_eq (b := 0) (by have := hWK.1; omega) (by decide)).mp h9))
    have ty1 : (Q1 30 t = (1 : Int32)) = ((q_tok l t).1 = 1) := propext (q_TM_is (c := 1) h1 (by omega) (by decide))
    have ty2 : (Q1 30 t = (2 : Int32)) = ((q_tok l t).1 = 2) := propext (q_TM_is (c := 2) h1 (by omega) (by decide))
    have ad1 : nI t + (1 : Int32) = nI (t + 1) := nI_add t 1
    have ad2 : nI t + (2 : Int32) = nI (t + 2) := nI_add t 2
    have ad3 : nI t + (3 : Int32) = nI (t + 3) := nI_add t 3
    unfold q_opd
    rw [if_neg c0]
    by_cases c4 : q_kS K = 4
    · have t4 : (nI (q_kS K) = (4 : Int32)) = True := eq_true (by rw [c4]; rfl)
      rw [if_pos c4]
      unfold q_mem1
      by_cases c1 : (q_tok l t).1 = 1
      · have t1 : ((q_tok l t).1 = 1) = True := eq_true c1
        have tl : t < l.length := q_tok_lt (by omega)
        rw [if_pos c1]
        have hPL1 : q_PL N top P Q1 := ⟨hPL.1, hPL.2.1, hPL.2.2.1, hPL.2.2.2.1, hPL.2.2.2.2.1, fun w nm hw => by
          obtain ⟨n1, n2, off, n3, n4, n5⟩ := hPL.2.2.2.2.2 w nm hw
          exact ⟨n1, by rw [fQ 36 (by decide), n2], off, by rw [fQ 35 (by decide), n3], n4, fun i hi => by rw [fQ 34 (by decide), n5 i hi]⟩⟩
        have hMK1 : q_MKd N Q1 k K := by
          unfold q_MKd at hMK ⊢
          rw [fQ 38 (by decide), fQ 37 (by decide), fQ 39 (by decide), fQ 40 (by decide), fQ 41 (by decide), fQ 42 (by decide)]
          exact hMK
        have lp := q_m261 (κ := κ) (b := b) (C := C) (O := O) (D := D) (s := s) h1 tl hk ho hPL1 hWK hMK1 c4 (q_kM K).length q_fu 0 (by omega) (by have := hWK.2.2.2.2.1 c4; unfold q_fu; omega)
        rw [nI_0] at lp
        have road : F_X13_operand κ (some (b + 26)) (nI t) (nI k) (nI o) (q_H b C (P, Q, S) O D, s) = F_X13_operand_261 κ q_fu (some (b + 26)) (nI t) (nI k) (nI o) 0 (q_H b C (P, Q1, S) O D, s) := by
          simp (disch := first | rfl | omega | decide | exact Nat.le_of_ble_eq_true rfl) only [↓q_br, q_rt, q_rz, q_gd, q_ca, ↓reduceIte, F_X13_operand, ↓q_gA_26_11, ↓q_gA_26_12, ↓q_gA_26_18, ↓q_gA_26_25, ↓q_gA_26_26, ↓q_gA_26_55, ↓q_gA_26_56, ↓q_gA_26_9, ↓q_is_26, ↓q_lI_30, ↓q_lI_32, ↓q_lI_36, ↓q_lI_38, ↓q_lI_39, ↓q_lI_64, ↓q_lL_33, ↓q_lL_65, ↓q_sI_30, ↓q_sI_32, ↓q_sI_36, ↓q_sI_38, ↓q_sI_39, ↓q_sI_64, ↓q_sL_33, ↓q_sL_65, ← hQ1, srt, t0, t4, not_true_eq_false, not_false_eq_true, ty1, t1]
        rw [road, lp]
        cases hr : q_fi (fun i => decide (q_tB B (q_tok l t) = (q_kM K).getD i [])) (q_kM K).length 0 with
        | none => exact ⟨Q1, S, o1, rfl, fun x hx => by cases hx⟩
        | some v =>
          refine ⟨Q1, q_u2 S 65 o (lN v), by rw [hQ1]; exact q_QO_2 _ _, rfl, fun x hx => ?_⟩
          cases hx
          exact ⟨q64, by rw [q_u2_s, q_u1_s]⟩
      · have t1 : ((q_tok l t).1 = 1) = False := eq_false c1
        rw [if_neg c1]
        refine ⟨Q1, S, o1, ?_, fun x hx => by cases hx⟩
        simp (disch := first | rfl | omega | decide | exact Nat.le_of_ble_eq_true rfl) only [↓q_br, q_rt, q_rz, q_gd, q_ca, ↓reduceIte, F_X13_operand, ↓q_gA_26_11, ↓q_gA_26_12, ↓q_gA_26_18, ↓q_gA_26_25, ↓q_gA_26_26, ↓q_gA_26_55, ↓q_gA_26_56, ↓q_gA_26_9, ↓q_is_26, ↓q_lI_30, ↓q_lI_32, ↓q_lI_36, ↓q_lI_38, ↓q_lI_39, ↓q_lI_64, ↓q_lL_33, ↓q_lL_65, ↓q_sI_30, ↓q_sI_32, ↓q_sI_36, ↓q_sI_38, ↓q_sI_39, ↓q_sI_64, ↓q_sL_33, ↓q_sL_65, ← hQ1, srt, t0, t4, not_true_eq_false, not_false_eq_true, ty1, t1]
        rfl
    · have t4 : (nI (q_kS K) = (4 : Int32)) = False := eq_false (fun h9 => c4 ((nI_eq (b := 4) (by have := hWK.1; omega) (by decide)).mp h9))
      rw [if_neg c4]
      by_cases c2 : (q_tok l t).1 = 2
      · have t2 : ((q_tok l t).1 = 2) = True := eq_true c2
        rw [if_pos c2]
        have wo := q_TM_wo h1 (t := t) (q_tok_lt (by omega)) (Or.inl c2)
        refine ⟨Q1, q_u2 S 65 o (q_nv l t), by rw [hQ1]; exact q_QO_2 _ _, ?_, fun x hx => ?_⟩
        · simp (disch := first | rfl | omega | decide | exact Nat.le_of_ble_eq_true rfl) only [↓q_br, q_rt, q_rz, q_gd, q_ca, ↓reduceIte, F_X13_operand, ↓q_gA_26_11, ↓q_gA_26_12, ↓q_gA_26_18, ↓q_gA_26_25, ↓q_gA_26_26, ↓q_gA_26_55, ↓q_gA_26_56, ↓q_gA_26_9, ↓q_is_26, ↓q_lI_30, ↓q_lI_32, ↓q_lI_36, ↓q_lI_38, ↓q_lI_39, ↓q_lI_64, ↓q_lL_33, ↓q_lL_65, ↓q_sI_30, ↓q_sI_32, ↓q_sI_36, ↓q_sI_38, ↓q_sI_39, ↓q_sI_64, ↓q_sL_33, ↓q_sL_65, ← hQ1, srt, t0, t4, not_true_eq_false, not_false_eq_true, ty2, t2, wo, ad1]
          rfl
        · cases hx
          exact ⟨q64, by rw [q_u2_s, q_u1_s]⟩
      · have t2 : ((q_tok l t).1 = 2) = False := eq_false c2
        rw [if_neg c2]
        have sg := q_msign (κ := κ) (b := b) (C := C) (O := O) (D := D) (s := s) (t := t) (c := 45) h1 (by omega)
        cases cs : q_sgn l t 45 with
        | true =>
          rw [cs] at sg
          rw [if_pos rfl]
          have c3 : (q_tok l t).1 = 3 := (of_decide_eq_true cs).1
          have tl : t < l.length := q_tok_lt (by omega)
          have t7 : t + 1 < 6002 := by omega
          have tz2 : (Q1 30 (t + 1) = (2 : Int32)) = ((q_tok l (t + 1)).1 = 2) := propext (q_TM_is (c := 2) h1 (by omega) (by decide))
          by_cases d2 : (q_tok l (t + 1)).1 = 2
          · have s2 : ((q_tok l (t + 1)).1 = 2) = True := eq_true d2
            rw [if_pos d2]
            have wo := q_TM_wo h1 (t := t + 1) (q_tok_lt (by omega)) (Or.inl d2)
            refine ⟨Q1, q_u2 S 65 o (- q_nv l (t + 1)), by rw [hQ1]; exact q_QO_2 _ _, ?_, fun x hx => ?_⟩
            · simp (disch := first | rfl | omega | decide | exact Nat.le_of_ble_eq_true rfl) only [↓q_br, q_rt, q_rz, q_gd, q_ca, ↓reduceIte, F_X13_operand, ↓q_gA_26_11, ↓q_gA_26_12, ↓q_gA_26_18, ↓q_gA_26_25, ↓q_gA_26_26, ↓q_gA_26_55, ↓q_gA_26_56, ↓q_gA_26_9, ↓q_is_26, ↓q_lI_30, ↓q_lI_32, ↓q_lI_36, ↓q_lI_38, ↓q_lI_39, ↓q_lI_64, ↓q_lL_33, ↓q_lL_65, ↓q_sI_30, ↓q_sI_32, ↓q_sI_36, ↓q_sI_38, ↓q_sI_39, ↓q_sI_64, ↓q_sL_33, ↓q_sL_65, ← hQ1, srt, t0, t4, not_true_eq_false, not_false_eq_true, ty2, t2, sg, q_b_0, Bool.true_eq_false, ad1, ad2, tz2, s2, wo]
              rfl
            · cases hx
              exact ⟨q64, by rw [q_u2_s, q_u1_s]⟩
          · have s2 : ((q_tok l (t + 1)).1 = 2) = False := eq_false d2
            have t1 : ((q_tok l t).1 = 1) = False := eq_false (by omega)
            rw [if_neg d2]
            refine ⟨Q1, S, o1, ?_, fun x hx => by cases hx⟩
            simp (disch := first | rfl | omega | decide | exact Nat.le_of_ble_eq_true rfl) only [↓q_br, q_rt, q_rz, q_gd, q_ca, ↓reduceIte, F_X13_operand, F_X13_operand_383, ↓q_gA_26_11, ↓q_gA_26_12, ↓q_gA_26_18, ↓q_gA_26_25, ↓q_gA_26_26, ↓q_gA_26_55, ↓q_gA_26_56, ↓q_gA_26_9, ↓q_is_26, ↓q_lI_30, ↓q_lI_32, ↓q_lI_36, ↓q_lI_38, ↓q_lI_39, ↓q_lI_64, ↓q_lL_33, ↓q_lL_65, ↓q_sI_30, ↓q_sI_32, ↓q_sI_36, ↓q_sI_38, ↓q_sI_39, ↓q_sI_64, ↓q_sL_33, ↓q_sL_65, ← hQ1, srt, t0, t4, not_true_eq_false, not_false_eq_true, ty2, t2, sg, q_b_0, Bool.true_eq_false, ad1, tz2, s2, ty1, t1]
            rfl
        | false =>
          rw [cs] at sg
          rw [if_neg (by decide)]
          by_cases c1 : (q_tok l t).1 = 1
          · have t1 : ((q_tok l t).1 = 1) = True := eq_true c1
            have tl : t < l.length := q_tok_lt (by omega)
            have t7 : t + 1 < 6002 := by omega
            have t8 : t + 2 < 6002 := by omega
            rw [if_pos c1]
            have lb := q_mlabelAt (κ := κ) (b := b) (C := C) (O := O) (D := D) (s := s) h1 tl h43 (fun k hk => by rw [fQ 62 (by decide), hQL k hk]) hLT hKl
            obtain ⟨Q2, hQ2⟩ : ∃ Q2, Q2 = q_u2 Q1 64 o (q_mv (q_lk B l LT t)) := ⟨_, rfl⟩
            obtain ⟨S2, hS2⟩ : ∃ S2, S2 = q_u2 S 65 o 0 := ⟨_, rfl⟩
            have fS : ∀ j, j ≠ 65 → S2 j = S j := fun j hj => by rw [hS2, q_u2_n _ _ _ hj]
            have fQ2 : ∀ j, j ≠ 64 → Q2 j = Q1 j := fun j hj => by rw [hQ2, q_u2_n _ _ _ hj]
            have h2 : q_TM B l zt P Q2 S2 := by
              have h9 := q_TM_P h1 (P' := P) (Q' := Q2) rfl (fQ2 28 (by decide)) (fQ2 30 (by decide)) (fQ2 31 (by decide)) (fQ2 32 (by decide))
              unfold q_TM q_MK at h9 ⊢
              rw [fS 33 (by decide)]
              exact h9
            have o2 : q_QO o Q Q2 S S2 := q_QO_t o1 (by rw [hQ2, hS2]; exact q_QO_2 _ _)
            have q64' : Q2 64 o = q_mv (q_lk B l LT t) := by rw [hQ2, q_u2_s, q_u1_s]
            have s65 : S2 65 o = 0 := by rw [hS2, q_u2_s, q_u1_s]
            have a43 := q_msign (κ := κ) (b := b) (C := C) (O := O) (D := D) (s := s) (t := t + 1) (c := 43) h2 (by omega)
            have a45 := q_msign (κ := κ) (b := b) (C := C) (O := O) (D := D) (s := s) (t := t + 1) (c := 45) h2 (by omega)
            have tz2 : (Q2 30 (t + 2) = (2 : Int32)) = ((q_tok l (t + 2)).1 = 2) := propext (q_TM_is (c := 2) h2 (by omega) (by decide))
            have road : F_X13_operand κ (some (b + 26)) (nI t) (nI k) (nI o) (q_H b C (P, Q, S) O D, s) = F_X13_operand_383 κ (some (b + 26)) (nI t) (nI o) (q_H b C (P, Q1, S) O D, s) := by
              simp (disch := first | rfl | omega | decide | exact Nat.le_of_ble_eq_true rfl) only [↓q_br, q_rt, q_rz, q_gd, q_ca, ↓reduceIte, F_X13_operand, ↓q_gA_26_11, ↓q_gA_26_12, ↓q_gA_26_18, ↓q_gA_26_25, ↓q_gA_26_26, ↓q_gA_26_55, ↓q_gA_26_56, ↓q_gA_26_9, ↓q_is_26, ↓q_lI_30, ↓q_lI_32, ↓q_lI_36, ↓q_lI_38, ↓q_lI_39, ↓q_lI_64, ↓q_lL_33, ↓q_lL_65, ↓q_sI_30, ↓q_sI_32, ↓q_sI_36, ↓q_sI_38, ↓q_sI_39, ↓q_sI_64, ↓q_sL_33, ↓q_sL_65, ← hQ1, srt, t0, t4, not_true_eq_false, not_false_eq_true, ty2, t2, sg, q_b_0]
            rw [road]
            cases hr : q_lk B l LT t with
            | none =>
              rw [hr] at q64'
              have n0 : ((0 : Int32) ≤ q_mv none) = False := eq_false (by decide)
              refine ⟨Q2, S2, o2, ?_, fun x hx => by cases hx⟩
              simp (disch := first | rfl | omega | decide | exact Nat.le_of_ble_eq_true rfl) only [↓q_br, q_rt, q_rz, q_gd, q_ca, ↓reduceIte, F_X13_operand_383, ↓q_gA_26_55, ↓q_gA_26_56, ↓q_gA_26_9, ↓q_is_26, ↓q_lI_30, ↓q_lI_64, ↓q_sI_30, ↓q_sI_64, ↓q_sL_65, ty1, t1, lb, ← hQ2, ← hS2, q64', n0]
              rfl
            | some i =>
              have hi9 : i < LT.length := by
                have := (q_fi_s _ _ _ hr).2.1
                omega
              rw [hr] at q64'
              have n0 : ((0 : Int32) ≤ q_mv (some i)) = True := eq_true (nI_pos' (by omega))
              unfold q_tl
              have to448 : ∀ c, (q_sgn l (t + 1) 43 = c) → (c = false → q_sgn l (t + 1) 45 = true) → ∃ Q' S', q_QO o Q Q' S S' ∧ F_X13_operand_448 κ (some (b + 26)) (nI t) (nI o) (q_H b C (P, Q2, S2) O D, s) = some (.inl (q_mv ((if ((q_sgn l (t + 1) 43 || q_sgn l (t + 1) 45) && decide ((q_tok l (t + 2)).1 = 2)) = true then some (t + 3, some i, if q_sgn l (t + 1) 43 = true then q_nv l (t + 2) else - q_nv l (t + 2)) else some (t + 1, some i, 0) : Option q_Opd).map fun x => x.1)), (q_H b C (P, Q', S') O D, s)) ∧ ∀ x : q_Opd, (if ((q_sgn l (t + 1) 43 || q_sgn l (t + 1) 45) && decide ((q_tok l (t + 2)).1 = 2)) = true then some (t + 3, some i, if q_sgn l (t + 1) 43 = true then q_nv l (t + 2) else - q_nv l (t + 2)) else some (t + 1, some i, 0)) = some x → Q' 64 o = q_mv x.2.1 ∧ S' 65 o = x.2.2 := by
                intro c hc hc2
                have or1 : (q_sgn l (t + 1) 43 || q_sgn l (t + 1) 45) = true := by
                  rw [hc]
                  cases c with
                  | true => rfl
                  | false => rw [hc2 rfl]; rfl
                rw [or1, Bool.true_and]
                by_cases d2 : (q_tok l (t + 2)).1 = 2
                · have s2 : ((q_tok l (t + 2)).1 = 2) = True := eq_true d2
                  have wo := q_TM_wo h2 (t := t + 2) (q_tok_lt (by omega)) (Or.inl d2)
                  rw [if_pos (decide_eq_true d2)]
                  rw [hc] at a43 ⊢
                  cases c with
                  | true =>
                    refine ⟨Q2, q_u2 S2 65 o (q_nv l (t + 2)), q_QO_t o2 ⟨fun _ _ => rfl, fun _ _ => rfl, fun j hj => q_u2_n _ _ _ hj, fun j hj => by rw [q_u2_s, q_u1_n _ _ hj]⟩, ?_, ?_⟩
                    · simp (disch := first | rfl | omega | decide | exact Nat.le_of_ble_eq_true rfl) only [↓q_br, q_rt, q_rz, q_gd, q_ca, ↓reduceIte, F_X13_operand_448, F_X13_operand_497, ↓q_gA_26_12, ↓q_gA_26_56, ↓q_gA_26_9, ↓q_is_26, ↓q_lI_30, ↓q_lL_33, ↓q_lL_65, ↓q_sL_33, ↓q_sL_65, ad2, tz2, s2, not_true_eq_false, ad1, a43, q_b_0, Bool.true_eq_false, wo, ad3]
                      rfl
                    · intro x hx
                      cases hx
                      exact ⟨q64', by rw [q_u2_s, q_u1_s]; rfl⟩
                  | false =>
                    refine ⟨Q2, q_u2 S2 65 o (- q_nv l (t + 2)), q_QO_t o2 ⟨fun _ _ => rfl, fun _ _ => rfl, fun j hj => q_u2_n _ _ _ hj, fun j hj => by rw [q_u2_s, q_u1_n _ _ hj]⟩, ?_, ?_⟩
                    · simp (disch := first | rfl | omega | decide | exact Nat.le_of_ble_eq_true rfl) only [↓q_br, q_rt, q_rz, q_gd, q_ca, ↓reduceIte, F_X13_operand_448, F_X13_operand_497, ↓q_gA_26_12, ↓q_gA_26_56, ↓q_gA_26_9, ↓q_is_26, ↓q_lI_30, ↓q_lL_33, ↓q_lL_65, ↓q_sL_33, ↓q_sL_65, ad2, tz2, s2, not_true_eq_false, ad1, a43, q_b_0, wo, ad3]
                      rfl
                    · intro x hx
                      cases hx
                      exact ⟨q64', by rw [q_u2_s, q_u1_s]; rfl⟩
                · have s2 : ((q_tok l (t + 2)).1 = 2) = False := eq_false d2
                  rw [if_neg (fun h9 => d2 (of_decide_eq_true h9))]
                  refine ⟨Q2, S2, o2, ?_, ?_⟩
                  · simp (disch := first | rfl | omega | decide | exact Nat.le_of_ble_eq_true rfl) only [↓q_br, q_rt, q_rz, q_gd, q_ca, ↓reduceIte, F_X13_operand_448, F_X13_operand_502, ↓q_gA_26_12, ↓q_gA_26_56, ↓q_gA_26_9, ↓q_is_26, ↓q_lI_30, ↓q_lL_33, ↓q_lL_65, ad2, tz2, s2, not_false_eq_true, ad1]
                    rfl
                  · intro x hx
                    cases hx
                    exact ⟨q64', s65⟩
              cases c43 : q_sgn l (t + 1) 43 with
              | true =>
                rw [c43] at a43
                have := to448 true c43 (fun h9 => by cases h9)
                rw [c43] at this
                have rd2 : F_X13_operand_383 κ (some (b + 26)) (nI t) (nI o) (q_H b C (P, Q1, S) O D, s) = F_X13_operand_448 κ (some (b + 26)) (nI t) (nI o) (q_H b C (P, Q2, S2) O D, s) := by
                  simp (disch := first | rfl | omega | decide | exact Nat.le_of_ble_eq_true rfl) only [↓q_br, q_rt, q_rz, q_gd, q_ca, ↓reduceIte, F_X13_operand_383, ↓q_gA_26_55, ↓q_gA_26_56, ↓q_gA_26_9, ↓q_is_26, ↓q_lI_30, ↓q_lI_64, ↓q_sI_30, ↓q_sI_64, ↓q_sL_65, ty1, t1, lb, ← hQ2, ← hS2, q64', n0, ad1, a43, q_b_0, Bool.true_eq_false, not_false_eq_true]
                rw [rd2]
                exact this
              | false =>
                rw [c43] at a43
                cases c45 : q_sgn l (t + 1) 45 with
                | true =>
                  rw [c45] at a45
                  have := to448 false c43 (fun _ => c45)
                  rw [c43, c45] at this
                  have rd2 : F_X13_operand_383 κ (some (b + 26)) (nI t) (nI o) (q_H b C (P, Q1, S) O D, s) = F_X13_operand_448 κ (some (b + 26)) (nI t) (nI o) (q_H b C (P, Q2, S2) O D, s) := by
                    simp (disch := first | rfl | omega | decide | exact Nat.le_of_ble_eq_true rfl) only [↓q_br, q_rt, q_rz, q_gd, q_ca, ↓reduceIte, F_X13_operand_383, ↓q_gA_26_55, ↓q_gA_26_56, ↓q_gA_26_9, ↓q_is_26, ↓q_lI_30, ↓q_lI_64, ↓q_sI_30, ↓q_sI_64, ↓q_sL_65, ty1, t1, lb, ← hQ2, ← hS2, q64', n0, ad1, a43, a45, q_b_0, Bool.true_eq_false, not_true_eq_false]
                  rw [rd2]
                  exact this
                | false =>
                  rw [c45] at a45
                  refine ⟨Q2, S2, o2, ?_, fun x hx => ?_⟩
                  · simp (disch := first | rfl | omega | decide | exact Nat.le_of_ble_eq_true rfl) only [↓q_br, q_rt, q_rz, q_gd, q_ca, ↓reduceIte, F_X13_operand_383, F_X13_operand_502, ↓q_gA_26_55, ↓q_gA_26_56, ↓q_gA_26_9, ↓q_is_26, ↓q_lI_30, ↓q_lI_64, ↓q_sI_30, ↓q_sI_64, ↓q_sL_65, ty1, t1, lb, ← hQ2, ← hS2, q64', n0, ad1, a43, a45, q_b_0, not_true_eq_false]
                    rfl
                  · cases hx
                    exact ⟨q64', s65⟩
          · have t1 : ((q_tok l t).1 = 1) = False := eq_false c1
            rw [if_neg c1]
            refine ⟨Q1, S, o1, ?_, fun x hx => by cases hx⟩
            simp (disch := first | rfl | omega | decide | exact Nat.le_of_ble_eq_true rfl) only [↓q_br, q_rt, q_rz, q_gd, q_ca, ↓reduceIte, F_X13_operand, F_X13_operand_383, ↓q_gA_26_11, ↓q_gA_26_12, ↓q_gA_26_18, ↓q_gA_26_25, ↓q_gA_26_26, ↓q_gA_26_55, ↓q_gA_26_56, ↓q_gA_26_9, ↓q_is_26, ↓q_lI_30, ↓q_lI_32, ↓q_lI_36, ↓q_lI_38, ↓q_lI_39, ↓q_lI_64, ↓q_lL_33, ↓q_lL_65, ↓q_sI_30, ↓q_sI_32, ↓q_sI_36, ↓q_sI_38, ↓q_sI_39, ↓q_sI_64, ↓q_sL_33, ↓q_sL_65, ← hQ1, srt, t0, t4, not_true_eq_false, not_false_eq_true, ty2, t2, sg, q_b_0, ty1, t1]
            rfl
end QMO
