section QMN
variable {κ : Nat → Nat} {b : Nat} {B : Nat → Int32} {l : List q_Tok} {zt : Nat} {C : q_CT} {S : Nat → Nat → Int64} {O : Nat → Int64} {D : q_Mem} {n m : Nat}
def q_lg (Ls : List q_Lin) (i : Nat) : q_Lin := Ls.getD i (0, 0, 0, 0, 0)
def q_MLs (Q : Nat → Nat → Int32) (FL : List q_Lin) : Prop := ∀ i, i < FL.length → Q 55 i = nI (q_sF (q_lg FL i)) ∧ Q 56 i = nI (q_sH (q_lg FL i)) ∧ Q 57 i = nI (q_sS (q_lg FL i)) ∧ Q 60 i = nI (q_sW (q_lg FL i)) ∧ Q 61 i = nI (q_sE (q_lg FL i))
def q_MLb (P : Nat → Int32) (Q : Nat → Nat → Int32) (FL : List q_Lin) : Prop := P 43 = nI (q_LT FL).length ∧ (∀ k, k < (q_LT FL).length → Q 62 k = nI ((q_LT FL).getD k 0)) ∧ (∀ k, k < (q_LT FL).length → Q 63 k = nI ((q_lbs FL).getD k 0))
theorem q_lg_a {Ls : List q_Lin} {x : q_Lin} {i : Nat} (hi : i < Ls.length) : q_lg (Ls ++ [x]) i = q_lg Ls i := by
  unfold q_lg
  rw [List.getD_eq_getElem?_getD, List.getD_eq_getElem?_getD, List.getElem?_append_left hi]
theorem q_lg_e {Ls : List q_Lin} {x : q_Lin} : q_lg (Ls ++ [x]) Ls.length = x := q_last
theorem q_LT_le (Ls : List q_Lin) : (q_LT Ls).length ≤ Ls.length := by
  unfold q_LT
  rw [List.length_map]
  exact List.length_filter_le _ _
theorem q_mlines_15 {z : Nat} (hz : z ≤ 32) (hn : b + 66 < n) (hK : q_Kp κ b D) : ∀ f fuel t (P : Nat → Int32) (Q : Nat → Nat → Int32) (FL : List q_Lin), q_TM B l zt P Q S → P 15 = nI t → P 21 = nI z → P 52 = nI FL.length → q_MLs Q FL → q_MLb P Q FL → q_LG B l (q_LT FL) → t ≤ l.length → FL.length ≤ t → l.length + 1 < t + f → f < fuel → ∃ P' Q', q_PL9 P P' Q Q' ∧ (match q_lns B l z f t FL with
    | .inl (k, p) => F_X13_lines_15 κ fuel (some (b + 26)) (q_H b C (P, Q, S) O D, n, m) = q_thr Unit b C (P', Q', S) O D n m (nI k) (nI p)
    | .inr G => F_X13_lines_15 κ fuel (some (b + 26)) (q_H b C (P, Q, S) O D, n, m) = some (.inl (), (q_H b C (P', Q', S) O D, n, m)) ∧ P' 52 = nI G.length ∧ q_MLs Q' G ∧ q_MLb P' Q' G ∧ G.length ≤ l.length + 1) := by
  intro f
  induction f with
  | zero => intro fuel t P Q FL hT ha h21 h52 hM hB hG ht hF hf hfu; omega
  | succ f ih =>
    intro fuel t P Q FL hT ha h21 h52 hM hB hG ht hF hf hfu
    have hzt := hT.2.2.1
    have hl := hT.2.1
    have hwf : ∀ i, i < l.length → (q_tok l i).1 ≤ 4 := fun i hi => (hT.2.2.2.2.1 i _ (q_tok_s hi)).1
    obtain ⟨g, rfl⟩ : ∃ g, fuel = g + 1 := ⟨fuel - 1, by omega⟩
    obtain ⟨i, hi⟩ : ∃ i, i = FL.length := ⟨_, rfl⟩
    rw [← hi] at h52
    have i6 : i < 6002 := by omega
    have t6 : t < 6002 := by omega
    obtain ⟨P1, hP1⟩ : ∃ P1, P1 = q_u1 P 52 (nI (i + 1)) := ⟨_, rfl⟩
    obtain ⟨Q1, hQ1⟩ : ∃ Q1, Q1 = q_u2 (q_u2 Q 55 i (nI t)) 60 i 0 := ⟨_, rfl⟩
    have fP1 : ∀ j, j ≠ 52 → P1 j = P j := fun j hj => by rw [hP1, q_u1_n _ _ hj]
    have fQ1 : ∀ j, j ≠ 55 → j ≠ 60 → Q1 j = Q j := fun j j1 j2 => by rw [hQ1, q_u2_n _ _ _ j2, q_u2_n _ _ _ j1]
    have gQ1 : ∀ j k, k ≠ i → Q1 j k = Q j k := fun j k hk => by
      by_cases h6 : j = 60
      · subst h6
        rw [hQ1, q_u2_s, q_u1_n _ _ hk, q_u2_n _ _ _ (by decide)]
      · by_cases h5 : j = 55
        · subst h5
          rw [hQ1, q_u2_n _ _ _ (by decide), q_u2_s, q_u1_n _ _ hk]
        · rw [fQ1 j h5 h6]
    have q55 : Q1 55 i = nI t := by rw [hQ1, q_u2_n _ _ _ (by decide), q_u2_s, q_u1_s]
    have q60 : Q1 60 i = 0 := by rw [hQ1, q_u2_s, q_u1_s]
    have pl1 : q_PL9 P P1 Q Q1 := ⟨fun j a1 a2 a3 => fP1 j a3, fun j hj => fQ1 j (by omega) (by omega)⟩
    have hT1 : q_TM B l zt P1 Q1 S := q_TM_9 hT pl1
    have a1 : P1 15 = nI t := by rw [fP1 15 (by decide), ha]
    have ty : (Q1 30 t = (1 : Int32)) = ((q_tok l t).1 = 1) := propext (q_TM_is (c := 1) hT1 (by omega) (by decide))
    obtain ⟨K, hKe⟩ : ∃ K, K = (q_LT FL).length := ⟨_, rfl⟩
    have Kle : K ≤ i := by rw [hKe, hi]; exact q_LT_le FL
    obtain ⟨b1, b2, b3⟩ := hB
    rw [← hKe] at b1 b2 b3
    -- the label
    have lab : (q_isl l t = true ∧ (q_lk B l (q_LT FL) t).isSome = true ∧ F_X13_lines_15 κ (g + 1) (some (b + 26)) (q_H b C (P, Q, S) O D, n, m) = q_thr Unit b C (P1, Q1, S) O D n m 2 (nI t)) ∨ (¬ (q_isl l t && (q_lk B l (q_LT FL) t).isSome) = true ∧ ∃ P2 Q2, F_X13_lines_15 κ (g + 1) (some (b + 26)) (q_H b C (P, Q, S) O D, n, m) = F_X13_lines_142 κ (F_X13_lines_15 κ g) (some (b + 26)) (nI i) (q_H b C (P2, Q2, S) O D, n, m) ∧ q_PL9 P1 P2 Q1 Q2 ∧ P2 52 = nI (i + 1) ∧ P2 15 = nI (q_hd l t) ∧ (∀ j, j ≠ 62 → j ≠ 63 → Q2 j = Q1 j) ∧ P2 43 = nI (if q_isl l t = true then K + 1 else K) ∧ (∀ k, k < K → Q2 62 k = Q 62 k ∧ Q2 63 k = Q 63 k) ∧ (q_isl l t = true → Q2 62 K = nI t ∧ Q2 63 K = nI i)) := by
      by_cases c1 : (q_tok l t).1 = 1
      · have t1 : ((q_tok l t).1 = 1) = True := eq_true c1
        have tl : t < l.length := q_tok_lt (by omega)
        have sg := q_msign (κ := κ) (b := b) (C := C) (O := O) (D := D) (s := (n, m)) (c := 58) hT1 (by omega : t + 1 < l.length + 2)
        have lk := q_mlabelAt (κ := κ) (b := b) (C := C) (O := O) (D := D) (s := (n, m)) (LT := q_LT FL) hT1 tl (by rw [fP1 43 (by decide), b1, hKe]) (fun k hk => by rw [fQ1 62 (by decide) (by decide)]; exact b2 k (by omega)) hG.2 (by omega)
        cases hs : q_sgn l (t + 1) 58 with
        | false =>
          rw [hs] at sg
          have nl : q_isl l t = false := by unfold q_isl; rw [hs, Bool.and_false]
          refine Or.inr ⟨by rw [nl]; simp, P1, Q1, ?_, q_PL9_r P1 Q1, by rw [hP1, q_u1_s], by rw [a1]; unfold q_hd; rw [nl, if_neg (by decide)], fun _ _ _ => rfl, by rw [fP1 43 (by decide), b1, nl, if_neg (by decide)], fun k hk => ⟨by rw [fQ1 62 (by decide) (by decide)], by rw [fQ1 63 (by decide) (by decide)]⟩, fun h9 => by rw [nl] at h9; cases h9⟩
          rw [F_X13_lines_15]
          simp (disch := first | rfl | omega | decide | exact Nat.le_of_ble_eq_true rfl) only [↓q_br, q_rt, q_rz, q_gd, q_ca, ↓reduceIte, F_X13_lines_15B, ↓q_gA_26_45, ↓q_gA_26_50, ↓q_gA_26_53, ↓q_gA_26_54, ↓q_gA_26_9, ↓q_gI_26_15, ↓q_gI_26_43, ↓q_gI_26_52, ↓q_is_26, ↓q_lI_30, ↓q_lI_55, ↓q_lI_60, ↓q_lI_62, ↓q_lI_63, ↓q_pI_26_15, ↓q_pI_26_43, ↓q_pI_26_52, ↓q_sI_30, ↓q_sI_55, ↓q_sI_60, ↓q_sI_62, ↓q_sI_63, h52, nI_1, ← hP1, a1, ← hQ1, ty, t1, not_true_eq_false, ↓q_is_26, sg, q_b_0]
        | true =>
          rw [hs] at sg
          have nl : q_isl l t = true := by unfold q_isl; rw [hs, decide_eq_true c1]; rfl
          cases hk : q_lk B l (q_LT FL) t with
          | some k =>
            rw [hk] at lk
            refine Or.inl ⟨nl, rfl, ?_⟩
            have kl : k < (q_LT FL).length := by
              unfold q_lk at hk
              have := (q_fi_s _ _ _ hk).2.1
              omega
            have ng : (q_mv (some k) < 0) = False := eq_false (nI_pos (n := k) (by omega))
            rw [F_X13_lines_15]
            simp (disch := first | rfl | omega | decide | exact Nat.le_of_ble_eq_true rfl) only [↓q_br, q_rt, q_rz, q_gd, q_ca, ↓reduceIte, F_X13_lines_15B, ↓q_gA_26_45, ↓q_gA_26_50, ↓q_gA_26_53, ↓q_gA_26_54, ↓q_gA_26_9, ↓q_gI_26_15, ↓q_gI_26_43, ↓q_gI_26_52, ↓q_is_26, ↓q_lI_30, ↓q_lI_55, ↓q_lI_60, ↓q_lI_62, ↓q_lI_63, ↓q_pI_26_15, ↓q_pI_26_43, ↓q_pI_26_52, ↓q_sI_30, ↓q_sI_55, ↓q_sI_60, ↓q_sI_62, ↓q_sI_63, h52, nI_1, ← hP1, a1, ← hQ1, ty, t1, not_true_eq_false, ↓q_is_26, sg, q_b_0, Bool.true_eq_false, lk, ng, q_mk_H, reduceCtorEq, not_false_eq_true, q_fault, qd_Su, q_tr]
          | none =>
            rw [hk] at lk
            have ng : (q_mv none < 0) = True := eq_true (by decide)
            have p43 : P1 43 = nI K := by rw [fP1 43 (by decide), b1]
            have K6 : K < 6000 := by omega
            obtain ⟨Q2, hQ2⟩ : ∃ Q2, Q2 = q_u2 (q_u2 Q1 62 K (nI t)) 63 K (nI i) := ⟨_, rfl⟩
            obtain ⟨P2, hP2⟩ : ∃ P2, P2 = q_u1 (q_u1 P1 43 (nI (K + 1))) 15 (nI (t + 2)) := ⟨_, rfl⟩
            have ad2 : nI t + (2 : Int32) = nI (t + 2) := nI_add t 2
            have u15 : q_u1 P1 43 (nI (K + 1)) 15 = nI t := by rw [q_u1_n _ _ (by decide), a1]
            refine Or.inr ⟨by simp, P2, Q2, ?_, ⟨fun j j1 j2 j3 => by rw [hP2, q_u1_n _ _ j1, q_u1_n _ _ j2], fun j hj => by rw [hQ2, q_u2_n _ _ _ (by omega), q_u2_n _ _ _ (by omega)]⟩, by rw [hP2, q_u1_n _ _ (by decide), q_u1_n _ _ (by decide), hP1, q_u1_s], by rw [hP2, q_u1_s]; unfold q_hd; rw [nl, if_pos rfl], fun j j1 j2 => by rw [hQ2, q_u2_n _ _ _ j2, q_u2_n _ _ _ j1], by rw [hP2, q_u1_n _ _ (by decide), q_u1_s, nl, if_pos rfl], fun k hk9 => ⟨by rw [hQ2, q_u2_n _ _ _ (by decide), q_u2_s, q_u1_n _ _ (by omega), fQ1 62 (by decide) (by decide)], by rw [hQ2, q_u2_s, q_u1_n _ _ (by omega), q_u2_n _ _ _ (by decide), fQ1 63 (by decide) (by decide)]⟩, fun _ => ⟨by rw [hQ2, q_u2_n _ _ _ (by decide), q_u2_s, q_u1_s], by rw [hQ2, q_u2_s, q_u1_s]⟩⟩
            rw [F_X13_lines_15]
            simp (disch := first | rfl | omega | decide | exact Nat.le_of_ble_eq_true rfl) only [↓q_br, q_rt, q_rz, q_gd, q_ca, ↓reduceIte, F_X13_lines_15B, ↓q_gA_26_45, ↓q_gA_26_50, ↓q_gA_26_53, ↓q_gA_26_54, ↓q_gA_26_9, ↓q_gI_26_15, ↓q_gI_26_43, ↓q_gI_26_52, ↓q_is_26, ↓q_lI_30, ↓q_lI_55, ↓q_lI_60, ↓q_lI_62, ↓q_lI_63, ↓q_pI_26_15, ↓q_pI_26_43, ↓q_pI_26_52, ↓q_sI_30, ↓q_sI_55, ↓q_sI_60, ↓q_sI_62, ↓q_sI_63, h52, nI_1, ← hP1, a1, ← hQ1, ty, t1, not_true_eq_false, ↓q_is_26, sg, q_b_0, Bool.true_eq_false, lk, ng, p43, u15, ad2, ← hQ2, ← hP2]
      · have t1 : ((q_tok l t).1 = 1) = False := eq_false c1
        have nl : q_isl l t = false := by unfold q_isl; rw [decide_eq_false c1, Bool.false_and]
        refine Or.inr ⟨by rw [nl]; simp, P1, Q1, ?_, q_PL9_r P1 Q1, by rw [hP1, q_u1_s], by rw [a1]; unfold q_hd; rw [nl, if_neg (by decide)], fun _ _ _ => rfl, by rw [fP1 43 (by decide), b1, nl, if_neg (by decide)], fun k hk => ⟨by rw [fQ1 62 (by decide) (by decide)], by rw [fQ1 63 (by decide) (by decide)]⟩, fun h9 => by rw [nl] at h9; cases h9⟩
        rw [F_X13_lines_15]
        simp (disch := first | rfl | omega | decide | exact Nat.le_of_ble_eq_true rfl) only [↓q_br, q_rt, q_rz, q_gd, q_ca, ↓reduceIte, F_X13_lines_15B, ↓q_gA_26_45, ↓q_gA_26_50, ↓q_gA_26_53, ↓q_gA_26_54, ↓q_gA_26_9, ↓q_gI_26_15, ↓q_gI_26_43, ↓q_gI_26_52, ↓q_is_26, ↓q_lI_30, ↓q_lI_55, ↓q_lI_60, ↓q_lI_62, ↓q_lI_63, ↓q_pI_26_15, ↓q_pI_26_43, ↓q_pI_26_52, ↓q_sI_30, ↓q_sI_55, ↓q_sI_60, ↓q_sI_62, ↓q_sI_63, h52, nI_1, ← hP1, a1, ← hQ1, ty, t1, not_false_eq_true]
    rw [q_lns]
    rcases lab with ⟨l1, l2, l3⟩ | ⟨l0, P2, Q2, l1, l2, l3, l4, l5, l6, l7, l8⟩
    · refine ⟨P1, Q1, pl1, ?_⟩
      have e : q_ln1 B l z (q_LT FL) t = .inl (2, t) := by
        unfold q_ln1
        rw [l1, l2, Bool.and_self, if_pos rfl]
      rw [e]
      exact l3
    · have hhl : t ≤ q_hd l t ∧ q_hd l t ≤ l.length := by
        unfold q_hd
        split
        · rename_i h9
          unfold q_isl at h9
          rw [Bool.and_eq_true] at h9
          have := h9.2
          unfold q_sgn at this
          rw [decide_eq_true_eq] at this
          have := q_tok_lt (l := l) (t := t + 1) (by omega)
          exact ⟨by omega, by omega⟩
        · exact ⟨Nat.le_refl _, by omega⟩
      have hT2 : q_TM B l zt P2 Q2 S := q_TM_9 hT1 l2
      obtain ⟨P3, Q3, s1, s2⟩ := q_m142 (κ := κ) (b := b) (C := C) (O := O) (m := m) (r := F_X13_lines_15 κ g) hz i6 hn hK hT2 l4 (by rw [l2.1 21 (by decide) (by decide) (by decide), fP1 21 (by decide), h21]) (by rw [l5 60 (by decide) (by decide), q60]) hhl.2
      have pl3 : q_PL9 P P3 Q Q3 := by
        refine q_PL9_t pl1 (q_PL9_t l2 ⟨fun j j1 j2 j3 => s1.1 j j1, fun j hj => ?_⟩)
        rw [s1.2.1 j (by omega) (by omega) (by omega), q_u2_n _ _ _ (by omega), q_u2_n _ _ _ (by omega)]
      have hln : q_ln1 B l z (q_LT FL) t = (match q_st1 B l z (q_hd l t) with
        | .inl e => .inl e
        | .inr x => if (q_tok l x.2.1).1 = 4 ∨ (q_tok l x.2.1).1 = 5 then .inr (x.1, t, q_hd l t, x.2.1, x.2.2) else .inl (1, x.2.1)) := by
        unfold q_ln1
        rw [if_neg l0]
        cases q_st1 B l z (q_hd l t) <;> rfl
      rw [l1]
      cases hq : q_st1 B l z (q_hd l t) with
      | inl e =>
        obtain ⟨k, p⟩ := e
        rw [hq] at s2 hln
        refine ⟨P3, Q3, pl3, ?_⟩
        rw [hln]
        exact s2
      | inr e =>
        obtain ⟨so, en, wd⟩ := e
        rw [hq] at s2 hln
        obtain ⟨e1, e2, e3, e4⟩ := s2
        have enl : en ≤ l.length := by
          by_cases c9 : (q_tok l en).1 = 4 ∨ (q_tok l en).1 = 5
          · simp only [c9, if_true] at hln
            have := (q_ln1_b hwf hln (by omega)).2.2.2.2.1
            exact this
          · have := q_tok_lt (l := l) (t := en) (by omega)
            omega
        have hT3 : q_TM B l zt P3 Q3 S := q_TM_9 hT pl3
        have tl := q_m396 (κ := κ) (b := b) (C := C) (O := O) (D := D) (m := m) (r := F_X13_lines_15 κ g) hT3 e2 enl i6 hn
        obtain ⟨Q4, hQ4⟩ : ∃ Q4, Q4 = q_u2 Q3 61 i (nI en) := ⟨_, rfl⟩
        rw [← hQ4] at tl
        have pl4 : q_PL9 P P3 Q Q4 := ⟨pl3.1, fun j hj => by rw [hQ4, q_u2_n _ _ _ (by omega), pl3.2 j hj]⟩
        rw [e1, tl]
        -- what the arrays hold now
        have old : ∀ j k, j ≠ 62 → j ≠ 63 → k ≠ i → Q4 j k = Q j k := fun j k j1 j2 hk => by
          have e9 : Q4 j k = Q3 j k := by
            rw [hQ4]
            by_cases h6 : j = 61
            · subst h6; rw [q_u2_s, q_u1_n _ _ hk]
            · rw [q_u2_n _ _ _ h6]
          rw [e9, s1.2.2 j k hk]
          have e10 : q_u2 (q_u2 Q2 56 i (nI (q_hd l t))) 57 i 0 j k = Q2 j k := by
            by_cases h7 : j = 57
            · subst h7; rw [q_u2_s, q_u1_n _ _ hk, q_u2_n _ _ _ (by decide)]
            · rw [q_u2_n _ _ _ h7]
              by_cases h6 : j = 56
              · subst h6; rw [q_u2_s, q_u1_n _ _ hk]
              · rw [q_u2_n _ _ _ h6]
          rw [e10, l5 j j1 j2, gQ1 j k hk]
        have lbl : ∀ j, j = 62 ∨ j = 63 → Q4 j = Q2 j := fun j hj => by
          rw [hQ4, q_u2_n _ _ _ (by omega), s1.2.1 j (by omega) (by omega) (by omega), q_u2_n _ _ _ (by omega), q_u2_n _ _ _ (by omega)]
        have x55 : Q4 55 i = nI t := by rw [hQ4, q_u2_n _ _ _ (by decide), s1.2.1 55 (by decide) (by decide) (by decide), q_u2_n _ _ _ (by decide), q_u2_n _ _ _ (by decide), l5 55 (by decide) (by decide), q55]
        have x56 : Q4 56 i = nI (q_hd l t) := by rw [hQ4, q_u2_n _ _ _ (by decide), s1.2.1 56 (by decide) (by decide) (by decide), q_u2_n _ _ _ (by decide), q_u2_s, q_u1_s]
        have x57 : Q4 57 i = nI so := by rw [hQ4, q_u2_n _ _ _ (by decide), e3]
        have x60 : Q4 60 i = nI wd := by rw [hQ4, q_u2_n _ _ _ (by decide), e4]
        have x61 : Q4 61 i = nI en := by rw [hQ4, q_u2_s, q_u1_s]
        have ml : q_MLs Q4 (FL ++ [(so, t, q_hd l t, en, wd)]) := by
          intro k hk
          rw [List.length_append, List.length_singleton, ← hi] at hk
          by_cases hki : k = i
          · subst hki
            rw [hi, q_lg_e, ← hi]
            exact ⟨x55, x56, x57, x60, x61⟩
          · rw [q_lg_a (by omega), old 55 k (by decide) (by decide) hki, old 56 k (by decide) (by decide) hki, old 57 k (by decide) (by decide) hki, old 60 k (by decide) (by decide) hki, old 61 k (by decide) (by decide) hki]
            exact hM k (by omega)
        have p52 : P3 52 = nI (i + 1) := by rw [s1.1 52 (by decide), l3]
        have p43 : P3 43 = nI (if q_isl l t = true then K + 1 else K) := by rw [s1.1 43 (by decide), l6]
        have islab : q_lab (so, t, q_hd l t, en, wd) = q_isl l t := by
          have e9 : q_lab (so, t, q_hd l t, en, wd) = !decide (t = q_hd l t) := rfl
          rw [e9]
          unfold q_hd
          cases h9 : q_isl l t with
          | false => rw [if_neg (by decide), decide_eq_true rfl]; rfl
          | true => rw [if_pos rfl, decide_eq_false (by omega)]; rfl
        have mb : ∀ P4 : Nat → Int32, P4 43 = P3 43 → q_MLb P4 Q4 (FL ++ [(so, t, q_hd l t, en, wd)]) := by
          intro P4 hP4
          unfold q_MLb
          rw [hP4, q_LT_a, q_lbs_a, islab, p43, lbl 62 (Or.inl rfl), lbl 63 (Or.inr rfl)]
          cases h9 : q_isl l t with
          | false =>
            rw [if_neg (by decide), if_neg (by decide), if_neg (by decide), hKe]
            exact ⟨rfl, fun k hk => by rw [(l7 k (by omega)).1]; exact b2 k (by omega), fun k hk => by rw [(l7 k (by omega)).2]; exact b3 k (by omega)⟩
          | true =>
            rw [if_pos rfl, if_pos rfl, if_pos rfl, List.length_append, List.length_singleton, ← hKe]
            have lbl' := (q_lbs_l FL).1
            refine ⟨rfl, fun k hk => ?_, fun k hk => ?_⟩
            · by_cases hkK : k = K
              · subst hkK
                rw [(l8 h9).1, hKe, q_getD_e]
              · rw [(l7 k (by omega)).1, q_getD_a (by omega)]
                exact b2 k (by omega)
            · by_cases hkK : k = K
              · subst hkK
                rw [(l8 h9).2, hKe, ← lbl', q_getD_e, hi]
              · rw [(l7 k (by omega)).2, q_getD_a (by omega)]
                exact b3 k (by omega)
        by_cases c5 : (q_tok l en).1 = 5
        · simp only [c5, or_true, if_true] at hln
          rw [hln, if_pos c5]
          have hge : l.length ≤ en := by
            rcases Nat.lt_or_ge en l.length with h9 | h9
            · have := hwf en h9
              omega
            · exact h9
          simp only [if_pos hge]
          exact ⟨P3, Q4, pl4, rfl, by rw [p52, List.length_append, List.length_singleton, hi], ml, mb P3 rfl, by rw [List.length_append, List.length_singleton]; omega⟩
        · rw [if_neg c5]
          by_cases c4 : (q_tok l en).1 = 4
          · rw [if_pos c4]
            have elt : en < l.length := q_tok_lt (by omega)
            simp only [c4, true_or, if_true] at hln
            have gl : q_LG B l (q_LT (FL ++ [(so, t, q_hd l t, en, wd)])) := by
              have := q_LG_a hwf hG hln (by omega)
              split at this
              · exact this
              · rename_i hr
                have : q_lab (so, t, q_hd l t, en, wd) = false := by
                  unfold q_rea at hr
                  cases h9 : q_lab (so, t, q_hd l t, en, wd) with
                  | false => rfl
                  | true => rw [h9] at hr; exact absurd rfl hr
                rw [q_LT_a, this, if_neg (by decide)]
                exact hG
            obtain ⟨P5, Q5, u1, u2⟩ := ih g (en + 1) (q_u1 P3 15 (nI (en + 1))) Q4 (FL ++ [(so, t, q_hd l t, en, wd)]) (q_TM_P (q_TM_9 hT pl4) (q_u1_n _ _ (by decide)) rfl rfl rfl rfl) (q_u1_s _ _ _) (by rw [q_u1_n _ _ (by decide), pl3.1 21 (by decide) (by decide) (by decide), h21]) (by rw [q_u1_n _ _ (by decide), p52, List.length_append, List.length_singleton, hi]) ml (mb _ (q_u1_n _ _ (by decide))) gl (by omega) (by
              have := (q_ln1_b hwf hln (by omega))
              have h9 : t ≤ q_hd l t := hhl.1
              have h10 : q_hd l t ≤ en := this.2.2.2.1
              rw [List.length_append, List.length_singleton]
              omega) (by
              have := (q_ln1_b hwf hln (by omega))
              have h9 : t ≤ q_hd l t := hhl.1
              have h10 : q_hd l t ≤ en := this.2.2.2.1
              omega) (by omega)
            refine ⟨P5, Q5, q_PL9_t pl4 (q_PL9_t ⟨fun j j1 _ _ => q_u1_n _ _ j1, fun _ _ => rfl⟩ u1), ?_⟩
            rw [hln]
            have nge : ¬ l.length ≤ q_sE (so, t, q_hd l t, en, wd) := by
              show ¬ l.length ≤ en
              omega
            simp only [if_neg nge]
            exact u2
          · rw [if_neg c4]
            have c45 : ¬ ((q_tok l en).1 = 4 ∨ (q_tok l en).1 = 5) := by omega
            simp only [c45, if_false] at hln
            refine ⟨P3, Q4, pl4, ?_⟩
            rw [hln]
            rfl
end QMN
