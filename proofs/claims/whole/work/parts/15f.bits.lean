section QBF
variable {κ : Nat → Nat} {b : Nat} {B : Nat → Int32} {l : List q_Tok} {zt t : Nat} {R : Nat → Nat → Option Nat} {X : Nat → Nat → Int32} {Z : Nat → Nat → Option Nat} {M : q_MT} {O : Nat → Int64} {s : Nat × Nat}
theorem q_flat_add (ws : List (List Int32)) (c : List Int32) : (ws ++ [c]).flatten ++ [] = ws.flatten ++ c := by simp
theorem q_negs_add (ws : List (List Int32)) (c : List Int32) : q_negs (ws ++ [c]) = q_negs ws + q_neg c := by simp [q_negs]
/-- a word is closed -/
theorem q_close78 {I : Nat → Nat → Int32} {Y : Nat → Nat → Int64} {D : q_Mem} {n nk z a : Nat} {mn : q_Nam} {ps : List Int32} {os : q_Ops} {ws : List (List Int32)} {c : List Int32} (hR : R 19 3 = some a) (ha : I 14 1 = nI t) (hcb : q_CB b n D Z nk z a mn ps os ws c I Y) (hc : c.length = z) : ∃ D', F_X0_closeWord_78 κ (some (b + 19)) (q_H b (I, R, X, Y, Z) M O D, s) = some (.inl (), (q_H b (q_u2 (q_u2 I 19 4 0) 14 1 (nI (t + 1)), R, X, Y, Z) M O D', s)) ∧ q_CB b n D' Z nk z a mn ps os (ws ++ [c]) [] (q_u2 (q_u2 I 19 4 0) 14 1 (nI (t + 1))) Y ∧ (∀ x, x ≠ a → D' x = D x) := by
  obtain ⟨c1, ⟨tw, t1, t2⟩, c3, fm, fd, fs, c4, c5⟩ := hcb
  obtain ⟨dc, hdc⟩ : ∃ dc, dc = q_negs ws + q_neg (c.take z) := ⟨_, rfl⟩
  rw [← hdc] at c4
  have e3 : b + 66 < a ∧ D a = some (.inr (.inl (4, [.ref (a + 1), .ref (a + 3), .ref (a + 4), .ref (a + 5), .ref (a + 6), .ref (a + 7), .ref (a + 8), .int (nI ps.length), .int (nI os.length), .int (nI ws.length), .int (nI dc)]))) := ⟨c4.1, c4.2.2.1⟩
  refine ⟨q_up D a (.inr (.inl (4, [.ref (a + 1), .ref (a + 3), .ref (a + 4), .ref (a + 5), .ref (a + 6), .ref (a + 7), .ref (a + 8), .int (nI ps.length), .int (nI os.length), .int (nI (ws.length + 1)), .int (nI dc)]))), ?_, ?_, fun x hx => q_up_n _ _ hx⟩
  · simp (disch := first | rfl | omega | decide | exact Nat.le_of_ble_eq_true rfl) only [↓q_br, q_rt, q_rz, q_gd, q_ca, ↓reduceIte, F_X0_closeWord_78, F_X0_closeWord_109, ↓q_gA_19_0, ↓q_gA_19_3, ↓q_gI_14_1, ↓q_pI_14_1, ↓q_pI_19_4, hR, qd_I e3 (k := 9) (v := nI ws.length) rfl, nI_1]
    rw [qd_W e3 (by simp)]
    simp only [List.set_cons_succ, List.set_cons_zero]
    have ha' : q_u2 I 19 4 0 14 1 = nI t := by rw [q_u2_n _ _ _ (by decide), ha]
    simp (disch := first | rfl | omega | decide | exact Nat.le_of_ble_eq_true rfl) only [↓q_br, q_rt, q_rz, q_gd, q_ca, ↓reduceIte, ↓q_pI_19_4, ↓q_gA_19_0, ↓q_gI_14_1, ↓q_pI_14_1, ha', nI_1]
  · refine ⟨by rw [q_u2_n _ _ _ (by decide), q_u2_s, q_u1_s]; rfl, ⟨tw, by rw [q_u2_n _ _ _ (by decide), q_u2_s, q_u1_n _ _ (by decide), t1], by rw [t2, q_flat_add]⟩, fun o ho => ?_, ?_⟩
    · rw [q_flat_add]
      exact c3 o ho
    · refine ⟨fm, fd, fs, ?_, q_CWd_new c5⟩
      have h1 : q_negs (ws ++ [c]) + q_neg (([] : List Int32).take z) = dc := by
        rw [q_negs_add, hdc, List.take_of_length_le (by omega : c.length ≤ z)]
        simp [q_neg]
      have h2 : (ws ++ [c]).length = ws.length + 1 := by simp
      rw [h1, h2]
      refine q_CIo_up (D' := q_up D a _) c4 (q_up_s _ _ _) ?_ ?_ ?_ ?_
      · rw [q_up_n _ _ (by omega), c4.2.2.2.2.1]
      · rw [q_up_n _ _ (by omega), c4.2.2.2.2.2.1]
      · rw [q_up_n _ _ (by omega), c4.2.2.2.2.2.2.1]
      · intro x x1 _ _ _
        exact q_up_n _ _ x1
/-- a piece of an operand -/
theorem q_readPiece {I : Nat → Nat → Int32} {Y : Nat → Nat → Int64} {D : q_Mem} {n z a : Nat} {mn : q_Nam} {ps : List Int32} {os : q_Ops} {ws : List (List Int32)} {c : List Int32} {L : List q_Knd} (h : q_TC B l zt I X Y) (ha : I 14 1 = nI t) (hf : I 14 2 = 0) (h82 : I 8 2 = nI z) (hy : (q_tok l t).1 = 1) (hR : R 19 3 = some a) (hz : z ≤ 32) (hw : ws.length < 4) (hcl : c.length < 900000) (hcb : q_CB b n D Z L.length z a mn ps os ws c I Y) (hlo : ∀ k K, L[k]? = some K → ∃ x, Z 9 k = some x ∧ q_CKd b n D x K) (hos : os.length ≤ 5) :
    (q_oi B l t os = none ∧ F_X0_readPiece κ (some (b + 19)) (q_H b (I, R, X, Y, Z) M O D, s) = some (.inl (), (q_H b (q_ft (q_u2 I 14 1 (nI t)) 2 (nI t), R, X, Y, Z) M O D, s))) ∨ ∃ o, q_oi B l t os = some o ∧ o < os.length ∧ (match q_pc l (q_kb L os o) (t + 1) with
      | .inl (k, p) => F_X0_readPiece κ (some (b + 19)) (q_H b (I, R, X, Y, Z) M O D, s) = some (.inl (), (q_H b (q_ft (q_u2 I 14 1 (nI p)) (nI k) (nI p), R, X, Y, Z) M O D, s)) ∧ 1 ≤ k ∧ k ≤ 3
      | .inr (hi, lo, t') => ∃ I' Y' D', F_X0_readPiece κ (some (b + 19)) (q_H b (I, R, X, Y, Z) M O D, s) = some (.inl (), (q_H b (I', R, X, Y', Z) M O D', s)) ∧ (∀ j, j ≠ 14 → j ≠ 19 → I' j = I j) ∧ I' 14 = (q_u2 I 14 1 (nI t')) 14 ∧ (∀ j, j ≠ 20 → Y' j = Y j) ∧ q_CB b n D' Z L.length z a mn ps os ws (c ++ q_pl o lo (hi + 1 - lo)) I' Y' ∧ (∀ x, x ≠ a + 8 → D' x = D x) ∧ lo ≤ hi ∧ hi < q_kb L os o ∧ t < t' ∧ t' ≤ l.length) := by
  have hzt := h.2.2.1
  have hl := h.2.1
  have hwf := h.2.2.2.2.1
  have hlt := q_tok_lt (l := l) (t := t) (by omega)
  have hI : q_u2 I 14 1 (nI t) = I := q_u2_id _ _ _ ha
  have hcb0 := hcb
  obtain ⟨c1, ⟨tw, t1, t2⟩, c3, fm, fd, fs, c4, c5⟩ := hcb
  have e3 : ∃ v0 v1 v2 v4 v5 v6 v7 v8 v9 v10, b + 66 < a ∧ D a = some (.inr (.inl (4, [v0, v1, v2, .ref (a + 5), v4, v5, v6, v7, v8, v9, v10]))) := ⟨_, _, _, _, _, _, _, _, _, _, c4.1, c4.2.2.1⟩
  obtain ⟨v0, v1, v2, v4, v5, v6, v7, v8, v9, v10, e3⟩ := e3
  have d1 := q_operandNamed (κ := κ) (R := R) (M := M) (O := O) (s := s) h hy c4 hos
  have i1 : nI 1 = 1 := rfl
  have i3 : nI 3 = 3 := rfl
  cases hq : q_oi B l t os with
  | none =>
    refine Or.inl ⟨rfl, ?_⟩
    rw [hq] at d1
    have hng : ¬ (0 : Int32) ≤ q_mv none := by decide
    rw [hI]
    simp (disch := first | rfl | omega | decide | exact Nat.le_of_ble_eq_true rfl) only [↓q_br, q_rt, q_rz, q_gd, q_ca, ↓reduceIte, F_X0_readPiece, ↓q_gA_19_0, ↓q_gA_19_1, ↓q_gA_19_3, ↓q_gI_14_1, ↓q_is_14, ↓q_pI_14_1, ↓q_is_14, ↓q_gI_14_1, ha, hR, qd_S e3, d1, hng, q_fail ha]
  | some o =>
    refine Or.inr ⟨o, rfl, ?_⟩
    have hol : o < os.length := by
      unfold q_oi at hq
      have := (q_fi_s _ _ _ hq).2.1
      omega
    refine ⟨hol, ?_⟩
    rw [hq] at d1
    have hge : (0 : Int32) ≤ q_mv (some o) := nI_pos' (by omega)
    have hmv : q_mv (some o) = nI o := rfl
    rw [hmv] at d1 hge
    obtain ⟨fk, ka, x0, x1, x2, x3, x4, o1, o2, o3, o4, o5⟩ := q_op_kind c4 rfl hlo hol
    have ho5 : o < 5 := by omega
    have hsz : nI (q_kb L os o) - 1 = nI (q_kb L os o - 1) := nI_sub (b := 1) o4
    have hul : ∀ u v, q_u2 (q_u2 I 14 1 u) 14 1 v = q_u2 I 14 1 v := fun u v => q_u2_u2 _ _ _ _ _
    have hT : ∀ v, q_TC B l zt (q_u2 I 14 1 v) X Y := fun v => q_TC_I h (by rw [q_u2_n _ _ _ (by decide)])
    have hA : ∀ v, q_u2 I 14 1 v 14 1 = v := fun v => by rw [q_u2_s, q_u1_s]
    have hF : ∀ v, q_u2 I 14 1 v 14 2 = 0 := fun v => by rw [q_u2_s, q_u1_n _ _ (by decide), hf]
    have hcbA : ∀ v, q_CB b n D Z L.length z a mn ps os ws c (q_u2 I 14 1 v) Y := fun v => ⟨by rw [q_u2_n _ _ _ (by decide), c1], ⟨tw, by rw [q_u2_n _ _ _ (by decide), t1], t2⟩, c3, fm, fd, fs, c4, c5⟩
    have hft : ∀ v k p, q_ft (q_u2 I 14 1 v) k p 14 2 = k := fun v k p => by simp (disch := first | rfl | omega | decide | exact Nat.le_of_ble_eq_true rfl) only [q_u2_s, q_u1_n, q_u1_s]
    have put : ∀ hi lo t', lo ≤ hi → hi < q_kb L os o → ∃ I' Y' D', F_X0_readPiece_172 κ (some (b + 19)) (nI o) (nI hi) (nI lo) (q_H b (q_u2 I 14 1 (nI t'), R, X, Y, Z) M O D, s) = some (.inl (), (q_H b (I', R, X, Y', Z) M O D', s)) ∧ (∀ j, j ≠ 14 → j ≠ 19 → I' j = I j) ∧ I' 14 = (q_u2 I 14 1 (nI t')) 14 ∧ (∀ j, j ≠ 20 → Y' j = Y j) ∧ q_CB b n D' Z L.length z a mn ps os ws (c ++ q_pl o lo (hi + 1 - lo)) I' Y' ∧ (∀ x, x ≠ a + 8 → D' x = D x) := by
      intro hi lo t' hlh hhk
      obtain ⟨I', Y', D', r1, r2, r3, r4, r5⟩ := q_putPiece_3 (κ := κ) (X := X) (M := M) (O := O) (s := s) (low := lo) hR hz hw ho5 (hi + 1 - lo) q_fu (q_u2 I 14 1 (nI t')) Y D c (by rw [q_u2_n _ _ _ (by decide), h82]) (by omega) (by unfold q_fu; omega) (by omega) (hcbA _)
      have e9 : nI (lo + (hi + 1 - lo)) - 1 = nI hi := by
        have : lo + (hi + 1 - lo) = hi + 1 := by omega
        rw [this, nI_pred]
      rw [e9] at r1
      refine ⟨I', Y', D', ?_, fun j j1 j2 => by rw [r2 j j2, q_u2_n _ _ _ j1], r2 14 (by decide), r3, r4, r5⟩
      simp (disch := first | rfl | omega | decide | exact Nat.le_of_ble_eq_true rfl) only [↓q_br, q_rt, q_rz, q_gd, q_ca, ↓reduceIte, F_X0_readPiece_172, F_X0_putPiece, ↓q_is_19, ↓q_is_19, r1]
    have c6 := q_isAt (κ := κ) (b := b) (R := R) (Z := Z) (M := M) (O := O) (D := D) (s := s) (c := 91) (hT (nI (t + 1))) (hA _) (by omega)
    unfold q_pc
    by_cases hs91 : q_sgn l (t + 1) 91 = true
    · rw [if_pos hs91]
      have hlt1 := q_tok_lt (l := l) (t := t + 1) (by have := (of_decide_eq_true hs91).1; omega)
      have c7 := q_takeNumber (κ := κ) (b := b) (R := R) (Z := Z) (M := M) (O := O) (D := D) (s := s) (lo := 0) (hi := lN (q_kb L os o - 1)) (hT (nI (t + 2))) (hA _) (by omega)
      have hl1 : (nI (q_kb L os o - 1)).toInt64 = lN (q_kb L os o - 1) := nI_l (by omega)
      have start : ∀ v I1, F_X9_takeNumber κ (some (b + 14)) 0 (lN (q_kb L os o - 1)) (q_H b (q_u2 I 14 1 (nI (t + 2)), R, X, Y, Z) M O D, s) = some (.inl v, (q_H b (I1, R, X, Y, Z) M O D, s)) → F_X0_readPiece κ (some (b + 19)) (q_H b (I, R, X, Y, Z) M O D, s) = (q_rd (q_gA (some (b + 19)) 3 0) fun v103 => q_rd (q_is v103 12) fun _ => q_ca (F_X9_hasFault κ v103) fun v106 => q_br (¬ v106 = 0) (F_X0_readPiece_149 κ (some (b + 19)) (nI o) v.toInt32 v.toInt32) (q_rd (q_gA (some (b + 19)) 3 0) fun v113 => q_rd (q_is v113 12) fun _ => q_ca (F_X9_isAt κ v113 (58 : Int32)) fun v118 => q_br (v118 = 0) (F_X0_readPiece_149 κ (some (b + 19)) (nI o) v.toInt32 v.toInt32) (q_rd (q_gA (some (b + 19)) 3 0) fun v125 => q_rd (q_gI v125 12 1) fun v129 => q_wr (q_pF v125 12 1 (.int (v129 + (1 : Int32)))) (q_rd (q_gA (some (b + 19)) 3 0) fun v138 => q_rd (q_is v138 12) fun _ => q_ca (F_X9_takeNumber κ v138 (0 : Int64) v.toInt32.toInt64) fun v144 => F_X0_readPiece_149 κ (some (b + 19)) (nI o) v.toInt32 v144.toInt32)))) (q_H b (I1, R, X, Y, Z) M O D, s) := by
        intro v I1 hv
        have hv' : F_X9_takeNumber κ (some (b + 14)) 0 (lN (q_kb L os o - 1)) (q_H b (q_u2 I 14 1 (nI (t + 1 + 1)), R, X, Y, Z) M O D, s) = some (.inl v, (q_H b (I1, R, X, Y, Z) M O D, s)) := hv
        simp (disch := first | rfl | omega | decide | exact Nat.le_of_ble_eq_true rfl) only [↓q_br, q_rt, q_rz, q_gd, q_ca, ↓reduceIte, F_X0_readPiece, ↓q_gA_19_0, ↓q_gA_19_1, ↓q_gA_19_3, ↓q_gI_14_1, ↓q_is_14, ↓q_pI_14_1, ↓q_is_14, ↓q_gI_14_1, ↓q_pI_14_1, ha, hR, qd_S e3, d1, hge, nI_1, qd_A e3 (k := 3) (r := some (a + 5)) rfl, qd_aA o1 ho5 (by decide), o2, qd_I o3 (k := 5) (v := nI (q_kb L os o)) rfl, hsz, c6, hs91, q_b_0, Bool.true_eq_false, hA, hul, hl1, hv']
      cases hn1 : q_num1 l (t + 1 + 1) (q_kb L os o - 1) with
      | inl e =>
        obtain ⟨k, p⟩ := e
        obtain ⟨rfl, hk⟩ := q_num1_f hn1
        have hk0 : ¬ nI k = 0 := by rcases hk with ⟨rfl, -⟩ | ⟨rfl, -⟩ <;> decide
        have c8 : F_X9_takeNumber κ (some (b + 14)) 0 (lN (q_kb L os o - 1)) (q_H b (q_u2 I 14 1 (nI (t + 2)), R, X, Y, Z) M O D, s) = some (.inl (-1), (q_H b (q_ft (q_u2 I 14 1 (nI (t + 2))) (nI k) (nI (t + 2)), R, X, Y, Z) M O D, s)) := by
          rw [c7]
          rcases hk with ⟨rfl, h9⟩ | ⟨rfl, h9, h10⟩
          · rw [if_neg (fun h8 => h9 h8.1), if_neg h9, i1]
          · rw [if_neg (fun h8 => h10 h8.2), if_pos h9, if_neg h10, i3]
        refine ⟨?_, by rcases hk with ⟨rfl, -⟩ | ⟨rfl, -⟩ <;> decide, by rcases hk with ⟨rfl, -⟩ | ⟨rfl, -⟩ <;> decide⟩
        rw [start _ _ c8]
        simp (disch := first | rfl | omega | decide | exact Nat.le_of_ble_eq_true rfl) only [↓q_br, q_rt, q_rz, q_gd, q_ca, ↓reduceIte, F_X0_readPiece_149, F_X0_readPiece_171, ↓q_gA_19_0, ↓q_is_14, ↓q_gA_19_0, ↓q_is_14, q_hasFault, hft, hk0, q_b_0, decide_false, Bool.not_false, Bool.true_eq_false, not_false_eq_true]
      | inr hi =>
        obtain ⟨n1, n2, n3, n4, n5⟩ := q_num1_b hwf (by omega) hn1
        have hlt2 := q_tok_lt (l := l) (t := t + 2) (by have : (q_tok l (t + 2)).1 = 2 := n1; omega)
        have c8 : F_X9_takeNumber κ (some (b + 14)) 0 (lN (q_kb L os o - 1)) (q_H b (q_u2 I 14 1 (nI (t + 2)), R, X, Y, Z) M O D, s) = some (.inl (lN hi), (q_H b (q_u2 I 14 1 (nI (t + 3)), R, X, Y, Z) M O D, s)) := by
          rw [c7, if_pos ⟨n1, n2, n3⟩, if_pos n1, if_pos ⟨n2, n3⟩, hul, n4]
          have := (q_vn_e hwf n1).1
          rw [← this]
        have hi32 : (lN hi).toInt32 = nI hi := lN_i hi
        have hi64 : (nI hi).toInt64 = lN hi := nI_l (by omega)
        have c9 := q_isAt (κ := κ) (b := b) (R := R) (Z := Z) (M := M) (O := O) (D := D) (s := s) (c := 58) (hT (nI (t + 3))) (hA _) (by omega)
        simp only
        by_cases hs58 : q_sgn l (t + 1 + 2) 58 = true
        · rw [if_pos hs58]
          have hs58' : q_sgn l (t + 3) 58 = true := hs58
          have hlt3 := q_tok_lt (l := l) (t := t + 3) (by have := (of_decide_eq_true hs58').1; omega)
          have c10 := q_takeNumber (κ := κ) (b := b) (R := R) (Z := Z) (M := M) (O := O) (D := D) (s := s) (lo := 0) (hi := lN hi) (hT (nI (t + 4))) (hA _) (by omega)
          have st2 : ∀ v I1, F_X9_takeNumber κ (some (b + 14)) 0 (lN hi) (q_H b (q_u2 I 14 1 (nI (t + 4)), R, X, Y, Z) M O D, s) = some (.inl v, (q_H b (I1, R, X, Y, Z) M O D, s)) → F_X0_readPiece κ (some (b + 19)) (q_H b (I, R, X, Y, Z) M O D, s) = F_X0_readPiece_149 κ (some (b + 19)) (nI o) (nI hi) v.toInt32 (q_H b (I1, R, X, Y, Z) M O D, s) := by
            intro v I1 hv
            have hv' : F_X9_takeNumber κ (some (b + 14)) 0 (lN hi) (q_H b (q_u2 I 14 1 (nI (t + 3 + 1)), R, X, Y, Z) M O D, s) = some (.inl v, (q_H b (I1, R, X, Y, Z) M O D, s)) := hv
            rw [start _ _ c8, hi32]
            simp (disch := first | rfl | omega | decide | exact Nat.le_of_ble_eq_true rfl) only [↓q_br, q_rt, q_rz, q_gd, q_ca, ↓reduceIte, ↓q_gA_19_0, ↓q_is_14, ↓q_gI_14_1, ↓q_pI_14_1, q_hasFault, hF, q_b_0, decide_true, Bool.not_true, not_true_eq_false, c9, hs58', Bool.true_eq_false, hA, nI_1, hul, hi64, hv']
          cases hn3 : q_num1 l (t + 1 + 3) hi with
          | inl e =>
            obtain ⟨k, p⟩ := e
            obtain ⟨rfl, hk⟩ := q_num1_f hn3
            have hk0 : ¬ nI k = 0 := by rcases hk with ⟨rfl, -⟩ | ⟨rfl, -⟩ <;> decide
            have c11 : F_X9_takeNumber κ (some (b + 14)) 0 (lN hi) (q_H b (q_u2 I 14 1 (nI (t + 4)), R, X, Y, Z) M O D, s) = some (.inl (-1), (q_H b (q_ft (q_u2 I 14 1 (nI (t + 4))) (nI k) (nI (t + 4)), R, X, Y, Z) M O D, s)) := by
              rw [c10]
              rcases hk with ⟨rfl, h9⟩ | ⟨rfl, h9, h10⟩
              · rw [if_neg (fun h8 => h9 h8.1), if_neg h9, i1]
              · rw [if_neg (fun h8 => h10 h8.2), if_pos h9, if_neg h10, i3]
            refine ⟨?_, by rcases hk with ⟨rfl, -⟩ | ⟨rfl, -⟩ <;> decide, by rcases hk with ⟨rfl, -⟩ | ⟨rfl, -⟩ <;> decide⟩
            rw [st2 _ _ c11]
            simp (disch := first | rfl | omega | decide | exact Nat.le_of_ble_eq_true rfl) only [↓q_br, q_rt, q_rz, q_gd, q_ca, ↓reduceIte, F_X0_readPiece_149, F_X0_readPiece_171, ↓q_gA_19_0, ↓q_is_14, ↓q_gA_19_0, ↓q_is_14, q_hasFault, hft, hk0, q_b_0, decide_false, Bool.not_false, Bool.true_eq_false, not_false_eq_true]
          | inr lo =>
            obtain ⟨m1, m2, m3, m4, m5⟩ := q_num1_b hwf (by omega) hn3
            have hlt4 := q_tok_lt (l := l) (t := t + 4) (by have : (q_tok l (t + 4)).1 = 2 := m1; omega)
            have c11 : F_X9_takeNumber κ (some (b + 14)) 0 (lN hi) (q_H b (q_u2 I 14 1 (nI (t + 4)), R, X, Y, Z) M O D, s) = some (.inl (lN lo), (q_H b (q_u2 I 14 1 (nI (t + 5)), R, X, Y, Z) M O D, s)) := by
              rw [c10, if_pos ⟨m1, m2, m3⟩, if_pos m1, if_pos ⟨m2, m3⟩, hul, m4]
              have := (q_vn_e hwf m1).1
              rw [← this]
            have lo32 : (lN lo).toInt32 = nI lo := lN_i lo
            have c12 := q_take (κ := κ) (b := b) (R := R) (Z := Z) (M := M) (O := O) (D := D) (s := s) (c := 93) (hT (nI (t + 5))) (hA _) (by omega)
            simp only
            by_cases hs93 : q_sgn l (t + 1 + 4) 93 = true
            · rw [if_pos hs93]
              have hs93' : q_sgn l (t + 5) 93 = true := hs93
              have hlt5 := q_tok_lt (l := l) (t := t + 5) (by have := (of_decide_eq_true hs93').1; omega)
              rw [if_pos hs93', hul] at c12
              obtain ⟨I', Y', D', r1, r2⟩ := put hi lo (t + 1 + 5) m5 (by omega)
              refine ⟨I', Y', D', ?_, r2.1, r2.2.1, r2.2.2.1, r2.2.2.2.1, r2.2.2.2.2, m5, by omega, by omega, by omega⟩
              rw [st2 _ _ c11, lo32]
              simp (disch := first | rfl | omega | decide | exact Nat.le_of_ble_eq_true rfl) only [↓q_br, q_rt, q_rz, q_gd, q_ca, ↓reduceIte, F_X0_readPiece_149, ↓q_gA_19_0, ↓q_is_14, ↓q_gA_19_0, ↓q_is_14, q_hasFault, hF, q_b_0, decide_true, Bool.not_true, not_true_eq_false, c12, hs93', Bool.true_eq_false, not_false_eq_true]
              exact r1
            · have hs93' : q_sgn l (t + 5) 93 = false := by simpa using hs93
              rw [if_neg hs93]
              have hs93n : ¬ q_sgn l (t + 5) 93 = true := hs93
              rw [if_neg hs93n] at c12
              refine ⟨?_, by decide, by decide⟩
              rw [st2 _ _ c11, lo32]
              simp (disch := first | rfl | omega | decide | exact Nat.le_of_ble_eq_true rfl) only [↓q_br, q_rt, q_rz, q_gd, q_ca, ↓reduceIte, F_X0_readPiece_149, F_X0_readPiece_171, ↓q_gA_19_0, ↓q_is_14, ↓q_gA_19_0, ↓q_is_14, q_hasFault, hF, q_b_0, decide_true, Bool.not_true, not_true_eq_false, c12, hs93', i1]
        · rw [if_neg hs58]
          have hs58' : q_sgn l (t + 3) 58 = false := by simpa using hs58
          have st2 : F_X0_readPiece κ (some (b + 19)) (q_H b (I, R, X, Y, Z) M O D, s) = F_X0_readPiece_149 κ (some (b + 19)) (nI o) (nI hi) (nI hi) (q_H b (q_u2 I 14 1 (nI (t + 3)), R, X, Y, Z) M O D, s) := by
            rw [start _ _ c8, hi32]
            simp (disch := first | rfl | omega | decide | exact Nat.le_of_ble_eq_true rfl) only [↓q_br, q_rt, q_rz, q_gd, q_ca, ↓reduceIte, ↓q_gA_19_0, ↓q_is_14, q_hasFault, hF, q_b_0, decide_true, Bool.not_true, not_true_eq_false, c9, hs58']
          have c12 := q_take (κ := κ) (b := b) (R := R) (Z := Z) (M := M) (O := O) (D := D) (s := s) (c := 93) (hT (nI (t + 3))) (hA _) (by omega)
          by_cases hs93 : q_sgn l (t + 1 + 2) 93 = true
          · rw [if_pos hs93]
            have hs93' : q_sgn l (t + 3) 93 = true := hs93
            have hlt3 := q_tok_lt (l := l) (t := t + 3) (by have := (of_decide_eq_true hs93').1; omega)
            rw [if_pos hs93', hul] at c12
            obtain ⟨I', Y', D', r1, r2⟩ := put hi hi (t + 1 + 3) (Nat.le_refl _) (by omega)
            refine ⟨I', Y', D', ?_, r2.1, r2.2.1, r2.2.2.1, r2.2.2.2.1, r2.2.2.2.2, Nat.le_refl _, by omega, by omega, by omega⟩
            rw [st2]
            simp (disch := first | rfl | omega | decide | exact Nat.le_of_ble_eq_true rfl) only [↓q_br, q_rt, q_rz, q_gd, q_ca, ↓reduceIte, F_X0_readPiece_149, ↓q_gA_19_0, ↓q_is_14, ↓q_gA_19_0, ↓q_is_14, q_hasFault, hF, q_b_0, decide_true, Bool.not_true, not_true_eq_false, c12, hs93', Bool.true_eq_false, not_false_eq_true]
            exact r1
          · have hs93' : q_sgn l (t + 3) 93 = false := by simpa using hs93
            rw [if_neg hs93]
            have hs93n : ¬ q_sgn l (t + 3) 93 = true := hs93
            rw [if_neg hs93n] at c12
            refine ⟨?_, by decide, by decide⟩
            rw [st2]
            simp (disch := first | rfl | omega | decide | exact Nat.le_of_ble_eq_true rfl) only [↓q_br, q_rt, q_rz, q_gd, q_ca, ↓reduceIte, F_X0_readPiece_149, F_X0_readPiece_171, ↓q_gA_19_0, ↓q_is_14, ↓q_gA_19_0, ↓q_is_14, q_hasFault, hF, q_b_0, decide_true, Bool.not_true, not_true_eq_false, c12, hs93', i1]
    · rw [if_neg hs91]
      have hs91' : q_sgn l (t + 1) 91 = false := by simpa using hs91
      obtain ⟨I', Y', D', r1, r2⟩ := put (q_kb L os o - 1) 0 (t + 1) (by omega) (by omega)
      rw [nI_0] at r1
      refine ⟨I', Y', D', ?_, r2.1, r2.2.1, r2.2.2.1, r2.2.2.2.1, r2.2.2.2.2, by omega, by omega, by omega, by omega⟩
      simp (disch := first | rfl | omega | decide | exact Nat.le_of_ble_eq_true rfl) only [↓q_br, q_rt, q_rz, q_gd, q_ca, ↓reduceIte, F_X0_readPiece, ↓q_gA_19_0, ↓q_gA_19_1, ↓q_gA_19_3, ↓q_gI_14_1, ↓q_is_14, ↓q_pI_14_1, ↓q_is_14, ↓q_gI_14_1, ↓q_pI_14_1, ha, hR, qd_S e3, d1, hge, nI_1, qd_A e3 (k := 3) (r := some (a + 5)) rfl, qd_aA o1 ho5 (by decide), o2, qd_I o3 (k := 5) (v := nI (q_kb L os o)) rfl, hsz, c6, hs91', q_b_0]
      exact r1
end QBF
