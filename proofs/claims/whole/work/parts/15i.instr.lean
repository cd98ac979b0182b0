section QII
variable {κ : Nat → Nat} {b : Nat} {B : Nat → Int32} {l : List q_Tok} {zt t : Nat} {X : Nat → Nat → Int32} {Z : Nat → Nat → Option Nat} {M : q_MT} {O : Nat → Int64}
theorem q_TC_Y {I I' : Nat → Nat → Int32} {Y Y' : Nat → Nat → Int64} (h : q_TC B l zt I X Y) (h2 : I' 2 6 = I 2 6) (h7 : Y' 7 = Y 7) : q_TC B l zt I' X Y' := by
  refine ⟨h2.trans h.1, h.2.1, h.2.2.1, ?_, h.2.2.2.2⟩
  unfold q_CK
  rw [h7]
  exact h.2.2.2.1
theorem q_readInstruction {R : Nat → Nat → Option Nat} {I : Nat → Nat → Int32} {Y : Nat → Nat → Int64} {D : q_Mem} {n m ni z : Nat} {L : List q_Knd} (h : q_TC B l zt I X Y) (hK : q_Kp κ b D) (ha : I 14 1 = nI t) (hf : I 14 2 = 0) (h82 : I 8 2 = nI z) (hz : z ≤ 32) (ht : t ≤ l.length) (hn : b + 66 < n) (hk : q_CMk b n D I Z L) (h84 : I 8 4 = nI ni) (hni : ni ≤ 96) :
    ∃ I' R' Y' D' n' m', (∀ j, j ≠ 8 → j ≠ 14 → j ≠ 19 → I' j = I j) ∧ I' 8 2 = I 8 2 ∧ I' 8 3 = I 8 3 ∧ (∀ j, j ≠ 19 → R' j = R j) ∧ (∀ j, j ≠ 20 → Y' j = Y j) ∧ (∀ x, x < n → D' x = D x) ∧ n ≤ n' ∧ n' ≤ n + 40 ∧ m ≤ m' ∧ m' ≤ m + 500 ∧ (match q_pi B l L ni z t with
      | .inl (k, p) => F_X0_readInstruction κ (some (b + 19)) (q_H b (I, R, X, Y, Z) M O D, n, m) = some (.inl (), (q_H b (I', R', X, Y', Z) M O D', n', m')) ∧ I' 14 2 = nI k ∧ I' 14 3 = nI p ∧ 1 ≤ k ∧ k ≤ 5
      | .inr (J, t') => ∃ a, F_X0_readInstruction κ (some (b + 19)) (q_H b (I, R, X, Y, Z) M O D, n, m) = some (.inl (), (q_H b (I', R', X, Y', q_u2 Z 10 ni (some a)) M O D', n', m')) ∧ I' 14 1 = nI t' ∧ I' 14 2 = 0 ∧ I' 14 3 = I 14 3 ∧ I' 8 4 = nI (ni + 1) ∧ t < t' ∧ t' ≤ l.length ∧ ni < 96 ∧ q_CIn b n' D' Z L z a J) := by
  have hzt := h.2.2.1
  have hl := h.2.1
  have hwf := h.2.2.2.2.1
  have hI : q_u2 I 14 1 (nI t) = I := q_u2_id _ _ _ ha
  have i1 : nI 1 = 1 := rfl
  have i3 : nI 3 = 3 := rfl
  have c2 := q_isAtName (κ := κ) (b := b) (R := R) (Z := Z) (M := M) (O := O) (D := D) (s := (n, m)) h ha (by omega)
  have hfl := fun k => q_fail (κ := κ) (b := b) (R := R) (X := X) (Y := Y) (Z := Z) (M := M) (O := O) (D := D) (s := (n, m)) (k := k) ha
  have hft2 : ∀ k p, q_ft I k p 14 2 = k ∧ q_ft I k p 14 3 = p := fun k p => ⟨by simp (disch := first | rfl | omega | decide | exact Nat.le_of_ble_eq_true rfl) only [q_u2_s, q_u1_n, q_u1_s], by simp (disch := first | rfl | omega | decide | exact Nat.le_of_ble_eq_true rfl) only [q_u2_s, q_u1_s]⟩
  have hftr : ∀ k p j, j ≠ 14 → q_ft I k p j = I j := fun k p j j1 => by simp only [q_ft, q_u2_n _ _ _ j1]
  unfold q_pi
  by_cases hy : (q_tok l t).1 = 1
  · rw [if_pos hy]
    have hlt := q_tok_lt (l := l) (t := t) (by omega)
    have h96 : (nI ni = (96 : Int32)) ↔ ni = 96 := nI_eq (b := 96) (by omega) (by decide)
    by_cases hn96 : ni = 96
    · rw [if_pos hn96]
      have h96' : (nI ni = (96 : Int32)) = True := eq_true (h96.mpr hn96)
      refine ⟨q_ft I 3 (nI t), R, Y, D, n, m, fun j _ j2 _ => hftr _ _ j j2, by rw [hftr _ _ 8 (by decide)], by rw [hftr _ _ 8 (by decide)], fun _ _ => rfl, fun _ _ => rfl, fun _ _ => rfl, Nat.le_refl _, by omega, Nat.le_refl _, by omega, ?_, by rw [(hft2 3 (nI t)).1]; rfl, (hft2 3 (nI t)).2, by decide, by decide⟩
      simp (disch := first | rfl | omega | decide | exact Nat.le_of_ble_eq_true rfl) only [↓q_br, q_rt, q_rz, q_gd, q_ca, ↓reduceIte, F_X0_readInstruction, ↓q_gA_19_0, ↓q_gA_19_1, ↓q_gA_19_2, ↓q_gI_14_1, ↓q_gI_8_4, ↓q_is_14, ↓q_pA_19_3, ↓q_pI_14_1, ↓q_is_14, c2, q_b_0, hy, decide_true, Bool.true_eq_false, not_false_eq_true, ↓q_gI_8_4, h84, h96', not_true_eq_false, hfl]
    · rw [if_neg hn96]
      obtain ⟨w1, w2, w3, w4, -⟩ := hwf t _ (q_tok_s hlt)
      have w5 := w4 hy
      obtain ⟨D2, d1, d2, d3⟩ := q_newName (κ := κ) (b := b) (R := R) (Z := Z) (M := M) (O := O) (D := q_up (q_up D n (.inr (.inl (4, [.null, .null, .null, .null, .null, .null, .null, .int 0, .int 0, .int 0, .int 0])))) (n + 1) (.inr (.inl (10, [.null])))) (a := n + 1) (n := n + 1 + 1) (m := m + 11 + 1) h hy (by omega) ⟨by omega, by omega⟩ (q_up_s _ _ _)
      have dn : b + 66 < n ∧ D2 n = some (.inr (.inl (4, [.null, .null, .null, .null, .null, .null, .null, .int 0, .int 0, .int 0, .int 0]))) := ⟨hn, by rw [d3 n (by omega) (by omega), q_up_n _ _ (by omega), q_up_s]⟩
      obtain ⟨D3, f1, f2, f3, f4, f5, f6, f7, f8, f9⟩ := q_newIns (κ := κ) (b := b) (C := (I, R, X, Y, Z)) (M := M) (O := O) (D := D2) (n := n + 1 + 1 + 1) (m := m + 11 + 1 + ((q_tok l t).2.2.1 - (q_tok l t).2.1)) (am := n + 1) (a := n) (by omega) dn (by omega)
      have dD3 : ∀ x, x < n → D3 x = D x := fun x hx => by rw [f9 x (by omega) (by omega), d3 x (by omega) (by omega), q_up_n _ _ (by omega), q_up_n _ _ (by omega)]
      have cn3 : q_CN b (n + 9) D3 (n + 1) (q_tB B (q_tok l t)) := by
        obtain ⟨lx, fx, x1, x2, x3, x4, x5, x6, x7⟩ := d2
        have y3 : lx ≠ n := by rintro rfl; rw [dn.2] at x6; cases x6
        exact ⟨lx, fx, x1, by omega, x3, by omega, by rw [f9 _ (by omega) (by omega), x5], by rw [f9 _ y3 (by omega), x6], x7⟩
      have ci3 : q_CIo b (n + 9) D3 Z L.length n (q_tB B (q_tok l t)) [] [] 0 0 (fun _ => 0) (fun _ => 0) (fun _ => 0) := by
        refine ⟨hn, by omega, f2, cn3, f6, f7, f8, fun _ => 0, fun _ => none, fun _ => none, f3, f4, f5, fun i v hi => by simp at hi, fun i x hi => by simp at hi⟩
      obtain ⟨R1, hR1⟩ : ∃ R1, R1 = q_u2 R 19 3 (some n) := ⟨_, rfl⟩
      have hR : R1 19 3 = some n := by rw [hR1, q_u2_s, q_u1_s]
      have hlo : ∀ D4 : q_Mem, (∀ x, x < n → D4 x = D3 x) → ∀ k K, L[k]? = some K → ∃ x, Z 9 k = some x ∧ q_CKd b n D4 x K := fun D4 hD4 k K hK => by
        obtain ⟨x, e1, e2⟩ := hk.2.2 k K hK
        exact ⟨x, e1, q_CKd_mo e2 (Nat.le_refl _) (fun y _ hy => by rw [hD4 y hy, dD3 y hy])⟩
      have h1 : q_TC B l zt (q_u2 I 14 1 (nI (t + 1))) X Y := q_TC_I h (by rw [q_u2_n _ _ _ (by decide)])
      obtain ⟨D4, n4, m4, p1, p2, p3, p4, p5, p6⟩ := q_readParts (κ := κ) (X := X) (Y := Y) (Z := Z) (M := M) (O := O) hR (l.length + 1) q_fu 0 (t + 1) (q_u2 I 14 1 (nI (t + 1))) D3 (n + 9) (m + 11 + 1 + ((q_tok l t).2.2.1 - (q_tok l t).2.1) + 158) [] [] h1 (q_Kp_D hK (fun x hx => dD3 x (by omega))) (by rw [q_u2_s, q_u1_s]) (by rw [q_u2_s, q_u1_n _ _ (by decide), hf]) (by omega) (by omega) (by omega) (by unfold q_fu; omega) (by omega) (by rw [q_u2_n _ _ _ (by decide), hk.1]) hk.2.1 (hlo D3 (fun _ _ => rfl)) ci3 (by simp) (by simp)
      simp only [List.length_nil] at p3 p5
      rw [nI_0] at p6
      have start : F_X0_readInstruction κ (some (b + 19)) (q_H b (I, R, X, Y, Z) M O D, n, m) = F_X0_readInstruction_86 κ q_fu (some (b + 19)) 0 (q_H b (q_u2 I 14 1 (nI (t + 1)), R1, X, Y, Z) M O D3, n + 9, m + 11 + 1 + ((q_tok l t).2.2.1 - (q_tok l t).2.1) + 158) := by
        rw [hR1]
        simp (disch := first | rfl | omega | decide | exact Nat.le_of_ble_eq_true rfl) only [↓q_br, q_rt, q_rz, q_gd, q_ca, ↓reduceIte, F_X0_readInstruction, ↓q_gA_19_0, ↓q_gA_19_1, ↓q_gA_19_2, ↓q_gI_14_1, ↓q_gI_8_4, ↓q_is_14, ↓q_pA_19_3, ↓q_pI_14_1, ↓q_is_14, c2, q_b_0, hy, decide_true, Bool.true_eq_false, not_false_eq_true, ↓q_gI_8_4, h84, h96, hn96, q_mk_H, reduceCtorEq, ↓q_gI_14_1, ↓q_pI_14_1, ha, d1, f1, nI_1]
      have fR1 : ∀ j, j ≠ 19 → R1 j = R j := fun j hj => by rw [hR1, q_u2_n _ _ _ hj]
      have fD4 : ∀ x, x < n → D4 x = D x := fun x hx => by rw [p1 x (by omega) (by omega) (by omega) (by omega) (by omega), dD3 x hx]
      have hu : ∀ u v, q_u2 (q_u2 I 14 1 u) 14 1 v = q_u2 I 14 1 v := fun u v => q_u2_u2 _ _ _ _ _
      rw [start]
      cases hpp : q_pp B l L (l.length + 1) [] [] (t + 1) with
      | inl e =>
        obtain ⟨k, p⟩ := e
        rw [hpp] at p6
        simp only [q_ft, hu] at p6
        obtain ⟨p6, p7, p8⟩ := p6
        have k2 : q_ft (q_u2 I 14 1 (nI p)) (nI k) (nI p) 14 2 = nI k := by simp (disch := first | rfl | omega | decide | exact Nat.le_of_ble_eq_true rfl) only [q_u2_s, q_u1_n, q_u1_s]
        have k3 : q_ft (q_u2 I 14 1 (nI p)) (nI k) (nI p) 14 3 = nI p := by simp (disch := first | rfl | omega | decide | exact Nat.le_of_ble_eq_true rfl) only [q_u2_s, q_u1_s]
        have kr : ∀ j, j ≠ 14 → q_ft (q_u2 I 14 1 (nI p)) (nI k) (nI p) j = I j := fun j j1 => by simp only [q_ft, q_u2_n _ _ _ j1]
        have hk0 : ¬ nI k = 0 := nI_ne0 (by omega) (by omega)
        refine ⟨q_ft (q_u2 I 14 1 (nI p)) (nI k) (nI p), R1, Y, D4, n4, m4, fun j _ j2 _ => kr j j2, by rw [kr 8 (by decide)], by rw [kr 8 (by decide)], fR1, fun _ _ => rfl, fD4, by omega, by omega, by omega, by omega, ?_, k2, k3, p7, by omega⟩
        rw [p6]
        simp (disch := first | rfl | omega | decide | exact Nat.le_of_ble_eq_true rfl) only [↓q_br, q_rt, q_rz, q_gd, q_ca, ↓reduceIte, F_X0_readInstruction_129, ↓q_gA_19_0, ↓q_gA_19_2, ↓q_gA_19_3, ↓q_gI_14_1, ↓q_is_14, ↓q_is_19, ↓q_is_8, ↓q_pI_14_1, ↓q_is_14, q_hasFault, k2, hk0, q_b_0, decide_false, Bool.not_false, Bool.true_eq_false]
      | inr e =>
        obtain ⟨ps, os, t1⟩ := e
        rw [hpp] at p6
        simp only [hu] at p6
        obtain ⟨p6, p7, p8, p9, p10, p11⟩ := p6
        have hlt1 := q_tok_lt (l := l) (t := t1) (by have := (of_decide_eq_true p8).1; omega)
        simp only
        obtain ⟨Y1, y1, y2, y3⟩ := q_fill5 (κ := κ) (b := b) (R := R1) (X := X) (Z := Z) (M := M) (O := O) (I := q_u2 (q_u2 I 14 1 (nI (t1 + 1))) 19 4 0) (D := D4) (s := (n4, m4)) 5 q_fu 0 Y (by omega) (by unfold q_fu; omega) (fun i hi => by omega)
        rw [nI_0] at y1
        obtain ⟨I5, hI5⟩ : ∃ I5, I5 = q_u2 (q_u2 (q_u2 I 14 1 (nI (t1 + 1))) 19 4 0) 19 6 0 := ⟨_, rfl⟩
        have fI5 : ∀ j, j ≠ 14 → j ≠ 19 → I5 j = I j := fun j j1 j2 => by rw [hI5, q_u2_n _ _ _ j2, q_u2_n _ _ _ j2, q_u2_n _ _ _ j1]
        have hI5_14 : I5 14 = q_u2 I 14 1 (nI (t1 + 1)) 14 := by rw [hI5, q_u2_n _ _ _ (by decide), q_u2_n _ _ _ (by decide)]
        have hcb : q_CB b n4 D4 Z L.length z n (q_tB B (q_tok l t)) ps os [] [] I5 Y1 := by
          refine ⟨by rw [hI5, q_u2_s, q_u1_n _ _ (by decide), q_u2_s, q_u1_s]; rfl, ⟨false, by rw [hI5, q_u2_s, q_u1_s]; rfl, ?_⟩, fun o ho => ⟨0, by rw [y3 o ho]; rfl, by decide, fun k hk => by simp⟩, fun _ => 0, fun _ => 0, fun _ => 0, ?_, q_CWd_0⟩
          · constructor
            · intro h9; cases h9
            · rintro ⟨v, -, v2⟩; simp at v2
          · have e9 : q_negs [] + q_neg (([] : List Int32).take z) = 0 := by simp [q_negs, q_neg]
            rw [e9]
            exact p11
        have hTC5 : q_TC B l zt I5 X Y1 := q_TC_Y h (by rw [fI5 2 (by decide) (by decide)]) (y2 7 (by decide))
        obtain ⟨I6, Y6, D6, z1, z2, z3, z4, z5⟩ := q_readBits_22 (κ := κ) (M := M) (O := O) (s := (n4, m4)) (B := B) (l := l) (zt := zt) (X := X) hR hz p10 (l.length + 1) q_fu 0 (t1 + 1) I5 Y1 D4 [] [] 0 hTC5 (by rw [hI5_14, q_u2_s, q_u1_s]) (by rw [hI5_14, q_u2_s, q_u1_n _ _ (by decide), hf]) (by rw [fI5 8 (by decide) (by decide), h82]) (by omega) (by omega) (by omega) (by unfold q_fu; omega) (by simp) (by simp) (fun t' _ _ => Nat.zero_le _) (by omega) hcb (hlo D4 (fun x hx => by rw [fD4 x hx, dD3 x hx])) (fun v hv => by simp at hv) (fun w hw => by cases hw)
        rw [nI_0] at z1
        have h129 : F_X0_readInstruction_86 κ q_fu (some (b + 19)) 0 (q_H b (q_u2 I 14 1 (nI (t + 1)), R1, X, Y, Z) M O D3, n + 9, m + 11 + 1 + ((q_tok l t).2.2.1 - (q_tok l t).2.1) + 158) = (q_rd (q_gA (some (b + 19)) 3 0) fun v158 => q_rd (q_is v158 12) fun _ => q_ca (F_X9_hasFault κ v158) fun v161 => q_br (¬ v161 = 0) (F_X0_readInstruction_178 κ) (q_rd (q_gA (some (b + 19)) 3 2) fun v168 => q_rd (q_gA (some (b + 19)) 3 3) fun v172 => q_rd (q_is v168 8) fun _ => q_ca (F_X5_addInstruction κ v168 v172) fun _v175 => F_X0_readInstruction_178 κ)) (q_H b (I6, R1, X, Y6, Z) M O D6, n4, m4) := by
          have hF : q_u2 I 14 1 (nI t1) 14 2 = 0 := by rw [q_u2_s, q_u1_n _ _ (by decide), hf]
          have hA : q_u2 I 14 1 (nI t1) 14 1 = nI t1 := by rw [q_u2_s, q_u1_s]
          have z00 : ((0 : Int32) = 0 ∨ (0 : Int32) = 1) := Or.inl rfl
          have n5 : nI 5 = 5 := rfl
          rw [hI5] at z1
          rw [p6]
          simp (disch := first | rfl | omega | decide | exact Nat.le_of_ble_eq_true rfl) only [↓q_br, q_rt, q_rz, q_gd, q_ca, ↓reduceIte, F_X0_readInstruction_129, F_X0_readBits, F_J7_fill_d0a16, ↓q_gA_19_0, ↓q_gA_19_2, ↓q_gA_19_3, ↓q_gA_19_5, ↓q_gI_14_1, ↓q_is_14, ↓q_is_19, ↓q_is_8, ↓q_ln_20, ↓q_pI_14_1, ↓q_pI_19_4, ↓q_pI_19_6, ↓q_is_14, ↓q_is_19, q_hasFault, hF, q_b_0, decide_true, Bool.not_true, ↓q_gI_14_1, ↓q_pI_14_1, ↓q_ln_20, hA, nI_1, hu, y1, true_or, z1]
        rw [h129]
        cases hpb : q_pb B l L os z (l.length + 1) [] [] (t1 + 1) with
        | inl e =>
          obtain ⟨k, p⟩ := e
          rw [hpb] at z5
          obtain ⟨k2, k3, k4, k5⟩ := z5
          have hk0 : ¬ nI k = 0 := nI_ne0 (by omega) (by omega)
          refine ⟨I6, R1, Y6, D6, n4, m4, fun j _ j2 j3 => by rw [z2 j j2 j3, fI5 j j2 j3], by rw [z2 8 (by decide) (by decide), fI5 8 (by decide) (by decide)], by rw [z2 8 (by decide) (by decide), fI5 8 (by decide) (by decide)], fR1, fun j hj => by rw [z3 j hj, y2 j hj], fun x hx => by rw [z4 x hx, fD4 x hx], by omega, by omega, by omega, by omega, ?_, k2, k3, k4, k5⟩
          simp (disch := first | rfl | omega | decide | exact Nat.le_of_ble_eq_true rfl) only [↓q_br, q_rt, q_rz, q_gd, q_ca, ↓reduceIte, F_X0_readInstruction_178, ↓q_gA_19_0, ↓q_is_14, q_hasFault, k2, hk0, q_b_0, decide_false, Bool.not_false, Bool.true_eq_false, not_false_eq_true]
        | inr e =>
          obtain ⟨ws, t2⟩ := e
          rw [hpb] at z5
          obtain ⟨x1, x2, x3, x4, x5, x6, x7, x8, x9, x10, x11⟩ := z5
          have i84 : I6 8 4 = nI ni := by rw [z2 8 (by decide) (by decide), fI5 8 (by decide) (by decide), h84]
          have dn6 : ∃ fv, b + 66 < n ∧ D6 n = some (.inr (.inl (4, fv))) := by
            obtain ⟨fm, fd, fs, c4, -⟩ := x11
            exact ⟨_, c4.1, c4.2.2.1⟩
          obtain ⟨fv, dn6⟩ := dn6
          refine ⟨q_u2 I6 8 4 (nI (ni + 1)), R1, Y6, D6, n4, m4, fun j j1 j2 j3 => by rw [q_u2_n _ _ _ j1, z2 j j2 j3, fI5 j j2 j3], by rw [q_u2_s, q_u1_n _ _ (by decide), z2 8 (by decide) (by decide), fI5 8 (by decide) (by decide)], by rw [q_u2_s, q_u1_n _ _ (by decide), z2 8 (by decide) (by decide), fI5 8 (by decide) (by decide)], fR1, fun j hj => by rw [z3 j hj, y2 j hj], fun x hx => by rw [z4 x hx, fD4 x hx], by omega, by omega, by omega, by omega, ?_⟩
          simp only
          refine ⟨n, ?_, by rw [q_u2_n _ _ _ (by decide), x1], by rw [q_u2_n _ _ _ (by decide), x2], by rw [q_u2_n _ _ _ (by decide), x3, hI5_14, q_u2_s, q_u1_n _ _ (by decide)], by rw [q_u2_s, q_u1_s], by omega, by omega, by omega, ?_⟩
          · simp (disch := first | rfl | omega | decide | exact Nat.le_of_ble_eq_true rfl) only [↓q_br, q_rt, q_rz, q_gd, q_ca, ↓reduceIte, F_X0_readInstruction_178, F_X5_addInstruction, ↓q_gA_8_1, ↓q_gI_8_4, ↓q_pI_8_4, ↓q_gA_19_0, ↓q_gA_19_2, ↓q_gA_19_3, ↓q_is_14, ↓q_is_8, q_hasFault, x2, q_b_0, decide_true, Bool.not_true, not_true_eq_false, hR, i84]
            rw [qd_sZ (n := 96) rfl (by decide) (by decide) dn6 (by omega) (by decide)]
            simp (disch := first | rfl | omega | decide | exact Nat.le_of_ble_eq_true rfl) only [↓q_br, q_rt, q_rz, q_gd, q_ca, ↓reduceIte, ↓q_gI_8_4, ↓q_pI_8_4, i84, nI_1]
          · exact ⟨x11, p9, p10, x7, x8, x9, x10⟩
  · rw [if_neg hy]
    refine ⟨q_ft I 1 (nI t), R, Y, D, n, m, fun j _ j2 _ => hftr _ _ j j2, by rw [hftr _ _ 8 (by decide)], by rw [hftr _ _ 8 (by decide)], fun _ _ => rfl, fun _ _ => rfl, fun _ _ => rfl, Nat.le_refl _, by omega, Nat.le_refl _, by omega, ?_, by rw [(hft2 1 (nI t)).1]; rfl, (hft2 1 (nI t)).2, by decide, by decide⟩
    simp (disch := first | rfl | omega | decide | exact Nat.le_of_ble_eq_true rfl) only [↓q_br, q_rt, q_rz, q_gd, q_ca, ↓reduceIte, F_X0_readInstruction, ↓q_gA_19_0, ↓q_gA_19_1, ↓q_gA_19_2, ↓q_gI_14_1, ↓q_gI_8_4, ↓q_is_14, ↓q_pA_19_3, ↓q_pI_14_1, ↓q_is_14, c2, q_b_0, hy, decide_false, not_true_eq_false, hfl]
end QII
