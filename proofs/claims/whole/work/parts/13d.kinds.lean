/-- the rest of a kind, behind its name -/
def q_pr (B : Nat → Int32) (l : List q_Tok) (so : Nat) (nm : q_Nam) (t : Nat) : q_Out (q_Knd × Nat) :=
  if so = 0 then (if (q_tok l t).1 = 1 ∧ q_lt B (q_tok l t) = true then (if (q_tok l (t + 1)).1 = 2 then (if 1 ≤ q_nv l (t + 1) ∧ q_nv l (t + 1) ≤ 64 then .inr ((so, nm, q_tB B (q_tok l t), [], q_vn l (t + 1), q_nd (q_vn l (t + 1)) 6 1), t + 2) else .inl (3, t + 1)) else .inl (1, t + 1)) else .inl (1, t))
  else if so = 4 then (match q_mset B l (l.length + 1) [] t with
    | .inl e => .inl e
    | .inr x => .inr ((so, nm, nm, x.1, x.1.length, q_nd x.1.length 6 1), x.2))
  else if (q_tok l t).1 = 2 then (if 1 ≤ q_nv l t ∧ q_nv l t ≤ 32 then .inr ((so, nm, nm, [], 0, q_vn l t), t + 1) else .inl (3, t)) else .inl (1, t)
theorem q_nd_b : ∀ w, w ≤ 64 → 1 ≤ q_nd w 6 1 ∧ q_nd w 6 1 ≤ 32 ∧ w ≤ 2 ^ q_nd w 6 1 := by decide +kernel
theorem q_vn_b {B : Nat → Int32} {z : Nat} {l : List q_Tok} {t hi : Nat} (h : q_WF B z l) (hy : (q_tok l t).1 = 2) (h1 : 1 ≤ q_nv l t) (h2 : q_nv l t ≤ lN hi) (hh : hi < 2 ^ 31) : 1 ≤ q_vn l t ∧ q_vn l t ≤ hi := by
  obtain ⟨e1, e2⟩ := q_vn_e h hy
  rw [e1] at h1 h2
  have a1 : (lN 1 ≤ lN (q_vn l t)) ↔ 1 ≤ q_vn l t := q_lN_le (by decide) (by omega)
  have a2 : (lN (q_vn l t) ≤ lN hi) ↔ q_vn l t ≤ hi := q_lN_le (by omega) (by omega)
  exact ⟨a1.mp h1, a2.mp h2⟩
theorem q_WK_i {so sz bt : Nat} {nm wr : q_Nam} {mem : List q_Nam} (h1 : so ≤ 4) (h2 : 1 ≤ bt) (h3 : bt ≤ 32) (h4 : sz ≤ 64) (h5 : so = 4 → sz = mem.length ∧ sz ≤ 32) (h6 : so = 0 ∨ so = 4 → sz ≤ 2 ^ bt ∧ 1 ≤ sz) : q_WK (so, nm, wr, mem, sz, bt) := ⟨h1, h2, h3, h4, h5, h6⟩
section QKD
variable {κ : Nat → Nat} {b : Nat} {B : Nat → Int32} {l : List q_Tok} {z t : Nat} {R : Nat → Nat → Option Nat} {X : Nat → Nat → Int32} {Y : Nat → Nat → Int64} {Z : Nat → Nat → Option Nat} {M : q_MT} {O : Nat → Int64}
theorem q_readRest {I : Nat → Nat → Int32} {D : q_Mem} {n m a a1 a3 so : Nat} {g : Nat → Option Nat} {nm : q_Nam} (h : q_TC B l z I X Y) (ha : I 14 1 = nI t) (hf : I 14 2 = 0) (ht : t ≤ l.length) (hso : so ≤ 4) (hn : b + 66 < n) (hk : q_CKo b n D a a1 a1 a3 g (so, nm, nm, [], 0, 0)) :
    ∃ D' n' m', (∀ x, x < n → x ≠ a → x ≠ a3 → D' x = D x) ∧ n ≤ n' ∧ n' ≤ n + 66 ∧ m ≤ m' ∧ m' ≤ m + 693 ∧ (match q_pr B l so nm t with
      | .inl (k, p) => F_X0_readRestOfKind κ (some (b + 19)) (some a) (q_H b (I, R, X, Y, Z) M O D, n, m) = some (.inl 0, (q_H b (q_ft (q_u2 I 14 1 (nI p)) (nI k) (nI p), R, X, Y, Z) M O D', n', m')) ∧ 1 ≤ k ∧ k ≤ 3
      | .inr (K, t') => F_X0_readRestOfKind κ (some (b + 19)) (some a) (q_H b (I, R, X, Y, Z) M O D, n, m) = some (.inl 1, (q_H b (q_u2 I 14 1 (nI t'), R, X, Y, Z) M O D', n', m')) ∧ t ≤ t' ∧ t' ≤ l.length ∧ q_CKd b n' D' a K) := by
  have hz := h.2.2.1
  have hl := h.2.1
  have hwf := h.2.2.2.2.1
  have hI : q_u2 I 14 1 (nI t) = I := q_u2_id _ _ _ ha
  have hk0 := hk
  obtain ⟨k1, k2, k3, k4, k5, k6, k7, k8, k9⟩ := hk
  simp only [q_kS, q_kN, q_kW, q_kM, q_kZ, q_kB] at k3 k4 k5 k8 k9
  have e3 : b + 66 < a ∧ D a = some (.inr (.inl (5, [.int (nI so), .ref a1, .ref a1, .ref a3, .int (nI 0), .int (nI 0)]))) := ⟨k1, k3⟩
  have n13 : a ≠ a3 := by
    rintro rfl
    rw [k3] at k8
    cases k8
  have s0 : (nI so = (0 : Int32)) ↔ so = 0 := nI_eq (b := 0) (by omega) (by decide)
  have s4 : (nI so = (4 : Int32)) ↔ so = 4 := nI_eq (b := 4) (by omega) (by decide)
  have i0 : nI 0 = 0 := nI_0
  have i1 : nI 1 = 1 := rfl
  have i3 : nI 3 = 3 := rfl
  unfold q_pr
  by_cases hs0 : so = 0
  · rw [if_pos hs0]
    subst hs0
    have c2 := q_isAtName (κ := κ) (b := b) (R := R) (Z := Z) (M := M) (O := O) (D := D) (s := (n, m)) h ha (by omega)
    have hfl := fun k => q_fail (κ := κ) (b := b) (R := R) (X := X) (Y := Y) (Z := Z) (M := M) (O := O) (D := D) (s := (n, m)) (k := k) ha
    by_cases hy : (q_tok l t).1 = 1
    · have hlt := q_tok_lt (l := l) (t := t) (by omega)
      have c3 := q_hasOnlyLetters (κ := κ) (b := b) (R := R) (Z := Z) (M := M) (O := O) (D := D) (s := (n, m)) h hlt
      by_cases hlt2 : q_lt B (q_tok l t) = true
      · rw [if_pos ⟨hy, hlt2⟩]
        obtain ⟨w1, w2, w3, w4, -⟩ := hwf t _ (q_tok_s hlt)
        have w5 := w4 hy
        obtain ⟨D2, d1, d2, d3⟩ := q_newName (κ := κ) (b := b) (R := R) (Z := Z) (M := M) (O := O) (D := q_up D n (.inr (.inl (10, [.null])))) (a := n) (n := n + 1) (m := m + 1) h hy (by omega) ⟨hn, by omega⟩ (q_up_s _ _ _)
        have dD : ∀ x, x < n → D2 x = D x := fun x hx => by rw [d3 x (by omega) (by omega), q_up_n _ _ (by omega)]
        have e3' : b + 66 < a ∧ D2 a = some (.inr (.inl (5, [.int (nI 0), .ref a1, .ref a1, .ref a3, .int (nI 0), .int (nI 0)]))) := ⟨k1, by rw [dD a k2]; exact k3⟩
        have e4 : b + 66 < a ∧ q_up D2 a (.inr (.inl (5, [.int (nI 0), .ref a1, .ref n, .ref a3, .int (nI 0), .int (nI 0)]))) a = some (.inr (.inl (5, [.int (nI 0), .ref a1, .ref n, .ref a3, .int (nI 0), .int (nI 0)]))) := ⟨k1, q_up_s _ _ _⟩
        have h1 : q_TC B l z (q_u2 I 14 1 (nI (t + 1))) X Y := q_TC_I h (by rw [q_u2_n _ _ _ (by decide)])
        have ha1 : q_u2 I 14 1 (nI (t + 1)) 14 1 = nI (t + 1) := by rw [q_u2_s, q_u1_s]
        have c4 := q_takeNumber (κ := κ) (b := b) (R := R) (Z := Z) (M := M) (O := O) (D := q_up D2 a (.inr (.inl (5, [.int (nI 0), .ref a1, .ref n, .ref a3, .int (nI 0), .int (nI 0)])))) (s := (n + 1 + 1, m + 1 + ((q_tok l t).2.2.1 - (q_tok l t).2.1))) (lo := 1) (hi := 64) h1 ha1 (by omega)
        have hff : ∀ k p, q_ft (q_u2 I 14 1 (nI (t + 1))) k p 14 2 = k := fun k p => by simp (disch := first | rfl | omega | decide | exact Nat.le_of_ble_eq_true rfl) only [q_u2_s, q_u1_n, q_u1_s]
        have hfo : q_u2 I 14 1 (nI (t + 1)) 14 2 = 0 := by simp (disch := first | rfl | omega | decide | exact Nat.le_of_ble_eq_true rfl) only [q_u2_s, q_u1_n, hf]
        have hfo2 : q_u2 I 14 1 (nI (t + 2)) 14 2 = 0 := by simp (disch := first | rfl | omega | decide | exact Nat.le_of_ble_eq_true rfl) only [q_u2_s, q_u1_n, hf]
        have hu : q_u2 (q_u2 I 14 1 (nI (t + 1))) 14 1 (nI (t + 1 + 1)) = q_u2 I 14 1 (nI (t + 2)) := q_u2_u2 _ _ _ _ _
        by_cases hok : (q_tok l (t + 1)).1 = 2 ∧ 1 ≤ q_nv l (t + 1) ∧ q_nv l (t + 1) ≤ 64
        · rw [if_pos hok.1, if_pos hok.2]
          obtain ⟨v1, v2⟩ := q_vn_b (hi := 64) hwf hok.1 hok.2.1 hok.2.2 (by decide)
          have v3 : (q_nv l (t + 1)).toInt32 = nI (q_vn l (t + 1)) := by rw [(q_vn_e hwf hok.1).1, lN_i]
          rw [if_pos hok, if_pos hok.1, if_pos hok.2, hu] at c4
          have e5 : b + 66 < a ∧ q_up D2 a (.inr (.inl (5, [.int (nI 0), .ref a1, .ref n, .ref a3, .int (nI (q_vn l (t + 1))), .int (nI 0)]))) a = some (.inr (.inl (5, [.int (nI 0), .ref a1, .ref n, .ref a3, .int (nI (q_vn l (t + 1))), .int (nI 0)]))) := ⟨k1, q_up_s _ _ _⟩
          have c5 := q_widen (κ := κ) (C := (q_u2 I 14 1 (nI (t + 2)), R, X, Y, Z)) (M := M) (O := O) (s := (n + 1 + 1, m + 1 + ((q_tok l t).2.2.1 - (q_tok l t).2.1))) e5 v2
          rw [q_up_up] at c5
          have hlt1 := q_tok_lt (l := l) (t := t + 1) (by omega)
          refine ⟨q_up D2 a (.inr (.inl (5, [.int (nI 0), .ref a1, .ref n, .ref a3, .int (nI (q_vn l (t + 1))), .int (nI (q_nd (q_vn l (t + 1)) 6 1))]))), n + 1 + 1, m + 1 + ((q_tok l t).2.2.1 - (q_tok l t).2.1), fun x x1 x2 x3 => by rw [q_up_n _ _ x2, dD x x1], by omega, by omega, by omega, by omega, ?_, by omega, by omega, ?_⟩
          · simp (disch := first | rfl | omega | decide | exact Nat.le_of_ble_eq_true rfl) only [↓q_br, q_rt, q_rz, q_gd, q_ca, ↓reduceIte, F_X0_readRestOfKind, F_X0_readRegisters, F_X0_readRegisters_27, F_X0_readRegisters_106, ↓q_gA_19_0, ↓q_gA_19_1, ↓q_gI_14_1, ↓q_is_14, ↓q_is_19, ↓q_is_2, ↓q_pI_14_1, qd_I e3 (k := 0) (v := nI 0) rfl, s0, not_true_eq_false, c2, q_b_0, hy, decide_true, Bool.true_eq_false, ↓q_is_19, ↓q_is_14, ↓q_is_2, ↓q_gI_14_1, ha, c3, hlt2, not_false_eq_true, q_mk_H, reduceCtorEq, d1]
            rw [qd_W e3' (by simp)]
            simp only [List.set_cons_succ, List.set_cons_zero, va_rf]
            simp (disch := first | rfl | omega | decide | exact Nat.le_of_ble_eq_true rfl) only [↓q_br, q_rt, q_rz, q_gd, q_ca, ↓reduceIte, ↓q_gA_19_0, ↓q_gI_14_1, ↓q_pI_14_1, ↓q_is_14, ha, nI_1, c4, v3]
            rw [qd_W e4 (by simp)]
            simp only [List.set_cons_succ, List.set_cons_zero, q_up_up]
            simp (disch := first | rfl | omega | decide | exact Nat.le_of_ble_eq_true rfl) only [↓q_br, q_rt, q_rz, q_gd, q_ca, ↓reduceIte, qd_S e5, c5, ↓q_gA_19_0, ↓q_is_14, q_hasFault, hfo2, q_b_0, decide_true, Bool.not_true, not_true_eq_false, or_true]
          · obtain ⟨nb1, nb2, nb3⟩ := q_nd_b _ v2
            refine ⟨q_WK_i (by omega) nb1 nb2 v2 (fun h9 => by omega) (fun _ => ⟨nb3, v1⟩), a1, n, a3, g, k1, by omega, q_up_s _ _ _, ?_, ?_, k6, by omega, ?_, fun i nm' hi => by simp [q_kM] at hi⟩
            · exact q_CN_up (q_CN_mo k4 (by omega) (fun y _ hy => dD y hy)) e3'.2 rfl
            · exact q_CN_up d2 e3'.2 rfl
            · rw [q_up_n _ _ (Ne.symm n13), dD a3 k7]
              exact k8
        · have hok2 : ∃ k, (k = 1 ∨ k = 3) ∧ (if (q_tok l (t + 1)).1 = 2 then (if 1 ≤ q_nv l (t + 1) ∧ q_nv l (t + 1) ≤ 64 then (Sum.inr ((0, nm, q_tB B (q_tok l t), [], q_vn l (t + 1), q_nd (q_vn l (t + 1)) 6 1), t + 2) : q_Out (q_Knd × Nat)) else .inl (3, t + 1)) else .inl (1, t + 1)) = .inl (k, t + 1) ∧ (if (q_tok l (t + 1)).1 = 2 then (if 1 ≤ q_nv l (t + 1) ∧ q_nv l (t + 1) ≤ 64 then q_u2 (q_u2 I 14 1 (nI (t + 1))) 14 1 (nI (t + 1 + 1)) else q_ft (q_u2 I 14 1 (nI (t + 1))) 3 (nI (t + 1))) else q_ft (q_u2 I 14 1 (nI (t + 1))) 1 (nI (t + 1))) = q_ft (q_u2 I 14 1 (nI (t + 1))) (nI k) (nI (t + 1)) := by
            by_cases y1 : (q_tok l (t + 1)).1 = 2
            · have y2 : ¬ (1 ≤ q_nv l (t + 1) ∧ q_nv l (t + 1) ≤ 64) := fun y => hok ⟨y1, y⟩
              exact ⟨3, Or.inr rfl, by rw [if_pos y1, if_neg y2], by rw [if_pos y1, if_neg y2, i3]⟩
            · exact ⟨1, Or.inl rfl, by rw [if_neg y1], by rw [if_neg y1, i1]⟩
          obtain ⟨k, q1, q2, q3⟩ := hok2
          rw [q2]
          rw [if_neg hok, q3] at c4
          have v3 : (-1 : Int64).toInt32 = -1 := by decide
          have e5 : b + 66 < a ∧ q_up D2 a (.inr (.inl (5, [.int (nI 0), .ref a1, .ref n, .ref a3, .int (-1), .int (nI 0)]))) a = some (.inr (.inl (5, [.int (nI 0), .ref a1, .ref n, .ref a3, .int (-1), .int (nI 0)]))) := ⟨k1, q_up_s _ _ _⟩
          have c5 := q_widen_x (κ := κ) (C := (q_ft (q_u2 I 14 1 (nI (t + 1))) (nI k) (nI (t + 1)), R, X, Y, Z)) (M := M) (O := O) (s := (n + 1 + 1, m + 1 + ((q_tok l t).2.2.1 - (q_tok l t).2.1))) e5
          rw [q_up_up] at c5
          have hkn : ¬ nI k = 0 := by rcases q1 with rfl | rfl <;> decide
          refine ⟨q_up D2 a (.inr (.inl (5, [.int (nI 0), .ref a1, .ref n, .ref a3, .int (-1), .int 1]))), n + 1 + 1, m + 1 + ((q_tok l t).2.2.1 - (q_tok l t).2.1), fun x x1 x2 x3 => by rw [q_up_n _ _ x2, dD x x1], by omega, by omega, by omega, by omega, ?_, by omega, by omega⟩
          simp (disch := first | rfl | omega | decide | exact Nat.le_of_ble_eq_true rfl) only [↓q_br, q_rt, q_rz, q_gd, q_ca, ↓reduceIte, F_X0_readRestOfKind, F_X0_readRegisters, F_X0_readRegisters_27, F_X0_readRegisters_106, ↓q_gA_19_0, ↓q_gA_19_1, ↓q_gI_14_1, ↓q_is_14, ↓q_is_19, ↓q_is_2, ↓q_pI_14_1, qd_I e3 (k := 0) (v := nI 0) rfl, s0, not_true_eq_false, c2, q_b_0, hy, decide_true, Bool.true_eq_false, ↓q_is_19, ↓q_is_14, ↓q_is_2, ↓q_gI_14_1, ha, c3, hlt2, not_false_eq_true, q_mk_H, reduceCtorEq, d1]
          rw [qd_W e3' (by simp)]
          simp only [List.set_cons_succ, List.set_cons_zero, va_rf]
          simp (disch := first | rfl | omega | decide | exact Nat.le_of_ble_eq_true rfl) only [↓q_br, q_rt, q_rz, q_gd, q_ca, ↓reduceIte, ↓q_gA_19_0, ↓q_gI_14_1, ↓q_pI_14_1, ↓q_is_14, ha, nI_1, c4, v3]
          rw [qd_W e4 (by simp)]
          simp only [List.set_cons_succ, List.set_cons_zero, q_up_up]
          simp (disch := first | rfl | omega | decide | exact Nat.le_of_ble_eq_true rfl) only [↓q_br, q_rt, q_rz, q_gd, q_ca, ↓reduceIte, qd_S e5, c5, ↓q_gA_19_0, ↓q_is_14, q_hasFault, hff, q_b_0, hkn, decide_false, Bool.not_false, not_false_eq_true, true_or, Bool.true_eq_false]
      · rw [if_neg (fun y => hlt2 y.2)]
        have hlt3 : q_lt B (q_tok l t) = false := by simpa using hlt2
        refine ⟨D, n, m, fun _ _ _ _ => rfl, Nat.le_refl _, by omega, Nat.le_refl _, by omega, ?_, by decide, by decide⟩
        rw [hI]
        simp (disch := first | rfl | omega | decide | exact Nat.le_of_ble_eq_true rfl) only [↓q_br, q_rt, q_rz, q_gd, q_ca, ↓reduceIte, F_X0_readRestOfKind, F_X0_readRegisters, F_X0_readRegisters_27, ↓q_gA_19_0, ↓q_gA_19_1, ↓q_gI_14_1, ↓q_is_14, ↓q_is_19, ↓q_is_2, ↓q_pI_14_1, qd_I e3 (k := 0) (v := nI 0) rfl, s0, not_true_eq_false, c2, q_b_0, hy, decide_true, Bool.true_eq_false, ↓q_is_19, ↓q_is_14, ↓q_is_2, ↓q_gI_14_1, ha, c3, hlt3, hfl, true_or, i1]
    · rw [if_neg (fun y => hy y.1)]
      refine ⟨D, n, m, fun _ _ _ _ => rfl, Nat.le_refl _, by omega, Nat.le_refl _, by omega, ?_, by decide, by decide⟩
      rw [hI]
      simp (disch := first | rfl | omega | decide | exact Nat.le_of_ble_eq_true rfl) only [↓q_br, q_rt, q_rz, q_gd, q_ca, ↓reduceIte, F_X0_readRestOfKind, F_X0_readRegisters, F_X0_readRegisters_27, ↓q_gA_19_0, ↓q_gA_19_1, ↓q_gI_14_1, ↓q_is_14, ↓q_is_19, ↓q_is_2, ↓q_pI_14_1, qd_I e3 (k := 0) (v := nI 0) rfl, s0, not_true_eq_false, c2, q_b_0, hy, decide_false, ↓q_is_19, ↓q_is_14, hfl, true_or, i1]
  · rw [if_neg hs0]
    by_cases hs4 : so = 4
    · rw [if_pos hs4]
      subst hs4
      obtain ⟨D', n', m', r1, r2, r3, r4, r5, r6⟩ := q_readMembers_2 (κ := κ) (R := R) (Z := Z) (M := M) (O := O) (l.length + 1) q_fu t I D n m a a1 a1 a3 g nm nm [] 0 h ha ht (by omega) (by simp) (by simp) (by unfold q_fu; omega) hn hk0
      simp only [List.length_nil] at r3 r5 r6
      rw [i0] at r6
      refine ⟨D', n', m', r1, r2, by omega, r4, by omega, ?_⟩
      cases hq : q_mset B l (l.length + 1) [] t with
      | inl e =>
        obtain ⟨k, p⟩ := e
        rw [hq] at r6
        obtain ⟨r6, r7⟩ := r6
        refine ⟨?_, r7⟩
        simp (disch := first | rfl | omega | decide | exact Nat.le_of_ble_eq_true rfl) only [↓q_br, q_rt, q_rz, q_gd, q_ca, ↓reduceIte, F_X0_readRestOfKind, F_X0_readMembers, ↓q_gA_19_0, ↓q_is_14, ↓q_is_19, qd_I e3 (k := 0) (v := nI 4) rfl, s0, hs0, s4, not_false_eq_true, not_true_eq_false, ↓q_is_19, r6, true_or]
      | inr e =>
        obtain ⟨mem', t'⟩ := e
        rw [hq] at r6
        obtain ⟨r6, r7, r8, r9, r10, g', r11⟩ := r6
        refine ⟨?_, r7, r8, ?_⟩
        · simp (disch := first | rfl | omega | decide | exact Nat.le_of_ble_eq_true rfl) only [↓q_br, q_rt, q_rz, q_gd, q_ca, ↓reduceIte, F_X0_readRestOfKind, F_X0_readMembers, ↓q_gA_19_0, ↓q_is_14, ↓q_is_19, qd_I e3 (k := 0) (v := nI 4) rfl, s0, hs0, s4, not_false_eq_true, not_true_eq_false, ↓q_is_19, r6, or_true]
        · obtain ⟨nb1, nb2, nb3⟩ := q_nd_b mem'.length (by omega)
          have q1 : mem'.length ≤ 64 := by omega
          have q2 : 1 ≤ mem'.length := by omega
          exact ⟨q_WK_i (by omega) nb1 nb2 q1 (fun _ => ⟨rfl, r9⟩) (fun _ => ⟨nb3, q2⟩), a1, a1, a3, g', r11⟩
    · rw [if_neg hs4]
      have c4 := q_takeNumber (κ := κ) (b := b) (R := R) (Z := Z) (M := M) (O := O) (D := D) (s := (n, m)) (lo := 1) (hi := 32) h ha (by omega)
      have hff : ∀ k p, q_ft I k p 14 2 = k := fun k p => by simp (disch := first | rfl | omega | decide | exact Nat.le_of_ble_eq_true rfl) only [q_u2_s, q_u1_n, q_u1_s]
      have hfo : q_u2 I 14 1 (nI (t + 1)) 14 2 = 0 := by simp (disch := first | rfl | omega | decide | exact Nat.le_of_ble_eq_true rfl) only [q_u2_s, q_u1_n, hf]
      by_cases hok : (q_tok l t).1 = 2 ∧ 1 ≤ q_nv l t ∧ q_nv l t ≤ 32
      · rw [if_pos hok.1, if_pos hok.2]
        obtain ⟨v1, v2⟩ := q_vn_b (hi := 32) hwf hok.1 hok.2.1 hok.2.2 (by decide)
        have v3 : (q_nv l t).toInt32 = nI (q_vn l t) := by rw [(q_vn_e hwf hok.1).1, lN_i]
        rw [if_pos hok, if_pos hok.1, if_pos hok.2] at c4
        have hlt := q_tok_lt (l := l) (t := t) (by omega)
        refine ⟨q_up D a (.inr (.inl (5, [.int (nI so), .ref a1, .ref a1, .ref a3, .int (nI 0), .int (nI (q_vn l t))]))), n, m, fun x _ x2 _ => q_up_n _ _ x2, Nat.le_refl _, by omega, Nat.le_refl _, by omega, ?_, by omega, by omega, ?_⟩
        · simp (disch := first | rfl | omega | decide | exact Nat.le_of_ble_eq_true rfl) only [↓q_br, q_rt, q_rz, q_gd, q_ca, ↓reduceIte, F_X0_readRestOfKind, F_X0_readRestOfKind_58, ↓q_gA_19_0, ↓q_is_14, ↓q_is_19, qd_I e3 (k := 0) (v := nI so) rfl, s0, hs0, s4, hs4, not_false_eq_true, ↓q_is_14, c4, v3]
          rw [qd_W e3 (by simp)]
          simp only [List.set_cons_succ, List.set_cons_zero]
          simp (disch := first | rfl | omega | decide | exact Nat.le_of_ble_eq_true rfl) only [↓q_br, q_rt, q_rz, q_gd, q_ca, ↓reduceIte, ↓q_gA_19_0, ↓q_is_14, q_hasFault, hfo, q_b_0, decide_true, Bool.not_true, not_true_eq_false, or_true]
        · refine ⟨q_WK_i hso v1 v2 (by omega) (fun h9 => absurd h9 hs4) (fun h9 => by omega), a1, a1, a3, g, k1, k2, q_up_s _ _ _, q_CN_up k4 k3 rfl, q_CN_up k4 k3 rfl, k6, k7, ?_, fun i nm' hi => by simp [q_kM] at hi⟩
          rw [q_up_n _ _ (Ne.symm n13)]
          exact k8
      · have hok2 : ∃ k, (k = 1 ∨ k = 3) ∧ (if (q_tok l t).1 = 2 then (if 1 ≤ q_nv l t ∧ q_nv l t ≤ 32 then (Sum.inr ((so, nm, nm, [], 0, q_vn l t), t + 1) : q_Out (q_Knd × Nat)) else .inl (3, t)) else .inl (1, t)) = .inl (k, t) ∧ (if (q_tok l t).1 = 2 then (if 1 ≤ q_nv l t ∧ q_nv l t ≤ 32 then q_u2 I 14 1 (nI (t + 1)) else q_ft I 3 (nI t)) else q_ft I 1 (nI t)) = q_ft I (nI k) (nI t) := by
          by_cases y1 : (q_tok l t).1 = 2
          · have y2 : ¬ (1 ≤ q_nv l t ∧ q_nv l t ≤ 32) := fun y => hok ⟨y1, y⟩
            exact ⟨3, Or.inr rfl, by rw [if_pos y1, if_neg y2], by rw [if_pos y1, if_neg y2, i3]⟩
          · exact ⟨1, Or.inl rfl, by rw [if_neg y1], by rw [if_neg y1, i1]⟩
        obtain ⟨k, q1, q2, q3⟩ := hok2
        rw [q2]
        rw [if_neg hok, q3] at c4
        have v3 : (-1 : Int64).toInt32 = -1 := by decide
        have hkn : ¬ nI k = 0 := by rcases q1 with rfl | rfl <;> decide
        refine ⟨q_up D a (.inr (.inl (5, [.int (nI so), .ref a1, .ref a1, .ref a3, .int (nI 0), .int (-1)]))), n, m, fun x _ x2 _ => q_up_n _ _ x2, Nat.le_refl _, by omega, Nat.le_refl _, by omega, ?_, by omega, by omega⟩
        rw [hI]
        simp (disch := first | rfl | omega | decide | exact Nat.le_of_ble_eq_true rfl) only [↓q_br, q_rt, q_rz, q_gd, q_ca, ↓reduceIte, F_X0_readRestOfKind, F_X0_readRestOfKind_58, ↓q_gA_19_0, ↓q_is_14, ↓q_is_19, qd_I e3 (k := 0) (v := nI so) rfl, s0, hs0, s4, hs4, not_false_eq_true, ↓q_is_14, c4, v3]
        rw [qd_W e3 (by simp)]
        simp only [List.set_cons_succ, List.set_cons_zero]
        simp (disch := first | rfl | omega | decide | exact Nat.le_of_ble_eq_true rfl) only [↓q_br, q_rt, q_rz, q_gd, q_ca, ↓reduceIte, ↓q_gA_19_0, ↓q_is_14, q_hasFault, hff, q_b_0, hkn, decide_false, Bool.not_false, not_false_eq_true, true_or, Bool.true_eq_false]
end QKD
