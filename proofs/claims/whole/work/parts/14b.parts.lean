def q_p1 (B : Nat → Int32) (l : List q_Tok) (L : List q_Knd) (ps : List Int32) (os : q_Ops) (t : Nat) : q_Out (List Int32 × q_Ops × Nat) :=
  if (q_tok l t).1 = 1 then (if (q_oi B l t os).isSome = true then .inl (2, t) else if ps.length = 12 ∨ os.length = 5 then .inl (3, t) else if q_sgn l (t + 1) 58 = true then (if (q_tok l (t + 2)).1 = 1 then (match q_fi (fun i => decide (q_tB B (q_tok l (t + 2)) = q_kN (q_kg L i))) L.length 0 with
      | some k => .inr (ps ++ [-1 - nI os.length], os ++ [(q_tB B (q_tok l t), k)], t + 3)
      | none => .inl (2, t + 2)) else .inl (1, t + 2)) else .inl (1, t + 1))
  else if q_psg l t = true then (if ps.length = 12 then .inl (3, t) else .inr (ps ++ [(q_nv l t).toInt32], os, t + 1)) else .inl (1, t)
section QIB
variable {κ : Nat → Nat} {b : Nat} {B : Nat → Int32} {l : List q_Tok} {z t : Nat} {R : Nat → Nat → Option Nat} {X : Nat → Nat → Int32} {Y : Nat → Nat → Int64} {Z : Nat → Nat → Option Nat} {C : q_CT} {M : q_MT} {O : Nat → Int64}
theorem q_CIo_mo {n n' nk a : Nat} {D D' : q_Mem} {mn : q_Nam} {ps : List Int32} {os : q_Ops} {wc dc : Nat} {fm fd : Nat → Int64} {fs : Nat → Int32} (h : q_CIo b n D Z nk a mn ps os wc dc fm fd fs) (hn : n ≤ n') (hD : ∀ x, b < x → x < n → D' x = D x) : q_CIo b n' D' Z nk a mn ps os wc dc fm fd fs := by
  obtain ⟨k1, k2, k3, k4, k5, k6, k7, fp, fo, fk, k8, k9, k10, k11, k12⟩ := h
  refine ⟨k1, by omega, by rw [hD _ (by omega) (by omega), k3], q_CN_mo k4 hn hD, by rw [hD _ (by omega) (by omega), k5], by rw [hD _ (by omega) (by omega), k6], by rw [hD _ (by omega) (by omega), k7], fp, fo, fk, by rw [hD _ (by omega) (by omega), k8], by rw [hD _ (by omega) (by omega), k9], by rw [hD _ (by omega) (by omega), k10], k11, fun i x hx => ?_⟩
  obtain ⟨a', y1, y2, y3⟩ := k12 i x hx
  exact ⟨a', y1, q_CN_mo y2 hn hD, y3⟩
theorem q_addOperand {D : q_Mem} {s : Nat × Nat} {n nk a an ka k : Nat} {mn nm : q_Nam} {ps : List Int32} {os : q_Ops} {wc dc : Nat} {fm fd : Nat → Int64} {fs : Nat → Int32} {fv : List Value} (hk : q_CIo b n D Z nk a mn ps os wc dc fm fd fs) (hp : ps.length < 12) (ho : os.length < 5) (hn : q_CN b n D an nm) (hz : Z 9 k = some ka) (hD : b + 66 < ka ∧ D ka = some (.inr (.inl (5, fv)))) (hkn : k < nk) : ∃ D', F_X1_addOperand κ (some a) (some an) (some ka) (q_H b C M O D, s) = some (.inl (), (q_H b C M O D', s)) ∧ q_CIo b n D' Z nk a mn (ps ++ [-1 - nI os.length]) (os ++ [(nm, k)]) wc dc fm fd fs ∧ (∀ x, x ≠ a → x ≠ a + 3 → x ≠ a + 4 → x ≠ a + 5 → D' x = D x) := by
  have hk0 := hk
  obtain ⟨k1, k2, k3, k4, k5, k6, k7, fp, fo, fk, k8, k9, k10, k11, k12⟩ := hk
  have e3 : b + 66 < a ∧ D a = some (.inr (.inl (4, [.ref (a + 1), .ref (a + 3), .ref (a + 4), .ref (a + 5), .ref (a + 6), .ref (a + 7), .ref (a + 8), .int (nI ps.length), .int (nI os.length), .int (nI wc), .int (nI dc)]))) := ⟨k1, k3⟩
  obtain ⟨la, hn2⟩ := q_CN_o hn
  have e4 : b + 66 < a + 4 ∧ D (a + 4) = some (.inl (6, 5, .inr (.inr (.inr (.inr fo))))) := ⟨by omega, k9⟩
  obtain ⟨D1, hD1⟩ : ∃ D1, D1 = q_up D (a + 4) (.inl (6, 5, .inr (.inr (.inr (.inr (q_u1 fo os.length (some an))))))) := ⟨_, rfl⟩
  have hka : ka ≠ a + 4 := by
    rintro rfl
    rw [k9] at hD
    cases hD.2
  have hka5 : ka ≠ a + 5 := by
    rintro rfl
    rw [k10] at hD
    cases hD.2
  have e3' : b + 66 < a ∧ D1 a = some (.inr (.inl (4, [.ref (a + 1), .ref (a + 3), .ref (a + 4), .ref (a + 5), .ref (a + 6), .ref (a + 7), .ref (a + 8), .int (nI ps.length), .int (nI os.length), .int (nI wc), .int (nI dc)]))) := ⟨k1, by rw [hD1, q_up_n _ _ (by omega), k3]⟩
  have e5 : b + 66 < a + 5 ∧ D1 (a + 5) = some (.inl (5, 5, .inr (.inr (.inr (.inr fk))))) := ⟨by omega, by rw [hD1, q_up_n _ _ (by omega), k10]⟩
  have e6 : b + 66 < ka ∧ D1 ka = some (.inr (.inl (5, fv))) := ⟨hD.1, by rw [hD1, q_up_n _ _ hka, hD.2]⟩
  obtain ⟨D2, hD2⟩ : ∃ D2, D2 = q_up D1 (a + 5) (.inl (5, 5, .inr (.inr (.inr (.inr (q_u1 fk os.length (some ka))))))) := ⟨_, rfl⟩
  have hcn : ∀ x nm', q_CN b n D x nm' → q_CN b n D2 x nm' := fun x nm' hx => by
    rw [hD2, hD1]
    refine q_CN_up (q_CN_up hx k9 rfl) ?_ (rfl : q_nmc (.inl (5, 5, .inr (.inr (.inr (.inr fk))))) = false)
    rw [q_up_n _ _ (by omega), k10]
  have f2 : ∀ x, x ≠ a + 4 → x ≠ a + 5 → D2 x = D x := fun x x1 x2 => by rw [hD2, q_up_n _ _ x2, hD1, q_up_n _ _ x1]
  have c2 : q_CIo b n D2 Z nk a mn ps os wc dc fm fd fs := by
    refine ⟨k1, k2, by rw [f2 _ (by omega) (by omega), k3], hcn _ _ k4, by rw [f2 _ (by omega) (by omega), k5], by rw [f2 _ (by omega) (by omega), k6], by rw [f2 _ (by omega) (by omega), k7], fp, q_u1 fo os.length (some an), q_u1 fk os.length (some ka), by rw [f2 _ (by omega) (by omega), k8], by rw [hD2, q_up_n _ _ (by omega), hD1, q_up_s], by rw [hD2, q_up_s], k11, fun i x hx => ?_⟩
    have hi := (List.getElem?_eq_some_iff.mp hx).1
    obtain ⟨a', y1, y2, y3, y4⟩ := k12 i x hx
    exact ⟨a', by rw [q_u1_n _ _ (by omega), y1], hcn _ _ y2, by rw [q_u1_n _ _ (by omega), y3], y4⟩
  obtain ⟨D3, r1, r2, r3⟩ := q_addPart (κ := κ) (C := C) (M := M) (O := O) (s := s) (v := -1 - nI os.length) c2 hp
  have e7 : b + 66 < a ∧ D2 a = some (.inr (.inl (4, [.ref (a + 1), .ref (a + 3), .ref (a + 4), .ref (a + 5), .ref (a + 6), .ref (a + 7), .ref (a + 8), .int (nI ps.length), .int (nI os.length), .int (nI wc), .int (nI dc)]))) := ⟨k1, c2.2.2.1⟩
  obtain ⟨q1, q2, q3, q4, q5, q6, q7, gp, go, gk, q8, q9, q10, q11, q12⟩ := r2
  have hgo : go = q_u1 fo os.length (some an) := by
    rw [r3 (a + 4) (by omega) (by omega), hD2, q_up_n _ _ (by omega), hD1, q_up_s] at q9
    cases q9
    rfl
  have hgk : gk = q_u1 fk os.length (some ka) := by
    rw [r3 (a + 5) (by omega) (by omega), hD2, q_up_s] at q10
    cases q10
    rfl
  have e8 : b + 66 < a ∧ D3 a = some (.inr (.inl (4, [.ref (a + 1), .ref (a + 3), .ref (a + 4), .ref (a + 5), .ref (a + 6), .ref (a + 7), .ref (a + 8), .int (nI (ps ++ [-1 - nI os.length]).length), .int (nI os.length), .int (nI wc), .int (nI dc)]))) := ⟨k1, q3⟩
  have hlen : (os ++ [(nm, k)]).length = os.length + 1 := by simp
  refine ⟨q_up D3 a (.inr (.inl (4, [.ref (a + 1), .ref (a + 3), .ref (a + 4), .ref (a + 5), .ref (a + 6), .ref (a + 7), .ref (a + 8), .int (nI (ps ++ [-1 - nI os.length]).length), .int (nI (os.length + 1)), .int (nI wc), .int (nI dc)]))), ?_, ?_, ?_⟩
  · simp (disch := first | rfl | omega | decide | exact Nat.le_of_ble_eq_true rfl) only [↓q_br, q_rt, q_rz, q_gd, q_ca, ↓reduceIte, F_X1_addOperand, qd_A e3 (k := 2) (r := some (a + 4)) rfl, qd_I e3 (k := 8) (v := nI os.length) rfl]
    rw [qd_sT e4 hn2 (by omega) (by decide), ← hD1]
    simp (disch := first | rfl | omega | decide | exact Nat.le_of_ble_eq_true rfl) only [↓q_br, q_rt, q_rz, q_gd, q_ca, ↓reduceIte, qd_A e3' (k := 3) (r := some (a + 5)) rfl, qd_I e3' (k := 8) (v := nI os.length) rfl]
    rw [qd_sT e5 e6 (by omega) (by decide), ← hD2]
    simp (disch := first | rfl | omega | decide | exact Nat.le_of_ble_eq_true rfl) only [↓q_br, q_rt, q_rz, q_gd, q_ca, ↓reduceIte, qd_I e7 (k := 8) (v := nI os.length) rfl, qd_S e7, r1, qd_I e8 (k := 8) (v := nI os.length) rfl, nI_1]
    rw [qd_W e8 (by simp)]
    rfl
  · have hcn3 : ∀ x nm', q_CN b n D3 x nm' → q_CN b n (q_up D3 a (.inr (.inl (4, [.ref (a + 1), .ref (a + 3), .ref (a + 4), .ref (a + 5), .ref (a + 6), .ref (a + 7), .ref (a + 8), .int (nI (ps ++ [-1 - nI os.length]).length), .int (nI (os.length + 1)), .int (nI wc), .int (nI dc)])))) x nm' := fun x nm' hx => q_CN_up hx q3 rfl
    have hcn23 : ∀ x nm', q_CN b n D2 x nm' → q_CN b n D3 x nm' := by
      intro x nm' hx
      obtain ⟨lx, fx, x1, x2, x3, x4, x5, x6, x7⟩ := hx
      have y1 : x ≠ a := by rintro rfl; rw [e7.2] at x5; cases x5
      have y2 : x ≠ a + 3 := by rintro rfl; rw [f2 _ (by omega) (by omega), k8] at x5; cases x5
      have y3 : lx ≠ a := by rintro rfl; rw [e7.2] at x6; cases x6
      have y4 : lx ≠ a + 3 := by rintro rfl; rw [f2 _ (by omega) (by omega), k8] at x6; cases x6
      exact ⟨lx, fx, x1, x2, x3, x4, by rw [r3 _ y1 y2, x5], by rw [r3 _ y3 y4, x6], x7⟩
    refine ⟨k1, k2, by rw [q_up_s, hlen], hcn3 _ _ q4, by rw [q_up_n _ _ (by omega), q5], by rw [q_up_n _ _ (by omega), q6], by rw [q_up_n _ _ (by omega), q7], gp, go, gk, by rw [q_up_n _ _ (by omega), q8], by rw [q_up_n _ _ (by omega), q9], by rw [q_up_n _ _ (by omega), q10], q11, fun i x hx => ?_⟩
    by_cases hil : i < os.length
    · rw [List.getElem?_append_left hil] at hx
      obtain ⟨a', y1, y2, y3⟩ := q12 i x hx
      exact ⟨a', y1, hcn3 _ _ y2, y3⟩
    · have hie : i = os.length := by
        have := (List.getElem?_eq_some_iff.mp hx).1
        rw [hlen] at this
        omega
      subst hie
      rw [List.getElem?_append_right (Nat.le_refl _), Nat.sub_self] at hx
      simp only [List.getElem?_cons_zero, Option.some.injEq] at hx
      subst hx
      exact ⟨an, by rw [hgo, q_u1_s], hcn3 _ _ (hcn23 _ _ (hcn _ _ hn)), by rw [hgk, q_u1_s, hz], hkn⟩
  · intro x x1 x2 x3 x4
    rw [q_up_n _ _ x1, r3 x x1 x2, f2 x x3 x4]
theorem q_readPart {I : Nat → Nat → Int32} {D : q_Mem} {n m a : Nat} {L : List q_Knd} {mn : q_Nam} {ps : List Int32} {os : q_Ops} {wc dc : Nat} {fm fd : Nat → Int64} {fs : Nat → Int32} (h : q_TC B l z I X Y) (hK : q_Kp κ b D) (ha : I 14 1 = nI t) (ht : t ≤ l.length) (hn : b + 66 < n) (hR : R 19 3 = some a) (hk : q_CMk b n D I Z L) (hc : q_CIo b n D Z L.length a mn ps os wc dc fm fd fs) (hp : ps.length ≤ 12) (ho : os.length ≤ 5) :
    ∃ D' n' m', (∀ x, x < n → x ≠ a → x ≠ a + 3 → x ≠ a + 4 → x ≠ a + 5 → D' x = D x) ∧ n ≤ n' ∧ n' ≤ n + 2 ∧ m ≤ m' ∧ m' ≤ m + 21 ∧ (match q_p1 B l L ps os t with
      | .inl (k, p) => F_X0_readPart κ (some (b + 19)) (q_H b (I, R, X, Y, Z) M O D, n, m) = some (.inl (), (q_H b (q_ft (q_u2 I 14 1 (nI p)) (nI k) (nI p), R, X, Y, Z) M O D', n', m')) ∧ 1 ≤ k ∧ k ≤ 3
      | .inr (ps', os', t') => F_X0_readPart κ (some (b + 19)) (q_H b (I, R, X, Y, Z) M O D, n, m) = some (.inl (), (q_H b (q_u2 I 14 1 (nI t'), R, X, Y, Z) M O D', n', m')) ∧ t < t' ∧ t' ≤ l.length ∧ ps'.length ≤ 12 ∧ os'.length ≤ 5 ∧ q_CIo b n' D' Z L.length a mn ps' os' wc dc fm fd fs) := by
  have hz := h.2.2.1
  have hl := h.2.1
  have hwf := h.2.2.2.2.1
  have hI : q_u2 I 14 1 (nI t) = I := q_u2_id _ _ _ ha
  have i1 : nI 1 = 1 := rfl
  have i2 : nI 2 = 2 := rfl
  have i3 : nI 3 = 3 := rfl
  have e3 : b + 66 < a ∧ D a = some (.inr (.inl (4, [.ref (a + 1), .ref (a + 3), .ref (a + 4), .ref (a + 5), .ref (a + 6), .ref (a + 7), .ref (a + 8), .int (nI ps.length), .int (nI os.length), .int (nI wc), .int (nI dc)]))) := ⟨hc.1, hc.2.2.1⟩
  have c2 := q_isAtName (κ := κ) (b := b) (R := R) (Z := Z) (M := M) (O := O) (D := D) (s := (n, m)) h ha (by omega)
  have hfl := fun k => q_fail (κ := κ) (b := b) (R := R) (X := X) (Y := Y) (Z := Z) (M := M) (O := O) (D := D) (s := (n, m)) (k := k) ha
  have p12 : (nI ps.length = (12 : Int32)) ↔ ps.length = 12 := nI_eq (b := 12) (by omega) (by decide)
  have o5 : (nI os.length = (5 : Int32)) ↔ os.length = 5 := nI_eq (b := 5) (by omega) (by decide)
  have start : F_X0_readPart κ (some (b + 19)) (q_H b (I, R, X, Y, Z) M O D, n, m) = F_X0_readPart_17 κ (some (b + 19)) (if ps.length = 12 then 1 else 0) (q_H b (I, R, X, Y, Z) M O D, n, m) := by
    simp (disch := first | rfl | omega | decide | exact Nat.le_of_ble_eq_true rfl) only [↓q_br, q_rt, q_rz, q_gd, q_ca, ↓reduceIte, F_X0_readPart, ↓q_gA_19_3, hR, qd_I e3 (k := 7) (v := nI ps.length) rfl, p12]
    by_cases h9 : ps.length = 12 <;> simp [h9]
  rw [start]
  have one0 : ¬ (1 : Int32) = 0 := by decide
  unfold q_p1
  by_cases hy : (q_tok l t).1 = 1
  · rw [if_pos hy]
    have hlt := q_tok_lt (l := l) (t := t) (by omega)
    have c3 := q_operandNamed (κ := κ) (R := R) (M := M) (O := O) (s := (n, m)) h hy hc ho
    have c4 := q_oi_neg (B := B) (l := l) (t := t) ho
    cases hq : q_oi B l t os with
    | some i =>
      have c5 : ¬ q_oi B l t os = none := by rw [hq]; simp
      simp only [Option.isSome_some, if_true]
      refine ⟨D, n, m, fun _ _ _ _ _ _ => rfl, Nat.le_refl _, by omega, Nat.le_refl _, by omega, ?_, by decide, by decide⟩
      rw [hI]
      simp (disch := first | rfl | omega | decide | exact Nat.le_of_ble_eq_true rfl) only [↓q_br, q_rt, q_rz, q_gd, q_ca, ↓reduceIte, F_X0_readPart_17, F_X0_readPart_173, ↓q_gA_19_0, ↓q_gA_19_1, ↓q_gA_19_3, ↓q_gA_2_4, ↓q_gI_14_1, ↓q_is_14, ↓q_is_19, ↓q_lL_7, ↓q_pI_14_1, ↓q_is_14, ↓q_gI_14_1, ha, c2, q_b_0, hy, decide_true, Bool.true_eq_false, hR, qd_S e3, c3, c4, c5, hfl, i2]
    | none =>
      have c4n := c4.mpr hq
      simp only [Option.isSome_none, Bool.false_eq_true, if_false]
      by_cases hfull : ps.length = 12 ∨ os.length = 5
      · rw [if_pos hfull]
        refine ⟨D, n, m, fun _ _ _ _ _ _ => rfl, Nat.le_refl _, by omega, Nat.le_refl _, by omega, ?_, by decide, by decide⟩
        rw [hI]
        by_cases h12 : ps.length = 12
        · simp (disch := first | rfl | omega | decide | exact Nat.le_of_ble_eq_true rfl) only [↓q_br, q_rt, q_rz, q_gd, q_ca, ↓reduceIte, F_X0_readPart_17, F_X0_readPart_173, F_X0_readPart_76, ↓q_gA_19_0, ↓q_gA_19_1, ↓q_gA_19_3, ↓q_gA_2_4, ↓q_gI_14_1, ↓q_is_14, ↓q_is_19, ↓q_lL_7, ↓q_pI_14_1, ↓q_is_14, ↓q_gI_14_1, ha, c2, q_b_0, hy, decide_true, Bool.true_eq_false, hR, qd_S e3, c3, c4n, h12, one0, not_false_eq_true, hfl, i3]
        · have h5 : os.length = 5 := hfull.resolve_left h12
          have h5' : (nI os.length = (5 : Int32)) = True := eq_true (o5.mpr h5)
          simp (disch := first | rfl | omega | decide | exact Nat.le_of_ble_eq_true rfl) only [↓q_br, q_rt, q_rz, q_gd, q_ca, ↓reduceIte, F_X0_readPart_17, F_X0_readPart_173, F_X0_readPart_76, ↓q_gA_19_0, ↓q_gA_19_1, ↓q_gA_19_3, ↓q_gA_2_4, ↓q_gI_14_1, ↓q_is_14, ↓q_is_19, ↓q_lL_7, ↓q_pI_14_1, ↓q_is_14, ↓q_gI_14_1, ha, c2, q_b_0, hy, decide_true, Bool.true_eq_false, hR, qd_S e3, c3, c4n, h12, not_true_eq_false, qd_I e3 (k := 8) (v := nI os.length) rfl, h5', not_true_eq_false, hfl, i3]
      · rw [if_neg hfull]
        have h12 : ¬ ps.length = 12 := fun h => hfull (Or.inl h)
        have h5 : ¬ os.length = 5 := fun h => hfull (Or.inr h)
        have h1 : q_TC B l z (q_u2 I 14 1 (nI (t + 1))) X Y := q_TC_I h (by rw [q_u2_n _ _ _ (by decide)])
        have ha1 : q_u2 I 14 1 (nI (t + 1)) 14 1 = nI (t + 1) := by rw [q_u2_s, q_u1_s]
        have hu : ∀ u v, q_u2 (q_u2 I 14 1 u) 14 1 v = q_u2 I 14 1 v := fun u v => q_u2_u2 _ _ _ _ _
        have c6 := q_take (κ := κ) (b := b) (R := R) (Z := Z) (M := M) (O := O) (D := D) (s := (n, m)) (c := 58) h1 ha1 (by omega)
        have step : F_X0_readPart_17 κ (some (b + 19)) (if ps.length = 12 then 1 else 0) (q_H b (I, R, X, Y, Z) M O D, n, m) = q_ca (F_X0_readOperand κ (some (b + 19))) (fun _ => F_X0_readPart_173 κ) (q_H b (I, R, X, Y, Z) M O D, n, m) := by
          simp (disch := first | rfl | omega | decide | exact Nat.le_of_ble_eq_true rfl) only [↓q_br, q_rt, q_rz, q_gd, q_ca, ↓reduceIte, F_X0_readPart_17, ↓q_gA_19_0, ↓q_gA_19_1, ↓q_gA_19_3, ↓q_gA_2_4, ↓q_gI_14_1, ↓q_is_14, ↓q_is_19, ↓q_lL_7, ↓q_pI_14_1, ↓q_is_14, ↓q_is_19, ↓q_gI_14_1, ha, c2, q_b_0, hy, decide_true, Bool.true_eq_false, hR, qd_S e3, c3, c4n, h12, not_true_eq_false, qd_I e3 (k := 8) (v := nI os.length) rfl, o5, h5, not_false_eq_true]
        rw [step]
        by_cases hs : q_sgn l (t + 1) 58 = true
        · rw [if_pos hs]
          rw [if_pos hs, hu] at c6
          have hlt1 := q_tok_lt (l := l) (t := t + 1) (by have := (of_decide_eq_true hs).1; omega)
          have h2 : q_TC B l z (q_u2 I 14 1 (nI (t + 1 + 1))) X Y := q_TC_I h (by rw [q_u2_n _ _ _ (by decide)])
          have ha2 : q_u2 I 14 1 (nI (t + 1 + 1)) 14 1 = nI (t + 1 + 1) := by rw [q_u2_s, q_u1_s]
          have c7 := q_isAtName (κ := κ) (b := b) (R := R) (Z := Z) (M := M) (O := O) (D := D) (s := (n, m)) h2 ha2 (by omega)
          have hfl2 := fun k => q_fail (κ := κ) (b := b) (R := R) (X := X) (Y := Y) (Z := Z) (M := M) (O := O) (D := D) (s := (n, m)) (k := k) ha2
          by_cases hy2 : (q_tok l (t + 2)).1 = 1
          · rw [if_pos hy2]
            have hlt2 := q_tok_lt (l := l) (t := t + 2) (by omega)
            have hk2 : q_CMk b n D (q_u2 I 14 1 (nI (t + 1 + 1))) Z L := ⟨by rw [q_u2_n _ _ _ (by decide), hk.1], hk.2⟩
            have c8 := q_kindNamed (κ := κ) (R := R) (M := M) (O := O) (s := (n, m)) (t := t + 1 + 1) h2 hy2 hk2
            cases hq2 : q_fi (fun i => decide (q_tB B (q_tok l (t + 2)) = q_kN (q_kg L i))) L.length 0 with
            | none =>
              rw [hq2, Option.bind_none] at c8
              refine ⟨D, n, m, fun _ _ _ _ _ _ => rfl, Nat.le_refl _, by omega, Nat.le_refl _, by omega, ?_, by decide, by decide⟩
              simp (disch := first | rfl | omega | decide | exact Nat.le_of_ble_eq_true rfl) only [↓q_br, q_rt, q_rz, q_gd, q_ca, ↓reduceIte, F_X0_readOperand, F_X0_readPart_173, ↓q_gA_19_0, ↓q_gA_19_1, ↓q_gA_19_2, ↓q_gA_19_3, ↓q_gI_14_1, ↓q_is_14, ↓q_is_8, ↓q_pI_14_1, ↓q_is_14, ↓q_is_8, ↓q_gI_14_1, ↓q_pI_14_1, ha, nI_1, c6, hs, q_b_0, Bool.true_eq_false, not_false_eq_true, c7, hy2, decide_true, ha2, c8, not_true_eq_false, hfl2, i2]
            | some k =>
              have hkl := (q_fi_s _ _ _ hq2).2.1
              obtain ⟨ka, z1, hwk, b1, b2, b3, g', z2⟩ := hk.2.2 k _ (q_kg_s (by omega))
              rw [hq2, Option.bind_some, z1] at c8
              obtain ⟨w1, w2, w3, w4, -⟩ := hwf t _ (q_tok_s hlt)
              have w5 := w4 hy
              obtain ⟨D2, d1, d2, d3⟩ := q_newName (κ := κ) (b := b) (R := R) (Z := Z) (M := M) (O := O) (D := q_up D n (.inr (.inl (10, [.null])))) (a := n) (n := n + 1) (m := m + 1) (t := t) h2 hy (by omega) ⟨hn, by omega⟩ (q_up_s _ _ _)
              have dD : ∀ x, x < n → D2 x = D x := fun x hx => by rw [d3 x (by omega) (by omega), q_up_n _ _ (by omega)]
              have hc2 : q_CIo b (n + 1 + 1) D2 Z L.length a mn ps os wc dc fm fd fs := q_CIo_mo hc (by omega) (fun x _ hx => dD x hx)
              have z3 : b + 66 < ka ∧ D2 ka = some (.inr (.inl (5, [.int (nI (q_kS (q_kg L k))), .ref b1, .ref b2, .ref b3, .int (nI (q_kZ (q_kg L k))), .int (nI (q_kB (q_kg L k)))]))) := ⟨z2.1, by rw [dD ka z2.2.1]; exact z2.2.2.1⟩
              have e3' : b + 66 < a ∧ D2 a = some (.inr (.inl (4, [.ref (a + 1), .ref (a + 3), .ref (a + 4), .ref (a + 5), .ref (a + 6), .ref (a + 7), .ref (a + 8), .int (nI ps.length), .int (nI os.length), .int (nI wc), .int (nI dc)]))) := ⟨hc2.1, hc2.2.2.1⟩
              obtain ⟨D3, r1, r2, r3⟩ := q_addOperand (κ := κ) (C := (q_u2 I 14 1 (nI (t + 1 + 1)), R, X, Y, Z)) (M := M) (O := O) (s := (n + 1 + 1, m + 1 + ((q_tok l t).2.2.1 - (q_tok l t).2.1))) hc2 (by omega) (by omega) d2 z1 z3 (by omega)
              refine ⟨D3, n + 1 + 1, m + 1 + ((q_tok l t).2.2.1 - (q_tok l t).2.1), fun x x0 x1 x2 x3 x4 => by rw [r3 x x1 x2 x3 x4, dD x x0], by omega, by omega, by omega, by omega, ?_, by omega, by omega, by simp; omega, by simp; omega, r2⟩
              simp (disch := first | rfl | omega | decide | exact Nat.le_of_ble_eq_true rfl) only [↓q_br, q_rt, q_rz, q_gd, q_ca, ↓reduceIte, F_X0_readOperand, F_X0_readPart_173, ↓q_gA_19_0, ↓q_gA_19_1, ↓q_gA_19_2, ↓q_gA_19_3, ↓q_gI_14_1, ↓q_is_14, ↓q_is_8, ↓q_pI_14_1, ↓q_is_14, ↓q_is_8, ↓q_gI_14_1, ↓q_pI_14_1, ha, nI_1, c6, hs, q_b_0, Bool.true_eq_false, not_false_eq_true, c7, hy2, decide_true, ha2, c8, reduceCtorEq, hR, q_mk_H, d1, qd_S e3', r1, hu]
          · rw [if_neg hy2]
            refine ⟨D, n, m, fun _ _ _ _ _ _ => rfl, Nat.le_refl _, by omega, Nat.le_refl _, by omega, ?_, by decide, by decide⟩
            simp (disch := first | rfl | omega | decide | exact Nat.le_of_ble_eq_true rfl) only [↓q_br, q_rt, q_rz, q_gd, q_ca, ↓reduceIte, F_X0_readOperand, F_X0_readPart_173, ↓q_gA_19_0, ↓q_gA_19_1, ↓q_gA_19_2, ↓q_gA_19_3, ↓q_gI_14_1, ↓q_is_14, ↓q_is_8, ↓q_pI_14_1, ↓q_is_14, ↓q_gI_14_1, ↓q_pI_14_1, ha, nI_1, c6, hs, q_b_0, Bool.true_eq_false, not_false_eq_true, c7, hy2, decide_false, not_true_eq_false, hfl2, i1]
        · have hs' : q_sgn l (t + 1) 58 = false := by simpa using hs
          rw [if_neg hs]
          rw [if_neg hs] at c6
          refine ⟨D, n, m, fun _ _ _ _ _ _ => rfl, Nat.le_refl _, by omega, Nat.le_refl _, by omega, ?_, by decide, by decide⟩
          simp (disch := first | rfl | omega | decide | exact Nat.le_of_ble_eq_true rfl) only [↓q_br, q_rt, q_rz, q_gd, q_ca, ↓reduceIte, F_X0_readOperand, F_X0_readPart_173, ↓q_gA_19_0, ↓q_gA_19_1, ↓q_gA_19_2, ↓q_gA_19_3, ↓q_gI_14_1, ↓q_is_14, ↓q_is_8, ↓q_pI_14_1, ↓q_is_14, ↓q_gI_14_1, ↓q_pI_14_1, ha, nI_1, c6, hs', q_b_0, not_true_eq_false, i1]
  · rw [if_neg hy]
    have c5 := q_isPartSign (κ := κ) (b := b) (R := R) (Z := Z) (M := M) (O := O) (D := D) (s := (n, m)) h hK (t := t) (by omega)
    by_cases hs : q_psg l t = true
    · rw [if_pos hs]
      have hy3 := (of_decide_eq_true hs).1
      have hlt := q_tok_lt (l := l) (t := t) (by omega)
      have e9 : Y 7 t = q_nv l t := q_TC_wo h hlt (Or.inr hy3)
      by_cases h12 : ps.length = 12
      · rw [if_pos h12]
        refine ⟨D, n, m, fun _ _ _ _ _ _ => rfl, Nat.le_refl _, by omega, Nat.le_refl _, by omega, ?_, by decide, by decide⟩
        rw [hI]
        simp (disch := first | rfl | omega | decide | exact Nat.le_of_ble_eq_true rfl) only [↓q_br, q_rt, q_rz, q_gd, q_ca, ↓reduceIte, F_X0_readPart_17, F_X0_readPart_173, ↓q_gA_19_0, ↓q_gA_19_1, ↓q_gA_19_3, ↓q_gA_2_4, ↓q_gI_14_1, ↓q_is_14, ↓q_is_19, ↓q_lL_7, ↓q_pI_14_1, ↓q_is_14, ↓q_is_19, ↓q_gI_14_1, ha, c2, q_b_0, hy, decide_false, c5, hs, Bool.true_eq_false, not_false_eq_true, h12, one0, hfl, i3]
      · rw [if_neg h12]
        obtain ⟨D3, r1, r2, r3⟩ := q_addPart (κ := κ) (C := (I, R, X, Y, Z)) (M := M) (O := O) (s := (n, m)) (v := (q_nv l t).toInt32) hc (by omega)
        refine ⟨D3, n, m, fun x _ x1 x2 _ _ => r3 x x1 x2, Nat.le_refl _, by omega, Nat.le_refl _, by omega, ?_, by omega, by omega, by simp; omega, ho, r2⟩
        simp (disch := first | rfl | omega | decide | exact Nat.le_of_ble_eq_true rfl) only [↓q_br, q_rt, q_rz, q_gd, q_ca, ↓reduceIte, F_X0_readPart_17, F_X0_readPart_173, ↓q_gA_19_0, ↓q_gA_19_1, ↓q_gA_19_3, ↓q_gA_2_4, ↓q_gI_14_1, ↓q_is_14, ↓q_is_19, ↓q_lL_7, ↓q_pI_14_1, ↓q_is_14, ↓q_is_19, ↓q_gI_14_1, ↓q_pI_14_1, ↓q_gA_2_4, ↓q_lL_7, ha, c2, q_b_0, hy, decide_false, c5, hs, Bool.true_eq_false, not_false_eq_true, h12, hR, e9, qd_S e3, r1, nI_1]
    · have hs' : q_psg l t = false := by simpa using hs
      rw [if_neg hs]
      refine ⟨D, n, m, fun _ _ _ _ _ _ => rfl, Nat.le_refl _, by omega, Nat.le_refl _, by omega, ?_, by decide, by decide⟩
      rw [hI]
      simp (disch := first | rfl | omega | decide | exact Nat.le_of_ble_eq_true rfl) only [↓q_br, q_rt, q_rz, q_gd, q_ca, ↓reduceIte, F_X0_readPart_17, F_X0_readPart_173, ↓q_gA_19_0, ↓q_gA_19_1, ↓q_gA_19_3, ↓q_gA_2_4, ↓q_gI_14_1, ↓q_is_14, ↓q_is_19, ↓q_lL_7, ↓q_pI_14_1, ↓q_is_14, ↓q_is_19, ↓q_gI_14_1, ha, c2, q_b_0, hy, decide_false, c5, hs', not_true_eq_false, hfl, i1]
end QIB
