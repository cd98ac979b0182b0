def q_pl (o low : Nat) : Nat → List Int32
  | 0 => []
  | d + 1 => nI (32 * o + (low + d)) :: q_pl o low d
theorem q_pl_len (o low : Nat) : ∀ d, (q_pl o low d).length = d := by
  intro d
  induction d with
  | zero => rfl
  | succ d ih => simp [q_pl, ih]
theorem q_b_or (x y : Bool) : q_b x ||| q_b y = q_b (x || y) := by cases x <;> cases y <;> decide
theorem q_lt_pred {n : Nat} (h : n < 2 ^ 30) : nI n - 1 < nI n := by
  rw [Int32.lt_iff_toInt_lt]
  have := q_nI_subI (a := n) (b := 1) h (by decide)
  have e : nI 1 = 1 := rfl
  rw [e] at this
  rw [this, nI_toInt (by omega)]
  omega
section QBD
variable {κ : Nat → Nat} {b : Nat} {B : Nat → Int32} {l : List q_Tok} {zt t : Nat} {R : Nat → Nat → Option Nat} {X : Nat → Nat → Int32} {Z : Nat → Nat → Option Nat} {M : q_MT} {O : Nat → Int64} {s : Nat × Nat}
theorem q_putPiece_3 {n nk z a o low : Nat} {mn : q_Nam} {ps : List Int32} {os : q_Ops} {ws : List (List Int32)} (hR : R 19 3 = some a) (hz : z ≤ 32) (hw : ws.length < 4) (ho : o < 5) : ∀ d fuel (I : Nat → Nat → Int32) (Y : Nat → Nat → Int64) (D : q_Mem) (c : List Int32), I 8 2 = nI z → low + d ≤ 32 → d < fuel → c.length + d < 1000000 → q_CB b n D Z nk z a mn ps os ws c I Y →
    ∃ I' Y' D', F_X0_putPiece_3 κ fuel (some (b + 19)) (nI o) (nI low) (nI (low + d) - 1) (q_H b (I, R, X, Y, Z) M O D, s) = some (.inl (), (q_H b (I', R, X, Y', Z) M O D', s)) ∧ (∀ j, j ≠ 19 → I' j = I j) ∧ (∀ j, j ≠ 20 → Y' j = Y j) ∧ q_CB b n D' Z nk z a mn ps os ws (c ++ q_pl o low d) I' Y' ∧ (∀ x, x ≠ a + 8 → D' x = D x) := by
  intro d
  induction d with
  | zero =>
    intro fuel I Y D c h82 hld hf hcl hcb
    obtain ⟨f, rfl⟩ : ∃ f, fuel = f + 1 := ⟨fuel - 1, by omega⟩
    have h1 := q_lt_pred (n := low) (by omega)
    refine ⟨I, Y, D, ?_, fun _ _ => rfl, fun _ _ => rfl, by simpa [q_pl] using hcb, fun _ _ => rfl⟩
    rw [F_X0_putPiece_3]
    simp only [F_X0_putPiece_3B, Nat.add_zero, q_br, h1, if_true, q_rt]
  | succ d ih =>
    intro fuel I Y D c h82 hld hf hcl hcb
    obtain ⟨f, rfl⟩ : ∃ f, fuel = f + 1 := ⟨fuel - 1, by omega⟩
    obtain ⟨c1, ⟨tw, t1, t2⟩, c3, c4⟩ := hcb
    obtain ⟨sv, v1, v2, v3⟩ := c3 o ho
    have e1 : nI (low + (d + 1)) - 1 = nI (low + d) := nI_pred (low + d)
    have e2 : ¬ nI (low + d) < nI low := nI_nlt (by omega) (by omega)
    have e3 : nI (low + d) + (-1 : Int32) = nI (low + d) - 1 := by rw [Int32.sub_eq_add_neg]
    obtain ⟨s1, s2⟩ := q_seen_p (tot := ws.flatten ++ c) (o := o) (k := low + d) ho (by omega)
    have hlen : (c ++ [nI (32 * o + (low + d))]).length = c.length + 1 := by simp
    have b1 : ((lN sv >>> ((nI (low + d)).toInt64 &&& 63)) &&& 1 = 0) ↔ sv.testBit (low + d) = false := by
      rw [q_bit (by omega) (by omega)]
      cases sv.testBit (low + d) <;> simp <;> decide
    have b2 : lN sv ||| ((1 : Int64) <<< ((nI (low + d)).toInt64 &&& 63)) = lN (sv ||| 2 ^ (low + d)) := q_orb (by omega) (by omega)
    have hp : 2 ^ (low + d) < 2 ^ 32 := wb_lt2 (by omega)
    obtain ⟨I1, hI1⟩ : ∃ I1, I1 = q_u2 (q_u2 I 19 6 (q_b (tw || sv.testBit (low + d)))) 19 4 (nI (c.length + 1)) := ⟨_, rfl⟩
    obtain ⟨Y1, hY1⟩ : ∃ Y1, Y1 = q_u2 Y 20 o (lN (sv ||| 2 ^ (low + d))) := ⟨_, rfl⟩
    have fin : ∀ D1, q_CIb b n D1 Z nk z a mn ps os ws (c ++ [nI (32 * o + (low + d))]) → q_CB b n D1 Z nk z a mn ps os ws (c ++ [nI (32 * o + (low + d))]) I1 Y1 := by
      intro D1 hD1
      refine ⟨by rw [hI1, q_u2_s, q_u1_s, hlen], ⟨tw || sv.testBit (low + d), by rw [hI1, q_u2_s, q_u1_n _ _ (by decide), q_u2_s, q_u1_s], ?_⟩, fun o' ho' => ?_, hD1⟩
      · rw [← List.append_assoc, s1, Bool.or_eq_true, t2, v3 _ (by omega)]
      · by_cases hoo : o' = o
        · subst hoo
          refine ⟨sv ||| 2 ^ (low + d), by rw [hY1, q_u2_s, q_u1_s], Nat.or_lt_two_pow v2 hp, fun k hk => ?_⟩
          rw [← List.append_assoc, s2 _ (by omega), Nat.testBit_or, Bool.or_eq_true, v3 k hk, Nat.testBit_two_pow, decide_eq_true_eq]
          constructor
          · rintro (h | h)
            · exact Or.inl h
            · exact Or.inr (by omega)
          · rintro (h | h)
            · exact Or.inl h
            · exact Or.inr (by omega)
        · obtain ⟨sv', x1, x2, x3⟩ := c3 o' ho'
          refine ⟨sv', by rw [hY1, q_u2_s, q_u1_n _ _ hoo, x1], x2, fun k hk => ?_⟩
          rw [← List.append_assoc, s2 _ (by omega), x3 k hk]
          constructor
          · exact fun h => Or.inl h
          · rintro (h | h)
            · exact h
            · omega
    have step47 : ∀ D1, F_X0_putPiece_47 κ (F_X0_putPiece_3 κ f) (some (b + 19)) (nI o) (nI low) (nI (low + d)) (q_H b (I, R, X, Y, Z) M O D1, s) = F_X0_putPiece_3 κ f (some (b + 19)) (nI o) (nI low) (nI (low + d) - 1) (q_H b (I1, R, X, Y1, Z) M O D1, s) := by
      intro D1
      rw [hI1, hY1]
      have g1 : (q_b tw ||| (0 : Int32)) = q_b (tw || false) := q_b_or tw false
      have g2 : (q_b tw ||| (1 : Int32)) = q_b (tw || true) := q_b_or tw true
      have g3 : ∀ x, q_b x = 0 ∨ q_b x = 1 := q_b_1
      have c14 : q_u2 I 19 6 (q_b (tw || sv.testBit (low + d))) 19 4 = nI c.length := by rw [q_u2_s, q_u1_n _ _ (by decide), c1]
      cases hb : sv.testBit (low + d)
      · rw [hb] at c14
        simp (disch := first | rfl | omega | decide | exact Nat.le_of_ble_eq_true rfl) only [↓q_br, q_rt, q_rz, q_gd, q_ca, ↓reduceIte, F_X0_putPiece_47, F_X0_putPiece_73, ↓q_gA_19_5, ↓q_gI_19_4, ↓q_gI_19_6, ↓q_lL_20, ↓q_pI_19_4, ↓q_pI_19_6, ↓q_sL_20, t1, v1, lg_cmp_eq, b1, hb, g1, g3, b2, c14, nI_1, e3]
      · rw [hb] at c14
        simp (disch := first | rfl | omega | decide | exact Nat.le_of_ble_eq_true rfl) only [↓q_br, q_rt, q_rz, q_gd, q_ca, ↓reduceIte, F_X0_putPiece_47, F_X0_putPiece_73, ↓q_gA_19_5, ↓q_gI_19_4, ↓q_gI_19_6, ↓q_lL_20, ↓q_pI_19_4, ↓q_pI_19_6, ↓q_sL_20, t1, v1, lg_cmp_eq, b1, hb, g2, g3, b2, c14, nI_1, e3, Bool.true_eq_false]
    have hpl : c ++ q_pl o low (d + 1) = (c ++ [nI (32 * o + (low + d))]) ++ q_pl o low d := by simp [q_pl]
    have fr1 : ∀ j, j ≠ 19 → I1 j = I j := fun j hj => by rw [hI1, q_u2_n _ _ _ hj, q_u2_n _ _ _ hj]
    have fr2 : ∀ j, j ≠ 20 → Y1 j = Y j := fun j hj => by rw [hY1, q_u2_n _ _ _ hj]
    by_cases hcz : z ≤ c.length
    · obtain ⟨I', Y', D', r1, r2, r3, r4, r5⟩ := ih f I1 Y1 D _ (by rw [fr1 8 (by decide), h82]) (by omega) (by omega) (by rw [hlen]; omega) (fin D (q_CIb_out c4 hcz))
      refine ⟨I', Y', D', ?_, fun j hj => by rw [r2 j hj, fr1 j hj], fun j hj => by rw [r3 j hj, fr2 j hj], by rw [hpl]; exact r4, r5⟩
      refine Eq.trans ?_ ((step47 D).trans r1)
      rw [F_X0_putPiece_3, e1]
      simp (disch := first | rfl | omega | decide | exact Nat.le_of_ble_eq_true rfl) only [↓q_br, q_rt, q_rz, q_gd, q_ca, ↓reduceIte, F_X0_putPiece_3B, ↓q_gA_19_2, ↓q_gA_19_3, ↓q_gI_19_4, ↓q_gI_8_2, ↓q_gI_8_2, e2, c1, h82, nI_leI, hcz]
    · have hcz' : c.length < z := by omega
      obtain ⟨D1, d1, d2, d3⟩ := q_putOperandBit (κ := κ) (C := (I, R, X, Y, Z)) (M := M) (O := O) (s := s) (o := o) (k := low + d) c4 hcz' hz hw ho (by omega)
      have e3' : ∃ fs, b + 66 < a ∧ D a = some (.inr (.inl (4, fs))) := by
        obtain ⟨fm, fd, fs, k, -⟩ := c4
        exact ⟨_, k.1, k.2.2.1⟩
      obtain ⟨fv, e3'⟩ := e3'
      have e4 : nI z - 1 - nI c.length = nI (z - 1 - c.length) := by
        have : nI z - 1 = nI (z - 1) := nI_sub (b := 1) (by omega)
        rw [this, nI_sub (by omega)]
      obtain ⟨I', Y', D', r1, r2, r3, r4, r5⟩ := ih f I1 Y1 D1 _ (by rw [fr1 8 (by decide), h82]) (by omega) (by omega) (by rw [hlen]; omega) (fin D1 d2)
      refine ⟨I', Y', D', ?_, fun j hj => by rw [r2 j hj, fr1 j hj], fun j hj => by rw [r3 j hj, fr2 j hj], by rw [hpl]; exact r4, fun x hx => by rw [r5 x hx, d3 x hx]⟩
      refine Eq.trans ?_ ((step47 D1).trans r1)
      rw [F_X0_putPiece_3, e1]
      simp (disch := first | rfl | omega | decide | exact Nat.le_of_ble_eq_true rfl) only [↓q_br, q_rt, q_rz, q_gd, q_ca, ↓reduceIte, F_X0_putPiece_3B, ↓q_gA_19_2, ↓q_gA_19_3, ↓q_gI_19_4, ↓q_gI_8_2, ↓q_gI_8_2, e2, c1, h82, nI_leI, hcz, hR, qd_S e3', e4, d1]
end QBD
