/-! ===== the reference reads the words of an instruction ===== -/
def q_MW (Q : Nat → Nat → Int32) (i z : Nat) (W : List (List Int32)) : Prop := ∀ w x, W[w]? = some x → ∀ k s, k < z → x[k]? = some s → Q 51 (160 * i + w * z + k) = s
def q_MC (Q : Nat → Nat → Int32) (tot : List Int32) : Prop := ∀ v, v < 160 → Q 52 v = nI (tot.count (nI v))
theorem q_MW_in {Q : Nat → Nat → Int32} {i z : Nat} {ws : List (List Int32)} {c : List Int32} {s : Int32} (h : q_MW Q i z (ws ++ [c])) (hl : ∀ w ∈ ws, w.length = z) : q_MW (q_u2 Q 51 (160 * i + ws.length * z + c.length) s) i z (ws ++ [c ++ [s]]) := by
  intro w x hx k s' hk hs
  by_cases hw : w < ws.length
  · rw [List.getElem?_append_left hw] at hx
    have hx2 : (ws ++ [c])[w]? = some x := by rw [List.getElem?_append_left hw, hx]
    rw [q_u2_s, q_u1_n]
    · exact h w x hx2 k s' hk hs
    · have : w * z + z ≤ ws.length * z := by
        have := Nat.mul_le_mul_right z (show w + 1 ≤ ws.length from hw)
        rw [Nat.add_mul] at this
        omega
      omega
  · have hwe : w = ws.length := by
      have := (List.getElem?_eq_some_iff.mp hx).1
      simp only [List.length_append, List.length_cons, List.length_nil] at this
      omega
    subst hwe
    rw [List.getElem?_append_right (Nat.le_refl _), Nat.sub_self] at hx
    simp only [List.getElem?_cons_zero, Option.some.injEq] at hx
    subst hx
    by_cases hkc : k < c.length
    · rw [List.getElem?_append_left hkc] at hs
      rw [q_u2_s, q_u1_n _ _ (by omega)]
      exact h ws.length c (by rw [List.getElem?_append_right (Nat.le_refl _), Nat.sub_self]; rfl) k s' hk hs
    · have hke : k = c.length := by
        have := (List.getElem?_eq_some_iff.mp hs).1
        simp only [List.length_append, List.length_cons, List.length_nil] at this
        omega
      subst hke
      rw [List.getElem?_append_right (Nat.le_refl _), Nat.sub_self] at hs
      simp only [List.getElem?_cons_zero, Option.some.injEq] at hs
      rw [q_u2_s, q_u1_s, hs]
theorem q_MW_out {Q : Nat → Nat → Int32} {i z : Nat} {ws : List (List Int32)} {c : List Int32} {s : Int32} (h : q_MW Q i z (ws ++ [c])) (hz : z ≤ c.length) : q_MW Q i z (ws ++ [c ++ [s]]) := by
  intro w x hx k s' hk hs
  by_cases hw : w < ws.length
  · rw [List.getElem?_append_left hw] at hx
    exact h w x (by rw [List.getElem?_append_left hw, hx]) k s' hk hs
  · have hwe : w = ws.length := by
      have := (List.getElem?_eq_some_iff.mp hx).1
      simp only [List.length_append, List.length_cons, List.length_nil] at this
      omega
    subst hwe
    rw [List.getElem?_append_right (Nat.le_refl _), Nat.sub_self] at hx
    simp only [List.getElem?_cons_zero, Option.some.injEq] at hx
    subst hx
    rw [List.getElem?_append_left (by omega)] at hs
    exact h ws.length c (by rw [List.getElem?_append_right (Nat.le_refl _), Nat.sub_self]; rfl) k s' hk hs
theorem q_MW_Q {Q Q' : Nat → Nat → Int32} {i z : Nat} {W : List (List Int32)} (h : q_MW Q i z W) (hQ : Q' 51 = Q 51) : q_MW Q' i z W := by
  intro w x hx k s hk hs
  rw [hQ]
  exact h w x hx k s hk hs
theorem q_idx3 (a i w z k : Nat) : (nI a * nI i + nI w * nI z) + nI k = nI (a * i + w * z + k) := by
  have h1 : nI a * nI i = nI (a * i) := (Int32.ofNat_mul a i).symm
  have h2 : nI w * nI z = nI (w * z) := (Int32.ofNat_mul w z).symm
  rw [h1, h2, nI_add, nI_add]
section QNA
variable {κ : Nat → Nat} {b : Nat} {B : Nat → Int32} {l : List q_Tok} {zt t : Nat} {C : q_CT} {S : Nat → Nat → Int64} {O : Nat → Int64} {D : q_Mem}
theorem q_mdigits {r : Option Nat → Int32 → Int32 → Int32 → Int32 → q_X Unit} {P : Nat → Int32} {n m i z dg : Nat} {ws : List (List Int32)} (hz : z ≤ 32) (hi : i < 96) (hws : ws.length < 4) (hwl : ∀ w ∈ ws, w.length = z) (ht : t < l.length) (ha : P 15 = nI t) (h21 : P 21 = nI z) (hn : b + 66 < n) : ∀ d fuel k (Q : Nat → Nat → Int32) (c : List Int32) (g : Nat), q_TM B l zt P Q S → k + d = (q_tok l t).2.2.1 - (q_tok l t).2.1 → d < fuel → c.length + d < 1000000 → g = dg + q_neg c → q_MW Q i z (ws ++ [c]) →
    ∃ Q', (∀ j, j ≠ 51 → Q' j = Q j) ∧ (∀ x, x < 160 * i → Q' 51 x = Q 51 x) ∧ (if q_al (fun x => decide (B x = 48) || decide (B x = 49)) d ((q_tok l t).2.1 + k) = true then F_X13_words_155 κ r fuel (some (b + 26)) (nI i) (nI ws.length) (nI c.length) (nI g) (nI k) (q_H b C (P, Q, S) O D, n, m) = r (some (b + 26)) (nI i) (nI ws.length) (nI (c ++ q_dl B d ((q_tok l t).2.1 + k)).length) (nI (dg + q_neg (c ++ q_dl B d ((q_tok l t).2.1 + k)))) (q_H b C (q_u1 P 15 (nI (t + 1)), Q', S) O D, n, m) ∧ q_MW Q' i z (ws ++ [c ++ q_dl B d ((q_tok l t).2.1 + k)])
      else F_X13_words_155 κ r fuel (some (b + 26)) (nI i) (nI ws.length) (nI c.length) (nI g) (nI k) (q_H b C (P, Q, S) O D, n, m) = q_thr Unit b C (P, Q', S) O D n m 3 (nI t)) := by
  intro d
  induction d with
  | zero =>
    intro fuel k Q c g h hk hf hcl hg hmw
    obtain ⟨f, rfl⟩ : ∃ f, fuel = f + 1 := ⟨fuel - 1, by omega⟩
    have hzt := h.2.2.1
    have hl := h.2.1
    obtain ⟨w1, w2, w3, -⟩ := h.2.2.2.2.1 t _ (q_tok_s ht)
    have e2 := q_TM_ln h ht
    have h3 : (q_tok l t).2.2.1 - (q_tok l t).2.1 ≤ k := by omega
    refine ⟨Q, fun _ _ => rfl, fun _ _ => rfl, ?_⟩
    rw [if_pos (by rfl)]
    simp only [q_dl, List.append_nil]
    refine ⟨?_, hmw⟩
    rw [F_X13_words_155, hg]
    simp (disch := first | rfl | omega | decide | exact Nat.le_of_ble_eq_true rfl) only [↓q_br, q_rt, q_rz, q_gd, q_ca, ↓reduceIte, F_X13_words_155B, ↓q_gA_26_1, ↓q_gA_26_10, ↓q_gA_26_11, ↓q_gI_26_15, ↓q_lI_28, ↓q_lI_31, ↓q_lI_32, ↓q_pI_26_15, ha, e2, nI_leI, h3, nI_1]
  | succ d ih =>
    intro fuel k Q c g h hk hf hcl hg hmw
    obtain ⟨f, rfl⟩ : ∃ f, fuel = f + 1 := ⟨fuel - 1, by omega⟩
    have hzt := h.2.2.1
    have hl := h.2.1
    obtain ⟨w1, w2, w3, -⟩ := h.2.2.2.2.1 t _ (q_tok_s ht)
    have e1 := q_TM_st h ht
    have e2 := q_TM_ln h ht
    have h3 : ¬ (q_tok l t).2.2.1 - (q_tok l t).2.1 ≤ k := by omega
    have h5 : Q 28 ((q_tok l t).2.1 + k) = B ((q_tok l t).2.1 + k) := h.2.2.2.2.2.1 _ (by omega)
    have i3 : nI 3 = 3 := rfl
    unfold q_al
    by_cases hbit : B ((q_tok l t).2.1 + k) = 48 ∨ B ((q_tok l t).2.1 + k) = 49
    · have hb1 : (decide (B ((q_tok l t).2.1 + k) = 48) || decide (B ((q_tok l t).2.1 + k) = 49)) = true := by
        rcases hbit with h9 | h9 <;> simp [h9]
      rw [hb1, Bool.true_and]
      have hneg : q_d1 (B ((q_tok l t).2.1 + k)) < 0 := by unfold q_d1; split <;> decide
      have hnc : q_neg (c ++ [q_d1 (B ((q_tok l t).2.1 + k))]) = q_neg c + 1 := by simp [q_neg, List.countP_append, hneg]
      have hlen : (c ++ [q_d1 (B ((q_tok l t).2.1 + k))]).length = c.length + 1 := by simp
      have hdl : c ++ q_dl B (d + 1) ((q_tok l t).2.1 + k) = (c ++ [q_d1 (B ((q_tok l t).2.1 + k))]) ++ q_dl B d ((q_tok l t).2.1 + (k + 1)) := by
        simp [q_dl, Nat.add_assoc]
      have hpk : (q_tok l t).2.1 + k + 1 = (q_tok l t).2.1 + (k + 1) := by omega
      rw [hpk, hdl]
      have hm3 : (((160 : Int32) * nI i) + (nI ws.length * nI z)) + nI c.length = nI (160 * i + ws.length * z + c.length) := q_idx3 160 i ws.length z c.length
      have to215 : F_X13_words_155 κ r (f + 1) (some (b + 26)) (nI i) (nI ws.length) (nI c.length) (nI g) (nI k) (q_H b C (P, Q, S) O D, n, m) = F_X13_words_215 κ r (F_X13_words_155 κ r f) (some (b + 26)) (nI i) (nI ws.length) (nI c.length) (nI g) (nI k) (B ((q_tok l t).2.1 + k)) (q_H b C (P, Q, S) O D, n, m) := by
        rw [F_X13_words_155]
        by_cases h48 : B ((q_tok l t).2.1 + k) = 48
        · simp (disch := first | rfl | omega | decide | exact Nat.le_of_ble_eq_true rfl) only [↓q_br, q_rt, q_rz, q_gd, q_ca, ↓reduceIte, F_X13_words_155B, ↓q_gA_26_1, ↓q_gA_26_10, ↓q_gA_26_11, ↓q_gI_26_15, ↓q_lI_28, ↓q_lI_31, ↓q_lI_32, ↓q_pI_26_15, ha, e1, e2, nI_leI, h3, nI_add, h5, h48]
        · have h49 := hbit.resolve_left h48
          have n48 : ¬ (49 : Int32) = 48 := by decide
          simp (disch := first | rfl | omega | decide | exact Nat.le_of_ble_eq_true rfl) only [↓q_br, q_rt, q_rz, q_gd, q_ca, ↓reduceIte, F_X13_words_155B, ↓q_gA_26_1, ↓q_gA_26_10, ↓q_gA_26_11, ↓q_gI_26_15, ↓q_lI_28, ↓q_lI_31, ↓q_lI_32, ↓q_pI_26_15, ha, e1, e2, nI_leI, h3, nI_add, h5, h49, n48]
      by_cases hcz : z ≤ c.length
      · obtain ⟨Q', r1, r2, r3⟩ := ih f (k + 1) Q (c ++ [q_d1 (B ((q_tok l t).2.1 + k))]) (g + 1) h (by omega) (by omega) (by rw [hlen]; omega) (by rw [hnc]; omega) (q_MW_out hmw hcz)
        have step : F_X13_words_155 κ r (f + 1) (some (b + 26)) (nI i) (nI ws.length) (nI c.length) (nI g) (nI k) (q_H b C (P, Q, S) O D, n, m) = F_X13_words_155 κ r f (some (b + 26)) (nI i) (nI ws.length) (nI (c ++ [q_d1 (B ((q_tok l t).2.1 + k))]).length) (nI (g + 1)) (nI (k + 1)) (q_H b C (P, Q, S) O D, n, m) := by
          rw [to215, hlen]
          simp (disch := first | rfl | omega | decide | exact Nat.le_of_ble_eq_true rfl) only [↓q_br, q_rt, q_rz, q_gd, q_ca, ↓reduceIte, F_X13_words_215, F_X13_words_255, ↓q_gA_26_38, ↓q_gI_26_21, h21, nI_leI, hcz, nI_1]
        refine ⟨Q', r1, r2, ?_⟩
        rw [step]
        exact r3
      · have hcz' : c.length < z := by omega
        have hwz : ws.length * z ≤ 3 * 32 := Nat.mul_le_mul (by omega) hz
        obtain ⟨Q1, hQ1⟩ : ∃ Q1, Q1 = q_u2 Q 51 (160 * i + ws.length * z + c.length) (q_d1 (B ((q_tok l t).2.1 + k))) := ⟨_, rfl⟩
        have f1 : ∀ j, j ≠ 51 → Q1 j = Q j := fun j hj => by rw [hQ1, q_u2_n _ _ _ hj]
        have hT1 : q_TM B l zt P Q1 S := q_TM_P h rfl (f1 28 (by decide)) (f1 30 (by decide)) (f1 31 (by decide)) (f1 32 (by decide))
        obtain ⟨Q', r1, r2, r3⟩ := ih f (k + 1) Q1 (c ++ [q_d1 (B ((q_tok l t).2.1 + k))]) (g + 1) hT1 (by omega) (by omega) (by rw [hlen]; omega) (by rw [hnc]; omega) (by rw [hQ1]; exact q_MW_in hmw hwl)
        have step : F_X13_words_155 κ r (f + 1) (some (b + 26)) (nI i) (nI ws.length) (nI c.length) (nI g) (nI k) (q_H b C (P, Q, S) O D, n, m) = F_X13_words_155 κ r f (some (b + 26)) (nI i) (nI ws.length) (nI (c ++ [q_d1 (B ((q_tok l t).2.1 + k))]).length) (nI (g + 1)) (nI (k + 1)) (q_H b C (P, Q1, S) O D, n, m) := by
          rw [to215, hlen, hQ1]
          by_cases h48 : B ((q_tok l t).2.1 + k) = 48
          · simp (disch := first | rfl | omega | decide | exact Nat.le_of_ble_eq_true rfl) only [↓q_br, q_rt, q_rz, q_gd, q_ca, ↓reduceIte, F_X13_words_215, F_X13_words_254, F_X13_words_255, ↓q_gA_26_38, ↓q_gI_26_21, ↓q_sI_51, h21, nI_leI, hcz, h48, not_true_eq_false, hm3, nI_1, q_d1]
          · simp (disch := first | rfl | omega | decide | exact Nat.le_of_ble_eq_true rfl) only [↓q_br, q_rt, q_rz, q_gd, q_ca, ↓reduceIte, F_X13_words_215, F_X13_words_254, F_X13_words_255, ↓q_gA_26_38, ↓q_gI_26_21, ↓q_sI_51, h21, nI_leI, hcz, h48, not_false_eq_true, hm3, nI_1, q_d1]
        refine ⟨Q', fun j hj => by rw [r1 j hj, f1 j hj], fun x hx => by rw [r2 x hx, hQ1, q_u2_s, q_u1_n _ _ (by omega)], ?_⟩
        rw [step]
        exact r3
    · have hb1 : (decide (B ((q_tok l t).2.1 + k) = 48) || decide (B ((q_tok l t).2.1 + k) = 49)) = false := by
        simp [not_or] at hbit ⊢
        exact hbit
      rw [hb1, Bool.false_and]
      have n48 : ¬ B ((q_tok l t).2.1 + k) = 48 := fun h => hbit (Or.inl h)
      have n49 : ¬ B ((q_tok l t).2.1 + k) = 49 := fun h => hbit (Or.inr h)
      refine ⟨Q, fun _ _ => rfl, fun _ _ => rfl, ?_⟩
      rw [if_neg (by decide), F_X13_words_155]
      simp (disch := first | rfl | omega | decide | exact Nat.le_of_ble_eq_true rfl) only [↓q_br, q_rt, q_rz, q_gd, q_ca, ↓reduceIte, F_X13_words_155B, ↓q_gA_26_1, ↓q_gA_26_10, ↓q_gA_26_11, ↓q_gI_26_15, ↓q_lI_28, ↓q_lI_31, ↓q_lI_32, ↓q_pI_26_15, ha, e1, e2, nI_leI, h3, nI_add, h5, n48, n49, q_mk_H, reduceCtorEq, not_false_eq_true, q_fault, qd_Su, q_tr]
theorem q_mpieces {r : Option Nat → Int32 → Int32 → Int32 → Int32 → q_X Unit} {P : Nat → Int32} {i z o low : Nat} {dg : Int32} {ws : List (List Int32)} {s : Nat × Nat} (hz : z ≤ 32) (hi : i < 96) (hws : ws.length < 4) (hwl : ∀ w ∈ ws, w.length = z) (ho : o < 5) (h21 : P 21 = nI z) : ∀ d fuel (Q : Nat → Nat → Int32) (c : List Int32), low + d ≤ 32 → d < fuel → c.length + d < 1000000 → (ws.flatten ++ c).length + d < 10000000 → q_MW Q i z (ws ++ [c]) → q_MC Q (ws.flatten ++ c) →
    ∃ Q', (∀ j, j ≠ 51 → j ≠ 52 → Q' j = Q j) ∧ (∀ x, x < 160 * i → Q' 51 x = Q 51 x) ∧ F_X13_words_461 κ r fuel (some (b + 26)) (nI i) (nI ws.length) (nI c.length) dg (nI o) (nI low) (nI (low + d) - 1) (q_H b C (P, Q, S) O D, s) = r (some (b + 26)) (nI i) (nI ws.length) (nI (c ++ q_pl o low d).length) dg (q_H b C (P, Q', S) O D, s) ∧ q_MW Q' i z (ws ++ [c ++ q_pl o low d]) ∧ q_MC Q' (ws.flatten ++ (c ++ q_pl o low d)) := by
  intro d
  induction d with
  | zero =>
    intro fuel Q c hld hf hcl htl hmw hmc
    obtain ⟨f, rfl⟩ : ∃ f, fuel = f + 1 := ⟨fuel - 1, by omega⟩
    have h1 := q_lt_pred (n := low) (by omega)
    refine ⟨Q, fun _ _ _ => rfl, fun _ _ => rfl, ?_, by simpa [q_pl] using hmw, by simpa [q_pl] using hmc⟩
    rw [F_X13_words_461]
    simp only [F_X13_words_461B, Nat.add_zero, q_br, h1, if_true, q_pl, List.append_nil]
  | succ d ih =>
    intro fuel Q c hld hf hcl htl hmw hmc
    obtain ⟨f, rfl⟩ : ∃ f, fuel = f + 1 := ⟨fuel - 1, by omega⟩
    have e1 : nI (low + (d + 1)) - 1 = nI (low + d) := nI_pred (low + d)
    have e2 : ¬ nI (low + d) < nI low := nI_nlt (by omega) (by omega)
    have e3 : nI (low + d) + (-1 : Int32) = nI (low + d) - 1 := by rw [Int32.sub_eq_add_neg]
    have e4 : (32 : Int32) * nI o + nI (low + d) = nI (32 * o + (low + d)) := q_mulI 32 o _
    have hlen : (c ++ [nI (32 * o + (low + d))]).length = c.length + 1 := by simp
    have hpl : c ++ q_pl o low (d + 1) = (c ++ [nI (32 * o + (low + d))]) ++ q_pl o low d := by simp [q_pl]
    have hm3 : (((160 : Int32) * nI i) + (nI ws.length * nI z)) + nI c.length = nI (160 * i + ws.length * z + c.length) := q_idx3 160 i ws.length z c.length
    have hcv := hmc (32 * o + (low + d)) (by omega)
    have hmc1 : q_MC (q_u2 Q 52 (32 * o + (low + d)) (nI ((ws.flatten ++ c).count (nI (32 * o + (low + d))) + 1))) (ws.flatten ++ (c ++ [nI (32 * o + (low + d))])) := by
      intro v hv
      have hcx : List.count (nI v) (ws.flatten ++ (c ++ [nI (32 * o + (low + d))])) = List.count (nI v) (ws.flatten ++ c) + (if nI (32 * o + (low + d)) == nI v then 1 else 0) := by
        rw [← List.append_assoc]
        generalize ws.flatten ++ c = tt
        rw [List.count_append, List.count_singleton]
      rw [hcx]
      by_cases hve : v = 32 * o + (low + d)
      · subst hve
        rw [q_u2_s, q_u1_s]
        simp
      · have hne : ¬ nI (32 * o + (low + d)) = nI v := by
          rw [nI_eq (by omega) (by omega)]
          omega
        rw [q_u2_s, q_u1_n _ _ hve, hmc v hv]
        simp [hne]
    have htl1 : (ws.flatten ++ (c ++ [nI (32 * o + (low + d))])).length + d < 10000000 := by
      simp only [List.length_append, List.length_cons, List.length_nil] at htl ⊢
      omega
    have hcnt : (ws.flatten ++ c).count (nI (32 * o + (low + d))) ≤ (ws.flatten ++ c).length := List.count_le_length
    by_cases hcz : z ≤ c.length
    · obtain ⟨Q', r1, r2, r3, r4, r5⟩ := ih f (q_u2 Q 52 (32 * o + (low + d)) (nI ((ws.flatten ++ c).count (nI (32 * o + (low + d))) + 1))) (c ++ [nI (32 * o + (low + d))]) (by omega) (by omega) (by rw [hlen]; omega) htl1 (q_MW_Q (q_MW_out hmw hcz) (q_u2_n _ _ _ (by decide))) hmc1
      refine ⟨Q', fun j j1 j2 => by rw [r1 j j1 j2, q_u2_n _ _ _ j2], fun x hx => by rw [r2 x hx, q_u2_n _ _ _ (by decide)], ?_, by rw [hpl]; exact r4, by rw [hpl]; exact r5⟩
      rw [hpl]
      refine Eq.trans ?_ r3
      rw [F_X13_words_461, e1, hlen]
      simp (disch := first | rfl | omega | decide | exact Nat.le_of_ble_eq_true rfl) only [↓q_br, q_rt, q_rz, q_gd, q_ca, ↓reduceIte, F_X13_words_461B, F_X13_words_520, ↓q_gA_26_38, ↓q_gA_26_39, ↓q_gI_26_21, ↓q_lI_51, ↓q_lI_52, ↓q_sI_51, ↓q_sI_52, e2, e4, hcv, h21, nI_leI, hcz, nI_1, e3]
    · have hcz' : c.length < z := by omega
      have hwz : ws.length * z ≤ 3 * 32 := Nat.mul_le_mul (by omega) hz
      obtain ⟨Q', r1, r2, r3, r4, r5⟩ := ih f (q_u2 (q_u2 Q 52 (32 * o + (low + d)) (nI ((ws.flatten ++ c).count (nI (32 * o + (low + d))) + 1))) 51 (160 * i + ws.length * z + c.length) (nI (32 * o + (low + d)))) (c ++ [nI (32 * o + (low + d))]) (by omega) (by omega) (by rw [hlen]; omega) htl1 (q_MW_in (q_MW_Q hmw (q_u2_n _ _ _ (by decide))) hwl) (fun v hv => by rw [q_u2_n _ _ _ (by decide)]; exact hmc1 v hv)
      refine ⟨Q', fun j j1 j2 => by rw [r1 j j1 j2, q_u2_n _ _ _ j1, q_u2_n _ _ _ j2], fun x hx => by rw [r2 x hx, q_u2_s, q_u1_n _ _ (by omega), q_u2_n _ _ _ (by decide)], ?_, by rw [hpl]; exact r4, by rw [hpl]; exact r5⟩
      rw [hpl]
      refine Eq.trans ?_ r3
      rw [F_X13_words_461, e1, hlen]
      simp (disch := first | rfl | omega | decide | exact Nat.le_of_ble_eq_true rfl) only [↓q_br, q_rt, q_rz, q_gd, q_ca, ↓reduceIte, F_X13_words_461B, F_X13_words_520, ↓q_gA_26_38, ↓q_gA_26_39, ↓q_gI_26_21, ↓q_lI_51, ↓q_lI_52, ↓q_sI_51, ↓q_sI_52, e2, e4, hcv, h21, nI_leI, hcz, hm3, nI_1, e3]
end QNA
