section QKB
variable {κ : Nat → Nat} {b : Nat} {B : Nat → Int32} {l : List q_Tok} {z t : Nat} {I : Nat → Nat → Int32} {R : Nat → Nat → Option Nat} {X : Nat → Nat → Int32} {Y : Nat → Nat → Int64} {Z : Nat → Nat → Option Nat} {C : q_CT} {M : q_MT} {O : Nat → Int64} {D : q_Mem} {s : Nat × Nat}
theorem q_widen_5 {a w : Nat} {c0 c1 c2 c3 : Value} (ha : b + 66 < a) (hw : w ≤ 64) : ∀ f fuel n, n + f = 7 → f < fuel → F_X2_widen_5 κ fuel (some a) (q_H b C M O (q_up D a (.inr (.inl (5, [c0, c1, c2, c3, .int (nI w), .int (nI n)])))), s) = some (.inl (), (q_H b C M O (q_up D a (.inr (.inl (5, [c0, c1, c2, c3, .int (nI w), .int (nI (q_nd w f n))])))), s)) := by
  intro f
  induction f with
  | zero =>
    intro fuel n h1 h2
    obtain ⟨g, rfl⟩ : ∃ g, fuel = g + 1 := ⟨fuel - 1, by omega⟩
    have h3 : n = 7 := by omega
    subst h3
    have hD : b + 66 < a ∧ q_up D a (.inr (.inl (5, [c0, c1, c2, c3, .int (nI w), .int (nI 7)]))) a = some (.inr (.inl (5, [c0, c1, c2, c3, .int (nI w), .int (nI 7)]))) := ⟨ha, q_up_s _ _ _⟩
    have g1 : ¬ (32 : Int32) ≤ nI 7 := by decide
    have g2 : (nI w).toInt64 ≤ lN (2 ^ 7) := by
      rw [nI_l (by omega), lN_le (by omega) (by decide)]
      omega
    simp (disch := first | rfl | omega | decide | exact Nat.le_of_ble_eq_true rfl) only [F_X2_widen_5, F_X2_widen_5B, F_X2_widen_42, qd_I hD (k := 5) (v := nI 7) rfl, qd_I hD (k := 4) (v := nI w) rfl, q_br, g1, if_false, q_shl1, lg_cmp_ge, g2, if_true, q_nd, q_rt]
  | succ f ih =>
    intro fuel n h1 h2
    obtain ⟨g, rfl⟩ : ∃ g, fuel = g + 1 := ⟨fuel - 1, by omega⟩
    have hD : b + 66 < a ∧ q_up D a (.inr (.inl (5, [c0, c1, c2, c3, .int (nI w), .int (nI n)]))) a = some (.inr (.inl (5, [c0, c1, c2, c3, .int (nI w), .int (nI n)]))) := ⟨ha, q_up_s _ _ _⟩
    have g1 : ¬ (32 : Int32) ≤ nI n := by
      have := nI_leI (a := 32) (b := n) (by decide) (by omega)
      intro h9
      have := this.mp h9
      omega
    have hp : 2 ^ n < 2 ^ 31 := Nat.pow_lt_pow_right (by decide) (by omega)
    have g2 : ((nI w).toInt64 ≤ lN (2 ^ n)) ↔ w ≤ 2 ^ n := by
      rw [nI_l (by omega), lN_le (by omega) hp]
    simp (disch := first | rfl | omega | decide | exact Nat.le_of_ble_eq_true rfl) only [F_X2_widen_5, F_X2_widen_5B, F_X2_widen_42, qd_I hD (k := 5) (v := nI n) rfl, qd_I hD (k := 4) (v := nI w) rfl, q_br, g1, if_false, q_shl1, lg_cmp_ge, g2, q_nd, q_rt, nI_1]
    by_cases h5 : w ≤ 2 ^ n
    · rw [if_pos h5, if_pos h5]
    · rw [if_neg h5, if_neg h5, qd_Wu ha (by simp)]
      exact ih g (n + 1) (by omega) (by omega)
theorem q_widen {a w : Nat} {c0 c1 c2 c3 c5 : Value} (hD : b + 66 < a ∧ D a = some (.inr (.inl (5, [c0, c1, c2, c3, .int (nI w), c5])))) (hw : w ≤ 64) : F_X2_widen κ (some a) (q_H b C M O D, s) = some (.inl (), (q_H b C M O (q_up D a (.inr (.inl (5, [c0, c1, c2, c3, .int (nI w), .int (nI (q_nd w 6 1))])))), s)) := by
  unfold F_X2_widen
  rw [qd_W hD (by simp)]
  exact q_widen_5 (κ := κ) hD.1 hw 6 q_fu 1 (by omega) (by unfold q_fu; omega)
theorem q_widen_x {a : Nat} {c0 c1 c2 c3 c5 : Value} (hD : b + 66 < a ∧ D a = some (.inr (.inl (5, [c0, c1, c2, c3, .int (-1), c5])))) : F_X2_widen κ (some a) (q_H b C M O D, s) = some (.inl (), (q_H b C M O (q_up D a (.inr (.inl (5, [c0, c1, c2, c3, .int (-1), .int 1])))), s)) := by
  unfold F_X2_widen
  rw [qd_W hD (by simp)]
  have hD2 : b + 66 < a ∧ q_up D a (.inr (.inl (5, [c0, c1, c2, c3, .int (-1), .int 1]))) a = some (.inr (.inl (5, [c0, c1, c2, c3, .int (-1), .int 1]))) := ⟨hD.1, q_up_s _ _ _⟩
  obtain ⟨fu, e0⟩ : ∃ fu, q_fu = fu + 1 := ⟨3999999, rfl⟩
  have g1 : ¬ (32 : Int32) ≤ 1 := by decide
  have g2 : (0 ≤ (lg_cmp ((1 : Int64) <<< ((1 : Int32).toInt64 &&& 63)) (-1 : Int32).toInt64)) := by decide
  rw [e0]
  simp only [List.set_cons_succ, List.set_cons_zero]
  simp (disch := first | rfl | omega | decide | exact Nat.le_of_ble_eq_true rfl) only [F_X2_widen_5, F_X2_widen_5B, F_X2_widen_42, qd_I hD2 (k := 5) (v := 1) rfl, qd_I hD2 (k := 4) (v := -1) rfl, q_br, g1, if_false, g2, if_true, q_rt]
theorem q_memberAt_2 {a n a1 a2 a3 : Nat} {f : Nat → Option Nat} {K : q_Knd} (h : q_TC B l z I X Y) (ht : t < l.length + 3) (hy : (q_tok l t).1 = 1) (hk : q_CKo b n D a a1 a2 a3 f K) (hs : q_kS K = 4) (hm : (q_kM K).length = q_kZ K) (hz : q_kZ K ≤ 32) : ∀ m fuel k, k + m = (q_kM K).length → m < fuel → F_X2_memberAt_2 κ fuel (some a) (some (b + 2)) (nI t) (nI k) (q_H b (I, R, X, Y, Z) M O D, s) = some (.inl (q_mv (q_fi (fun i => decide (q_tB B (q_tok l t) = (q_kM K).getD i [])) m k)), (q_H b (I, R, X, Y, Z) M O D, s)) := by
  obtain ⟨k1, k2, k3, k4, k5, k6, k7, k8, k9⟩ := hk
  rw [if_pos hs] at k8
  have e3 : b + 66 < a ∧ D a = some (.inr (.inl (5, [.int (nI (q_kS K)), .ref a1, .ref a2, .ref a3, .int (nI (q_kZ K)), .int (nI (q_kB K))]))) := ⟨k1, k3⟩
  have e4 : b + 66 < a3 ∧ D a3 = some (.inl (6, 32, .inr (.inr (.inr (.inr f))))) := ⟨k6, k8⟩
  intro m
  induction m with
  | zero =>
    intro fuel k h1 h2
    obtain ⟨g, rfl⟩ : ∃ g, fuel = g + 1 := ⟨fuel - 1, by omega⟩
    have h3 : q_kZ K ≤ k := by omega
    simp (disch := first | rfl | omega | decide | exact Nat.le_of_ble_eq_true rfl) only [F_X2_memberAt_2, ↓q_br, q_rt, q_rz, q_gd, q_ca, ↓reduceIte, F_X2_memberAt_2B, F_X2_memberAt_41, qd_A e3 (k := 3) (r := some a3) rfl, qd_N e4, qd_I e3 (k := 4) (v := nI (q_kZ K)) rfl, nI_leI, h3, q_fi, q_mv]
    by_cases h9 : 32 ≤ k <;> simp [h9]
  | succ m ih =>
    intro fuel k h1 h2
    obtain ⟨g, rfl⟩ : ∃ g, fuel = g + 1 := ⟨fuel - 1, by omega⟩
    have h3 : ¬ q_kZ K ≤ k := by omega
    have h4 : ¬ 32 ≤ k := by omega
    have h5 : k < (q_kM K).length := by omega
    have hg := List.getElem?_eq_getElem h5
    obtain ⟨a', e1, e2⟩ := k9 k _ hg
    have hgd : (q_kM K).getD k [] = (q_kM K)[k] := by simp [List.getD, h5]
    have e5 : b + 66 < a' ∧ ∃ la, D a' = some (.inr (.inl (10, [.ref la]))) := by
      obtain ⟨la, g', y1, y2, y3, y4, y5, y6⟩ := e2
      exact ⟨y1, la, y5⟩
    obtain ⟨e5, la, e6⟩ := e5
    have e7 : b + 66 < a' ∧ D a' = some (.inr (.inl (10, [.ref la]))) := ⟨e5, e6⟩
    have e8 := q_bytesBehind (κ := κ) (R := R) (Z := Z) (M := M) (O := O) (s := s) h e2 ht
    have e9 : q_bb B (q_tok l t) (q_kM K)[k] = 0 ↔ q_tB B (q_tok l t) = (q_kM K)[k] := by
      rw [q_bb_0 (q_tok_e31 h)]
      exact ⟨fun h => h.2, fun h => ⟨hy, h⟩⟩
    have hk32 : k < 32 := by omega
    simp (disch := first | rfl | omega | decide | exact Nat.le_of_ble_eq_true rfl) only [F_X2_memberAt_2, ↓q_br, q_rt, q_rz, q_gd, q_ca, ↓reduceIte, F_X2_memberAt_2B, F_X2_memberAt_41, qd_A e3 (k := 3) (r := some a3) rfl, qd_N e4, qd_I e3 (k := 4) (v := nI (q_kZ K)) rfl, nI_leI, h3, h4, qd_aA e4 hk32 (by decide), e1, qd_S e7, e8, e9, nI_1, q_fi, decide_eq_true_eq, hgd]
    by_cases h7 : q_tB B (q_tok l t) = (q_kM K)[k]
    · simp only [h7, not_true_eq_false, if_false, if_true, q_mv]
    · simp only [h7, not_false_eq_true, if_true, if_false]
      exact ih g (k + 1) (by omega) (by omega)
theorem q_memberAt {a n a1 a2 a3 : Nat} {f : Nat → Option Nat} {K : q_Knd} (h : q_TC B l z I X Y) (hy : (q_tok l t).1 = 1) (hk : q_CKo b n D a a1 a2 a3 f K) (hs : q_kS K = 4) (hm : (q_kM K).length = q_kZ K) (hz : q_kZ K ≤ 32) : F_X2_memberAt κ (some a) (some (b + 2)) (nI t) (q_H b (I, R, X, Y, Z) M O D, s) = some (.inl (q_mv (q_fi (fun i => decide (q_tB B (q_tok l t) = (q_kM K).getD i [])) (q_kM K).length 0)), (q_H b (I, R, X, Y, Z) M O D, s)) := by
  have hlt := q_tok_lt (l := l) (t := t) (by omega)
  have h1 := q_memberAt_2 (κ := κ) (R := R) (Z := Z) (M := M) (O := O) (s := s) h (by omega) hy hk hs hm hz (q_kM K).length q_fu 0 (by omega) (by unfold q_fu; omega)
  rw [nI_0] at h1
  unfold F_X2_memberAt
  exact h1
/-- whether c holds of n bytes from j on -/
def q_al (c : Nat → Bool) : Nat → Nat → Bool
  | 0, _ => true
  | n + 1, j => c j && q_al c n (j + 1)
def q_lt (B : Nat → Int32) (x : q_Tok) : Bool := q_al (fun i => q_ltr (B i)) (x.2.2.1 - x.2.1) x.2.1
theorem q_hasOnlyLetters_7 (h : q_TC B l z I X Y) (ht : t < l.length) : ∀ n fuel j, j + n = (q_tok l t).2.2.1 → n < fuel → F_X10_hasOnlyLetters_7 κ fuel (some (b + 2)) (nI t) (nI j) (q_H b (I, R, X, Y, Z) M O D, s) = some (.inl (q_b (q_al (fun i => q_ltr (B i)) n j)), (q_H b (I, R, X, Y, Z) M O D, s)) := by
  have hz := h.2.2.1
  have hl := h.2.1
  obtain ⟨w1, w2, w3, -⟩ := h.2.2.2.2.1 t _ (q_tok_s ht)
  have e2 := q_TC_en h ht
  intro n
  induction n with
  | zero =>
    intro fuel j h1 h2
    obtain ⟨f, rfl⟩ : ∃ f, fuel = f + 1 := ⟨fuel - 1, by omega⟩
    have h3 : (q_tok l t).2.2.1 ≤ j := by omega
    simp (disch := first | rfl | omega | decide | exact Nat.le_of_ble_eq_true rfl) only [F_X10_hasOnlyLetters_7, ↓q_br, q_rt, q_rz, q_gd, q_ca, ↓reduceIte, F_X10_hasOnlyLetters_7B, ↓q_gA_2_0, ↓q_gA_2_3, ↓q_lI_3, ↓q_lI_6, e2, nI_leI, h3, q_al]
    rfl
  | succ n ih =>
    intro fuel j h1 h2
    obtain ⟨f, rfl⟩ : ∃ f, fuel = f + 1 := ⟨fuel - 1, by omega⟩
    have h3 : ¬ (q_tok l t).2.2.1 ≤ j := by omega
    have h5 : X 3 j = B j := h.2.2.2.2.2.1 _ (by omega)
    simp (disch := first | rfl | omega | decide | exact Nat.le_of_ble_eq_true rfl) only [F_X10_hasOnlyLetters_7, ↓q_br, q_rt, q_rz, q_gd, q_ca, ↓reduceIte, F_X10_hasOnlyLetters_7B, ↓q_gA_2_0, ↓q_gA_2_3, ↓q_lI_3, ↓q_lI_6, e2, nI_leI, h3, h5, q_X10_isLetter, q_b_0, nI_1, q_al]
    by_cases h7 : q_ltr (B j) = true
    · simp only [h7, Bool.true_eq_false, not_false_eq_true, if_true, Bool.true_and]
      exact ih f (j + 1) (by omega) (by omega)
    · simp [h7, q_b]
theorem q_hasOnlyLetters (h : q_TC B l z I X Y) (ht : t < l.length) : F_X10_hasOnlyLetters κ (some (b + 2)) (nI t) (q_H b (I, R, X, Y, Z) M O D, s) = some (.inl (q_b (q_lt B (q_tok l t))), (q_H b (I, R, X, Y, Z) M O D, s)) := by
  have hz := h.2.2.1
  have hl := h.2.1
  obtain ⟨w1, w2, w3, -⟩ := h.2.2.2.2.1 t _ (q_tok_s ht)
  have e1 := q_TC_st h ht
  have h1 := q_hasOnlyLetters_7 (κ := κ) (b := b) (R := R) (Z := Z) (M := M) (O := O) (D := D) (s := s) h ht ((q_tok l t).2.2.1 - (q_tok l t).2.1) q_fu (q_tok l t).2.1 (by omega) (by unfold q_fu; omega)
  simp (disch := first | rfl | omega | decide | exact Nat.le_of_ble_eq_true rfl) only [↓q_br, q_rt, q_rz, q_gd, q_ca, ↓reduceIte, F_X10_hasOnlyLetters, ↓q_gA_2_2, ↓q_lI_5, e1, h1, q_lt]
end QKB
