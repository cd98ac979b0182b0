theorem q_nI_subI {a b : Nat} (ha : a < 2 ^ 30) (hb : b < 2 ^ 30) : (nI a - nI b).toInt = (a : Int) - (b : Int) := by
  rw [Int32.toInt_sub, nI_toInt (by omega), nI_toInt (by omega)]
  exact Int.bmod_eq_of_le (by omega) (by omega)
section QNA
variable {κ : Nat → Nat} {b : Nat} {B : Nat → Int32} {l : List q_Tok} {z t : Nat} {I : Nat → Nat → Int32} {R : Nat → Nat → Option Nat} {X : Nat → Nat → Int32} {Y : Nat → Nat → Int64} {Z : Nat → Nat → Option Nat} {C : q_CT} {M : q_MT} {P : Nat → Int32} {Q : Nat → Nat → Int32} {S : Nat → Nat → Int64} {O : Nat → Int64} {D : q_Mem} {s : Nat × Nat}
theorem q_bytesBehind_45 {a la : Nat} {nm : q_Nam} {g : Nat → Int32} {bh : Int32} (h : q_TC B l z I X Y) (ht : t < l.length) (h1 : b + 66 < a ∧ D a = some (.inr (.inl (10, [.ref la])))) (h2 : b + 66 < la ∧ D la = some (.inl (0, nm.length, .inl g))) (h20 : nm.length ≤ 20) (hg : ∀ i, i < nm.length → g i = nm.getD i 0) (hlen : nm.length ≤ (q_tok l t).2.2.1 - (q_tok l t).2.1) : ∀ n fuel j, j + n = nm.length → n < fuel → F_X7_bytesBehind_45 κ fuel (some a) (some (b + 2)) (nI (q_tok l t).2.1) bh (nI j) (q_H b (I, R, X, Y, Z) M O D, s) = some (.inl (if q_eqf (fun k => B ((q_tok l t).2.1 + k)) (fun k => nm.getD k 0) n j = true then bh else -1), (q_H b (I, R, X, Y, Z) M O D, s)) := by
  have hz := h.2.2.1
  obtain ⟨w1, w2, w3, -⟩ := h.2.2.2.2.1 t _ (q_tok_s ht)
  intro n
  induction n with
  | zero =>
    intro fuel j j1 j2
    obtain ⟨f, rfl⟩ : ∃ f, fuel = f + 1 := ⟨fuel - 1, by omega⟩
    have h3 : nm.length ≤ j := by omega
    simp (disch := first | rfl | omega | decide | exact Nat.le_of_ble_eq_true rfl) only [F_X7_bytesBehind_45, ↓q_br, q_rt, q_rz, q_gd, q_ca, ↓reduceIte, F_X7_bytesBehind_45B, ↓q_gA_2_0, ↓q_lI_3, ↓q_ln_3, qd_A h1 (k := 0) (r := some la) rfl, qd_N h2, nI_leI, h3, q_eqf]
  | succ n ih =>
    intro fuel j j1 j2
    obtain ⟨f, rfl⟩ : ∃ f, fuel = f + 1 := ⟨fuel - 1, by omega⟩
    have h3 : ¬ nm.length ≤ j := by omega
    have h5 : X 3 ((q_tok l t).2.1 + j) = B ((q_tok l t).2.1 + j) := h.2.2.2.2.2.1 _ (by omega)
    have h6 := hg j (by omega)
    have hj : j < nm.length := by omega
    have hN : nm.length < 2 ^ 31 := by omega
    simp (disch := first | rfl | omega | decide | exact Nat.le_of_ble_eq_true rfl) only [F_X7_bytesBehind_45, ↓q_br, q_rt, q_rz, q_gd, q_ca, ↓reduceIte, F_X7_bytesBehind_45B, ↓q_gA_2_0, ↓q_lI_3, ↓q_ln_3, qd_A h1 (k := 0) (r := some la) rfl, qd_N h2, nI_leI, h3, nI_add, h5, qd_aI h2 hj hN, h6, nI_1, q_eqf]
    by_cases h7 : B ((q_tok l t).2.1 + j) = nm.getD j 0
    · simp only [h7, if_true, decide_true, Bool.true_and]
      exact ih f (j + 1) (by omega) (by omega)
    · simp only [h7, if_false, decide_false, Bool.false_and, Bool.false_eq_true]
theorem q_bytesBehind {a n : Nat} {nm : q_Nam} (h : q_TC B l z I X Y) (hN : q_CN b n D a nm) (ht : t < l.length + 3) : F_X7_bytesBehind κ (some a) (some (b + 2)) (nI t) (q_H b (I, R, X, Y, Z) M O D, s) = some (.inl (q_bb B (q_tok l t) nm), (q_H b (I, R, X, Y, Z) M O D, s)) := by
  have hz := h.2.2.1
  have hl := h.2.1
  obtain ⟨la, g, a1, a2, a3, a4, a5, a6, a7, a8⟩ := hN
  have h1 : b + 66 < a ∧ D a = some (.inr (.inl (10, [.ref la]))) := ⟨a1, a5⟩
  have h2 : b + 66 < la ∧ D la = some (.inl (0, nm.length, .inl g)) := ⟨a3, a6⟩
  have h3 : (X 4 t = (1 : Int32)) ↔ (q_tok l t).1 = 1 := q_TC_is (c := 1) h ht (by decide)
  unfold q_bb
  by_cases h4 : (q_tok l t).1 = 1
  · have hlt := q_tok_lt (l := l) (t := t) (by omega)
    obtain ⟨w1, w2, w3, -⟩ := h.2.2.2.2.1 t _ (q_tok_s hlt)
    have e1 := q_TC_st h hlt
    have e2 := q_TC_en h hlt
    by_cases h5 : nm.length ≤ (q_tok l t).2.2.1 - (q_tok l t).2.1
    · have h6 := q_bytesBehind_45 (κ := κ) (R := R) (Z := Z) (M := M) (O := O) (s := s) (bh := nI ((q_tok l t).2.2.1 - (q_tok l t).2.1 - nm.length)) h hlt h1 h2 a7 a8 h5 nm.length q_fu 0 (by omega) (by unfold q_fu; omega)
      rw [nI_0] at h6
      have h7 : (0 : Int32) ≤ nI ((q_tok l t).2.2.1 - (q_tok l t).2.1 - nm.length) := nI_pos' (by omega)
      simp (disch := first | rfl | omega | decide | exact Nat.le_of_ble_eq_true rfl) only [↓q_br, q_rt, q_rz, q_gd, q_ca, ↓reduceIte, F_X7_bytesBehind, ↓q_gA_2_1, ↓q_gA_2_2, ↓q_gA_2_3, ↓q_lI_4, ↓q_lI_5, ↓q_lI_6, ↓q_ln_4, ↓q_ln_5, ↓q_ln_6, h3, h4, e1, e2, qd_A h1 (k := 0) (r := some la) rfl, qd_N h2, nI_sub, h7, h6, true_and, q_pfx, h5]
    · have h7 : ¬ (0 : Int32) ≤ nI ((q_tok l t).2.2.1 - (q_tok l t).2.1) - nI nm.length := by
        rw [Int32.le_iff_toInt_le, q_nI_subI (by omega) (by omega)]
        have : (0 : Int32).toInt = 0 := by decide
        omega
      have h8 : ¬ nm.isPrefixOf (q_tB B (q_tok l t)) = true := fun h9 => h5 (q_pfx.mp h9).1
      simp (disch := first | rfl | omega | decide | exact Nat.le_of_ble_eq_true rfl) only [↓q_br, q_rt, q_rz, q_gd, q_ca, ↓reduceIte, F_X7_bytesBehind, ↓q_gA_2_1, ↓q_gA_2_2, ↓q_gA_2_3, ↓q_lI_4, ↓q_lI_5, ↓q_lI_6, ↓q_ln_4, ↓q_ln_5, ↓q_ln_6, h3, h4, e1, e2, qd_A h1 (k := 0) (r := some la) rfl, qd_N h2, nI_sub, h7, h8, true_and]
      simp
  · simp (disch := first | rfl | omega | decide | exact Nat.le_of_ble_eq_true rfl) only [↓q_br, q_rt, q_rz, q_gd, q_ca, ↓reduceIte, F_X7_bytesBehind, ↓q_gA_2_1, ↓q_gA_2_2, ↓q_gA_2_3, ↓q_lI_4, ↓q_lI_5, ↓q_lI_6, ↓q_ln_4, ↓q_ln_5, ↓q_ln_6, h3, h4, false_and]
end QNA
