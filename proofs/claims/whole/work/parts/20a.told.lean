/-! ===== the digits of a word: told, overlap ===== -/
def q_dw (p : Int32 → Bool) : Nat → List Int32 → Nat
  | v, [] => v
  | v, s :: t => q_dw p (2 * v + (if p s = true then 1 else 0)) t
theorem q_dw_lt {p : Int32 → Bool} : ∀ (c : List Int32) v, q_dw p v c < (v + 1) * 2 ^ c.length := by
  intro c
  induction c with
  | nil => intro v; simp [q_dw]
  | cons s t ih =>
    intro v
    rw [q_dw, List.length_cons, Nat.pow_succ]
    have h := ih (2 * v + (if p s = true then 1 else 0))
    have h2 : 2 * v + (if p s = true then 1 else 0) + 1 ≤ 2 * (v + 1) := by split <;> omega
    have h3 := Nat.mul_le_mul_right (2 ^ t.length) h2
    have h4 : 2 * (v + 1) * 2 ^ t.length = (v + 1) * (2 ^ t.length * 2) := by
      rw [Nat.mul_comm 2 (v + 1), Nat.mul_assoc, Nat.mul_comm 2]
    omega
theorem q_dw_tb {p : Int32 → Bool} : ∀ (c : List Int32) v j, (q_dw p v c).testBit j = if j < c.length then p (c.getD (c.length - 1 - j) 0) else v.testBit (j - c.length) := by
  intro c
  induction c with
  | nil => intro v j; simp [q_dw]
  | cons s t ih =>
    intro v j
    rw [q_dw, ih, List.length_cons]
    by_cases h1 : j < t.length
    · rw [if_pos h1, if_pos (by omega), show t.length + 1 - 1 - j = (t.length - 1 - j) + 1 from by omega, List.getD_cons_succ]
    · rw [if_neg h1]
      by_cases h2 : j = t.length
      · subst h2
        rw [if_pos (show t.length < t.length + 1 from by omega), Nat.sub_self, show t.length + 1 - 1 - t.length = 0 from by omega, List.getD_cons_zero, Nat.testBit_zero]
        cases p s <;> simp <;> omega
      · rw [if_neg (show ¬ j < t.length + 1 from by omega), show j - t.length = (j - (t.length + 1)) + 1 from by omega, Nat.testBit_succ]
        congr 1
        split <;> omega
theorem q_dw_ext {p : Int32 → Bool} {c : List Int32} {z mv : Nat} (hz : c.length = z) (h32 : z ≤ 32) (hm : mv < 2 ^ 32) (h : ∀ j, j < 32 → mv.testBit j = (match q_ca9 z c j with
    | some s => p s
    | none => false)) : mv = q_dw p 0 c := by
  apply Nat.eq_of_testBit_eq
  intro j
  rw [q_dw_tb]
  by_cases h1 : j < 32
  · rw [h j h1]
    unfold q_ca9
    by_cases h2 : j < z
    · have h3 : z - 1 - j < c.length := by omega
      rw [if_pos h2, List.getElem?_eq_getElem h3, if_pos (by omega), hz, List.getD_eq_getElem?_getD, List.getElem?_eq_getElem h3]
      rfl
    · rw [if_neg h2, if_neg (by omega)]
      simp
  · rw [if_neg (by omega), Nat.testBit_lt_two_pow (Nat.lt_of_lt_of_le hm (Nat.pow_le_pow_right (by decide) (by omega)))]
    simp
def q_pn (s : Int32) : Bool := decide (s < 0)
def q_p2 (s : Int32) : Bool := decide (s = -2)
theorem q_CWd_dw {z w : Nat} {W : List (List Int32)} {c : List Int32} {fm fd : Nat → Int64} {fs : Nat → Int32} (h : q_CWd z (W ++ [[]]) fm fd fs) (hw : W[w]? = some c) (h4 : w < 4) (hc : c.length = z) (hz : z ≤ 32) : fm w = lN (q_dw q_pn 0 c) ∧ fd w = lN (q_dw q_p2 0 c) ∧ ∀ j, j < 32 → fs (w * 32 + j) = q_cs z c j := by
  obtain ⟨mv, dv, h1, h2, h3, h5, h6⟩ := h w h4
  have hlt : w < W.length := (List.getElem?_eq_some_iff.mp hw).1
  have e : (W ++ [[]]).getD w [] = c := by rw [q_lw, if_neg (by omega), List.getD_eq_getElem?_getD, hw]; rfl
  rw [e] at h6
  refine ⟨?_, ?_, fun j hj => (h6 j hj).2.2⟩
  · rw [h1, q_dw_ext (p := q_pn) hc hz h3 (fun j hj => (h6 j hj).1)]
  · rw [h2, q_dw_ext (p := q_p2) hc hz h5 (fun j hj => (h6 j hj).2.1)]
section QTA
variable {κ : Nat → Nat} {b : Nat} {C : q_CT} {P : Nat → Int32} {Q : Nat → Nat → Int32} {S : Nat → Nat → Int64} {O : Nat → Int64} {D : q_Mem} {s : Nat × Nat}
theorem q_MW_at {i z w k : Nat} {W : List (List Int32)} {c : List Int32} (h : q_MW Q i z W) (hw : W[w]? = some c) (hc : c.length = z) (hk : k < z) : Q 51 (160 * i + w * z + k) = c.getD k 0 := by
  have h2 : k < c.length := by omega
  rw [h w c hw k _ hk (List.getElem?_eq_getElem h2), List.getD_eq_getElem?_getD, List.getElem?_eq_getElem h2]
  rfl
theorem q_160 {i w z k : Nat} (hi : i < 96) (hw : w < 4) (hz : z ≤ 32) (hk : k < z) : 160 * i + w * z + k < 15360 := by
  have : w * z ≤ 3 * 32 := Nat.mul_le_mul (by omega) hz
  omega
theorem q_mdig {i z w : Nat} {c : List Int32} {ones : Bool} (h21 : P 21 = nI z) (hz : z ≤ 32) (hc : c.length = z) (hi : i < 96) (hw : w < 4) (hQ : ∀ k, k < z → Q 51 (160 * i + w * z + k) = c.getD k 0) : ∀ d fuel k v, k + d = z → d < fuel → F_X13_digits_6 κ fuel (some (b + 26)) (nI i) (nI w) (q_b ones) (lN v) (nI k) (q_H b C (P, Q, S) O D, s) = some (.inl (lN (q_dw (if ones = true then q_p2 else q_pn) v (c.drop k))), (q_H b C (P, Q, S) O D, s)) := by
  intro d
  induction d with
  | zero =>
    intro fuel k v h1 h2
    obtain ⟨f, rfl⟩ : ∃ f, fuel = f + 1 := ⟨fuel - 1, by omega⟩
    have h3 : z ≤ k := by omega
    rw [F_X13_digits_6, List.drop_eq_nil_of_le (by omega), q_dw]
    simp (disch := first | rfl | omega | decide | exact Nat.le_of_ble_eq_true rfl) only [↓q_br, q_rt, q_rz, q_gd, q_ca, ↓reduceIte, F_X13_digits_6B, ↓q_gA_26_38, ↓q_gI_26_21, ↓q_lI_51, h21, nI_leI, h3]
  | succ d ih =>
    intro fuel k v h1 h2
    obtain ⟨f, rfl⟩ : ∃ f, fuel = f + 1 := ⟨fuel - 1, by omega⟩
    have h3 : ¬ z ≤ k := by omega
    have hk : k < c.length := by omega
    have hx := q_160 hi hw hz (by omega : k < z)
    have hm3 : (((160 : Int32) * nI i) + (nI w * nI z)) + nI k = nI (160 * i + w * z + k) := q_idx3 160 i w z k
    have hq := hQ k (by omega)
    have e2 : (2 : Int64) * lN v = lN (2 * v) := lN_mul 2 v
    have eA : lN (2 * v) + (1 : Int32).toInt64 = lN (2 * v + 1) := lN_add (2 * v) 1
    have eB : lN (2 * v) + (0 : Int32).toInt64 = lN (2 * v + 0) := lN_add (2 * v) 0
    have hd : c.drop k = c.getD k 0 :: c.drop (k + 1) := by
      rw [List.drop_eq_getElem_cons hk, List.getD_eq_getElem?_getD, List.getElem?_eq_getElem hk]
      rfl
    obtain ⟨sv, hsv⟩ : ∃ sv, sv = c.getD k 0 := ⟨_, rfl⟩
    rw [← hsv] at hq hd
    rw [hd, q_dw, F_X13_digits_6]
    by_cases hs : sv < 0
    · have hs0 : ¬ (0 : Int32) ≤ sv := Int32.not_le.mpr hs
      cases ones with
      | false =>
        have p1 : (if (false : Bool) = true then q_p2 else q_pn) sv = true := decide_eq_true hs
        rw [p1]
        have o0 : (q_b false = 0) = True := eq_true rfl
        simp (disch := first | rfl | omega | decide | exact Nat.le_of_ble_eq_true rfl) only [↓q_br, q_rt, q_rz, q_gd, q_ca, ↓reduceIte, F_X13_digits_6B, F_X13_digits_59, F_X13_digits_64, ↓q_gA_26_38, ↓q_gI_26_21, ↓q_lI_51, h21, nI_leI, h3, hm3, hq, hs0, o0, e2, eA, nI_1]
        exact ih f (k + 1) (2 * v + 1) (by omega) (by omega)
      | true =>
        have o1 : (q_b true = 0) = False := eq_false (by decide)
        by_cases hs2 : sv = -2
        · have p1 : (if (true : Bool) = true then q_p2 else q_pn) sv = true := decide_eq_true hs2
          rw [p1]
          rw [hs2] at hq hs0
          have n2 : (¬ (-2 : Int32) = -2) = False := eq_false (fun h => h rfl)
          simp (disch := first | rfl | omega | decide | exact Nat.le_of_ble_eq_true rfl) only [↓q_br, q_rt, q_rz, q_gd, q_ca, ↓reduceIte, F_X13_digits_6B, F_X13_digits_59, F_X13_digits_64, ↓q_gA_26_38, ↓q_gI_26_21, ↓q_lI_51, h21, nI_leI, h3, hm3, hq, hs0, o1, n2, e2, eA, nI_1]
          exact ih f (k + 1) (2 * v + 1) (by omega) (by omega)
        · have p1 : (if (true : Bool) = true then q_p2 else q_pn) sv = false := decide_eq_false hs2
          rw [p1]
          simp (disch := first | rfl | omega | decide | exact Nat.le_of_ble_eq_true rfl) only [↓q_br, q_rt, q_rz, q_gd, q_ca, ↓reduceIte, F_X13_digits_6B, F_X13_digits_63, F_X13_digits_64, ↓q_gA_26_38, ↓q_gI_26_21, ↓q_lI_51, h21, nI_leI, h3, hm3, hq, hs0, o1, hs2, not_false_eq_true, e2, eB, nI_1, Bool.false_eq_true]
          exact ih f (k + 1) (2 * v + 0) (by omega) (by omega)
    · have hs0 : (0 : Int32) ≤ sv := Int32.not_lt.mp hs
      have p1 : (if ones = true then q_p2 else q_pn) sv = false := by
        cases ones with
        | false => exact decide_eq_false hs
        | true => exact decide_eq_false (fun h => hs (by rw [h]; decide))
      rw [p1]
      simp (disch := first | rfl | omega | decide | exact Nat.le_of_ble_eq_true rfl) only [↓q_br, q_rt, q_rz, q_gd, q_ca, ↓reduceIte, F_X13_digits_6B, F_X13_digits_63, F_X13_digits_64, ↓q_gA_26_38, ↓q_gI_26_21, ↓q_lI_51, h21, nI_leI, h3, hm3, hq, hs0, e2, eB, nI_1, Bool.false_eq_true]
      exact ih f (k + 1) (2 * v + 0) (by omega) (by omega)
theorem q_mdgs {i z w : Nat} {W : List (List Int32)} {c : List Int32} {ones : Bool} (h21 : P 21 = nI z) (hz : z ≤ 32) (hc : c.length = z) (hi : i < 96) (hw : w < 4) (hW : q_MW Q i z W) (hwc : W[w]? = some c) : F_X13_digits κ (some (b + 26)) (nI i) (nI w) (q_b ones) (q_H b C (P, Q, S) O D, s) = some (.inl (lN (q_dw (if ones = true then q_p2 else q_pn) 0 c)), (q_H b C (P, Q, S) O D, s)) := by
  have := q_mdig (κ := κ) (b := b) (C := C) (S := S) (O := O) (D := D) (s := s) (ones := ones) h21 hz hc hi hw (fun k hk => q_MW_at hW hwc hc hk) z q_fu 0 0 (by omega) (by unfold q_fu; omega)
  rw [nI_0] at this
  exact this
theorem q_hasIns {I : Nat → Nat → Int32} {R : Nat → Nat → Option Nat} {X : Nat → Nat → Int32} {Y : Nat → Nat → Int64} {Z : Nat → Nat → Option Nat} {M : q_MT} {nj : Nat} {x : Int32} (h : I 8 4 = nI nj) : F_X5_hasInstruction κ (some (b + 8)) x (q_H b (I, R, X, Y, Z) M O D, s) = some (.inl (q_b (decide (¬ x < 0 ∧ ¬ nI nj ≤ x))), (q_H b (I, R, X, Y, Z) M O D, s)) := by
  by_cases h1 : x < 0
  · simp (disch := first | rfl | omega | decide | exact Nat.le_of_ble_eq_true rfl) only [↓q_br, q_rt, q_rz, q_gd, q_ca, ↓reduceIte, F_X5_hasInstruction, F_X5_hasInstruction_16, F_X5_hasInstruction_17, ↓q_gI_8_4, h1, not_true_eq_false, false_and, decide_false, true_or]
    rfl
  · by_cases h2 : nI nj ≤ x
    · simp (disch := first | rfl | omega | decide | exact Nat.le_of_ble_eq_true rfl) only [↓q_br, q_rt, q_rz, q_gd, q_ca, ↓reduceIte, F_X5_hasInstruction, F_X5_hasInstruction_16, F_X5_hasInstruction_17, ↓q_gI_8_4, h, h1, h2, not_true_eq_false, and_false, decide_false, true_or]
      rfl
    · simp (disch := first | rfl | omega | decide | exact Nat.le_of_ble_eq_true rfl) only [↓q_br, q_rt, q_rz, q_gd, q_ca, ↓reduceIte, F_X5_hasInstruction, F_X5_hasInstruction_16, F_X5_hasInstruction_17, ↓q_gI_8_4, h, h1, h2, not_false_eq_true, and_self, decide_true, or_true]
      rfl
end QTA
