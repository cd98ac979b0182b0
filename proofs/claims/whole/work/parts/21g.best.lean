/-! ===== the best instruction for an address; texts of operands ===== -/
def q_J0 : q_Ins := ([], [], [], [])
def q_jg (Js : List q_Ins) (i : Nat) : q_Ins := Js.getD i q_J0
def q_bet (dc : Nat → Nat) (r : Option Nat) (i : Nat) : Bool := match r with
  | none => true
  | some j => decide (dc j < dc i)
def q_bst (st : Nat → Bool) (dc : Nat → Nat) : Nat → Nat → Option Nat → Option Nat
  | 0, _, r => r
  | d + 1, i, r => q_bst st dc d (i + 1) (if (st i && q_bet dc r i) = true then some i else r)
def q_md (dc : Nat → Nat) (r : Option Nat) : Int32 := match r with
  | none => -1
  | some j => nI (dc j)
theorem q_bst_p {st : Nat → Bool} {dc : Nat → Nat} : ∀ d i r, (∀ j, r = some j → j < i ∧ st j = true) → ∀ j, q_bst st dc d i r = some j → j < i + d ∧ st j = true := by
  intro d
  induction d with
  | zero => intro i r h j hj; exact h j hj
  | succ d ih =>
    intro i r h j hj
    rw [q_bst] at hj
    have := ih (i + 1) _ (fun j' hj' => by
      split at hj'
      · rename_i hc
        cases hj'
        rw [Bool.and_eq_true] at hc
        exact ⟨by omega, hc.1⟩
      · have := h j' hj'
        exact ⟨by omega, this.2⟩) j hj
    exact ⟨by omega, this.2⟩
theorem q_negs_le {W : List (List Int32)} {z : Nat} (h : ∀ w ∈ W, w.length = z) : q_negs W ≤ W.length * z := by
  induction W with
  | nil => simp [q_negs]
  | cons c t ih =>
    have h1 : q_neg c ≤ c.length := List.countP_le_length
    have h2 := ih (fun w hw => h w (List.mem_cons_of_mem _ hw))
    have h3 := h c List.mem_cons_self
    have h4 : q_negs (c :: t) = q_neg c + q_negs t := by simp [q_negs]
    rw [h4, List.length_cons, Nat.add_mul]
    omega
section QBG
variable {κ : Nat → Nat} {b : Nat} {I : Nat → Nat → Int32} {R : Nat → Nat → Option Nat} {X : Nat → Nat → Int32} {Z : Nat → Nat → Option Nat} {M : q_MT} {C : q_CT} {P : Nat → Int32} {Q : Nat → Nat → Int32} {S : Nat → Nat → Int64} {O : Nat → Int64} {D : q_Mem} {s : Nat × Nat}
theorem q_jg_e {Js : List q_Ins} {i : Nat} (h : i < Js.length) : Js[i]? = some (q_jg Js i) := by
  unfold q_jg
  rw [List.getD_eq_getElem?_getD, List.getElem?_eq_getElem h]
  rfl
theorem q_kbL {n : Nat} {L : List q_Knd} (h : q_CMk b n D I Z L) : ∀ K ∈ L, q_kB K ≤ 32 := by
  intro K hK
  obtain ⟨k, hk, hg⟩ := List.getElem_of_mem hK
  obtain ⟨a, -, h2⟩ := h.2.2 k K (by rw [List.getElem?_eq_getElem hk, hg])
  exact h2.1.2.2.1
theorem q_best_7 {n z A : Nat} {L : List q_Knd} {Js : List q_Ins} {Y0 : Nat → Nat → Int64} (hz : z ≤ 32) (hk : q_CMk b n D I Z L) (hC : q_CIs b n D Z L z Js) (h4 : I 8 4 = nI Js.length) (h96 : Js.length ≤ 96) (hL : q_Lw z X Y0) (hA : A < 5000) : ∀ d fuel i r (Y : Nat → Nat → Int64), i + d = Js.length → d < fuel → (∀ j, j ≠ 16 → Y j = Y0 j) → (∀ j, r = some j → j < i) → ∃ Y', F_X4_bestFor_7 κ fuel (some (b + 15)) (nI A) (q_mv r) (q_md (fun i => q_negs (q_jg Js i).2.2.2) r) (nI i) (q_H b (I, R, X, Y, Z) M O D, s) = some (.inl (q_mv (q_bst (fun i => q_st z L (q_jg Js i) X (q_gv Y0 A) A) (fun i => q_negs (q_jg Js i).2.2.2) d i r)), (q_H b (I, R, X, Y', Z) M O D, s)) ∧ (∀ j, j ≠ 16 → Y' j = Y0 j) := by
  have kbL := q_kbL hk
  have dcl : ∀ i, i < Js.length → q_negs (q_jg Js i).2.2.2 ≤ 128 := fun i hi => by
    obtain ⟨a, ea, hCi⟩ := hC i _ (q_jg_e hi)
    have h1 := q_negs_le hCi.2.2.2.2.2.1
    have h2 := Nat.mul_le_mul hCi.2.2.2.1 hz
    omega
  intro d
  induction d with
  | zero =>
    intro fuel i r Y h1 h2 h3 h5
    obtain ⟨f, rfl⟩ : ∃ f, fuel = f + 1 := ⟨fuel - 1, by omega⟩
    have hi : Js.length ≤ i := by omega
    refine ⟨Y, ?_, h3⟩
    rw [F_X4_bestFor_7, q_bst]
    simp (disch := first | rfl | omega | decide | exact Nat.le_of_ble_eq_true rfl) only [↓q_br, q_rt, q_rz, q_gd, q_ca, ↓reduceIte, F_X4_bestFor_7B, ↓q_gA_15_0, ↓q_gA_8_1, ↓q_gI_8_4, ↓q_is_15, ↓q_lA_10, h4, nI_leI, hi]
  | succ d ih =>
    intro fuel i r Y h1 h2 h3 h5
    obtain ⟨f, rfl⟩ : ∃ f, fuel = f + 1 := ⟨fuel - 1, by omega⟩
    have hi : ¬ Js.length ≤ i := by omega
    have hil : i < Js.length := by omega
    have hi96 : i < 96 := by omega
    obtain ⟨a, ea, hCi⟩ := hC i _ (q_jg_e hil)
    have gY : q_gv Y A = q_gv Y0 A := by
      funext w
      unfold q_gv
      rw [h3 12 (by decide)]
    have LY : q_Lw z X Y := fun x hx => by
      rw [h3 12 (by decide)]
      exact hL x hx
    obtain ⟨Y1, s1, s2⟩ := q_stands (κ := κ) (b := b) (R := R) (X := X) (Y := Y) (M := M) (O := O) (s := s) hCi hk (q_kb_le kbL _) hz LY hA
    rw [gY] at s1
    obtain ⟨fm, fd, fs, g1, -⟩ := q_CIn_o hCi
    have e3 : b + 66 < a ∧ D a = some (.inr (.inl (4, [.ref (a + 1), .ref (a + 3), .ref (a + 4), .ref (a + 5), .ref (a + 6), .ref (a + 7), .ref (a + 8), .int (nI (q_jg Js i).2.1.length), .int (nI (q_jg Js i).2.2.1.length), .int (nI (q_jg Js i).2.2.2.length), .int (nI (q_negs (q_jg Js i).2.2.2))]))) := ⟨g1.1, g1.2.2.1⟩
    have dci := dcl i hil
    have cmp : (nI (q_negs (q_jg Js i).2.2.2) ≤ q_md (fun i => q_negs (q_jg Js i).2.2.2) r) = (q_bet (fun i => q_negs (q_jg Js i).2.2.2) r i = false) := propext (by
      cases r with
      | none =>
        simp only [q_md, q_bet, Bool.true_eq_false, iff_false]
        exact fun h => nI_pos (n := q_negs (q_jg Js i).2.2.2) (by omega) (Int32.lt_of_le_of_lt h (by decide))
      | some j =>
        have hj := h5 j rfl
        have dcj := dcl j (by omega)
        simp only [q_md, q_bet, decide_eq_false_iff_not]
        rw [nI_leI (by omega) (by omega)]
        omega)
    rw [F_X4_bestFor_7, q_bst]
    have two : ∀ j, j ≠ 16 → Y1 j = Y0 j := fun j hj => by rw [s2 j hj, h3 j hj]
    cases hb : q_bet (fun i => q_negs (q_jg Js i).2.2.2) r i with
    | false =>
      rw [hb] at cmp
      obtain ⟨Y', r1, r2⟩ := ih f (i + 1) r Y (by omega) (by omega) h3 (fun j hj => by have := h5 j hj; omega)
      refine ⟨Y', ?_, r2⟩
      simp (disch := first | rfl | omega | decide | exact Nat.le_of_ble_eq_true rfl) only [↓q_br, q_rt, q_rz, q_gd, q_ca, ↓reduceIte, F_X4_bestFor_7B, F_X4_bestFor_59, ↓q_gA_15_0, ↓q_gA_8_1, ↓q_gI_8_4, ↓q_is_15, ↓q_lA_10, h4, nI_leI, hi, ea, qd_I e3 (k := 10) (v := nI (q_negs (q_jg Js i).2.2.2)) rfl, cmp, nI_1, r1, Bool.and_false, Bool.false_eq_true]
    | true =>
      rw [hb, Bool.true_eq_false] at cmp
      cases hs : q_st z L (q_jg Js i) X (q_gv Y0 A) A with
      | false =>
        rw [hs] at s1
        obtain ⟨Y', r1, r2⟩ := ih f (i + 1) r Y1 (by omega) (by omega) two (fun j hj => by have := h5 j hj; omega)
        refine ⟨Y', ?_, r2⟩
        simp (disch := first | rfl | omega | decide | exact Nat.le_of_ble_eq_true rfl) only [↓q_br, q_rt, q_rz, q_gd, q_ca, ↓reduceIte, F_X4_bestFor_7B, F_X4_bestFor_59, ↓q_gA_15_0, ↓q_gA_8_1, ↓q_gI_8_4, ↓q_is_15, ↓q_lA_10, h4, nI_leI, hi, ea, qd_I e3 (k := 10) (v := nI (q_negs (q_jg Js i).2.2.2)) rfl, cmp, ↓q_is_15, s1, q_b_0, nI_1, r1, Bool.false_and, Bool.false_eq_true]
      | true =>
        rw [hs] at s1
        obtain ⟨Y', r1, r2⟩ := ih f (i + 1) (some i) Y1 (by omega) (by omega) two (fun j hj => by cases hj; omega)
        have m1 : q_mv (some i) = nI i := rfl
        have m2 : q_md (fun i => q_negs (q_jg Js i).2.2.2) (some i) = nI (q_negs (q_jg Js i).2.2.2) := rfl
        rw [m1, m2] at r1
        refine ⟨Y', ?_, r2⟩
        simp (disch := first | rfl | omega | decide | exact Nat.le_of_ble_eq_true rfl) only [↓q_br, q_rt, q_rz, q_gd, q_ca, ↓reduceIte, F_X4_bestFor_7B, F_X4_bestFor_59, ↓q_gA_15_0, ↓q_gA_8_1, ↓q_gI_8_4, ↓q_is_15, ↓q_lA_10, h4, nI_leI, hi, ea, qd_I e3 (k := 10) (v := nI (q_negs (q_jg Js i).2.2.2)) rfl, cmp, ↓q_is_15, s1, q_b_0, Bool.true_eq_false, nI_1, r1, Bool.and_self]
theorem q_mlists_4 {N : List q_Nam} {n z A : Nat} {L : List q_Knd} {Js : List q_Ins} {Y0 : Nat → Nat → Int64} (h21 : P 21 = nI z) (hz : z ≤ 32) (hk : q_MMk N P Q L) (hM : q_MIs N Q L.length z Js) (hC : ∀ i, i < Js.length → (∀ w ∈ (q_jg Js i).2.2.2, w.length = z) ∧ (∀ w ∈ (q_jg Js i).2.2.2, q_Dok w) ∧ q_leg (q_kb L (q_jg Js i).2.2.1) (q_jg Js i).2.2.1.length (q_jg Js i).2.2.2.flatten) (kbL : ∀ K ∈ L, q_kB K ≤ 32) (h23 : P 23 = nI Js.length) (h96 : Js.length ≤ 96) (hL : q_Lw z X Y0) (hMw : q_Mw X Y0 Q S) (hA : A < 5000) : ∀ d fuel i r, i + d = Js.length → d < fuel → (∀ j, r = some j → j < i) → F_X13_lists_4 κ fuel (some (b + 26)) (nI A) (q_mv r) (nI i) (q_H b C (P, Q, S) O D, s) = F_X13_lists_4B κ (F_X13_lists_4 κ 0) (some (b + 26)) (nI A) (q_mv (q_bst (fun i => q_st z L (q_jg Js i) X (q_gv Y0 A) A) (fun i => q_negs (q_jg Js i).2.2.2) d i r)) (nI Js.length) (q_H b C (P, Q, S) O D, s) := by
  have dcl : ∀ i, i < Js.length → q_negs (q_jg Js i).2.2.2 ≤ 128 := fun i hi => by
    have h1 := q_negs_le (hC i hi).1
    have h2 := Nat.mul_le_mul (hM i _ (q_jg_e hi)).2.2.2.2.2.2.2.2.2 hz
    omega
  intro d
  induction d with
  | zero =>
    intro fuel i r h1 h2 h5
    obtain ⟨f, rfl⟩ : ∃ f, fuel = f + 1 := ⟨fuel - 1, by omega⟩
    have hi : i = Js.length := by omega
    subst hi
    have le : (nI Js.length ≤ nI Js.length) = True := eq_true (nI_le (Nat.le_refl _) (by omega))
    rw [F_X13_lists_4, q_bst]
    simp (disch := first | rfl | omega | decide | exact Nat.le_of_ble_eq_true rfl) only [↓q_br, q_rt, q_rz, q_gd, q_ca, ↓reduceIte, F_X13_lists_4B, ↓q_gA_26_30, ↓q_gA_26_31, ↓q_gA_26_34, ↓q_gI_26_23, ↓q_is_26, ↓q_lI_43, ↓q_lI_44, ↓q_lI_47, ↓q_pI_26_4, ↓q_pI_26_8, h23, le]
  | succ d ih =>
    intro fuel i r h1 h2 h5
    obtain ⟨f, rfl⟩ : ∃ f, fuel = f + 1 := ⟨fuel - 1, by omega⟩
    have hi : ¬ Js.length ≤ i := by omega
    have hil : i < Js.length := by omega
    have hi96 : i < 96 := by omega
    have hMi := hM i _ (q_jg_e hil)
    obtain ⟨c1, c2, c3⟩ := hC i hil
    have th := q_there (κ := κ) (b := b) (C := C) (S := S) (O := O) (D := D) (s := s) h21 hz hi96 hMi hk c1 c2 c3 (q_kb_le kbL _) hL hMw hA
    have q47 : ∀ j, j < Js.length → Q 47 j = nI (q_negs (q_jg Js j).2.2.2) := fun j hj => (hM j _ (q_jg_e hj)).2.2.2.2.1
    have dci := dcl i hil
    rw [q_bst]
    have skip : F_X13_lists_4 κ f (some (b + 26)) (nI A) (q_mv r) (nI (i + 1)) (q_H b C (P, Q, S) O D, s) = _ := ih f (i + 1) r (by omega) (by omega) (fun j hj => by have := h5 j hj; omega)
    have take : F_X13_lists_4 κ f (some (b + 26)) (nI A) (nI i) (nI (i + 1)) (q_H b C (P, Q, S) O D, s) = _ := ih f (i + 1) (some i) (by omega) (by omega) (fun j hj => by cases hj; omega)
    rw [F_X13_lists_4]
    cases hs : q_st z L (q_jg Js i) X (q_gv Y0 A) A with
    | false =>
      rw [hs] at th
      rw [Bool.false_and, if_neg (by decide), ← skip]
      simp (disch := first | rfl | omega | decide | exact Nat.le_of_ble_eq_true rfl) only [↓q_br, q_rt, q_rz, q_gd, q_ca, ↓reduceIte, F_X13_lists_4B, F_X13_lists_42, ↓q_gA_26_30, ↓q_gA_26_31, ↓q_gA_26_34, ↓q_gI_26_23, ↓q_is_26, ↓q_lI_43, ↓q_lI_44, ↓q_lI_47, ↓q_pI_26_4, ↓q_pI_26_8, h23, nI_leI, hi, ↓q_is_26, th, q_b_0, nI_1]
    | true =>
      rw [hs] at th
      rw [Bool.true_and]
      cases r with
      | none =>
        rw [if_pos (show q_bet _ none i = true from rfl), ← take]
        have neg : (q_mv none < 0) = True := eq_true (by decide)
        simp (disch := first | rfl | omega | decide | exact Nat.le_of_ble_eq_true rfl) only [↓q_br, q_rt, q_rz, q_gd, q_ca, ↓reduceIte, F_X13_lists_4B, F_X13_lists_42, F_X13_lists_40, ↓q_gA_26_30, ↓q_gA_26_31, ↓q_gA_26_34, ↓q_gI_26_23, ↓q_is_26, ↓q_lI_43, ↓q_lI_44, ↓q_lI_47, ↓q_pI_26_4, ↓q_pI_26_8, h23, nI_leI, hi, ↓q_is_26, th, q_b_0, Bool.true_eq_false, neg, nI_1]
      | some j =>
        have hj := h5 j rfl
        have dcj := dcl j (by omega)
        have mj : q_mv (some j) = nI j := rfl
        have neg : (nI j < 0) = False := eq_false (nI_pos (by omega))
        have hj96 : j < 96 := by omega
        rw [mj] at skip ⊢
        by_cases hlt : q_negs (q_jg Js j).2.2.2 < q_negs (q_jg Js i).2.2.2
        · rw [if_pos (show q_bet _ (some j) i = true from decide_eq_true hlt), ← take]
          have le : ¬ q_negs (q_jg Js i).2.2.2 ≤ q_negs (q_jg Js j).2.2.2 := by omega
          simp (disch := first | rfl | omega | decide | exact Nat.le_of_ble_eq_true rfl) only [↓q_br, q_rt, q_rz, q_gd, q_ca, ↓reduceIte, F_X13_lists_4B, F_X13_lists_42, F_X13_lists_40, ↓q_gA_26_30, ↓q_gA_26_31, ↓q_gA_26_34, ↓q_gI_26_23, ↓q_is_26, ↓q_lI_43, ↓q_lI_44, ↓q_lI_47, ↓q_pI_26_4, ↓q_pI_26_8, h23, nI_leI, hi, ↓q_is_26, th, q_b_0, Bool.true_eq_false, neg, q47 i hil, q47 j (by omega), le, nI_1]
        · rw [if_neg (show ¬ q_bet _ (some j) i = true from by
            show ¬ decide _ = true
            rw [decide_eq_true_eq]
            exact hlt), ← skip]
          have le : q_negs (q_jg Js i).2.2.2 ≤ q_negs (q_jg Js j).2.2.2 := by omega
          simp (disch := first | rfl | omega | decide | exact Nat.le_of_ble_eq_true rfl) only [↓q_br, q_rt, q_rz, q_gd, q_ca, ↓reduceIte, F_X13_lists_4B, F_X13_lists_42, F_X13_lists_40, ↓q_gA_26_30, ↓q_gA_26_31, ↓q_gA_26_34, ↓q_gI_26_23, ↓q_is_26, ↓q_lI_43, ↓q_lI_44, ↓q_lI_47, ↓q_pI_26_4, ↓q_pI_26_8, h23, nI_leI, hi, ↓q_is_26, th, q_b_0, Bool.true_eq_false, neg, q47 i hil, q47 j (by omega), le, nI_1]
end QBG
