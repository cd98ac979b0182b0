section QFE
variable {κ : Nat → Nat} {b : Nat} {C : q_CT} {P : Nat → Int32} {Q : Nat → Nat → Int32} {S : Nat → Nat → Int64} {O : Nat → Int64} {D : q_Mem} {s : Nat × Nat}
/-- what the reference has gathered of a field before the bit u of the word w -/
def q_FP (z : Nat) (W : List (List Int32)) (g : Nat → Nat) (o w u v : Nat) : Prop := v < 2 ^ 32 ∧ ∀ k, k < 32 → (v.testBit k = true ↔ ∃ w' j, (w' < w ∨ w' = w ∧ z ≤ j + u) ∧ q_hit z W g o k w' j = true)
theorem q_FP_n {z : Nat} {W : List (List Int32)} {g : Nat → Nat} {o w v : Nat} (h : q_FP z W g o w z v) : q_FP z W g o (w + 1) 0 v := by
  refine ⟨h.1, fun k hk => ?_⟩
  rw [h.2 k hk]
  constructor
  · rintro ⟨w', j, h1, h2⟩
    exact ⟨w', j, by omega, h2⟩
  · rintro ⟨w', j, h1, h2⟩
    have := q_hit_z h2
    exact ⟨w', j, by omega, h2⟩
theorem q_FP_s {z : Nat} {W : List (List Int32)} {g : Nat → Nat} {o w u v v' : Nat} (hu : u < z) (h : q_FP z W g o w u v) (hv : v' < 2 ^ 32) (h' : ∀ k, k < 32 → (v'.testBit k = true ↔ v.testBit k = true ∨ q_hit z W g o k w (z - 1 - u) = true)) : q_FP z W g o w (u + 1) v' := by
  refine ⟨hv, fun k hk => ?_⟩
  rw [h' k hk, h.2 k hk]
  constructor
  · rintro (⟨w', j, a1, a2⟩ | a)
    · exact ⟨w', j, by omega, a2⟩
    · exact ⟨w, z - 1 - u, by omega, a⟩
  · rintro ⟨w', j, a1, a2⟩
    have hz := q_hit_z a2
    by_cases e : w' < w ∨ w' = w ∧ z ≤ j + u
    · exact Or.inl ⟨w', j, e, a2⟩
    · have e1 : w' = w := by omega
      have e2 : j = z - 1 - u := by omega
      subst e1; subst e2
      exact Or.inr a2
theorem q_mfield_20 {r : Option Nat → Int32 → Int32 → Int32 → Int64 → Int32 → q_X Int64} {i z A w o no : Nat} {W : List (List Int32)} {c : List Int32} {g : Nat → Nat} {kb : Nat → Nat} (h21 : P 21 = nI z) (hz : z ≤ 32) (hi : i < 96) (hw : w < 4) (hc : W[w]? = some c) (cl : c.length = z) (hQ : ∀ k, k < z → Q 51 (160 * i + w * z + k) = c.getD k 0) (hleg : q_leg kb no W.flatten) (hno : no ≤ 5) (hkb : ∀ o, kb o ≤ 32) (ho : o < 5) (hA : A + w < 4096) (hS : S 53 (A + w) = lN (g w)) (hg : g w < 2 ^ 32) : ∀ d fuel u v, u + d = z → d < fuel → q_FP z W g o w u v → ∃ v', F_X13_field_20 κ r fuel (some (b + 26)) (nI A) (nI i) (nI o) (lN v) (nI w) (nI u) (q_H b C (P, Q, S) O D, s) = r (some (b + 26)) (nI A) (nI i) (nI o) (lN v') (nI (w + 1)) (q_H b C (P, Q, S) O D, s) ∧ q_FP z W g o (w + 1) 0 v' := by
  have n32 : (¬ (32 : Int32) = 0) = True := eq_true (by decide)
  intro d
  induction d with
  | zero =>
    intro fuel u v h1 h2 h3
    obtain ⟨f, rfl⟩ : ∃ f, fuel = f + 1 := ⟨fuel - 1, by omega⟩
    have hu : z ≤ u := by omega
    refine ⟨v, ?_, q_FP_n (by rw [show z = u from by omega] at h3 ⊢; exact h3)⟩
    rw [F_X13_field_20]
    simp (disch := first | rfl | omega | decide | exact Nat.le_of_ble_eq_true rfl) only [↓q_br, q_rt, q_rz, q_gd, q_ca, ↓reduceIte, F_X13_field_20B, ↓q_gA_26_38, ↓q_gA_26_40, ↓q_gI_26_21, ↓q_lI_51, ↓q_lL_53, h21, nI_leI, hu, nI_1]
  | succ d ih =>
    intro fuel u v h1 h2 h3
    obtain ⟨f, rfl⟩ : ∃ f, fuel = f + 1 := ⟨fuel - 1, by omega⟩
    have hu : ¬ z ≤ u := by omega
    have huz : u < z := by omega
    have hx := q_160 hi hw hz huz
    have hm3 : (((160 : Int32) * nI i) + (nI w * nI z)) + nI u = nI (160 * i + w * z + u) := q_idx3 160 i w z u
    have hq := hQ u huz
    have e1 : z - 1 - (z - 1 - u) = u := by omega
    by_cases hs : c.getD u 0 < 0
    · obtain ⟨v', r1, r2⟩ := ih f (u + 1) v (by omega) (by omega) (q_FP_s huz h3 h3.1 (fun k hk => ⟨fun e => Or.inl e, fun e => e.resolve_right (fun e => by
        rw [q_hit_i hc, e1] at e
        rw [e.2.1] at hs
        exact nI_pos (by omega) hs)⟩))
      refine ⟨v', ?_, r2⟩
      rw [F_X13_field_20]
      simp (disch := first | rfl | omega | decide | exact Nat.le_of_ble_eq_true rfl) only [↓q_br, q_rt, q_rz, q_gd, q_ca, ↓reduceIte, F_X13_field_20B, F_X13_field_98, ↓q_gA_26_38, ↓q_gA_26_40, ↓q_gI_26_21, ↓q_lI_51, ↓q_lL_53, h21, nI_leI, hu, hm3, hq, hs, nI_1, r1]
    · obtain ⟨o', k', o1, k1, ok⟩ := q_leg_at (z := z) hleg hc (by omega : u < c.length) hs
      have k32 : k' < 32 := Nat.lt_of_lt_of_le k1 (hkb o')
      have o5 : o' < 5 := by omega
      have d2 : nI (32 * o' + k') / (32 : Int32) = nI o' := by
        rw [show (32 : Int32) = nI 32 from rfl, pk_div (by omega) (by decide) (by decide), show (32 * o' + k') / 32 = o' from by omega]
      have r2' : nI (32 * o' + k') - nI o' * (32 : Int32) = nI k' := by
        rw [← d2, show (32 : Int32) = nI 32 from rfl, pk_rem (by omega) (by decide) (by decide), show (32 * o' + k') % 32 = k' from by omega]
      rw [ok] at hq hs
      by_cases hoo : o' = o
      · subst hoo
        have bt := q_bit (v := g w) (k := z - 1 - u) (by omega) (by omega)
        obtain ⟨v2, u1, u2, u3⟩ := q_orbit (bt := (g w).testBit (z - 1 - u)) h3.1 k32
        obtain ⟨v', r1, r2⟩ := ih f (u + 1) v2 (by omega) (by omega) (q_FP_s huz h3 u2 (fun k hk => by
          rw [u3 k, q_hit_i hc, e1, ok, q_oki o5 k32 o5 hk, Bool.or_eq_true, Bool.and_eq_true, decide_eq_true_eq]
          constructor
          · rintro (e | ⟨e1, e2⟩)
            · exact Or.inl e
            · exact Or.inr ⟨by omega, ⟨rfl, e2.symm⟩, e1⟩
          · rintro (e | ⟨e1, ⟨e2, e3⟩, e4⟩)
            · exact Or.inl e
            · exact Or.inr ⟨e4, e3.symm⟩))
        refine ⟨v', ?_, r2⟩
        have sub : nI z - 1 - nI u = nI (z - 1 - u) := by
          rw [show (1 : Int32) = nI 1 from rfl, nI_sub (by omega), nI_sub (by omega)]
        have eo : (¬ nI o' = nI o') = False := eq_false (fun h => h rfl)
        rw [F_X13_field_20]
        simp (disch := first | rfl | omega | decide | exact Nat.le_of_ble_eq_true rfl) only [↓q_br, q_rt, q_rz, q_gd, q_ca, ↓reduceIte, F_X13_field_20B, F_X13_field_98, ↓q_gA_26_38, ↓q_gA_26_40, ↓q_gI_26_21, ↓q_lI_51, ↓q_lL_53, h21, nI_leI, hu, hm3, hq, hs, n32, d2, not_true_eq_false, nI_add, hS, sub, bt, r2', u1, nI_1, r1]
      · obtain ⟨v', r1, r2⟩ := ih f (u + 1) v (by omega) (by omega) (q_FP_s huz h3 h3.1 (fun k hk => ⟨fun e => Or.inl e, fun e => e.resolve_right (fun e => by
          rw [q_hit_i hc, e1, ok, q_oki o5 k32 ho hk] at e
          exact hoo e.2.1.1)⟩))
        refine ⟨v', ?_, r2⟩
        have eo : (¬ nI o' = nI o) = True := eq_true (fun h => hoo ((nI_eq (by omega) (by omega)).mp h))
        rw [F_X13_field_20]
        simp (disch := first | rfl | omega | decide | exact Nat.le_of_ble_eq_true rfl) only [↓q_br, q_rt, q_rz, q_gd, q_ca, ↓reduceIte, F_X13_field_20B, F_X13_field_98, ↓q_gA_26_38, ↓q_gA_26_40, ↓q_gI_26_21, ↓q_lI_51, ↓q_lL_53, h21, nI_leI, hu, hm3, hq, hs, n32, d2, eo, nI_1, r1]
theorem q_mfield_6 {i z A o no : Nat} {W : List (List Int32)} {g : Nat → Nat} {kb : Nat → Nat} (h21 : P 21 = nI z) (hz : z ≤ 32) (hi : i < 96) (h46 : Q 46 i = nI W.length) (h4 : W.length ≤ 4) (lW : ∀ w ∈ W, w.length = z) (hQ : q_MW Q i z W) (hleg : q_leg kb no W.flatten) (hno : no ≤ 5) (hkb : ∀ o, kb o ≤ 32) (ho : o < 5) (hA : ∀ w, w < W.length → A + w < 4096) (hS : ∀ w, w < W.length → S 53 (A + w) = lN (g w) ∧ g w < 2 ^ 32) : ∀ d fuel w v, w + d = W.length → d < fuel → q_FP z W g o w 0 v → ∃ v', F_X13_field_6 κ fuel (some (b + 26)) (nI A) (nI i) (nI o) (lN v) (nI w) (q_H b C (P, Q, S) O D, s) = some (.inl (lN v'), (q_H b C (P, Q, S) O D, s)) ∧ q_FP z W g o W.length 0 v' := by
  intro d
  induction d with
  | zero =>
    intro fuel w v h1 h2 h3
    obtain ⟨f, rfl⟩ : ∃ f, fuel = f + 1 := ⟨fuel - 1, by omega⟩
    have hu : W.length ≤ w := by omega
    refine ⟨v, ?_, by rw [show W.length = w from by omega]; exact h3⟩
    rw [F_X13_field_6]
    simp (disch := first | rfl | omega | decide | exact Nat.le_of_ble_eq_true rfl) only [↓q_br, q_rt, q_rz, q_gd, q_ca, ↓reduceIte, F_X13_field_6B, ↓q_gA_26_33, ↓q_lI_46, h46, nI_leI, hu]
  | succ d ih =>
    intro fuel w v h1 h2 h3
    obtain ⟨f, rfl⟩ : ∃ f, fuel = f + 1 := ⟨fuel - 1, by omega⟩
    have hu : ¬ W.length ≤ w := by omega
    have hwl : w < W.length := by omega
    obtain ⟨c, hc⟩ : ∃ c, W[w]? = some c := ⟨_, List.getElem?_eq_getElem hwl⟩
    have cl : c.length = z := lW c (List.mem_of_getElem? hc)
    obtain ⟨v1, a1, a2⟩ := q_mfield_20 (κ := κ) (b := b) (C := C) (S := S) (O := O) (D := D) (s := s) (r := F_X13_field_6 κ f) h21 hz hi (by omega) hc cl (fun k hk => q_MW_at hQ hc cl hk) hleg hno hkb ho (hA w hwl) (hS w hwl).1 (hS w hwl).2 z q_fu 0 v (by omega) (by unfold q_fu; omega) h3
    obtain ⟨v2, b1, b2⟩ := ih f (w + 1) v1 (by omega) (by omega) a2
    refine ⟨v2, ?_, b2⟩
    rw [nI_0] at a1
    rw [F_X13_field_6]
    simp (disch := first | rfl | omega | decide | exact Nat.le_of_ble_eq_true rfl) only [↓q_br, q_rt, q_rz, q_gd, q_ca, ↓reduceIte, F_X13_field_6B, ↓q_gA_26_33, ↓q_lI_46, h46, nI_leI, hu, a1, b1]
theorem q_mfield {i z A o no : Nat} {W : List (List Int32)} {g : Nat → Nat} {kb : Nat → Nat} (h21 : P 21 = nI z) (hz : z ≤ 32) (hi : i < 96) (h46 : Q 46 i = nI W.length) (h4 : W.length ≤ 4) (lW : ∀ w ∈ W, w.length = z) (hQ : q_MW Q i z W) (hleg : q_leg kb no W.flatten) (hno : no ≤ 5) (hkb : ∀ o, kb o ≤ 32) (ho : o < 5) (hA : ∀ w, w < W.length → A + w < 4096) (hS : ∀ w, w < W.length → S 53 (A + w) = lN (g w) ∧ g w < 2 ^ 32) : F_X13_field κ (some (b + 26)) (nI A) (nI i) (nI o) (q_H b C (P, Q, S) O D, s) = some (.inl (lN (q_fv z W g o)), (q_H b C (P, Q, S) O D, s)) := by
  obtain ⟨v, a1, a2, a3⟩ := q_mfield_6 (κ := κ) (b := b) (C := C) (S := S) (O := O) (D := D) (s := s) h21 hz hi h46 h4 lW hQ hleg hno hkb ho hA hS W.length q_fu 0 0 (by omega) (by unfold q_fu; omega) ⟨by decide, fun k hk => ⟨fun e => by simp at e, fun ⟨w', j, h1, h2⟩ => by
    have := q_hit_z h2
    omega⟩⟩
  have e : v = q_fv z W g o := q_fv_u a2 (fun k hk => by
    rw [a3 k hk]
    constructor
    · rintro ⟨w, j, -, h⟩
      exact ⟨w, j, h⟩
    · rintro ⟨w, j, h⟩
      exact ⟨w, j, Or.inl (q_hit_z h).2, h⟩)
  rw [nI_0, e] at a1
  exact a1
end QFE
/-! does an instruction stand there? -/
def q_wm (z : Nat) (c : List Int32) (v : Nat) : Nat → Nat → Bool := q_al fun u => !(decide (c.getD u 0 < 0)) || (v.testBit (z - 1 - u) == decide (c.getD u 0 = -2))
theorem q_wm_i {z v : Nat} {c : List Int32} (hz : z ≤ 32) (hc : c.length = z) (hv : v < 2 ^ z) : (v &&& q_dw q_pn 0 c = q_dw q_p2 0 c) ↔ q_wm z c v z 0 = true := by
  unfold q_wm
  rw [q_al_i]
  have b1 : ∀ j, (v &&& q_dw q_pn 0 c).testBit j = (v.testBit j && (decide (j < z) && decide (c.getD (z - 1 - j) 0 < 0))) := by
    intro j
    rw [Nat.testBit_and, q_dw_tb, hc]
    by_cases hj : j < z
    · simp [hj, q_pn]
    · simp [hj]
  have b2 : ∀ j, (q_dw q_p2 0 c).testBit j = (decide (j < z) && decide (c.getD (z - 1 - j) 0 = -2)) := by
    intro j
    rw [q_dw_tb, hc]
    by_cases hj : j < z
    · simp [hj, q_p2]
    · simp [hj]
  have m2 : (-2 : Int32) < 0 := by decide
  constructor
  · intro h k k1 k2
    have e := congrArg (fun x => x.testBit (z - 1 - k)) h
    simp only [b1, b2, decide_eq_true (by omega : z - 1 - k < z), Bool.true_and, show z - 1 - (z - 1 - k) = k from by omega] at e
    by_cases hs : c.getD k 0 < 0
    · rw [decide_eq_true hs, Bool.and_true] at e
      rw [e]
      simp
    · rw [decide_eq_false hs, Bool.not_false, Bool.true_or]
  · intro h
    apply Nat.eq_of_testBit_eq
    intro j
    rw [b1, b2]
    by_cases hj : j < z
    · have e := h (z - 1 - j) (by omega) (by omega)
      rw [show z - 1 - (z - 1 - j) = j from by omega] at e
      rw [decide_eq_true hj, Bool.true_and, Bool.true_and]
      by_cases hs : c.getD (z - 1 - j) 0 < 0
      · rw [decide_eq_true hs, Bool.not_true, Bool.false_or, beq_iff_eq] at e
        rw [decide_eq_true hs, Bool.and_true, e]
      · have hs2 : ¬ c.getD (z - 1 - j) 0 = -2 := fun h9 => hs (by rw [h9]; exact m2)
        rw [decide_eq_false hs, decide_eq_false hs2, Bool.and_false]
    · rw [decide_eq_false hj, Bool.false_and, Bool.false_and, Bool.and_false]
