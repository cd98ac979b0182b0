theorem q_xorN {a b : Nat} (ha : a < 2 ^ 64) (hb : b < 2 ^ 64) : lN a ^^^ lN b = lN (a ^^^ b) := by
  apply wb_inj
  show BitVec.ofNat 64 a ^^^ BitVec.ofNat 64 b = BitVec.ofNat 64 (a ^^^ b)
  apply BitVec.eq_of_toNat_eq
  rw [BitVec.toNat_xor, BitVec.toNat_ofNat, BitVec.toNat_ofNat, BitVec.toNat_ofNat, Nat.mod_eq_of_lt ha, Nat.mod_eq_of_lt hb, Nat.mod_eq_of_lt (Nat.xor_lt_two_pow ha hb)]
section QTC
variable {κ : Nat → Nat} {b : Nat}
def q_nc (x y : List Int32) (k : Nat) : Bool := !(decide (x.getD k 0 < 0) && decide (y.getD k 0 < 0) && !decide (x.getD k 0 = y.getD k 0))
def q_ncw (z : Nat) (x y : List Int32) : Bool := q_al (q_nc x y) z 0
def q_may (z : Nat) (W V : List (List Int32)) : Nat → Nat → Bool := q_al fun w => q_ncw z (W.getD w []) (V.getD w [])
theorem q_pn_m {x : List Int32} {k : Nat} (hx : q_Dok x) (hk : k < x.length) (hn : x.getD k 0 < 0) : x.getD k 0 = -1 ∨ x.getD k 0 = -2 := by
  rw [List.getD_eq_getElem?_getD, List.getElem?_eq_getElem hk] at hn ⊢
  exact hx _ (List.getElem_mem hk) hn
theorem q_ncw_b {x y : List Int32} {z : Nat} (hz : z ≤ 32) (hx : x.length = z) (hy : y.length = z) (dx : q_Dok x) (dy : q_Dok y) : (q_dw q_pn 0 x &&& q_dw q_pn 0 y &&& (q_dw q_p2 0 x ^^^ q_dw q_p2 0 y) = 0) ↔ q_ncw z x y = true := by
  unfold q_ncw
  rw [q_al_i]
  have bit : ∀ j, (q_dw q_pn 0 x &&& q_dw q_pn 0 y &&& (q_dw q_p2 0 x ^^^ q_dw q_p2 0 y)).testBit j = (decide (j < z) && !q_nc x y (z - 1 - j)) := by
    intro j
    rw [Nat.testBit_and, Nat.testBit_and, Nat.testBit_xor, q_dw_tb, q_dw_tb, q_dw_tb, q_dw_tb, hx, hy]
    by_cases hj : j < z
    · simp only [if_pos hj, decide_eq_true hj, Bool.true_and, q_nc, q_pn, q_p2, Bool.not_not]
      by_cases h1 : x.getD (z - 1 - j) 0 < 0
      · by_cases h2 : y.getD (z - 1 - j) 0 < 0
        · rcases q_pn_m dx (by omega) h1 with e1 | e1 <;> rcases q_pn_m dy (by omega) h2 with e2 | e2 <;> rw [e1, e2] <;> decide
        · simp only [decide_eq_true h1, decide_eq_false h2, Bool.and_false, Bool.false_and]
      · simp only [decide_eq_false h1, Bool.false_and]
    · simp only [if_neg hj, decide_eq_false hj, Bool.false_and, Nat.zero_testBit]
  constructor
  · intro h k k1 k2
    have := bit (z - 1 - k)
    rw [h, Nat.zero_testBit, decide_eq_true (by omega : z - 1 - k < z), show z - 1 - (z - 1 - k) = k from by omega] at this
    simpa using this.symm
  · intro h
    apply Nat.eq_of_testBit_eq
    intro j
    rw [bit, Nat.zero_testBit]
    by_cases hj : j < z
    · rw [h (z - 1 - j) (by omega) (by omega)]
      simp
    · simp [hj]
theorem q_mayBe_2 {C : q_CT} {M : q_MT} {O : Nat → Int64} {D : q_Mem} {s : Nat × Nat} {z a a' wc wc' : Nat} {W V : List (List Int32)} {fm fd fm' fd' : Nat → Int64} {fs fs' : Nat → Int32} {v0 v1 v2 v3 v6 v7 v8 v10 u0 u1 u2 u3 u6 u7 u8 u10 : Value} (e3 : b + 66 < a ∧ D a = some (.inr (.inl (4, [v0, v1, v2, v3, .ref (a + 6), .ref (a + 7), v6, v7, v8, .int (nI wc), v10])))) (e3' : b + 66 < a' ∧ D a' = some (.inr (.inl (4, [u0, u1, u2, u3, .ref (a' + 6), .ref (a' + 7), u6, u7, u8, .int (nI wc'), u10])))) (e6 : D (a + 6) = some (.inl (2, 4, .inr (.inl fm)))) (e7 : D (a + 7) = some (.inl (2, 4, .inr (.inl fd)))) (e6' : D (a' + 6) = some (.inl (2, 4, .inr (.inl fm')))) (e7' : D (a' + 7) = some (.inl (2, 4, .inr (.inl fd')))) (hW : W.length = wc) (hV : V.length = wc') (h4 : wc ≤ 4) (h4' : wc' ≤ 4) (hz : z ≤ 32) (lW : ∀ w ∈ W, w.length = z) (lV : ∀ w ∈ V, w.length = z) (dW : ∀ w ∈ W, q_Dok w) (dV : ∀ w ∈ V, q_Dok w) (g : q_CWd z (W ++ [[]]) fm fd fs) (g' : q_CWd z (V ++ [[]]) fm' fd' fs') : ∀ d fuel w, w + d = min wc wc' → d < fuel → F_X1_mayBe_2 κ fuel (some a) (some a') (nI w) (q_H b C M O D, s) = some (.inl (q_b (q_may z W V d w)), (q_H b C M O D, s)) := by
  intro d
  induction d with
  | zero =>
    intro fuel w h1 h2
    obtain ⟨f, rfl⟩ : ∃ f, fuel = f + 1 := ⟨fuel - 1, by omega⟩
    rw [F_X1_mayBe_2]
    have hv : q_may z W V 0 w = true := rfl
    rw [hv]
    by_cases h3 : wc ≤ w
    · simp (disch := first | rfl | omega | decide | exact Nat.le_of_ble_eq_true rfl) only [↓q_br, q_rt, q_rz, q_gd, q_ca, ↓reduceIte, F_X1_mayBe_2B, F_X1_mayBe_58, qd_I e3 (k := 9) (v := nI wc) rfl, nI_leI, h3, or_true]
      rfl
    · have h5 : wc' ≤ w := by omega
      simp (disch := first | rfl | omega | decide | exact Nat.le_of_ble_eq_true rfl) only [↓q_br, q_rt, q_rz, q_gd, q_ca, ↓reduceIte, F_X1_mayBe_2B, F_X1_mayBe_58, qd_I e3 (k := 9) (v := nI wc) rfl, qd_I e3' (k := 9) (v := nI wc') rfl, nI_leI, h3, h5, or_true]
      rfl
  | succ d ih =>
    intro fuel w h1 h2
    obtain ⟨f, rfl⟩ : ∃ f, fuel = f + 1 := ⟨fuel - 1, by omega⟩
    have h3 : ¬ wc ≤ w := by omega
    have h5 : ¬ wc' ≤ w := by omega
    have hw4 : w < 4 := by omega
    have hw : w < W.length := by omega
    have hv : w < V.length := by omega
    obtain ⟨x, hx⟩ : ∃ x, x = W[w] := ⟨_, rfl⟩
    obtain ⟨y, hy⟩ : ∃ y, y = V[w] := ⟨_, rfl⟩
    have gx : W[w]? = some x := by rw [List.getElem?_eq_getElem hw, hx]
    have gy : V[w]? = some y := by rw [List.getElem?_eq_getElem hv, hy]
    have mx : x ∈ W := List.mem_of_getElem? gx
    have my : y ∈ V := List.mem_of_getElem? gy
    obtain ⟨a1, a2, -⟩ := q_CWd_dw g gx hw4 (lW x mx) hz
    obtain ⟨b1, b2, -⟩ := q_CWd_dw g' gy hw4 (lV y my) hz
    have pz : 2 ^ z ≤ 2 ^ 32 := Nat.pow_le_pow_right (by decide) hz
    have lt : ∀ p c, c.length = z → q_dw p 0 c < 2 ^ 32 := fun p c hc => by
      have := q_dw_lt (p := p) c 0
      rw [hc] at this
      omega
    have E6 : b + 66 < a + 6 ∧ D (a + 6) = some (.inl (2, 4, .inr (.inl fm))) := ⟨by omega, e6⟩
    have E7 : b + 66 < a + 7 ∧ D (a + 7) = some (.inl (2, 4, .inr (.inl fd))) := ⟨by omega, e7⟩
    have E6' : b + 66 < a' + 6 ∧ D (a' + 6) = some (.inl (2, 4, .inr (.inl fm'))) := ⟨by omega, e6'⟩
    have E7' : b + 66 < a' + 7 ∧ D (a' + 7) = some (.inl (2, 4, .inr (.inl fd'))) := ⟨by omega, e7'⟩
    have la := lt q_pn x (lW x mx)
    have lb := lt q_pn y (lV y my)
    have lc := lt q_p2 x (lW x mx)
    have ld := lt q_p2 y (lV y my)
    have lxor : q_dw q_p2 0 x ^^^ q_dw q_p2 0 y < 2 ^ 32 := Nat.xor_lt_two_pow lc ld
    have land : q_dw q_pn 0 x &&& q_dw q_pn 0 y < 2 ^ 32 := Nat.and_lt_two_pow _ lb
    have land2 : q_dw q_pn 0 x &&& q_dw q_pn 0 y &&& (q_dw q_p2 0 x ^^^ q_dw q_p2 0 y) < 2 ^ 32 := Nat.and_lt_two_pow _ lxor
    have val : (lN (q_dw q_pn 0 x) &&& lN (q_dw q_pn 0 y)) &&& (lN (q_dw q_p2 0 x) ^^^ lN (q_dw q_p2 0 y)) = lN (q_dw q_pn 0 x &&& q_dw q_pn 0 y &&& (q_dw q_p2 0 x ^^^ q_dw q_p2 0 y)) := by
      rw [q_xorN (by omega) (by omega), wb_and (by omega) (by omega), wb_and (by omega) (by omega)]
    have zr : (lN (q_dw q_pn 0 x &&& q_dw q_pn 0 y &&& (q_dw q_p2 0 x ^^^ q_dw q_p2 0 y)) = 0) ↔ q_ncw z x y = true := by
      rw [← q_ncw_b hz (lW x mx) (lV y my) (dW x mx) (dV y my)]
      exact q_lN_eq (b := 0) (by omega) (by decide)
    have gW : W.getD w [] = x := by rw [List.getD_eq_getElem?_getD, gx]; rfl
    have gV : V.getD w [] = y := by rw [List.getD_eq_getElem?_getD, gy]; rfl
    have un : q_may z W V (d + 1) w = (q_ncw z x y && q_may z W V d (w + 1)) := by
      unfold q_may
      rw [q_al, gW, gV]
    rw [F_X1_mayBe_2, un]
    by_cases hc : q_ncw z x y = true
    · have zc := (lg_cmp_eq _ _).mpr (zr.mpr hc)
      simp (disch := first | rfl | omega | decide | exact Nat.le_of_ble_eq_true rfl) only [↓q_br, q_rt, q_rz, q_gd, q_ca, ↓reduceIte, F_X1_mayBe_2B, qd_I e3 (k := 9) (v := nI wc) rfl, qd_I e3' (k := 9) (v := nI wc') rfl, nI_leI, h3, h5, qd_A e3 (k := 4) (r := some (a + 6)) rfl, qd_A e3 (k := 5) (r := some (a + 7)) rfl, qd_A e3' (k := 4) (r := some (a' + 6)) rfl, qd_A e3' (k := 5) (r := some (a' + 7)) rfl, qd_aL E6 hw4 (by decide), qd_aL E7 hw4 (by decide), qd_aL E6' hw4 (by decide), qd_aL E7' hw4 (by decide), a1, a2, b1, b2, val, zc, nI_1, hc, Bool.true_and]
      exact ih f (w + 1) (by omega) (by omega)
    · have zc : ¬ lg_cmp (lN (q_dw q_pn 0 x &&& q_dw q_pn 0 y &&& (q_dw q_p2 0 x ^^^ q_dw q_p2 0 y))) 0 = 0 := fun h => hc (zr.mp ((lg_cmp_eq _ _).mp h))
      rw [Bool.not_eq_true] at hc
      simp (disch := first | rfl | omega | decide | exact Nat.le_of_ble_eq_true rfl) only [↓q_br, q_rt, q_rz, q_gd, q_ca, ↓reduceIte, F_X1_mayBe_2B, qd_I e3 (k := 9) (v := nI wc) rfl, qd_I e3' (k := 9) (v := nI wc') rfl, nI_leI, h3, h5, qd_A e3 (k := 4) (r := some (a + 6)) rfl, qd_A e3 (k := 5) (r := some (a + 7)) rfl, qd_A e3' (k := 4) (r := some (a' + 6)) rfl, qd_A e3' (k := 5) (r := some (a' + 7)) rfl, qd_aL E6 hw4 (by decide), qd_aL E7 hw4 (by decide), qd_aL E6' hw4 (by decide), qd_aL E7' hw4 (by decide), a1, a2, b1, b2, val, zc, hc, Bool.false_and, true_or]
      rfl
section QTD
variable {C : q_CT} {P : Nat → Int32} {Q : Nat → Nat → Int32} {S : Nat → Nat → Int64} {O : Nat → Int64} {D : q_Mem} {s : Nat × Nat}
theorem q_movl_67 {r : Option Nat → Int32 → Int32 → Int32 → q_X Int32} {i j z w : Nat} {x y : List Int32} (h21 : P 21 = nI z) (hz : z ≤ 32) (hi : i < 96) (hj : j < 96) (hw : w < 4) (hx : ∀ k, k < z → Q 51 (160 * i + w * z + k) = x.getD k 0) (hy : ∀ k, k < z → Q 51 (160 * j + w * z + k) = y.getD k 0) : ∀ d fuel k, k + d = z → d < fuel → F_X13_overlap_67 κ r fuel (some (b + 26)) (nI i) (nI j) (nI w) (nI k) (q_H b C (P, Q, S) O D, s) = (if q_al (q_nc x y) d k = true then r (some (b + 26)) (nI i) (nI j) (nI (w + 1)) (q_H b C (P, Q, S) O D, s) else some (.inl 0, (q_H b C (P, Q, S) O D, s))) := by
  intro d
  induction d with
  | zero =>
    intro fuel k h1 h2
    obtain ⟨f, rfl⟩ : ∃ f, fuel = f + 1 := ⟨fuel - 1, by omega⟩
    have h3 : z ≤ k := by omega
    rw [F_X13_overlap_67]
    simp (disch := first | rfl | omega | decide | exact Nat.le_of_ble_eq_true rfl) only [↓q_br, q_rt, q_rz, q_gd, q_ca, ↓reduceIte, F_X13_overlap_67B, ↓q_gA_26_38, ↓q_gI_26_21, ↓q_lI_51, h21, nI_leI, h3, nI_1, q_al]
  | succ d ih =>
    intro fuel k h1 h2
    obtain ⟨f, rfl⟩ : ∃ f, fuel = f + 1 := ⟨fuel - 1, by omega⟩
    have h3 : ¬ z ≤ k := by omega
    have hkz : k < z := by omega
    have i1 := q_160 hi hw hz hkz
    have i2 := q_160 hj hw hz hkz
    have m1 : (((160 : Int32) * nI i) + (nI w * nI z)) + nI k = nI (160 * i + w * z + k) := q_idx3 160 i w z k
    have m2 : (((160 : Int32) * nI j) + (nI w * nI z)) + nI k = nI (160 * j + w * z + k) := q_idx3 160 j w z k
    have vx := hx k hkz
    have vy := hy k hkz
    have ihk := ih f (k + 1) (by omega) (by omega)
    have un : q_al (q_nc x y) (d + 1) k = (q_nc x y k && q_al (q_nc x y) d (k + 1)) := rfl
    have nc : q_nc x y k = !(decide (x.getD k 0 < 0) && decide (y.getD k 0 < 0) && !decide (x.getD k 0 = y.getD k 0)) := rfl
    obtain ⟨sx, hsx⟩ : ∃ sx, sx = x.getD k 0 := ⟨_, rfl⟩
    obtain ⟨sy, hsy⟩ : ∃ sy, sy = y.getD k 0 := ⟨_, rfl⟩
    rw [← hsx] at vx nc
    rw [← hsy] at vy nc
    rw [F_X13_overlap_67, un]
    by_cases hs : sx < 0
    · have hs0 : ¬ (0 : Int32) ≤ sx := Int32.not_le.mpr hs
      by_cases ht : sy < 0
      · have ht0 : ¬ (0 : Int32) ≤ sy := Int32.not_le.mpr ht
        by_cases he : sx = sy
        · rw [decide_eq_true hs, decide_eq_true ht, decide_eq_true he] at nc
          have nc1 : q_nc x y k = true := by rw [nc]; rfl
          have ee : (sx = sy) = True := eq_true he
          simp (disch := first | rfl | omega | decide | exact Nat.le_of_ble_eq_true rfl) only [↓q_br, q_rt, q_rz, q_gd, q_ca, ↓reduceIte, F_X13_overlap_67B, F_X13_overlap_139, ↓q_gA_26_38, ↓q_gI_26_21, ↓q_lI_51, h21, nI_leI, h3, m1, m2, vx, vy, hs0, ht0, ee, nI_1, ihk, nc1, Bool.true_and]
        · rw [decide_eq_true hs, decide_eq_true ht, decide_eq_false he] at nc
          have nc1 : q_nc x y k = false := by rw [nc]; rfl
          simp (disch := first | rfl | omega | decide | exact Nat.le_of_ble_eq_true rfl) only [↓q_br, q_rt, q_rz, q_gd, q_ca, ↓reduceIte, F_X13_overlap_67B, F_X13_overlap_139, ↓q_gA_26_38, ↓q_gI_26_21, ↓q_lI_51, h21, nI_leI, h3, m1, m2, vx, vy, hs0, ht0, he, nI_1, nc1, Bool.false_and, Bool.false_eq_true, true_or]
      · have ht0 : (0 : Int32) ≤ sy := Int32.not_lt.mp ht
        rw [decide_eq_false ht] at nc
        have nc1 : q_nc x y k = true := by rw [nc]; simp
        simp (disch := first | rfl | omega | decide | exact Nat.le_of_ble_eq_true rfl) only [↓q_br, q_rt, q_rz, q_gd, q_ca, ↓reduceIte, F_X13_overlap_67B, F_X13_overlap_139, ↓q_gA_26_38, ↓q_gI_26_21, ↓q_lI_51, h21, nI_leI, h3, m1, m2, vx, vy, hs0, ht0, nI_1, ihk, nc1, Bool.true_and]
    · have hs0 : (0 : Int32) ≤ sx := Int32.not_lt.mp hs
      rw [decide_eq_false hs] at nc
      have nc1 : q_nc x y k = true := by rw [nc]; simp
      simp (disch := first | rfl | omega | decide | exact Nat.le_of_ble_eq_true rfl) only [↓q_br, q_rt, q_rz, q_gd, q_ca, ↓reduceIte, F_X13_overlap_67B, F_X13_overlap_139, ↓q_gA_26_38, ↓q_gI_26_21, ↓q_lI_51, h21, nI_leI, h3, m1, m2, vx, vy, hs0, nI_1, ihk, nc1, Bool.true_and]
theorem q_movl_44 {i j z wc wc' : Nat} {W V : List (List Int32)} (h21 : P 21 = nI z) (hz : z ≤ 32) (hi : i < 96) (hj : j < 96) (hW : W.length = wc) (hV : V.length = wc') (h4 : wc ≤ 4) (h4' : wc' ≤ 4) (lW : ∀ w ∈ W, w.length = z) (lV : ∀ w ∈ V, w.length = z) (qW : q_MW Q i z W) (qV : q_MW Q j z V) (w4 : Q 46 i = nI wc) (w4' : Q 46 j = nI wc') : ∀ d fuel w, w + d = min wc wc' → d < fuel → F_X13_overlap_44 κ fuel (some (b + 26)) (nI i) (nI j) (nI w) (q_H b C (P, Q, S) O D, s) = some (.inl (q_b (q_may z W V d w)), (q_H b C (P, Q, S) O D, s)) := by
  intro d
  induction d with
  | zero =>
    intro fuel w h1 h2
    obtain ⟨f, rfl⟩ : ∃ f, fuel = f + 1 := ⟨fuel - 1, by omega⟩
    have hv : q_may z W V 0 w = true := rfl
    rw [F_X13_overlap_44, hv]
    by_cases h3 : wc ≤ w
    · simp (disch := first | rfl | omega | decide | exact Nat.le_of_ble_eq_true rfl) only [↓q_br, q_rt, q_rz, q_gd, q_ca, ↓reduceIte, F_X13_overlap_44B, F_X13_overlap_151, ↓q_gA_26_33, ↓q_lI_46, w4, nI_leI, h3, or_true]
      rfl
    · have h5 : wc' ≤ w := by omega
      simp (disch := first | rfl | omega | decide | exact Nat.le_of_ble_eq_true rfl) only [↓q_br, q_rt, q_rz, q_gd, q_ca, ↓reduceIte, F_X13_overlap_44B, F_X13_overlap_151, ↓q_gA_26_33, ↓q_lI_46, w4, w4', nI_leI, h3, h5, or_true]
      rfl
  | succ d ih =>
    intro fuel w h1 h2
    obtain ⟨f, rfl⟩ : ∃ f, fuel = f + 1 := ⟨fuel - 1, by omega⟩
    have h3 : ¬ wc ≤ w := by omega
    have h5 : ¬ wc' ≤ w := by omega
    have hw4 : w < 4 := by omega
    have hw : w < W.length := by omega
    have hv : w < V.length := by omega
    obtain ⟨x, hx⟩ : ∃ x, x = W[w] := ⟨_, rfl⟩
    obtain ⟨y, hy⟩ : ∃ y, y = V[w] := ⟨_, rfl⟩
    have gx : W[w]? = some x := by rw [List.getElem?_eq_getElem hw, hx]
    have gy : V[w]? = some y := by rw [List.getElem?_eq_getElem hv, hy]
    have mx : x ∈ W := List.mem_of_getElem? gx
    have my : y ∈ V := List.mem_of_getElem? gy
    have in67 := q_movl_67 (κ := κ) (b := b) (C := C) (S := S) (O := O) (D := D) (s := s) (r := F_X13_overlap_44 κ f) (x := x) (y := y) h21 hz hi hj hw4 (fun k hk => q_MW_at qW gx (lW x mx) hk) (fun k hk => q_MW_at qV gy (lV y my) hk) z q_fu 0 (by omega) (by unfold q_fu; omega)
    rw [nI_0] at in67
    have gW : W.getD w [] = x := by rw [List.getD_eq_getElem?_getD, gx]; rfl
    have gV : V.getD w [] = y := by rw [List.getD_eq_getElem?_getD, gy]; rfl
    have un : q_may z W V (d + 1) w = (q_ncw z x y && q_may z W V d (w + 1)) := by
      unfold q_may
      rw [q_al, gW, gV]
    have ihk := ih f (w + 1) (by omega) (by omega)
    rw [F_X13_overlap_44, un]
    simp (disch := first | rfl | omega | decide | exact Nat.le_of_ble_eq_true rfl) only [↓q_br, q_rt, q_rz, q_gd, q_ca, ↓reduceIte, F_X13_overlap_44B, ↓q_gA_26_33, ↓q_lI_46, w4, w4', nI_leI, h3, h5, in67]
    unfold q_ncw
    cases hc : q_al (q_nc x y) z 0 with
    | true => simp only [if_true, ihk, Bool.true_and]
    | false => simp only [Bool.false_eq_true, if_false, Bool.false_and]; rfl
end QTD
theorem q_step_overlap (p0 p1 : Int32) : q_Step κ b (F_L_overlap κ (some (b + 1)) p0 p1 (some (b + 66))) (F_X13_overlap κ (some (b + 26)) p0 p1) (fun v => if v = 0 then 0 else 1) := by
  refine q_step_0 ?_
  rintro ⟨I, R, X, Y, Z⟩ P Q S O D n m c22 c23 ⟨hK, hb, ⟨zt, t1, t2, t3, t4⟩, hk, hp, hlb, hrd, ⟨z, L, Js, hD, -⟩, -, hA⟩
  obtain ⟨h1, h2, h3, h4, h5, h6, h7, h8, ⟨N, top, h9, h10, h11⟩, h12⟩ := hD
  have q7 : ∀ v, q_u1 P 7 v 7 = v := fun v => q_u1_s _ _ _
  have qi := fun x => q_hasIns (κ := κ) (b := b) (R := R) (X := X) (Y := Y) (Z := Z) (M := (P, Q, S)) (O := O) (D := D) (s := (n, m)) (x := x) h6
  have hz32 : z ≤ 32 := by rcases h1 with ⟨h, -, -⟩ | h | h | h <;> omega
  have qi0 := qi p0
  have qi1 := qi p1
  have bad : ∀ x, ¬ (¬ x < 0 ∧ ¬ nI Js.length ≤ x) → x < 0 ∨ nI Js.length ≤ x := fun x hx => by
    by_cases h9 : x < 0
    · exact Or.inl h9
    · exact Or.inr (Decidable.byContradiction fun h => hx ⟨h9, h⟩)
  by_cases hx : ¬ p0 < 0 ∧ ¬ nI Js.length ≤ p0
  · rw [decide_eq_true hx] at qi0
    obtain ⟨hx1, hx2⟩ := hx
    by_cases hy : ¬ p1 < 0 ∧ ¬ nI Js.length ≤ p1
    · rw [decide_eq_true hy] at qi1
      obtain ⟨hy1, hy2⟩ := hy
      obtain ⟨i, i1, rfl⟩ := nI_of hx1
      obtain ⟨j, j1, rfl⟩ := nI_of hy1
      have hil : i < Js.length := by
        have := mt (fun h => nI_le (a := Js.length) (b := i) h i1) hx2
        omega
      have hjl : j < Js.length := by
        have := mt (fun h => nI_le (a := Js.length) (b := j) h j1) hy2
        omega
      have hlt : (nI j < nI Js.length) = True := eq_true (nI_lt hjl (by omega))
      obtain ⟨A, hAe⟩ : ∃ A, A = Js[i] := ⟨_, rfl⟩
      obtain ⟨E, hEe⟩ : ∃ E, E = Js[j] := ⟨_, rfl⟩
      have gA : Js[i]? = some A := by rw [List.getElem?_eq_getElem hil, hAe]
      have gE : Js[j]? = some E := by rw [List.getElem?_eq_getElem hjl, hEe]
      obtain ⟨a, ea, hCa⟩ := h5 i A gA
      obtain ⟨e, ee, hCe⟩ := h5 j E gE
      obtain ⟨fm, fd, fs, a1, a2⟩ := q_CIn_o hCa
      obtain ⟨fm', fd', fs', e1, e2⟩ := q_CIn_o hCe
      obtain ⟨-, a3, a4, a5, a6, a7, a8⟩ := hCa
      obtain ⟨-, e3, e4, e5, e6, e7, e8⟩ := hCe
      obtain ⟨-, -, -, wa, -, -, wA, -⟩ := h11 i A gA
      obtain ⟨-, -, -, we, -, -, wE, -⟩ := h11 j E gE
      obtain ⟨x1, x2, x3, x4, x5, x6, x7, -⟩ := a1
      obtain ⟨y1, y2, y3, y4, y5, y6, y7, -⟩ := e1
      have dA := (h12 A (List.mem_of_getElem? gA)).2
      have dE := (h12 E (List.mem_of_getElem? gE)).2
      have mb := q_mayBe_2 (κ := κ) (b := b) (C := (I, R, X, Y, Z)) (M := (P, Q, S)) (O := O) (s := (n, m)) ⟨x1, x3⟩ ⟨y1, y3⟩ x5 x6 y5 y6 rfl rfl a5 e5 hz32 a7 e7 dA dE a2 e2 (min A.2.2.2.length E.2.2.2.length) q_fu 0 (by omega) (by unfold q_fu; omega)
      have mm := fun O1 => q_movl_44 (κ := κ) (b := b) (C := (I, R, X, Y, Z)) (P := q_u1 P 7 0) (S := S) (O := O1) (D := D) (s := (n, m)) (by rw [q_u1_n _ _ (by decide), h3]) hz32 (by omega) (by omega) rfl rfl a5 e5 a7 e7 wA wE wa we (min A.2.2.2.length E.2.2.2.length) q_fu 0 (by omega) (by unfold q_fu; omega)
      rw [nI_0] at mb mm
      obtain ⟨r, hr⟩ : ∃ r, r = q_may z A.2.2.2 E.2.2.2 (min A.2.2.2.length E.2.2.2.length) 0 := ⟨_, rfl⟩
      rw [← hr] at mb
      simp only [← hr] at mm
      have bz := q_b_1 r
      refine ⟨0, q_u1 O 0 (if q_b r = 0 then 0 else 1), n, m, q_b r, ?_, Or.inl rfl, Or.inl rfl, fun _ => q_u1_s _ _ _, ?_⟩
      · cases r with
        | true =>
          have n1 : ¬ q_b true = 0 := by decide
          have o1 : (q_b true = 1) = True := eq_true rfl
          simp (disch := first | rfl | omega | decide | exact Nat.le_of_ble_eq_true rfl) only [F_L_overlap, F_L_overlap_16, ↓q_is_1, q_cc, ↓q_br, q_rt, q_rz, q_gd, q_ca, ↓reduceIte, F_X11_overlap, F_X1_mayBe, ↓q_gA_1_2, ↓q_gA_8_1, ↓q_is_8, ↓q_lA_10, ↓q_is_8, qi0, qi1, q_b_0, Bool.true_eq_false, not_false_eq_true, ea, ee, qd_S ⟨x1, x3⟩, mb, n1, o1, or_true, ↓q_sO]
        | false =>
          simp (disch := first | rfl | omega | decide | exact Nat.le_of_ble_eq_true rfl) only [F_L_overlap, F_L_overlap_16, ↓q_is_1, q_cc, ↓q_br, q_rt, q_rz, q_gd, q_ca, ↓reduceIte, F_X11_overlap, F_X1_mayBe, ↓q_gA_1_2, ↓q_gA_8_1, ↓q_is_8, ↓q_lA_10, ↓q_is_8, qi0, qi1, q_b_0, Bool.true_eq_false, not_false_eq_true, ea, ee, qd_S ⟨x1, x3⟩, mb, true_or, ↓q_sO]
      · simp (disch := first | rfl | omega | decide | exact Nat.le_of_ble_eq_true rfl) only [↓q_br, q_rt, q_rz, q_gd, q_ca, ↓reduceIte, F_X13_overlap, F_X13_overlap_30, ↓q_gI_26_23, ↓q_gI_26_7, ↓q_pI_26_7, hx1, hx2, hy1, h8, hlt, q7, q_le0', mm]
    · rw [decide_eq_false hy] at qi1
      refine ⟨1, O, n + 1, m + 6, 0, ?_, Or.inr rfl, Or.inr rfl, fun h9 => absurd h9 (by decide), ?_⟩
      · simp (disch := first | rfl | omega | decide | exact Nat.le_of_ble_eq_true rfl) only [F_L_overlap, ↓q_is_1, q_cc, ↓q_br, q_rt, q_rz, q_gd, q_ca, ↓reduceIte, F_X11_overlap, F_X11_overlap_22, ↓q_gA_1_2, ↓q_gA_8_1, ↓q_is_8, ↓q_lA_10, ↓q_is_8, qi0, qi1, q_b_0, Bool.true_eq_false, not_true_eq_false, q_th]
      · rcases bad p1 hy with h9 | h9
        · simp (disch := first | rfl | omega | decide | exact Nat.le_of_ble_eq_true rfl) only [↓q_br, q_rt, q_rz, q_gd, q_ca, ↓reduceIte, F_X13_overlap, F_X13_overlap_25, F_X13_overlap_30, ↓q_gI_26_23, ↓q_gI_26_7, ↓q_pI_26_7, hx1, hx2, h8, h9, q7, q_le0, true_or]
        · by_cases h10 : p1 < 0
          · simp (disch := first | rfl | omega | decide | exact Nat.le_of_ble_eq_true rfl) only [↓q_br, q_rt, q_rz, q_gd, q_ca, ↓reduceIte, F_X13_overlap, F_X13_overlap_25, F_X13_overlap_30, ↓q_gI_26_23, ↓q_gI_26_7, ↓q_pI_26_7, hx1, hx2, h8, h10, q7, q_le0, true_or]
          · have h11 : ¬ p1 < nI Js.length := Int32.not_lt.mpr h9
            simp (disch := first | rfl | omega | decide | exact Nat.le_of_ble_eq_true rfl) only [↓q_br, q_rt, q_rz, q_gd, q_ca, ↓reduceIte, F_X13_overlap, F_X13_overlap_25, F_X13_overlap_30, ↓q_gI_26_23, ↓q_gI_26_7, ↓q_pI_26_7, hx1, hx2, h8, h10, h11, q7, q_le0, true_or]
  · rw [decide_eq_false hx] at qi0
    refine ⟨1, O, n + 1, m + 6, 0, ?_, Or.inr rfl, Or.inr rfl, fun h9 => absurd h9 (by decide), ?_⟩
    · simp (disch := first | rfl | omega | decide | exact Nat.le_of_ble_eq_true rfl) only [F_L_overlap, ↓q_is_1, q_cc, ↓q_br, q_rt, q_rz, q_gd, q_ca, ↓reduceIte, F_X11_overlap, F_X11_overlap_22, ↓q_gA_1_2, ↓q_gA_8_1, ↓q_is_8, ↓q_lA_10, ↓q_is_8, qi0, q_b_0, q_th]
    · by_cases h10 : p0 < 0
      · simp (disch := first | rfl | omega | decide | exact Nat.le_of_ble_eq_true rfl) only [↓q_br, q_rt, q_rz, q_gd, q_ca, ↓reduceIte, F_X13_overlap, F_X13_overlap_25, F_X13_overlap_30, ↓q_gI_26_23, ↓q_gI_26_7, ↓q_pI_26_7, h10, q7, q_le0, true_or]
      · have h9 := (bad p0 hx).resolve_left h10
        simp (disch := first | rfl | omega | decide | exact Nat.le_of_ble_eq_true rfl) only [↓q_br, q_rt, q_rz, q_gd, q_ca, ↓reduceIte, F_X13_overlap, F_X13_overlap_25, F_X13_overlap_30, ↓q_gI_26_23, ↓q_gI_26_7, ↓q_pI_26_7, h8, h9, h10, q7, q_le0, true_or]
end QTC
