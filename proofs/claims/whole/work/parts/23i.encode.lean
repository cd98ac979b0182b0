def q_bv (x : Int64) (k : Nat) : Bool := decide ((x >>> ((nI k).toInt64 &&& 63)) &&& 1 = 1)
theorem q_a1 (y : Int64) : y &&& 1 = lN (if decide (y &&& 1 = 1) = true then 1 else 0) := by
  obtain ⟨n, hn, rfl⟩ := wb_of y
  rw [wb_a1 hn]
  rcases Nat.mod_two_eq_zero_or_one n with h | h
  · rw [h]; decide
  · rw [h]; decide
theorem q_bv_e (x : Int64) (k : Nat) : (x >>> ((nI k).toInt64 &&& 63)) &&& 1 = lN (if q_bv x k = true then 1 else 0) := q_a1 _
/-- the bit that a source stands for, with the values V -/
def q_pb9 (V : Nat → Int64) (s : Int32) : Bool := if s < 0 then decide (s = -2) else q_bv (V (s.toNatClampNeg / 32)) (s.toNatClampNeg % 32)
theorem q_pb9_o {V : Nat → Int64} {o k : Nat} (ho : o < 5) (hk : k < 32) : q_pb9 V (nI (32 * o + k)) = q_bv (V o) k := by
  unfold q_pb9
  rw [if_neg (nI_pos (by omega)), nI_clamp (by omega), show (32 * o + k) / 32 = o from by omega, show (32 * o + k) % 32 = k from by omega]
section QEN
variable {κ : Nat → Nat} {b : Nat} {I : Nat → Nat → Int32} {R : Nat → Nat → Option Nat} {X : Nat → Nat → Int32} {Y : Nat → Nat → Int64} {Z : Nat → Nat → Option Nat} {M : q_MT} {O : Nat → Int64} {D : q_Mem} {s : Nat × Nat}
theorem q_encode_10 {z ja w no : Nat} {W : List (List Int32)} {c : List Int32} {V : Nat → Int64} {kb : Nat → Nat} {fs : Nat → Int32} {v0 v1 v2 v3 v4 v5 v7 v8 v9 v10 : Value} (e3 : b + 66 < ja ∧ D ja = some (.inr (.inl (4, [v0, v1, v2, v3, v4, v5, .ref (ja + 8), v7, v8, v9, v10])))) (e8 : D (ja + 8) = some (.inl (1, 128, .inl fs))) (hw4 : w < 4) (hc : W[w]? = some c) (cl : c.length = z) (hz : z ≤ 32) (hfs : ∀ j, j < 32 → fs (w * 32 + j) = q_cs z c j) (hleg : q_leg kb no W.flatten) (hno : no ≤ 5) (hkb : ∀ o, kb o ≤ 32) (hV : ∀ o, o < no → Y 25 o = V o) : ∀ d fuel j a, j + d = 32 → d < fuel → a < 2 ^ 32 → (∀ i, i < 32 → a.testBit i = if i < j then (q_dw (q_pb9 V) 0 c).testBit i else (q_dw q_p2 0 c).testBit i) → F_X1_encode_10 κ fuel (some ja) (nI w) (some (b + 25)) (lN a) (nI j) (q_H b (I, R, X, Y, Z) M O D, s) = some (.inl (lN (q_dw (q_pb9 V) 0 c)), (q_H b (I, R, X, Y, Z) M O D, s)) := by
  have E8 : b + 66 < ja + 8 ∧ D (ja + 8) = some (.inl (1, 128, .inl fs)) := ⟨by omega, e8⟩
  have n32 : (¬ (32 : Int32) = 0) = True := eq_true (by decide)
  intro d
  induction d with
  | zero =>
    intro fuel j a h1 h2 h3 h4
    obtain ⟨g, rfl⟩ : ∃ g, fuel = g + 1 := ⟨fuel - 1, by omega⟩
    have le : ((32 : Int32) ≤ nI j) = True := eq_true (nI_le (a := 32) (by omega) (by omega))
    have e : a = q_dw (q_pb9 V) 0 c := by
      have l2 := q_dw_lt (p := q_pb9 V) c 0
      have l3 : 2 ^ c.length ≤ 2 ^ 32 := Nat.pow_le_pow_right (by decide) (by omega)
      apply Nat.eq_of_testBit_eq
      intro i
      by_cases hi : i < 32
      · rw [h4 i hi, if_pos (by omega)]
      · rw [Nat.testBit_lt_two_pow (Nat.lt_of_lt_of_le h3 (Nat.pow_le_pow_right (by decide) (by omega))), Nat.testBit_lt_two_pow (Nat.lt_of_lt_of_le (by omega : q_dw (q_pb9 V) 0 c < 2 ^ 32) (Nat.pow_le_pow_right (by decide) (by omega)))]
    rw [F_X1_encode_10]
    simp (disch := first | rfl | omega | decide | exact Nat.le_of_ble_eq_true rfl) only [↓q_br, q_rt, q_rz, q_gd, q_ca, ↓reduceIte, F_X1_encode_10B, le, e]
  | succ d ih =>
    intro fuel j a h1 h2 h3 h4
    obtain ⟨g, rfl⟩ : ∃ g, fuel = g + 1 := ⟨fuel - 1, by omega⟩
    have hj : j < 32 := by omega
    have le : ((32 : Int32) ≤ nI j) = False := eq_false (nI_ge (b := 32) hj (by decide))
    have ix : nI w * (32 : Int32) + nI j = nI (w * 32 + j) := by rw [show nI w * (32 : Int32) = nI (w * 32) from (Int32.ofNat_mul w 32).symm, nI_add]
    have il : w * 32 + j < 128 := by omega
    have fse := hfs j hj
    rw [F_X1_encode_10]
    by_cases hsrc : j < z ∧ ¬ c.getD (z - 1 - j) 0 < 0
    · obtain ⟨hjz, hns⟩ := hsrc
      obtain ⟨o, k, o1, k1, ok⟩ := q_leg_at (z := z) hleg hc (by omega : z - 1 - j < c.length) hns
      have k32 : k < 32 := Nat.lt_of_lt_of_le k1 (hkb o)
      have o5 : o < 5 := by omega
      have cs : q_cs z c j = nI (32 * o + k) + 1 := by
        unfold q_cs q_ca9
        rw [if_pos hjz, List.getElem?_eq_getElem (by omega : z - 1 - j < c.length)]
        have e : c[z - 1 - j] = nI (32 * o + k) := by
          rw [← ok, List.getD_eq_getElem?_getD, List.getElem?_eq_getElem (by omega : z - 1 - j < c.length)]
          rfl
        simp only [e]
        rw [if_neg (nI_pos (by omega))]
      have sub1 : nI (32 * o + k) + 1 - 1 = nI (32 * o + k) := Int32.add_sub_cancel _ _
      have nn : (nI (32 * o + k) < 0) = False := eq_false (nI_pos (by omega))
      have d2 : nI (32 * o + k) / (32 : Int32) = nI o := by
        rw [show (32 : Int32) = nI 32 from rfl, pk_div (by omega) (by decide) (by decide), show (32 * o + k) / 32 = o from by omega]
      have r2 : nI (32 * o + k) - nI o * (32 : Int32) = nI k := by
        rw [← d2, show (32 : Int32) = nI 32 from rfl, pk_rem (by omega) (by decide) (by decide), show (32 * o + k) % 32 = k from by omega]
      have yv := hV o o1
      have bt := q_bv_e (V o) k
      obtain ⟨v', u1, u2, u3⟩ := q_orbit (bt := q_bv (V o) k) h3 hj
      have tb1 : (q_dw (q_pb9 V) 0 c).testBit j = q_bv (V o) k := by
        rw [q_dw_tb, if_pos (by omega), cl, ok, q_pb9_o o5 k32]
      have tb2 : (q_dw q_p2 0 c).testBit j = false := by
        rw [q_dw_tb, if_pos (by omega), cl, ok]
        unfold q_p2
        exact decide_eq_false (fun h => nI_pos (n := 32 * o + k) (by omega) (by rw [h]; decide))
      have ihk := ih g (j + 1) v' (by omega) (by omega) u2 (fun i hi => by
        rw [u3 i, h4 i hi]
        by_cases hij : i = j
        · rw [hij, if_neg (by omega), if_pos (by omega), tb1, tb2, Bool.false_or, decide_eq_true rfl, Bool.and_true]
        · rw [decide_eq_false hij, Bool.and_false, Bool.or_false]
          by_cases hl : i < j
          · rw [if_pos hl, if_pos (by omega)]
          · rw [if_neg hl, if_neg (by omega)])
      simp (disch := first | rfl | omega | decide | exact Nat.le_of_ble_eq_true rfl) only [↓q_br, q_rt, q_rz, q_gd, q_ca, ↓reduceIte, F_X1_encode_10B, F_X1_encode_63, le, qd_A e3 (k := 6) (r := some (ja + 8)) rfl, ix, qd_aI E8 il (by decide), fse, cs, nI_pred, nn, n32, d2, ↓q_lL_25, yv, r2, bt, u1, nI_1, ihk]
    · have cs : q_cs z c j = 0 := by
        unfold q_cs q_ca9
        by_cases hjz : j < z
        · have hl : z - 1 - j < c.length := by omega
          rw [if_pos hjz, List.getElem?_eq_getElem hl]
          have e : c[z - 1 - j] < 0 := by
            have := fun h => hsrc ⟨hjz, h⟩
            rw [List.getD_eq_getElem?_getD, List.getElem?_eq_getElem hl] at this
            exact Decidable.byContradiction this
          simp only
          rw [if_pos e]
        · rw [if_neg hjz]
      have m1 : ((0 : Int32) - 1 < 0) = True := eq_true (by decide)
      have tb : (q_dw (q_pb9 V) 0 c).testBit j = (q_dw q_p2 0 c).testBit j := by
        rw [q_dw_tb, q_dw_tb]
        by_cases hjz : j < c.length
        · rw [if_pos hjz, if_pos hjz, cl]
          have e : c.getD (z - 1 - j) 0 < 0 := Decidable.byContradiction (fun h => hsrc ⟨by omega, h⟩)
          unfold q_pb9 q_p2
          rw [if_pos e]
        · rw [if_neg hjz, if_neg hjz]
      have ihk := ih g (j + 1) a (by omega) (by omega) h3 (fun i hi => by
        rw [h4 i hi]
        by_cases hij : i = j
        · rw [hij, if_neg (by omega), if_pos (by omega), tb]
        · by_cases hl : i < j
          · rw [if_pos hl, if_pos (by omega)]
          · rw [if_neg hl, if_neg (by omega)])
      simp (disch := first | rfl | omega | decide | exact Nat.le_of_ble_eq_true rfl) only [↓q_br, q_rt, q_rz, q_gd, q_ca, ↓reduceIte, F_X1_encode_10B, F_X1_encode_63, le, qd_A e3 (k := 6) (r := some (ja + 8)) rfl, ix, qd_aI E8 il (by decide), fse, cs, m1, nI_1, ihk]
theorem q_encode {n z ja w : Nat} {L : List q_Knd} {J : q_Ins} {V : Nat → Int64} {c : List Int32} (hJ : q_CIn b n D Z L z ja J) (hkL : ∀ K ∈ L, q_kB K ≤ 32) (hz : z ≤ 32) (hc : J.2.2.2[w]? = some c) (hV : ∀ o, o < J.2.2.1.length → Y 25 o = V o) : F_X1_encode κ (some ja) (nI w) (some (b + 25)) (q_H b (I, R, X, Y, Z) M O D, s) = some (.inl (lN (q_dw (q_pb9 V) 0 c)), (q_H b (I, R, X, Y, Z) M O D, s)) := by
  have hJ0 := hJ
  obtain ⟨-, j1, j2, j3, j4, j5, j6⟩ := hJ0
  obtain ⟨fm, fd, fs, hCo, hWd⟩ := q_CIn_o hJ
  obtain ⟨k1, k2, k3, k4, k5, k6, k7, -⟩ := hCo
  have e3 := And.intro k1 k3
  have wl : w < J.2.2.2.length := (List.getElem?_eq_some_iff.mp hc).1
  have cl : c.length = z := j5 c (List.mem_of_getElem? hc)
  have w4 : w < 4 := by omega
  obtain ⟨d1, d2, d3⟩ := q_CWd_dw hWd hc w4 cl hz
  have e7 : b + 66 < ja + 7 ∧ D (ja + 7) = some (.inl (2, 4, .inr (.inl fd))) := ⟨by omega, k6⟩
  have l2 := q_dw_lt (p := q_p2) c 0
  have l3 : 2 ^ c.length ≤ 2 ^ 32 := Nat.pow_le_pow_right (by decide) (by omega)
  have lp := q_encode_10 (κ := κ) (I := I) (R := R) (X := X) (M := M) (O := O) (s := s) (V := V) (Z := Z) e3 k7 w4 hc cl hz d3 j6 j2 (fun o => q_kb_le hkL J.2.2.1 o) hV 32 q_fu 0 (q_dw q_p2 0 c) (by omega) (by unfold q_fu; omega) (by omega) (fun i hi => by rw [if_neg (by omega)])
  rw [nI_0] at lp
  simp (disch := first | rfl | omega | decide | exact Nat.le_of_ble_eq_true rfl) only [↓q_br, q_rt, q_rz, q_gd, q_ca, ↓reduceIte, F_X1_encode, qd_A e3 (k := 5) (r := some (ja + 7)) rfl, qd_aL e7 w4 (by decide), d2, lp]
end QEN
