def q_av (LT : List Nat) (ad : Nat → Nat) (k : Nat) : Int32 := nI (ad (LT.getD k 0))
/-- the value that an operand holds -/
def q_held (B : Nat → Int32) (l : List q_Tok) (LT : List Nat) (L : List q_Knd) (os : q_Ops) (ad : Nat → Nat) (sf : Nat) (ps : Nat → Nat) (o : Nat) : Int64 := match q_opd B l LT (q_ok L os o) (ps o) with
  | none => 0
  | some x => if q_kS (q_ok L os o) = 3 then q_ova (q_av LT ad) x - (nI (ad sf)).toInt64 else q_ova (q_av LT ad) x
def q_hld (K : q_Knd) (v : Int64) : Bool := if q_kS K = 1 then (!decide (v < 0) && decide (v < lN (2 ^ q_kB K))) else if q_kS K = 2 ∨ q_kS K = 3 then (!decide (v < - lN (2 ^ (q_kB K - 1))) && decide (v < lN (2 ^ (q_kB K - 1)))) else true
def q_fts (B : Nat → Int32) (l : List q_Tok) (LT : List Nat) (L : List q_Knd) (os : q_Ops) (ad : Nat → Nat) (sf : Nat) (ps : Nat → Nat) : Nat → Nat → Bool := q_al fun o => q_hld (q_ok L os o) (q_held B l LT L os ad sf ps o)
section QHV
variable {κ : Nat → Nat} {b : Nat} {B : Nat → Int32} {l : List q_Tok} {zt : Nat} {I : Nat → Nat → Int32} {R : Nat → Nat → Option Nat} {X : Nat → Nat → Int32} {Y : Nat → Nat → Int64} {Z : Nat → Nat → Option Nat} {M : q_MT} {O : Nat → Int64} {D : q_Mem} {s : Nat × Nat}
theorem q_isNumber {n ka : Nat} {K : q_Knd} (hK : q_CKd b n D ka K) : F_X2_isNumber κ (some ka) (q_H b (I, R, X, Y, Z) M O D, s) = some (.inl (q_b (decide (1 ≤ q_kS K ∧ q_kS K ≤ 3))), (q_H b (I, R, X, Y, Z) M O D, s)) := by
  obtain ⟨hw, a1, a2, a3, f, k1, k2, k3, -⟩ := hK
  have e3 := And.intro k1 k3
  have s4 := hw.1
  have n1 : (nI (q_kS K) = (1 : Int32)) = (q_kS K = 1) := propext (nI_eq (b := 1) (by omega) (by decide))
  have n2 : (nI (q_kS K) = (2 : Int32)) = (q_kS K = 2) := propext (nI_eq (b := 2) (by omega) (by decide))
  have n3 : (nI (q_kS K) = (3 : Int32)) = (q_kS K = 3) := propext (nI_eq (b := 3) (by omega) (by decide))
  by_cases c1 : q_kS K = 1
  · have t1 : (q_kS K = 1) = True := eq_true c1
    rw [decide_eq_true (by omega)]
    simp (disch := first | rfl | omega | decide | exact Nat.le_of_ble_eq_true rfl) only [↓q_br, q_rt, q_rz, q_gd, q_ca, ↓reduceIte, F_X2_isNumber_29, F_X2_isNumber_24, F_X2_isNumber, qd_I e3 (k := 0) (v := nI (q_kS K)) rfl, n1, t1, or_true]
    rfl
  · have t1 : (q_kS K = 1) = False := eq_false c1
    by_cases c2 : q_kS K = 2
    · have t2 : (q_kS K = 2) = True := eq_true c2
      rw [decide_eq_true (by omega)]
      simp (disch := first | rfl | omega | decide | exact Nat.le_of_ble_eq_true rfl) only [↓q_br, q_rt, q_rz, q_gd, q_ca, ↓reduceIte, F_X2_isNumber_29, F_X2_isNumber_24, F_X2_isNumber, qd_I e3 (k := 0) (v := nI (q_kS K)) rfl, n1, t1, n2, t2, or_true]
      rfl
    · have t2 : (q_kS K = 2) = False := eq_false c2
      by_cases c3 : q_kS K = 3
      · have t3 : (q_kS K = 3) = True := eq_true c3
        rw [decide_eq_true (by omega)]
        simp (disch := first | rfl | omega | decide | exact Nat.le_of_ble_eq_true rfl) only [↓q_br, q_rt, q_rz, q_gd, q_ca, ↓reduceIte, F_X2_isNumber_29, F_X2_isNumber_24, F_X2_isNumber, qd_I e3 (k := 0) (v := nI (q_kS K)) rfl, n1, t1, n2, t2, n3, t3, not_true_eq_false, or_true]
        rfl
      · have t3 : (q_kS K = 3) = False := eq_false c3
        rw [decide_eq_false (by omega)]
        simp (disch := first | rfl | omega | decide | exact Nat.le_of_ble_eq_true rfl) only [↓q_br, q_rt, q_rz, q_gd, q_ca, ↓reduceIte, F_X2_isNumber_29, F_X2_isNumber_24, F_X2_isNumber, qd_I e3 (k := 0) (v := nI (q_kS K)) rfl, n1, t1, n2, t2, n3, t3, not_false_eq_true, true_or]
        rfl
theorem q_holds {n ka : Nat} {K : q_Knd} {v : Int64} (hK : q_CKd b n D ka K) (hs : 1 ≤ q_kS K ∧ q_kS K ≤ 3) : F_X2_holds κ (some ka) v (q_H b (I, R, X, Y, Z) M O D, s) = some (.inl (q_b (q_hld K v)), (q_H b (I, R, X, Y, Z) M O D, s)) := by
  obtain ⟨hw, a1, a2, a3, f, k1, k2, k3, -⟩ := hK
  have e3 := And.intro k1 k3
  have s4 := hw.1
  have w1 := hw.2.1
  have w2 := hw.2.2.1
  have n1 : (nI (q_kS K) = (1 : Int32)) = (q_kS K = 1) := propext (nI_eq (b := 1) (by omega) (by decide))
  have sh := q_shl1 (q_kB K) (by omega)
  have sh1 := q_shl1 (q_kB K - 1) (by omega)
  have sb : nI (q_kB K) - 1 = nI (q_kB K - 1) := nI_sub (b := 1) w1
  unfold q_hld
  by_cases c1 : q_kS K = 1
  · have t1 : (q_kS K = 1) = True := eq_true c1
    rw [if_pos c1]
    by_cases d1 : v < 0
    · have u1 : (lg_cmp v 0 < 0) = True := eq_true ((lg_cmp_lt _ _).mpr d1)
      rw [decide_eq_true d1]
      simp (disch := first | rfl | omega | decide | exact Nat.le_of_ble_eq_true rfl) only [↓q_br, q_rt, q_rz, q_gd, q_ca, ↓reduceIte, F_X2_holds_30, F_X2_holds_29, F_X2_holds_58, F_X2_holds_57, F_X2_holds, qd_I e3 (k := 0) (v := nI (q_kS K)) rfl, n1, t1, not_true_eq_false, u1, true_or]
      rfl
    · have u1 : (lg_cmp v 0 < 0) = False := eq_false (fun h => d1 ((lg_cmp_lt _ _).mp h))
      rw [decide_eq_false d1]
      by_cases d2 : v < lN (2 ^ q_kB K)
      · have u2 : (0 ≤ lg_cmp v (lN (2 ^ q_kB K))) = False := eq_false (fun h => Int64.not_le.mpr d2 ((lg_cmp_ge _ _).mp h))
        rw [decide_eq_true d2]
        simp (disch := first | rfl | omega | decide | exact Nat.le_of_ble_eq_true rfl) only [↓q_br, q_rt, q_rz, q_gd, q_ca, ↓reduceIte, F_X2_holds_30, F_X2_holds_29, F_X2_holds_58, F_X2_holds_57, F_X2_holds, qd_I e3 (k := 0) (v := nI (q_kS K)) rfl, n1, t1, not_true_eq_false, u1, qd_I e3 (k := 5) (v := nI (q_kB K)) rfl, sh, u2, or_true]
        rfl
      · have u2 : (0 ≤ lg_cmp v (lN (2 ^ q_kB K))) = True := eq_true ((lg_cmp_ge _ _).mpr (Int64.not_lt.mp d2))
        rw [decide_eq_false d2]
        simp (disch := first | rfl | omega | decide | exact Nat.le_of_ble_eq_true rfl) only [↓q_br, q_rt, q_rz, q_gd, q_ca, ↓reduceIte, F_X2_holds_30, F_X2_holds_29, F_X2_holds_58, F_X2_holds_57, F_X2_holds, qd_I e3 (k := 0) (v := nI (q_kS K)) rfl, n1, t1, not_true_eq_false, u1, qd_I e3 (k := 5) (v := nI (q_kB K)) rfl, sh, u2, true_or]
        rfl
  · have t1 : (q_kS K = 1) = False := eq_false c1
    rw [if_neg c1, if_pos (by omega)]
    by_cases d1 : v < - lN (2 ^ (q_kB K - 1))
    · have u1 : (lg_cmp v (- lN (2 ^ (q_kB K - 1))) < 0) = True := eq_true ((lg_cmp_lt _ _).mpr d1)
      rw [decide_eq_true d1]
      simp (disch := first | rfl | omega | decide | exact Nat.le_of_ble_eq_true rfl) only [↓q_br, q_rt, q_rz, q_gd, q_ca, ↓reduceIte, F_X2_holds_30, F_X2_holds_29, F_X2_holds_58, F_X2_holds_57, F_X2_holds, qd_I e3 (k := 0) (v := nI (q_kS K)) rfl, n1, t1, not_false_eq_true, qd_I e3 (k := 5) (v := nI (q_kB K)) rfl, sb, sh1, u1, true_or]
      rfl
    · have u1 : (lg_cmp v (- lN (2 ^ (q_kB K - 1))) < 0) = False := eq_false (fun h => d1 ((lg_cmp_lt _ _).mp h))
      rw [decide_eq_false d1]
      by_cases d2 : v < lN (2 ^ (q_kB K - 1))
      · have u2 : (0 ≤ lg_cmp v (lN (2 ^ (q_kB K - 1)))) = False := eq_false (fun h => Int64.not_le.mpr d2 ((lg_cmp_ge _ _).mp h))
        rw [decide_eq_true d2]
        simp (disch := first | rfl | omega | decide | exact Nat.le_of_ble_eq_true rfl) only [↓q_br, q_rt, q_rz, q_gd, q_ca, ↓reduceIte, F_X2_holds_30, F_X2_holds_29, F_X2_holds_58, F_X2_holds_57, F_X2_holds, qd_I e3 (k := 0) (v := nI (q_kS K)) rfl, n1, t1, not_false_eq_true, qd_I e3 (k := 5) (v := nI (q_kB K)) rfl, sb, sh1, u1, u2, or_true]
        rfl
      · have u2 : (0 ≤ lg_cmp v (lN (2 ^ (q_kB K - 1)))) = True := eq_true ((lg_cmp_ge _ _).mpr (Int64.not_lt.mp d2))
        rw [decide_eq_false d2]
        simp (disch := first | rfl | omega | decide | exact Nat.le_of_ble_eq_true rfl) only [↓q_br, q_rt, q_rz, q_gd, q_ca, ↓reduceIte, F_X2_holds_30, F_X2_holds_29, F_X2_holds_58, F_X2_holds_57, F_X2_holds, qd_I e3 (k := 0) (v := nI (q_kS K)) rfl, n1, t1, not_false_eq_true, qd_I e3 (k := 5) (v := nI (q_kB K)) rfl, sb, sh1, u1, u2, true_or]
        rfl
theorem q_heldValue {n n' ka c23 a o sf hd en : Nat} {L : List q_Knd} {os : q_Ops} {LT : List Nat} {la : Nat → Nat} {ad : Nat → Nat} {ps : Nat → Nat} {f : Nat → Int32} {v0 v1 v2 v3 v5 v6 : Value} (hT : q_TC B l zt I X Y) (hK : q_CKd b n D ka (q_ok L os o)) (hE : q_LE l hd en) (hY : ∀ t, hd < t → t < en → (q_tok l t).1 = 1 → Y 7 t = (q_mv (q_lk B l LT t)).toInt64) (hLT : LT.length ≤ 6100) (hAL : q_AL κ b n' D I R 23 c23 LT.length la) (hA : ∀ k, k < LT.length → ∃ v0 v1 v2 v3 v4 v5 v6, b + 66 < la k ∧ D (la k) = some (.inr (.inl (6, [v0, v1, v2, v3, v4, v5, v6, .int (q_av LT ad k)])))) (ha : b + 66 < a) (h1 : D a = some (.inr (.inl (6, [v0, v1, v2, v3, .ref (a + 1), v5, v6, .int (nI (ad sf))])))) (h2 : D (a + 1) = some (.inl (1, 5, .inl f))) (ho : o < 5) (hf : f o = nI (ps o)) (hp : hd < ps o ∧ ps o < en ∧ ∃ x, q_opd B l LT (q_ok L os o) (ps o) = some x) : F_X8_heldValue κ (some (b + 21)) (some a) (some ka) (nI o) (q_H b (I, R, X, Y, Z) M O D, s) = some (.inl (q_held B l LT L os ad sf ps o), (q_H b (I, R, X, Y, Z) M O D, s)) := by
  obtain ⟨p1, p2, x, p3⟩ := hp
  have el := hE.2.1
  have at1 := q_operandAt (κ := κ) (Z := Z) (M := M) (O := O) (s := s) hT hK (by omega) hLT (fun c _ _ => hY _ p1 p2 c) hAL hA p3
  have hK0 := hK
  obtain ⟨hw, a1, a2, a3, f3, k1, k2, k3, -⟩ := hK0
  have e3 := And.intro k1 k3
  have ea := And.intro ha h1
  have ea2 : b + 66 < a + 1 ∧ D (a + 1) = some (.inl (1, 5, .inl f)) := ⟨by omega, h2⟩
  have s4 := hw.1
  have n3 : (nI (q_kS (q_ok L os o)) = (3 : Int32)) = (q_kS (q_ok L os o) = 3) := propext (nI_eq (b := 3) (by omega) (by decide))
  unfold q_held
  rw [p3]
  by_cases c3 : q_kS (q_ok L os o) = 3
  · have t3 : (q_kS (q_ok L os o) = 3) = True := eq_true c3
    simp (disch := first | rfl | omega | decide | exact Nat.le_of_ble_eq_true rfl) only [↓q_br, q_rt, q_rz, q_gd, q_ca, ↓reduceIte, F_X8_heldValue_34, F_X8_heldValue, ↓q_is_21, qd_A ea (k := 4) (r := some (a + 1)) rfl, qd_aI ea2 ho (by decide), hf, at1, qd_I e3 (k := 0) (v := nI (q_kS (q_ok L os o))) rfl, n3, t3, not_true_eq_false, qd_I ea (k := 7) (v := nI (ad sf)) rfl]
  · have t3 : (q_kS (q_ok L os o) = 3) = False := eq_false c3
    simp (disch := first | rfl | omega | decide | exact Nat.le_of_ble_eq_true rfl) only [↓q_br, q_rt, q_rz, q_gd, q_ca, ↓reduceIte, F_X8_heldValue_34, F_X8_heldValue, ↓q_is_21, qd_A ea (k := 4) (r := some (a + 1)) rfl, qd_aI ea2 ho (by decide), hf, at1, qd_I e3 (k := 0) (v := nI (q_kS (q_ok L os o))) rfl, n3, t3, not_false_eq_true]
theorem q_fits_15 {n n' ja z c23 a sf hd en : Nat} {L : List q_Knd} {J : q_Ins} {LT : List Nat} {la : Nat → Nat} {ad : Nat → Nat} {ps : Nat → Nat} {f : Nat → Int32} {v0 v1 v2 v3 v5 v6 : Value} (hT : q_TC B l zt I X Y) (hJ : q_CIn b n D Z L z ja J) (hCM : q_CMk b n D I Z L) (hE : q_LE l hd en) (hY : ∀ t, hd < t → t < en → (q_tok l t).1 = 1 → Y 7 t = (q_mv (q_lk B l LT t)).toInt64) (hLT : LT.length ≤ 6100) (hAL : q_AL κ b n' D I R 23 c23 LT.length la) (hA : ∀ k, k < LT.length → ∃ v0 v1 v2 v3 v4 v5 v6, b + 66 < la k ∧ D (la k) = some (.inr (.inl (6, [v0, v1, v2, v3, v4, v5, v6, .int (q_av LT ad k)])))) (ha : b + 66 < a) (h1 : D a = some (.inr (.inl (6, [v0, v1, v2, v3, .ref (a + 1), v5, v6, .int (nI (ad sf))])))) (h2 : D (a + 1) = some (.inl (1, 5, .inl f))) (hf : ∀ o, o < J.2.2.1.length → f o = nI (ps o)) (hp : ∀ o, o < J.2.2.1.length → hd < ps o ∧ ps o < en ∧ ∃ x, q_opd B l LT (q_ok L J.2.2.1 o) (ps o) = some x) : ∀ d fuel o, o + d = J.2.2.1.length → d < fuel → F_X8_fits_15 κ fuel (some (b + 21)) (some a) (some ja) (nI o) (q_H b (I, R, X, Y, Z) M O D, s) = some (.inl (q_b (q_fts B l LT L J.2.2.1 ad sf ps d o)), (q_H b (I, R, X, Y, Z) M O D, s)) := by
  obtain ⟨fm, fd, fs, hCo, -⟩ := q_CIn_o hJ
  have n5 := hJ.2.2.1
  obtain ⟨fk, y1, y2⟩ := q_okd hCo hCM
  obtain ⟨k1, k2, k3, -⟩ := hCo
  have e3 := And.intro k1 k3
  have e5 : b + 66 < ja + 5 ∧ D (ja + 5) = some (.inl (5, 5, .inr (.inr (.inr (.inr fk))))) := ⟨by omega, y1⟩
  intro d
  induction d with
  | zero =>
    intro fuel o g1 g2
    obtain ⟨g, rfl⟩ : ∃ g, fuel = g + 1 := ⟨fuel - 1, by omega⟩
    have h3 : J.2.2.1.length ≤ o := by omega
    rw [F_X8_fits_15]
    simp (disch := first | rfl | omega | decide | exact Nat.le_of_ble_eq_true rfl) only [↓q_br, q_rt, q_rz, q_gd, q_ca, ↓reduceIte, F_X8_fits_15B, ↓q_is_21, qd_I e3 (k := 8) (v := nI J.2.2.1.length) rfl, nI_leI, h3, or_true]
    rfl
  | succ d ih =>
    intro fuel o g1 g2
    obtain ⟨g, rfl⟩ : ∃ g, fuel = g + 1 := ⟨fuel - 1, by omega⟩
    have h3 : ¬ J.2.2.1.length ≤ o := by omega
    have ho : o < J.2.2.1.length := by omega
    have o5 : o < 5 := by omega
    obtain ⟨ka, z1, z2⟩ := y2 o ho
    have isn := q_isNumber (κ := κ) (I := I) (R := R) (X := X) (Y := Y) (Z := Z) (M := M) (O := O) (s := s) z2
    obtain ⟨a1, a2, a3, f3, j1, j2, j3, -⟩ := z2.2
    have ek := And.intro j1 j3
    have ihk := ih g (o + 1) (by omega) (by omega)
    have ef : q_fts B l LT L J.2.2.1 ad sf ps (d + 1) o = (q_hld (q_ok L J.2.2.1 o) (q_held B l LT L J.2.2.1 ad sf ps o) && q_fts B l LT L J.2.2.1 ad sf ps d (o + 1)) := rfl
    rw [F_X8_fits_15, ef]
    by_cases hs : 1 ≤ q_kS (q_ok L J.2.2.1 o) ∧ q_kS (q_ok L J.2.2.1 o) ≤ 3
    · rw [decide_eq_true hs] at isn
      have hv := q_heldValue (κ := κ) (Z := Z) (M := M) (O := O) (s := s) hT z2 hE hY hLT hAL hA ha h1 h2 o5 (hf o ho) (hp o ho)
      have hh := q_holds (κ := κ) (I := I) (R := R) (X := X) (Y := Y) (Z := Z) (M := M) (O := O) (s := s) (v := q_held B l LT L J.2.2.1 ad sf ps o) z2 hs
      cases hc : q_hld (q_ok L J.2.2.1 o) (q_held B l LT L J.2.2.1 ad sf ps o) with
      | true =>
        rw [hc] at hh
        rw [Bool.true_and]
        simp (disch := first | rfl | omega | decide | exact Nat.le_of_ble_eq_true rfl) only [↓q_br, q_rt, q_rz, q_gd, q_ca, ↓reduceIte, F_X8_fits_15B, F_X8_fits_57, ↓q_is_21, qd_I e3 (k := 8) (v := nI J.2.2.1.length) rfl, nI_leI, h3, qd_A e3 (k := 3) (r := some (ja + 5)) rfl, qd_aA e5 o5 (by decide), z1, qd_S ek, isn, q_b_0, Bool.true_eq_false, hv, hh, not_false_eq_true, nI_1, ihk]
      | false =>
        rw [hc] at hh
        rw [Bool.false_and]
        simp (disch := first | rfl | omega | decide | exact Nat.le_of_ble_eq_true rfl) only [↓q_br, q_rt, q_rz, q_gd, q_ca, ↓reduceIte, F_X8_fits_15B, F_X8_fits_57, ↓q_is_21, qd_I e3 (k := 8) (v := nI J.2.2.1.length) rfl, nI_leI, h3, qd_A e3 (k := 3) (r := some (ja + 5)) rfl, qd_aA e5 o5 (by decide), z1, qd_S ek, isn, q_b_0, Bool.true_eq_false, hv, hh, not_true_eq_false, true_or]
        rfl
    · rw [decide_eq_false hs] at isn
      have hc : q_hld (q_ok L J.2.2.1 o) (q_held B l LT L J.2.2.1 ad sf ps o) = true := by
        unfold q_hld
        rw [if_neg (by omega), if_neg (by omega)]
      rw [hc, Bool.true_and]
      simp (disch := first | rfl | omega | decide | exact Nat.le_of_ble_eq_true rfl) only [↓q_br, q_rt, q_rz, q_gd, q_ca, ↓reduceIte, F_X8_fits_15B, F_X8_fits_57, ↓q_is_21, qd_I e3 (k := 8) (v := nI J.2.2.1.length) rfl, nI_leI, h3, qd_A e3 (k := 3) (r := some (ja + 5)) rfl, qd_aA e5 o5 (by decide), z1, qd_S ek, isn, q_b_0, nI_1, ihk]
end QHV
