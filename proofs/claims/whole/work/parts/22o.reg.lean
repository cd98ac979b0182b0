/-! ===== registers ===== -/
def q_dv9 (c : Int32) : Nat := (c - 48).toNatClampNeg
theorem q_By_i {c : Int32} (h : q_By c) : -128 ≤ c.toInt ∧ c.toInt ≤ 127 := by
  have h1 := Int32.le_iff_toInt_le.mp h.1
  have h2 := Int32.le_iff_toInt_le.mp h.2
  have e1 : (-128 : Int32).toInt = -128 := by decide
  have e2 : (127 : Int32).toInt = 127 := by decide
  omega
theorem q_By_s {c : Int32} (h : q_By c) : (c - 48).toInt = c.toInt - 48 := by
  obtain ⟨h1, h2⟩ := q_By_i h
  rw [Int32.toInt_sub]
  have e : (48 : Int32).toInt = 48 := by decide
  rw [e]
  exact Int.bmod_eq_of_le (by omega) (by omega)
theorem q_dg9 {c : Int32} (h : q_By c) : ((c - 48 < 0) = (c < 48)) ∧ ((9 < c - 48) = (57 < c)) ∧ (q_dgt c = true → c - 48 = nI (q_dv9 c) ∧ q_dv9 c ≤ 9) := by
  have hs := q_By_s h
  have e0 : (0 : Int32).toInt = 0 := by decide
  have e9 : (9 : Int32).toInt = 9 := by decide
  have e48 : (48 : Int32).toInt = 48 := by decide
  have e57 : (57 : Int32).toInt = 57 := by decide
  refine ⟨propext ?_, propext ?_, fun hd => ?_⟩
  · rw [Int32.lt_iff_toInt_lt, Int32.lt_iff_toInt_lt, hs, e0, e48]
    omega
  · rw [Int32.lt_iff_toInt_lt, Int32.lt_iff_toInt_lt, hs, e9, e57]
    omega
  · unfold q_dgt at hd
    rw [Bool.and_eq_true, Bool.not_eq_true', Bool.not_eq_true', decide_eq_false_iff_not, decide_eq_false_iff_not, Int32.lt_iff_toInt_lt, Int32.lt_iff_toInt_lt, e48, e57] at hd
    have hn : ¬ c - 48 < 0 := by rw [Int32.lt_iff_toInt_lt, hs, e0]; omega
    obtain ⟨j, j1, j2⟩ := nI_of hn
    have hj : q_dv9 c = j := by unfold q_dv9; rw [j2, nI_clamp j1]
    have hji : (j : Int) = c.toInt - 48 := by rw [← hs, j2, nI_toInt j1]
    exact ⟨by rw [hj, j2], by omega⟩
def q_rgn (B : Nat → Int32) (K : q_Knd) (x : q_Tok) : Option Nat :=
  if x.1 = 1 ∧ (q_kW K).isPrefixOf (q_tB B x) = true then
    (if x.2.2.1 - x.2.1 - (q_kW K).length = 1 then (if q_dgt (B (x.2.2.1 - 1)) = true ∧ q_dv9 (B (x.2.2.1 - 1)) < q_kZ K then some (q_dv9 (B (x.2.2.1 - 1))) else none)
    else if x.2.2.1 - x.2.1 - (q_kW K).length = 2 then (if (q_dgt (B (x.2.2.1 - 2)) = true ∧ q_dgt (B (x.2.2.1 - 1)) = true) ∧ ¬ q_dv9 (B (x.2.2.1 - 2)) = 0 ∧ 10 * q_dv9 (B (x.2.2.1 - 2)) + q_dv9 (B (x.2.2.1 - 1)) < q_kZ K then some (10 * q_dv9 (B (x.2.2.1 - 2)) + q_dv9 (B (x.2.2.1 - 1))) else none)
    else none)
  else none
theorem q_ndg {c : Int32} (h : ¬ q_dgt c = true) : c < 48 ∨ 57 < c := by
  unfold q_dgt at h
  rw [Bool.and_eq_true, Bool.not_eq_true', Bool.not_eq_true', decide_eq_false_iff_not, decide_eq_false_iff_not] at h
  by_cases h1 : c < 48
  · exact Or.inl h1
  · by_cases h2 : 57 < c
    · exact Or.inr h2
    · exact absurd ⟨h1, h2⟩ h
theorem q_ydg {c : Int32} (h : q_dgt c = true) : ¬ c < 48 ∧ ¬ 57 < c := by
  unfold q_dgt at h
  rw [Bool.and_eq_true, Bool.not_eq_true', Bool.not_eq_true', decide_eq_false_iff_not, decide_eq_false_iff_not] at h
  exact h
section QRO
variable {κ : Nat → Nat} {b : Nat} {B : Nat → Int32} {l : List q_Tok} {zt t : Nat} {I : Nat → Nat → Int32} {R : Nat → Nat → Option Nat} {X : Nat → Nat → Int32} {Y : Nat → Nat → Int64} {Z : Nat → Nat → Option Nat} {M : q_MT} {C : q_CT} {P : Nat → Int32} {Q : Nat → Nat → Int32} {S : Nat → Nat → Int64} {O : Nat → Int64} {D : q_Mem} {s : Nat × Nat}
theorem q_registerAt {n ka : Nat} {K : q_Knd} (hT : q_TC B l zt I X Y) (h : q_CKd b n D ka K) (ht : t < l.length + 3) : F_X2_registerAt κ (some ka) (some (b + 2)) (nI t) (q_H b (I, R, X, Y, Z) M O D, s) = some (.inl (q_mv (q_rgn B K (q_tok l t))), (q_H b (I, R, X, Y, Z) M O D, s)) := by
  obtain ⟨hw, a1, a2, a3, f, h1, h2, h3, h4, h5, -⟩ := h
  have hzt := hT.2.2.1
  have hl := hT.2.1
  have hz64 := hw.2.2.2.1
  have e3 : b + 66 < ka ∧ D ka = some (.inr (.inl (5, [.int (nI (q_kS K)), .ref a1, .ref a2, .ref a3, .int (nI (q_kZ K)), .int (nI (q_kB K))]))) := ⟨h1, h3⟩
  obtain ⟨la, e7⟩ := q_CN_o h5
  have bb := q_bytesBehind (κ := κ) (R := R) (Z := Z) (M := M) (O := O) (s := s) hT h5 ht
  have m1 : q_mv none = -1 := rfl
  unfold q_rgn
  by_cases hp : (q_tok l t).1 = 1 ∧ (q_kW K).isPrefixOf (q_tB B (q_tok l t)) = true
  · have tl : t < l.length := q_tok_lt (by omega)
    obtain ⟨w1, w2, w3, w4, -⟩ := hT.2.2.2.2.1 t _ (q_tok_s tl)
    have en := q_TC_en hT tl
    have t6 : t < 6003 := by omega
    have bbe : q_bb B (q_tok l t) (q_kW K) = nI ((q_tok l t).2.2.1 - (q_tok l t).2.1 - (q_kW K).length) := by unfold q_bb; rw [if_pos hp]
    rw [bbe] at bb
    rw [if_pos hp]
    obtain ⟨e, he⟩ : ∃ e, e = (q_tok l t).2.2.1 := ⟨_, rfl⟩
    obtain ⟨d, hd⟩ : ∃ d, d = (q_tok l t).2.2.1 - (q_tok l t).2.1 - (q_kW K).length := ⟨_, rfl⟩
    rw [← hd] at bb ⊢
    rw [← he] at en ⊢
    have dle : d ≤ e := by omega
    have el : e ≤ 6000 := by omega
    have hB := hT.2.2.2.2.2.1
    have hBy := hT.2.2.2.2.2.2
    by_cases d1 : d = 1
    · rw [if_pos d1]
      subst d1
      have x1 := hB (e - 1) (by omega)
      have i1 : nI e - 1 = nI (e - 1) := nI_sub (b := 1) (by omega)
      have i1l : e - 1 < 6000 := by omega
      obtain ⟨c1, c2, c3⟩ := q_dg9 (hBy (e - 1) (by omega))
      have n1 : (nI 1 < (1 : Int32)) = False := eq_false (by decide)
      have n2 : (nI 1 ≤ (2 : Int32)) = True := eq_true (by decide)
      have n3 : (nI 1 = (2 : Int32)) = False := eq_false (by decide)
      have z1 : ((0 : Int32) < 0) = False := eq_false (by decide)
      have z2 : ((9 : Int32) < 0) = False := eq_false (by decide)
      have o1 : ((1 : Int32) = 0) = False := eq_false (by decide)
      have zz : (0 : Int32) * 10 = nI 0 := by decide
      by_cases hdg : q_dgt (B (e - 1)) = true
      · obtain ⟨y1, y2⟩ := q_ydg hdg
        obtain ⟨v1, v2⟩ := c3 hdg
        have y1' : (B (e - 1) < 48) = False := eq_false y1
        have y2' : (57 < B (e - 1)) = False := eq_false y2
        have ad : nI 0 + (B (e - 1) - 48) = nI (q_dv9 (B (e - 1))) := by rw [v1, nI_add, Nat.zero_add]
        by_cases hlt : q_dv9 (B (e - 1)) < q_kZ K
        · rw [if_pos ⟨hdg, hlt⟩]
          have le : (nI (q_kZ K) ≤ nI (q_dv9 (B (e - 1)))) = False := eq_false (nI_ge hlt (by omega))
          simp (disch := first | rfl | omega | decide | exact Nat.le_of_ble_eq_true rfl) only [↓q_br, q_rt, q_rz, q_gd, q_ca, ↓reduceIte, F_X2_registerAt, F_X2_registerAt_65, F_X2_registerAt_96, F_X2_registerAt_115, F_X2_registerAt_140, ↓q_gA_2_0, ↓q_gA_2_3, ↓q_lI_3, ↓q_lI_6, qd_A e3 (k := 2) (r := some a2) rfl, qd_S e7, bb, n1, n2, ↓q_gA_2_0, ↓q_gA_2_3, ↓q_lI_6, en, i1, ↓q_lI_3, x1, n3, not_false_eq_true, c1, c2, y1', y2', z1, z2, o1, zz, ad, qd_I e3 (k := 4) (v := nI (q_kZ K)) rfl, le]
          rfl
        · rw [if_neg (fun h9 => hlt h9.2)]
          have le : (nI (q_kZ K) ≤ nI (q_dv9 (B (e - 1)))) = True := eq_true (nI_le (by omega) (by omega))
          simp (disch := first | rfl | omega | decide | exact Nat.le_of_ble_eq_true rfl) only [↓q_br, q_rt, q_rz, q_gd, q_ca, ↓reduceIte, F_X2_registerAt, F_X2_registerAt_65, F_X2_registerAt_96, F_X2_registerAt_115, F_X2_registerAt_140, ↓q_gA_2_0, ↓q_gA_2_3, ↓q_lI_3, ↓q_lI_6, qd_A e3 (k := 2) (r := some a2) rfl, qd_S e7, bb, n1, n2, ↓q_gA_2_0, ↓q_gA_2_3, ↓q_lI_6, en, i1, ↓q_lI_3, x1, n3, not_false_eq_true, c1, c2, y1', y2', z1, z2, o1, zz, ad, qd_I e3 (k := 4) (v := nI (q_kZ K)) rfl, le]
          rfl
      · rw [if_neg (fun h9 => hdg h9.1)]
        rcases q_ndg hdg with y | y
        · simp (disch := first | rfl | omega | decide | exact Nat.le_of_ble_eq_true rfl) only [↓q_br, q_rt, q_rz, q_gd, q_ca, ↓reduceIte, F_X2_registerAt, F_X2_registerAt_65, F_X2_registerAt_95, F_X2_registerAt_96, F_X2_registerAt_113, ↓q_gA_2_0, ↓q_gA_2_3, ↓q_lI_3, ↓q_lI_6, qd_A e3 (k := 2) (r := some a2) rfl, qd_S e7, bb, n1, n2, ↓q_gA_2_0, ↓q_gA_2_3, ↓q_lI_6, en, i1, ↓q_lI_3, x1, n3, not_false_eq_true, c1, y]
          rfl
        · by_cases y0 : B (e - 1) < 48
          · simp (disch := first | rfl | omega | decide | exact Nat.le_of_ble_eq_true rfl) only [↓q_br, q_rt, q_rz, q_gd, q_ca, ↓reduceIte, F_X2_registerAt, F_X2_registerAt_65, F_X2_registerAt_95, F_X2_registerAt_96, F_X2_registerAt_113, ↓q_gA_2_0, ↓q_gA_2_3, ↓q_lI_3, ↓q_lI_6, qd_A e3 (k := 2) (r := some a2) rfl, qd_S e7, bb, n1, n2, ↓q_gA_2_0, ↓q_gA_2_3, ↓q_lI_6, en, i1, ↓q_lI_3, x1, n3, not_false_eq_true, c1, y0]
            rfl
          · simp (disch := first | rfl | omega | decide | exact Nat.le_of_ble_eq_true rfl) only [↓q_br, q_rt, q_rz, q_gd, q_ca, ↓reduceIte, F_X2_registerAt, F_X2_registerAt_65, F_X2_registerAt_95, F_X2_registerAt_96, F_X2_registerAt_113, ↓q_gA_2_0, ↓q_gA_2_3, ↓q_lI_3, ↓q_lI_6, qd_A e3 (k := 2) (r := some a2) rfl, qd_S e7, bb, n1, n2, ↓q_gA_2_0, ↓q_gA_2_3, ↓q_lI_6, en, i1, ↓q_lI_3, x1, n3, not_false_eq_true, c1, c2, y0, y]
            rfl
    · rw [if_neg d1]
      by_cases d2 : d = 2
      · rw [if_pos d2]
        subst d2
        have x1 := hB (e - 1) (by omega)
        have x2 := hB (e - 2) (by omega)
        have i1 : nI e - 1 = nI (e - 1) := nI_sub (b := 1) (by omega)
        have i2 : nI e - 2 = nI (e - 2) := nI_sub (b := 2) (by omega)
        have i1l : e - 1 < 6000 := by omega
        have i2l : e - 2 < 6000 := by omega
        obtain ⟨c1, c2, c3⟩ := q_dg9 (hBy (e - 1) (by omega))
        obtain ⟨g1, g2, g3⟩ := q_dg9 (hBy (e - 2) (by omega))
        have n1 : (nI 2 < (1 : Int32)) = False := eq_false (by decide)
        have n2 : (nI 2 ≤ (2 : Int32)) = True := eq_true (by decide)
        have n3 : (nI 2 = (2 : Int32)) = True := eq_true rfl
        have o1 : ((1 : Int32) = 0) = False := eq_false (by decide)
        have bad : ∀ σ, F_X2_registerAt_95 κ (some ka) (nI 2) (B (e - 1) - 48) (B (e - 2) - 48) σ = some (.inl (-1), σ) := fun σ => by
          have o0 : ((0 : Int32) = 0) = True := eq_true rfl
          simp (disch := first | rfl | omega | decide | exact Nat.le_of_ble_eq_true rfl) only [↓q_br, q_rt, q_rz, q_gd, q_ca, ↓reduceIte, F_X2_registerAt_95, F_X2_registerAt_96, F_X2_registerAt_113, o0]
        have road : F_X2_registerAt κ (some ka) (some (b + 2)) (nI t) (q_H b (I, R, X, Y, Z) M O D, s) = F_X2_registerAt_65 κ (some ka) (nI 2) (B (e - 1) - 48) (B (e - 2) - 48) (q_H b (I, R, X, Y, Z) M O D, s) := by
          simp (disch := first | rfl | omega | decide | exact Nat.le_of_ble_eq_true rfl) only [↓q_br, q_rt, q_rz, q_gd, q_ca, ↓reduceIte, F_X2_registerAt, ↓q_gA_2_0, ↓q_gA_2_3, ↓q_lI_3, ↓q_lI_6, qd_A e3 (k := 2) (r := some a2) rfl, qd_S e7, bb, n1, n2, ↓q_gA_2_0, ↓q_gA_2_3, ↓q_lI_6, en, i1, i2, ↓q_lI_3, x1, x2, n3, not_true_eq_false]
        rw [road]
        by_cases hdg : q_dgt (B (e - 1)) = true
        · obtain ⟨y1, y2⟩ := q_ydg hdg
          obtain ⟨v1, v2⟩ := c3 hdg
          have y1' : (B (e - 1) < 48) = False := eq_false y1
          have y2' : (57 < B (e - 1)) = False := eq_false y2
          by_cases hdg2 : q_dgt (B (e - 2)) = true
          · obtain ⟨u1, u2⟩ := q_ydg hdg2
            obtain ⟨f1, f2⟩ := g3 hdg2
            have u1' : (B (e - 2) < 48) = False := eq_false u1
            have u2' : (57 < B (e - 2)) = False := eq_false u2
            have to96 : F_X2_registerAt_65 κ (some ka) (nI 2) (B (e - 1) - 48) (B (e - 2) - 48) (q_H b (I, R, X, Y, Z) M O D, s) = F_X2_registerAt_96 κ (some ka) (nI 2) (B (e - 1) - 48) (B (e - 2) - 48) 1 (q_H b (I, R, X, Y, Z) M O D, s) := by
              simp (disch := first | rfl | omega | decide | exact Nat.le_of_ble_eq_true rfl) only [↓q_br, q_rt, q_rz, q_gd, q_ca, ↓reduceIte, F_X2_registerAt_65, c1, c2, g1, g2, y1', y2', u1', u2']
            rw [to96, v1, f1]
            have z0 : (nI (q_dv9 (B (e - 2))) = 0) = (q_dv9 (B (e - 2)) = 0) := propext (nI_eq (b := 0) (by omega) (by decide))
            have mu : nI (q_dv9 (B (e - 2))) * 10 = nI (q_dv9 (B (e - 2)) * 10) := (Int32.ofNat_mul _ 10).symm
            have cm : q_dv9 (B (e - 2)) * 10 + q_dv9 (B (e - 1)) = 10 * q_dv9 (B (e - 2)) + q_dv9 (B (e - 1)) := by omega
            by_cases h0 : q_dv9 (B (e - 2)) = 0
            · rw [if_neg (fun h9 => h9.2.1 h0)]
              have t0 : (q_dv9 (B (e - 2)) = 0) = True := eq_true h0
              simp (disch := first | rfl | omega | decide | exact Nat.le_of_ble_eq_true rfl) only [↓q_br, q_rt, q_rz, q_gd, q_ca, ↓reduceIte, F_X2_registerAt_96, F_X2_registerAt_113, o1, n3, not_true_eq_false, z0, t0]
              rfl
            · have t0 : (q_dv9 (B (e - 2)) = 0) = False := eq_false h0
              by_cases hlt : 10 * q_dv9 (B (e - 2)) + q_dv9 (B (e - 1)) < q_kZ K
              · rw [if_pos ⟨⟨hdg2, hdg⟩, h0, hlt⟩]
                have le : (nI (q_kZ K) ≤ nI (10 * q_dv9 (B (e - 2)) + q_dv9 (B (e - 1)))) = False := eq_false (nI_ge hlt (by omega))
                simp (disch := first | rfl | omega | decide | exact Nat.le_of_ble_eq_true rfl) only [↓q_br, q_rt, q_rz, q_gd, q_ca, ↓reduceIte, F_X2_registerAt_96, F_X2_registerAt_115, F_X2_registerAt_140, o1, n3, not_true_eq_false, z0, t0, not_false_eq_true, mu, nI_add, cm, qd_I e3 (k := 4) (v := nI (q_kZ K)) rfl, le]
                rfl
              · rw [if_neg (fun h9 => hlt h9.2.2)]
                have le : (nI (q_kZ K) ≤ nI (10 * q_dv9 (B (e - 2)) + q_dv9 (B (e - 1)))) = True := eq_true (nI_le (by omega) (by omega))
                simp (disch := first | rfl | omega | decide | exact Nat.le_of_ble_eq_true rfl) only [↓q_br, q_rt, q_rz, q_gd, q_ca, ↓reduceIte, F_X2_registerAt_96, F_X2_registerAt_115, F_X2_registerAt_140, o1, n3, not_true_eq_false, z0, t0, not_false_eq_true, mu, nI_add, cm, qd_I e3 (k := 4) (v := nI (q_kZ K)) rfl, le]
                rfl
          · rw [if_neg (fun h9 => hdg2 h9.1.1)]
            by_cases u0 : B (e - 2) < 48
            · simp (disch := first | rfl | omega | decide | exact Nat.le_of_ble_eq_true rfl) only [↓q_br, q_rt, q_rz, q_gd, q_ca, ↓reduceIte, F_X2_registerAt_65, c1, c2, g1, g2, y1', y2', u0, bad]
              rfl
            · have u5 : 57 < B (e - 2) := (q_ndg hdg2).resolve_left u0
              simp (disch := first | rfl | omega | decide | exact Nat.le_of_ble_eq_true rfl) only [↓q_br, q_rt, q_rz, q_gd, q_ca, ↓reduceIte, F_X2_registerAt_65, c1, c2, g1, g2, y1', y2', u0, u5, bad]
              rfl
        · rw [if_neg (fun h9 => hdg h9.1.2)]
          by_cases y0 : B (e - 1) < 48
          · simp (disch := first | rfl | omega | decide | exact Nat.le_of_ble_eq_true rfl) only [↓q_br, q_rt, q_rz, q_gd, q_ca, ↓reduceIte, F_X2_registerAt_65, c1, y0, bad]
            rfl
          · have y5 : 57 < B (e - 1) := (q_ndg hdg).resolve_left y0
            simp (disch := first | rfl | omega | decide | exact Nat.le_of_ble_eq_true rfl) only [↓q_br, q_rt, q_rz, q_gd, q_ca, ↓reduceIte, F_X2_registerAt_65, c1, c2, y0, y5, bad]
            rfl
      · rw [if_neg d2]
        by_cases d0 : d = 0
        · have n1 : (nI d < (1 : Int32)) = True := eq_true (by rw [d0]; decide)
          simp (disch := first | rfl | omega | decide | exact Nat.le_of_ble_eq_true rfl) only [↓q_br, q_rt, q_rz, q_gd, q_ca, ↓reduceIte, F_X2_registerAt, F_X2_registerAt_20, ↓q_gA_2_0, ↓q_gA_2_3, ↓q_lI_3, ↓q_lI_6, qd_A e3 (k := 2) (r := some a2) rfl, qd_S e7, bb, n1]
          rfl
        · have n1 : (nI d < (1 : Int32)) = False := eq_false (nI_nlt (b := 1) (by omega) (by omega))
          have n2 : (nI d ≤ (2 : Int32)) = False := eq_false (nI_ge (a := 2) (by omega) (by omega))
          simp (disch := first | rfl | omega | decide | exact Nat.le_of_ble_eq_true rfl) only [↓q_br, q_rt, q_rz, q_gd, q_ca, ↓reduceIte, F_X2_registerAt, F_X2_registerAt_20, ↓q_gA_2_0, ↓q_gA_2_3, ↓q_lI_3, ↓q_lI_6, qd_A e3 (k := 2) (r := some a2) rfl, qd_S e7, bb, n1, n2]
          rfl
  · have bbe : q_bb B (q_tok l t) (q_kW K) = -1 := by unfold q_bb; rw [if_neg hp]
    rw [bbe] at bb
    rw [if_neg hp]
    have n1 : ((-1 : Int32) < (1 : Int32)) = True := eq_true (by decide)
    simp (disch := first | rfl | omega | decide | exact Nat.le_of_ble_eq_true rfl) only [↓q_br, q_rt, q_rz, q_gd, q_ca, ↓reduceIte, F_X2_registerAt, F_X2_registerAt_20, ↓q_gA_2_0, ↓q_gA_2_3, ↓q_lI_3, ↓q_lI_6, qd_A e3 (k := 2) (r := some a2) rfl, qd_S e7, bb, n1]
    rfl
end QRO
