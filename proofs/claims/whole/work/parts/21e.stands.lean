/-! ===== where an instruction stands ===== -/
def q_ok (L : List q_Knd) (os : q_Ops) (o : Nat) : q_Knd := q_kg L (os.getD o ([], 0)).2
def q_hs (K : q_Knd) (v : Nat) : Bool := decide (1 ≤ q_kS K ∧ q_kS K ≤ 3) || decide (v < q_kZ K)
def q_ld (X : Nat → Nat → Int32) (x : Nat) : Bool := decide (x < 4096) && !decide (X 13 x = 0)
def q_gv (Y : Nat → Nat → Int64) (A w : Nat) : Nat := (Y 12 (A + w)).toInt.toNat
def q_sw (z : Nat) (W : List (List Int32)) (X : Nat → Nat → Int32) (g : Nat → Nat) (A : Nat) : Nat → Nat → Bool := q_al fun w => q_ld X (A + w) && q_wm z (W.getD w []) (g w) z 0
def q_hso (L : List q_Knd) (os : q_Ops) (F : Nat → Nat) : Nat → Nat → Bool := q_al fun o => q_hs (q_ok L os o) (F o)
def q_st (z : Nat) (L : List q_Knd) (J : q_Ins) (X : Nat → Nat → Int32) (g : Nat → Nat) (A : Nat) : Bool := q_sw z J.2.2.2 X g A J.2.2.2.length 0 && q_hso L J.2.2.1 (q_fv z J.2.2.2 g) J.2.2.1.length 0
section QSE
variable {κ : Nat → Nat} {b : Nat} {I : Nat → Nat → Int32} {R : Nat → Nat → Option Nat} {X : Nat → Nat → Int32} {Y : Nat → Nat → Int64} {Z : Nat → Nat → Option Nat} {M : q_MT} {C : q_CT} {P : Nat → Int32} {Q : Nat → Nat → Int32} {S : Nat → Nat → Int64} {O : Nat → Int64} {D : q_Mem} {s : Nat × Nat}
theorem q_okd {n a : Nat} {mn : q_Nam} {ps : List Int32} {os : q_Ops} {wc dc : Nat} {fm fd : Nat → Int64} {fs : Nat → Int32} {L : List q_Knd} (h : q_CIo b n D Z L.length a mn ps os wc dc fm fd fs) (hk : q_CMk b n D I Z L) : ∃ fk, D (a + 5) = some (.inl (5, 5, .inr (.inr (.inr (.inr fk))))) ∧ ∀ o, o < os.length → ∃ ka, fk o = some ka ∧ q_CKd b n D ka (q_ok L os o) := by
  obtain ⟨k1, k2, k3, k4, k5, k6, k7, fp, fo, fk, k8, k9, k10, k11, k12⟩ := h
  refine ⟨fk, k10, fun o ho => ?_⟩
  have hg := List.getElem?_eq_getElem ho
  obtain ⟨a', e1, e2, e3, e4⟩ := k12 o _ hg
  obtain ⟨ka, f1, f2⟩ := hk.2.2 os[o].2 _ (List.getElem?_eq_getElem e4)
  refine ⟨ka, by rw [e3, f1], ?_⟩
  have e : q_ok L os o = L[os[o].2] := by
    unfold q_ok q_kg
    rw [List.getD_eq_getElem?_getD, List.getD_eq_getElem?_getD, hg]
    simp only [Option.getD_some]
    rw [List.getElem?_eq_getElem e4]
    rfl
  rw [e]
  exact f2
theorem q_hasK {n ka v : Nat} {K : q_Knd} (h : q_CKd b n D ka K) (hv : v < 2 ^ 62) : F_X2_has κ (some ka) (lN v) (q_H b C M O D, s) = some (.inl (q_b (q_hs K v)), (q_H b C M O D, s)) := by
  obtain ⟨hw, a1, a2, a3, f, h1, h2, h3, h4⟩ := h
  have e3 : b + 66 < ka ∧ D ka = some (.inr (.inl (5, [.int (nI (q_kS K)), .ref a1, .ref a2, .ref a3, .int (nI (q_kZ K)), .int (nI (q_kB K))]))) := ⟨h1, h3⟩
  have hs4 := hw.1
  have hz := hw.2.2.2.1
  have s1 : (nI (q_kS K) = (1 : Int32)) ↔ q_kS K = 1 := nI_eq (b := 1) (by omega) (by decide)
  have s2 : (nI (q_kS K) = (2 : Int32)) ↔ q_kS K = 2 := nI_eq (b := 2) (by omega) (by decide)
  have s3 : (nI (q_kS K) = (3 : Int32)) ↔ q_kS K = 3 := nI_eq (b := 3) (by omega) (by decide)
  have isn : F_X2_isNumber κ (some ka) (q_H b C M O D, s) = some (.inl (q_b (decide (1 ≤ q_kS K ∧ q_kS K ≤ 3))), (q_H b C M O D, s)) := by
    by_cases c1 : q_kS K = 1
    · simp (disch := first | rfl | omega | decide | exact Nat.le_of_ble_eq_true rfl) only [↓q_br, q_rt, q_rz, q_gd, q_ca, ↓reduceIte, F_X2_isNumber, F_X2_isNumber_24, F_X2_isNumber_29, qd_I e3 (k := 0) (v := nI (q_kS K)) rfl, s1, c1, or_true]
      rfl
    · by_cases c2 : q_kS K = 2
      · simp (disch := first | rfl | omega | decide | exact Nat.le_of_ble_eq_true rfl) only [↓q_br, q_rt, q_rz, q_gd, q_ca, ↓reduceIte, F_X2_isNumber, F_X2_isNumber_24, F_X2_isNumber_29, qd_I e3 (k := 0) (v := nI (q_kS K)) rfl, s1, s2, c1, c2, or_true, show ((2 : Nat) = 1) = False from eq_false (by decide)]
        rfl
      · by_cases c3 : q_kS K = 3
        · simp (disch := first | rfl | omega | decide | exact Nat.le_of_ble_eq_true rfl) only [↓q_br, q_rt, q_rz, q_gd, q_ca, ↓reduceIte, F_X2_isNumber, F_X2_isNumber_24, F_X2_isNumber_29, qd_I e3 (k := 0) (v := nI (q_kS K)) rfl, s1, s2, s3, c1, c2, c3, or_true, not_true_eq_false, show ((3 : Nat) = 1) = False from eq_false (by decide), show ((3 : Nat) = 2) = False from eq_false (by decide)]
          rfl
        · have c4 : decide (1 ≤ q_kS K ∧ q_kS K ≤ 3) = false := decide_eq_false (by omega)
          rw [c4]
          simp (disch := first | rfl | omega | decide | exact Nat.le_of_ble_eq_true rfl) only [↓q_br, q_rt, q_rz, q_gd, q_ca, ↓reduceIte, F_X2_isNumber, F_X2_isNumber_24, F_X2_isNumber_29, qd_I e3 (k := 0) (v := nI (q_kS K)) rfl, s1, s2, s3, c1, c2, c3, true_or, not_false_eq_true]
          rfl
  unfold q_hs
  cases hn : decide (1 ≤ q_kS K ∧ q_kS K ≤ 3) with
  | true =>
    rw [hn] at isn
    simp (disch := first | rfl | omega | decide | exact Nat.le_of_ble_eq_true rfl) only [↓q_br, q_rt, q_rz, q_gd, q_ca, ↓reduceIte, F_X2_has, F_X2_has_17, F_X2_has_22, qd_S e3, isn, q_b_0, Bool.true_eq_false, not_false_eq_true, or_true, Bool.true_or]
    rfl
  | false =>
    rw [hn] at isn
    have zl : (nI (q_kZ K)).toInt64 = lN (q_kZ K) := nI_l (by omega)
    by_cases hlt : v < q_kZ K
    · have c : (0 ≤ lg_cmp (lN v) (lN (q_kZ K))) = False := eq_false (by rw [lg_cmp_ge, q_lN_le (by omega) (by omega)]; omega)
      simp (disch := first | rfl | omega | decide | exact Nat.le_of_ble_eq_true rfl) only [↓q_br, q_rt, q_rz, q_gd, q_ca, ↓reduceIte, F_X2_has, F_X2_has_17, F_X2_has_22, qd_S e3, isn, q_b_0, not_true_eq_false, qd_I e3 (k := 4) (v := nI (q_kZ K)) rfl, zl, c, or_true, Bool.false_or, hlt, decide_true]
      rfl
    · have c : (0 ≤ lg_cmp (lN v) (lN (q_kZ K))) = True := eq_true (by rw [lg_cmp_ge, q_lN_le (by omega) (by omega)]; omega)
      simp (disch := first | rfl | omega | decide | exact Nat.le_of_ble_eq_true rfl) only [↓q_br, q_rt, q_rz, q_gd, q_ca, ↓reduceIte, F_X2_has, F_X2_has_17, F_X2_has_22, qd_S e3, isn, q_b_0, not_true_eq_false, qd_I e3 (k := 4) (v := nI (q_kZ K)) rfl, zl, c, true_or, Bool.false_or, hlt, decide_false]
      rfl
theorem q_stands_77 {n a : Nat} {mn : q_Nam} {ps : List Int32} {os : q_Ops} {wc dc : Nat} {fm fd : Nat → Int64} {fs : Nat → Int32} {L : List q_Knd} {F : Nat → Nat} (h : q_CIo b n D Z L.length a mn ps os wc dc fm fd fs) (hk : q_CMk b n D I Z L) (hos : os.length ≤ 5) (hF : ∀ o, o < 5 → Y 16 o = lN (F o) ∧ F o < 2 ^ 32) : ∀ d fuel o, o + d = os.length → d < fuel → F_X4_standsAt_77 κ fuel (some (b + 15)) (some a) (nI o) (q_H b (I, R, X, Y, Z) M O D, s) = some (.inl (q_b (q_hso L os F d o)), (q_H b (I, R, X, Y, Z) M O D, s)) := by
  obtain ⟨fk, g1, g2⟩ := q_okd h hk
  have e3 : b + 66 < a ∧ D a = some (.inr (.inl (4, [.ref (a + 1), .ref (a + 3), .ref (a + 4), .ref (a + 5), .ref (a + 6), .ref (a + 7), .ref (a + 8), .int (nI ps.length), .int (nI os.length), .int (nI wc), .int (nI dc)]))) := ⟨h.1, h.2.2.1⟩
  have e5 : b + 66 < a + 5 ∧ D (a + 5) = some (.inl (5, 5, .inr (.inr (.inr (.inr fk))))) := ⟨by have := h.1; omega, g1⟩
  intro d
  induction d with
  | zero =>
    intro fuel o h1 h2
    obtain ⟨f, rfl⟩ : ∃ f, fuel = f + 1 := ⟨fuel - 1, by omega⟩
    have h3 : os.length ≤ o := by omega
    have hv : q_hso L os F 0 o = true := rfl
    rw [F_X4_standsAt_77, hv]
    simp (disch := first | rfl | omega | decide | exact Nat.le_of_ble_eq_true rfl) only [↓q_br, q_rt, q_rz, q_gd, q_ca, ↓reduceIte, F_X4_standsAt_77B, ↓q_gA_15_2, ↓q_lL_16, qd_I e3 (k := 8) (v := nI os.length) rfl, nI_leI, h3, or_true]
    rfl
  | succ d ih =>
    intro fuel o h1 h2
    obtain ⟨f, rfl⟩ : ∃ f, fuel = f + 1 := ⟨fuel - 1, by omega⟩
    have h3 : ¬ os.length ≤ o := by omega
    have ho5 : o < 5 := by omega
    obtain ⟨ka, k1, k2⟩ := g2 o (by omega)
    obtain ⟨f1, f2⟩ := hF o ho5
    have hh := q_hasK (κ := κ) (C := (I, R, X, Y, Z)) (M := M) (O := O) (s := s) (v := F o) k2 (by omega)
    have un : q_hso L os F (d + 1) o = (q_hs (q_ok L os o) (F o) && q_hso L os F d (o + 1)) := rfl
    obtain ⟨-, a1, a2, a3, f9, y1, y2, y3, -⟩ := k2
    have ek : b + 66 < ka ∧ D ka = some (.inr (.inl (5, [.int (nI (q_kS (q_ok L os o))), .ref a1, .ref a2, .ref a3, .int (nI (q_kZ (q_ok L os o))), .int (nI (q_kB (q_ok L os o)))]))) := ⟨y1, y3⟩
    rw [F_X4_standsAt_77, un]
    cases hb : q_hs (q_ok L os o) (F o) with
    | true =>
      rw [hb] at hh
      simp (disch := first | rfl | omega | decide | exact Nat.le_of_ble_eq_true rfl) only [↓q_br, q_rt, q_rz, q_gd, q_ca, ↓reduceIte, F_X4_standsAt_77B, ↓q_gA_15_2, ↓q_lL_16, qd_I e3 (k := 8) (v := nI os.length) rfl, nI_leI, h3, qd_A e3 (k := 3) (r := some (a + 5)) rfl, qd_aA e5 ho5 (by decide), k1, f1, qd_S ek, hh, q_b_0, Bool.true_eq_false, not_false_eq_true, nI_1, Bool.true_and]
      exact ih f (o + 1) (by omega) (by omega)
    | false =>
      rw [hb] at hh
      simp (disch := first | rfl | omega | decide | exact Nat.le_of_ble_eq_true rfl) only [↓q_br, q_rt, q_rz, q_gd, q_ca, ↓reduceIte, F_X4_standsAt_77B, ↓q_gA_15_2, ↓q_lL_16, qd_I e3 (k := 8) (v := nI os.length) rfl, nI_leI, h3, qd_A e3 (k := 3) (r := some (a + 5)) rfl, qd_aA e5 ho5 (by decide), k1, f1, qd_S ek, hh, q_b_0, not_true_eq_false, Bool.false_and, true_or]
      rfl
/-- what a laid word is -/
def q_Lw (z : Nat) (X : Nat → Nat → Int32) (Y : Nat → Nat → Int64) : Prop := ∀ x, q_ld X x = true → ∃ v, v < 2 ^ z ∧ Y 12 x = lN v
theorem q_gv_e {z A w : Nat} (hz : z ≤ 32) (h : q_Lw z X Y) (hl : q_ld X (A + w) = true) : Y 12 (A + w) = lN (q_gv Y A w) ∧ q_gv Y A w < 2 ^ z ∧ A + w < 4096 := by
  obtain ⟨v, v1, v2⟩ := h _ hl
  have pz : 2 ^ z ≤ 2 ^ 32 := Nat.pow_le_pow_right (by decide) hz
  have e : q_gv Y A w = v := by
    unfold q_gv
    rw [v2, q_lN_i (by omega)]
    rfl
  unfold q_ld at hl
  rw [Bool.and_eq_true, decide_eq_true_eq] at hl
  exact ⟨by rw [v2, e], by rw [e]; exact v1, hl.1⟩
theorem q_ld_has {x : Nat} (hx : x < 2 ^ 31) : F_X6_has κ (some (b + 11)) (nI x) (q_H b (I, R, X, Y, Z) M O D, s) = some (.inl (q_b (q_ld X x)), (q_H b (I, R, X, Y, Z) M O D, s)) := by
  rw [q_hasW]
  have e : decide (¬ nI x < 0 ∧ ¬ (4096 : Int32) ≤ nI x ∧ ¬ X 13 (nI x).toNatClampNeg = 0) = q_ld X x := by
    unfold q_ld
    rw [nI_clamp hx, Bool.eq_iff_iff, decide_eq_true_eq, Bool.and_eq_true, decide_eq_true_eq, Bool.not_eq_true', decide_eq_false_iff_not]
    have c1 : ¬ nI x < 0 := nI_pos hx
    have c2 : (4096 : Int32) ≤ nI x ↔ 4096 ≤ x := nI_leI (a := 4096) (by decide) hx
    rw [c2]
    constructor
    · rintro ⟨-, a, b⟩; exact ⟨by omega, b⟩
    · rintro ⟨a, b⟩; exact ⟨c1, by omega, b⟩
  rw [e]
theorem q_stands_2 {n z a A : Nat} {L : List q_Knd} {J : q_Ins} (hC : q_CIn b n D Z L z a J) (hz : z ≤ 32) (hL : q_Lw z X Y) (hA : A < 5000) : ∀ d fuel w, w + d = J.2.2.2.length → d < fuel → F_X4_standsAt_2 κ fuel (some (b + 15)) (some a) (nI A) (nI w) (q_H b (I, R, X, Y, Z) M O D, s) = (if q_sw z J.2.2.2 X (q_gv Y A) A d w = true then q_ca (F_X1_decode κ (some a) (some (b + 12)) (nI A) (some (b + 16))) (fun _ => F_X4_standsAt_77 κ q_fu (some (b + 15)) (some a) 0) (q_H b (I, R, X, Y, Z) M O D, s) else some (.inl 0, (q_H b (I, R, X, Y, Z) M O D, s))) := by
  obtain ⟨fm, fd, fs, g1, g2⟩ := q_CIn_o hC
  obtain ⟨-, f1, f2, f3, f4, f5, f6⟩ := hC
  obtain ⟨k1, k2, k3, k4, k5, k6, k7, -⟩ := g1
  obtain ⟨wc, hwc⟩ : ∃ wc, wc = J.2.2.2.length := ⟨_, rfl⟩
  rw [← hwc] at k3
  have e3 : b + 66 < a ∧ D a = some (.inr (.inl (4, [.ref (a + 1), .ref (a + 3), .ref (a + 4), .ref (a + 5), .ref (a + 6), .ref (a + 7), .ref (a + 8), .int (nI J.2.1.length), .int (nI J.2.2.1.length), .int (nI wc), .int (nI (q_negs J.2.2.2))]))) := ⟨k1, k3⟩
  have e6 : b + 66 < a + 6 ∧ D (a + 6) = some (.inl (2, 4, .inr (.inl fm))) := ⟨by omega, k5⟩
  have e7 : b + 66 < a + 7 ∧ D (a + 7) = some (.inl (2, 4, .inr (.inl fd))) := ⟨by omega, k6⟩
  have pz : 2 ^ z ≤ 2 ^ 32 := Nat.pow_le_pow_right (by decide) hz
  rw [← hwc]
  intro d
  induction d with
  | zero =>
    intro fuel w h1 h2
    obtain ⟨f, rfl⟩ : ∃ f, fuel = f + 1 := ⟨fuel - 1, by omega⟩
    have h3 : wc ≤ w := by omega
    have hv : q_sw z J.2.2.2 X (q_gv Y A) A 0 w = true := rfl
    rw [F_X4_standsAt_2, if_pos hv]
    simp (disch := first | rfl | omega | decide | exact Nat.le_of_ble_eq_true rfl) only [F_X4_standsAt_2B, ↓q_br, ↓reduceIte, ↓q_gA_15_1, ↓q_gA_15_2, ↓q_gA_11_0, qd_I e3 (k := 9) (v := nI wc) rfl, nI_leI, h3, qd_S e3]
  | succ d ih =>
    intro fuel w h1 h2
    obtain ⟨f, rfl⟩ : ∃ f, fuel = f + 1 := ⟨fuel - 1, by omega⟩
    have h3 : ¬ wc ≤ w := by omega
    have hw4 : w < 4 := by omega
    have hwl : w < J.2.2.2.length := by omega
    obtain ⟨c, hc⟩ : ∃ c, J.2.2.2[w]? = some c := ⟨_, List.getElem?_eq_getElem hwl⟩
    have cl : c.length = z := f5 c (List.mem_of_getElem? hc)
    have gW : J.2.2.2.getD w [] = c := by rw [List.getD_eq_getElem?_getD, hc]; rfl
    have un : q_sw z J.2.2.2 X (q_gv Y A) A (d + 1) w = ((q_ld X (A + w) && q_wm z c (q_gv Y A w) z 0) && q_sw z J.2.2.2 X (q_gv Y A) A d (w + 1)) := by
      unfold q_sw
      rw [q_al, gW]
    have hh := q_ld_has (κ := κ) (b := b) (I := I) (R := R) (X := X) (Y := Y) (Z := Z) (M := M) (O := O) (D := D) (s := s) (x := A + w) (by omega)
    obtain ⟨u1, u2, -⟩ := q_CWd_dw g2 hc hw4 cl hz
    have ihk := ih f (w + 1) (by omega) (by omega)
    rw [F_X4_standsAt_2, un]
    cases hld : q_ld X (A + w) with
    | false =>
      rw [hld] at hh
      simp (disch := first | rfl | omega | decide | exact Nat.le_of_ble_eq_true rfl) only [↓q_br, q_rt, q_rz, q_gd, q_ca, ↓reduceIte, F_X4_standsAt_2B, F_X4_standsAt_51, ↓q_gA_11_0, ↓q_gA_15_1, ↓q_gA_15_2, ↓q_is_11, ↓q_lL_12, ↓q_lL_16, qd_I e3 (k := 9) (v := nI wc) rfl, nI_leI, h3, ↓q_is_11, nI_add, hh, q_b_0, true_or, Bool.false_and, Bool.false_eq_true]
    | true =>
      rw [hld] at hh
      obtain ⟨y1, y2, y3⟩ := q_gv_e hz hL hld
      have mlt : q_dw q_pn 0 c < 2 ^ 32 := by
        have := q_dw_lt (p := q_pn) c 0
        rw [cl] at this
        omega
      have dlt : q_dw q_p2 0 c < 2 ^ 32 := by
        have := q_dw_lt (p := q_p2) c 0
        rw [cl] at this
        omega
      have alt : q_gv Y A w &&& q_dw q_pn 0 c < 2 ^ 32 := Nat.and_lt_two_pow _ mlt
      have an : lN (q_gv Y A w) &&& lN (q_dw q_pn 0 c) = lN (q_gv Y A w &&& q_dw q_pn 0 c) := wb_and (by omega) (by omega)
      have cmp : (lg_cmp (lN (q_gv Y A w &&& q_dw q_pn 0 c)) (lN (q_dw q_p2 0 c)) = 0) = (q_wm z c (q_gv Y A w) z 0 = true) := propext (by
        rw [lg_cmp_eq, q_lN_eq (by omega) (by omega), q_wm_i hz cl y2])
      cases hm : q_wm z c (q_gv Y A w) z 0 with
      | true =>
        rw [hm] at cmp
        simp (disch := first | rfl | omega | decide | exact Nat.le_of_ble_eq_true rfl) only [↓q_br, q_rt, q_rz, q_gd, q_ca, ↓reduceIte, F_X4_standsAt_2B, F_X4_standsAt_51, ↓q_gA_11_0, ↓q_gA_15_1, ↓q_gA_15_2, ↓q_is_11, ↓q_lL_12, ↓q_lL_16, qd_I e3 (k := 9) (v := nI wc) rfl, nI_leI, h3, ↓q_is_11, nI_add, hh, q_b_0, Bool.true_eq_false, y1, qd_A e3 (k := 4) (r := some (a + 6)) rfl, qd_A e3 (k := 5) (r := some (a + 7)) rfl, qd_aL e6 hw4 (by decide), qd_aL e7 hw4 (by decide), u1, u2, an, cmp, nI_1, ihk, Bool.true_and]
      | false =>
        rw [hm] at cmp
        simp (disch := first | rfl | omega | decide | exact Nat.le_of_ble_eq_true rfl) only [↓q_br, q_rt, q_rz, q_gd, q_ca, ↓reduceIte, F_X4_standsAt_2B, F_X4_standsAt_51, ↓q_gA_11_0, ↓q_gA_15_1, ↓q_gA_15_2, ↓q_is_11, ↓q_lL_12, ↓q_lL_16, qd_I e3 (k := 9) (v := nI wc) rfl, nI_leI, h3, ↓q_is_11, nI_add, hh, q_b_0, Bool.true_eq_false, Bool.false_eq_true, y1, qd_A e3 (k := 4) (r := some (a + 6)) rfl, qd_A e3 (k := 5) (r := some (a + 7)) rfl, qd_aL e6 hw4 (by decide), qd_aL e7 hw4 (by decide), u1, u2, an, cmp, true_or, Bool.and_false, Bool.false_and]
theorem q_sw_l {z A : Nat} {W : List (List Int32)} {g : Nat → Nat} (h : q_sw z W X g A W.length 0 = true) : ∀ w, w < W.length → q_ld X (A + w) = true := by
  intro w hw
  unfold q_sw at h
  rw [q_al_i] at h
  have := h w (by omega) (by omega)
  rw [Bool.and_eq_true] at this
  exact this.1
/-- the class: does an instruction stand there -/
theorem q_stands {n z a A : Nat} {L : List q_Knd} {J : q_Ins} (hC : q_CIn b n D Z L z a J) (hk : q_CMk b n D I Z L) (hkb : ∀ o, q_kb L J.2.2.1 o ≤ 32) (hz : z ≤ 32) (hL : q_Lw z X Y) (hA : A < 5000) : ∃ Y', F_X4_standsAt κ (some (b + 15)) (some a) (nI A) (q_H b (I, R, X, Y, Z) M O D, s) = some (.inl (q_b (q_st z L J X (q_gv Y A) A)), (q_H b (I, R, X, Y', Z) M O D, s)) ∧ (∀ j, j ≠ 16 → Y' j = Y j) := by
  have e1 := q_stands_2 (κ := κ) (b := b) (I := I) (R := R) (X := X) (Y := Y) (Z := Z) (M := M) (O := O) (D := D) (s := s) hC hz hL hA J.2.2.2.length q_fu 0 (by omega) (by have := hC.2.2.2.1; unfold q_fu; omega)
  rw [nI_0] at e1
  unfold F_X4_standsAt q_st
  rw [e1]
  cases hs : q_sw z J.2.2.2 X (q_gv Y A) A J.2.2.2.length 0 with
  | false => exact ⟨Y, rfl, fun _ _ => rfl⟩
  | true =>
    have hld := q_sw_l hs
    have pz : 2 ^ z ≤ 2 ^ 32 := Nat.pow_le_pow_right (by decide) hz
    obtain ⟨Y', a1, a2, a3⟩ := q_decode (κ := κ) (b := b) (I := I) (R := R) (X := X) (M := M) (O := O) (s := s) (g := q_gv Y A) hC hz hkb (fun w hw => (q_gv_e hz hL (hld w hw)).2.2) (fun w hw => ⟨(q_gv_e hz hL (hld w hw)).1, by have := (q_gv_e hz hL (hld w hw)).2.1; omega⟩)
    obtain ⟨fm, fd, fs, g1, g2⟩ := q_CIn_o hC
    have e2 := q_stands_77 (κ := κ) (b := b) (R := R) (X := X) (Y := Y') (M := M) (O := O) (s := s) (F := q_fv z J.2.2.2 (q_gv Y A)) g1 hk hC.2.2.1 (fun o ho => ⟨a3 o ho, q_fv_lt⟩) J.2.2.1.length q_fu 0 (by omega) (by have := hC.2.2.1; unfold q_fu; omega)
    rw [nI_0] at e2
    refine ⟨Y', ?_, a2⟩
    simp only [if_true, q_ca, a1, e2, Bool.true_and]
end QSE
