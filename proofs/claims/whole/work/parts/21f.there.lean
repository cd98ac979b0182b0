section QSF
variable {κ : Nat → Nat} {b : Nat} {I : Nat → Nat → Int32} {R : Nat → Nat → Option Nat} {X : Nat → Nat → Int32} {Y : Nat → Nat → Int64} {Z : Nat → Nat → Option Nat} {M : q_MT} {C : q_CT} {P : Nat → Int32} {Q : Nat → Nat → Int32} {S : Nat → Nat → Int64} {O : Nat → Int64} {D : q_Mem} {s : Nat × Nat}
theorem q_there_37 {r : Option Nat → Int32 → Int32 → Int32 → q_X Int32} {i z A w v : Nat} {c : List Int32} (h21 : P 21 = nI z) (hz : z ≤ 32) (hi : i < 96) (hw : w < 4) (cl : c.length = z) (dc : q_Dok c) (hQ : ∀ k, k < z → Q 51 (160 * i + w * z + k) = c.getD k 0) (hA : A + w < 4096) (hS : S 53 (A + w) = lN v) (hg : v < 2 ^ 32) : ∀ d fuel u, u + d = z → d < fuel → F_X13_isThere_37 κ r fuel (some (b + 26)) (nI A) (nI i) (nI w) (nI u) (q_H b C (P, Q, S) O D, s) = (if q_wm z c v d u = true then r (some (b + 26)) (nI A) (nI i) (nI (w + 1)) (q_H b C (P, Q, S) O D, s) else some (.inl 0, (q_H b C (P, Q, S) O D, s))) := by
  intro d
  induction d with
  | zero =>
    intro fuel u h1 h2
    obtain ⟨f, rfl⟩ : ∃ f, fuel = f + 1 := ⟨fuel - 1, by omega⟩
    have hu : z ≤ u := by omega
    have hv : q_wm z c v 0 u = true := rfl
    rw [F_X13_isThere_37, if_pos hv]
    simp (disch := first | rfl | omega | decide | exact Nat.le_of_ble_eq_true rfl) only [↓q_br, q_rt, q_rz, q_gd, q_ca, ↓reduceIte, F_X13_isThere_37B, ↓q_gA_26_38, ↓q_gA_26_40, ↓q_gI_26_21, ↓q_lI_51, ↓q_lL_53, h21, nI_leI, hu, nI_1]
  | succ d ih =>
    intro fuel u h1 h2
    obtain ⟨f, rfl⟩ : ∃ f, fuel = f + 1 := ⟨fuel - 1, by omega⟩
    have hu : ¬ z ≤ u := by omega
    have huz : u < z := by omega
    have hx := q_160 hi hw hz huz
    have hm3 : (((160 : Int32) * nI i) + (nI w * nI z)) + nI u = nI (160 * i + w * z + u) := q_idx3 160 i w z u
    have hq := hQ u huz
    have ihk := ih f (u + 1) (by omega) (by omega)
    have un : q_wm z c v (d + 1) u = ((!(decide (c.getD u 0 < 0)) || (v.testBit (z - 1 - u) == decide (c.getD u 0 = -2))) && q_wm z c v d (u + 1)) := rfl
    rw [F_X13_isThere_37, un]
    by_cases hs : c.getD u 0 < 0
    · have hs0 : (0 ≤ c.getD u 0) = False := eq_false (Int32.not_le.mpr hs)
      have sub : nI z - 1 - nI u = nI (z - 1 - u) := by
        rw [show (1 : Int32) = nI 1 from rfl, nI_sub (by omega), nI_sub (by omega)]
      have bt := q_bit (v := v) (k := z - 1 - u) (by omega) (by omega)
      have cmp : (lg_cmp (lN (if v.testBit (z - 1 - u) = true then 1 else 0)) ((-1 - c.getD u 0).toInt64) = 0) = ((v.testBit (z - 1 - u) == decide (c.getD u 0 = -2)) = true) := by
        rcases q_pn_m dc (by omega) hs with e | e
        · rw [e]
          cases v.testBit (z - 1 - u) <;> decide
        · rw [e]
          cases v.testBit (z - 1 - u) <;> decide
      rw [decide_eq_true hs, Bool.not_true, Bool.false_or]
      cases hm : (v.testBit (z - 1 - u) == decide (c.getD u 0 = -2)) with
      | true =>
        rw [hm] at cmp
        simp (disch := first | rfl | omega | decide | exact Nat.le_of_ble_eq_true rfl) only [↓q_br, q_rt, q_rz, q_gd, q_ca, ↓reduceIte, F_X13_isThere_37B, F_X13_isThere_104, ↓q_gA_26_38, ↓q_gA_26_40, ↓q_gI_26_21, ↓q_lI_51, ↓q_lL_53, h21, nI_leI, hu, hm3, hq, hs0, nI_add, hS, sub, bt, cmp, nI_1, ihk, Bool.true_and]
      | false =>
        rw [hm] at cmp
        simp (disch := first | rfl | omega | decide | exact Nat.le_of_ble_eq_true rfl) only [↓q_br, q_rt, q_rz, q_gd, q_ca, ↓reduceIte, F_X13_isThere_37B, F_X13_isThere_104, ↓q_gA_26_38, ↓q_gA_26_40, ↓q_gI_26_21, ↓q_lI_51, ↓q_lL_53, h21, nI_leI, hu, hm3, hq, hs0, nI_add, hS, sub, bt, cmp, Bool.false_eq_true, true_or, Bool.false_and]
    · have hs0 : (0 ≤ c.getD u 0) = True := eq_true (Int32.not_lt.mp hs)
      rw [decide_eq_false hs, Bool.not_false, Bool.true_or, Bool.true_and]
      simp (disch := first | rfl | omega | decide | exact Nat.le_of_ble_eq_true rfl) only [↓q_br, q_rt, q_rz, q_gd, q_ca, ↓reduceIte, F_X13_isThere_37B, F_X13_isThere_104, ↓q_gA_26_38, ↓q_gA_26_40, ↓q_gI_26_21, ↓q_lI_51, ↓q_lL_53, h21, nI_leI, hu, hm3, hq, hs0, nI_1, ihk]
theorem q_mok {N : List q_Nam} {nk i o : Nat} {L : List q_Knd} {ps : List Int32} {os : q_Ops} (hm : q_MIo N Q L.length i ps os) (hk : q_MMk N P Q L) (ho : o < os.length) : ∃ k, k < L.length ∧ Q 50 (5 * i + o) = nI k ∧ q_WK (q_ok L os o) ∧ q_MKd N Q k (q_ok L os o) ∧ L[k]? = some (q_ok L os o) := by
  have hg := List.getElem?_eq_getElem ho
  obtain ⟨e1, e2, e3⟩ := hm.2 o _ hg
  have e : q_ok L os o = L[os[o].2] := by
    unfold q_ok q_kg
    rw [List.getD_eq_getElem?_getD, List.getD_eq_getElem?_getD, hg]
    simp only [Option.getD_some]
    rw [List.getElem?_eq_getElem e3]
    rfl
  obtain ⟨f1, f2⟩ := hk.2.2 os[o].2 _ (List.getElem?_eq_getElem e3)
  exact ⟨os[o].2, e3, e2, by rw [e]; exact f1, by rw [e]; exact f2, by rw [e, List.getElem?_eq_getElem e3]⟩
theorem q_there_118 {N : List q_Nam} {i z A : Nat} {L : List q_Knd} {J : q_Ins} {F : Nat → Nat} (hi : i < 96) (hM : q_MIn N Q L.length z i J) (hk : q_MMk N P Q L) (hF : ∀ o, o < 5 → F_X13_field κ (some (b + 26)) (nI A) (nI i) (nI o) (q_H b C (P, Q, S) O D, s) = some (.inl (lN (F o)), (q_H b C (P, Q, S) O D, s)) ∧ F o < 2 ^ 32) : ∀ d fuel o, o + d = J.2.2.1.length → d < fuel → F_X13_isThere_118 κ fuel (some (b + 26)) (nI A) (nI i) (nI o) (q_H b C (P, Q, S) O D, s) = some (.inl (q_b (q_hso L J.2.2.1 F d o)), (q_H b C (P, Q, S) O D, s)) := by
  obtain ⟨w1, w2, w3, w4, w5, w6, w7, w8, w9, w10⟩ := hM
  have hl40 := hk.2.1
  intro d
  induction d with
  | zero =>
    intro fuel o h1 h2
    obtain ⟨f, rfl⟩ : ∃ f, fuel = f + 1 := ⟨fuel - 1, by omega⟩
    have h3 : J.2.2.1.length ≤ o := by omega
    have hv : q_hso L J.2.2.1 F 0 o = true := rfl
    rw [F_X13_isThere_118, hv]
    simp (disch := first | rfl | omega | decide | exact Nat.le_of_ble_eq_true rfl) only [↓q_br, q_rt, q_rz, q_gd, q_ca, ↓reduceIte, F_X13_isThere_118B, ↓q_gA_26_25, ↓q_gA_26_32, ↓q_gA_26_37, ↓q_lI_38, ↓q_lI_45, ↓q_lI_50, w3, nI_leI, h3, or_true]
    rfl
  | succ d ih =>
    intro fuel o h1 h2
    obtain ⟨f, rfl⟩ : ∃ f, fuel = f + 1 := ⟨fuel - 1, by omega⟩
    have h3 : ¬ J.2.2.1.length ≤ o := by omega
    have ho5 : o < 5 := by omega
    obtain ⟨k, k1, k2, k3, k4, -⟩ := q_mok (nk := 0) w6 hk (by omega : o < J.2.2.1.length)
    obtain ⟨f1, f2⟩ := hF o ho5
    have ihk := ih f (o + 1) (by omega) (by omega)
    have ix : (5 : Int32) * nI i + nI o = nI (5 * i + o) := by
      rw [show (5 : Int32) * nI i = nI (5 * i) from (Int32.ofNat_mul 5 i).symm, nI_add]
    have ix480 : 5 * i + o < 480 := by omega
    have un : q_hso L J.2.2.1 F (d + 1) o = (q_hs (q_ok L J.2.2.1 o) (F o) && q_hso L J.2.2.1 F d (o + 1)) := rfl
    obtain ⟨K, hK⟩ : ∃ K, K = q_ok L J.2.2.1 o := ⟨_, rfl⟩
    rw [← hK] at k3 k4 un
    have hs4 := k3.1
    have s0 : (nI (q_kS K) = (0 : Int32)) = (q_kS K = 0) := propext (nI_eq (b := 0) (by omega) (by decide))
    have s4 : (nI (q_kS K) = (4 : Int32)) = (q_kS K = 4) := propext (nI_eq (b := 4) (by omega) (by decide))
    have srt : Q 38 k = nI (q_kS K) := k4.1
    rw [F_X13_isThere_118, un]
    by_cases hrs : q_kS K = 0 ∨ q_kS K = 4
    · have many : Q 40 k = nI (q_kZ K) := k4.2.2.2.1 hrs
      have hz64 := k3.2.2.2.1
      have hsE : q_hs K (F o) = decide (F o < q_kZ K) := by
        unfold q_hs
        rw [decide_eq_false (by omega), Bool.false_or]
      have zl : (nI (q_kZ K)).toInt64 = lN (q_kZ K) := nI_l (by omega)
      have road : F_X13_isThere_118B κ (F_X13_isThere_118 κ f) (some (b + 26)) (nI A) (nI i) (nI o) (q_H b C (P, Q, S) O D, s) = F_X13_isThere_161 κ (F_X13_isThere_118 κ f) (some (b + 26)) (nI A) (nI i) (nI o) (nI k) (q_H b C (P, Q, S) O D, s) := by
        rcases hrs with h0 | h0
        · have t0 : (q_kS K = 0) = True := eq_true h0
          simp (disch := first | rfl | omega | decide | exact Nat.le_of_ble_eq_true rfl) only [↓q_br, q_rt, q_rz, q_gd, q_ca, ↓reduceIte, F_X13_isThere_118B, ↓q_gA_26_25, ↓q_gA_26_32, ↓q_gA_26_37, ↓q_lI_38, ↓q_lI_45, ↓q_lI_50, w3, nI_leI, h3, ix, k2, srt, s0, t0]
        · have t0 : (q_kS K = 0) = False := eq_false (by omega)
          have t4 : (q_kS K = 4) = True := eq_true h0
          simp (disch := first | rfl | omega | decide | exact Nat.le_of_ble_eq_true rfl) only [↓q_br, q_rt, q_rz, q_gd, q_ca, ↓reduceIte, F_X13_isThere_118B, ↓q_gA_26_25, ↓q_gA_26_32, ↓q_gA_26_37, ↓q_lI_38, ↓q_lI_45, ↓q_lI_50, w3, nI_leI, h3, ix, k2, srt, s0, s4, t0, t4, not_true_eq_false]
      rw [road, hsE]
      by_cases hlt : F o < q_kZ K
      · have c : (lg_cmp (lN (F o)) (lN (q_kZ K)) < 0) = True := eq_true (by rw [lg_cmp_lt, q_lN_lt (by omega) (by omega)]; exact hlt)
        simp (disch := first | rfl | omega | decide | exact Nat.le_of_ble_eq_true rfl) only [↓q_br, q_rt, q_rz, q_gd, q_ca, ↓reduceIte, F_X13_isThere_161, F_X13_isThere_182, ↓q_gA_26_27, ↓q_is_26, ↓q_lI_40, ↓q_is_26, f1, many, zl, c, nI_1, ihk, hlt, decide_true, Bool.true_and]
      · have c : (lg_cmp (lN (F o)) (lN (q_kZ K)) < 0) = False := eq_false (by rw [lg_cmp_lt, q_lN_lt (by omega) (by omega)]; exact hlt)
        simp (disch := first | rfl | omega | decide | exact Nat.le_of_ble_eq_true rfl) only [↓q_br, q_rt, q_rz, q_gd, q_ca, ↓reduceIte, F_X13_isThere_161, F_X13_isThere_182, ↓q_gA_26_27, ↓q_is_26, ↓q_lI_40, ↓q_is_26, f1, many, zl, c, hlt, decide_false, Bool.false_and, true_or]
        rfl
    · have hsE : q_hs K (F o) = true := by
        unfold q_hs
        rw [decide_eq_true (by omega), Bool.true_or]
      have c0 : (q_kS K = 0) = False := eq_false (by omega)
      have c4 : (q_kS K = 4) = False := eq_false (by omega)
      rw [hsE]
      simp (disch := first | rfl | omega | decide | exact Nat.le_of_ble_eq_true rfl) only [↓q_br, q_rt, q_rz, q_gd, q_ca, ↓reduceIte, F_X13_isThere_118B, F_X13_isThere_182, ↓q_gA_26_25, ↓q_gA_26_32, ↓q_gA_26_37, ↓q_lI_38, ↓q_lI_45, ↓q_lI_50, w3, nI_leI, h3, ix, k2, srt, s0, s4, c0, c4, not_false_eq_true, nI_1, ihk, Bool.true_and]
/-- what the reference's memory holds -/
def q_Mw (X : Nat → Nat → Int32) (Y : Nat → Nat → Int64) (Q : Nat → Nat → Int32) (S : Nat → Nat → Int64) : Prop := ∀ x, x < 4096 → Q 54 x = X 13 x ∧ (¬ X 13 x = 0 → S 53 x = Y 12 x)
theorem q_there_2 {N : List q_Nam} {i z A : Nat} {L : List q_Knd} {J : q_Ins} (h21 : P 21 = nI z) (hz : z ≤ 32) (hi : i < 96) (hM : q_MIn N Q L.length z i J) (lW : ∀ w ∈ J.2.2.2, w.length = z) (dW : ∀ w ∈ J.2.2.2, q_Dok w) (hL : q_Lw z X Y) (hMw : q_Mw X Y Q S) (hA : A < 5000) : ∀ d fuel w, w + d = J.2.2.2.length → d < fuel → F_X13_isThere_2 κ fuel (some (b + 26)) (nI A) (nI i) (nI w) (q_H b C (P, Q, S) O D, s) = (if q_sw z J.2.2.2 X (q_gv Y A) A d w = true then F_X13_isThere_118 κ q_fu (some (b + 26)) (nI A) (nI i) 0 (q_H b C (P, Q, S) O D, s) else some (.inl 0, (q_H b C (P, Q, S) O D, s))) := by
  obtain ⟨w1, w2, w3, w4, w5, w6, w7, w8, w9, w10⟩ := hM
  have pz : 2 ^ z ≤ 2 ^ 32 := Nat.pow_le_pow_right (by decide) hz
  intro d
  induction d with
  | zero =>
    intro fuel w h1 h2
    obtain ⟨f, rfl⟩ : ∃ f, fuel = f + 1 := ⟨fuel - 1, by omega⟩
    have h3 : J.2.2.2.length ≤ w := by omega
    have hv : q_sw z J.2.2.2 X (q_gv Y A) A 0 w = true := rfl
    rw [F_X13_isThere_2, if_pos hv]
    simp (disch := first | rfl | omega | decide | exact Nat.le_of_ble_eq_true rfl) only [↓q_br, q_rt, q_rz, q_gd, q_ca, ↓reduceIte, F_X13_isThere_2B, ↓q_gA_26_33, ↓q_gA_26_41, ↓q_lI_46, ↓q_lI_54, w4, nI_leI, h3]
  | succ d ih =>
    intro fuel w h1 h2
    obtain ⟨f, rfl⟩ : ∃ f, fuel = f + 1 := ⟨fuel - 1, by omega⟩
    have h3 : ¬ J.2.2.2.length ≤ w := by omega
    have hw4 : w < 4 := by omega
    have hwl : w < J.2.2.2.length := by omega
    obtain ⟨c, hc⟩ : ∃ c, J.2.2.2[w]? = some c := ⟨_, List.getElem?_eq_getElem hwl⟩
    have cl : c.length = z := lW c (List.mem_of_getElem? hc)
    have gW : J.2.2.2.getD w [] = c := by rw [List.getD_eq_getElem?_getD, hc]; rfl
    have un : q_sw z J.2.2.2 X (q_gv Y A) A (d + 1) w = ((q_ld X (A + w) && q_wm z c (q_gv Y A w) z 0) && q_sw z J.2.2.2 X (q_gv Y A) A d (w + 1)) := by
      unfold q_sw
      rw [q_al, gW]
    have ihk := ih f (w + 1) (by omega) (by omega)
    rw [F_X13_isThere_2, un]
    by_cases hx : A + w < 4096
    · have le : (4096 ≤ nI (A + w)) = False := eq_false (nI_ge (b := 4096) hx (by decide))
      obtain ⟨m1, m2⟩ := hMw _ hx
      by_cases h0 : X 13 (A + w) = 0
      · have hld : q_ld X (A + w) = false := by
          unfold q_ld
          rw [decide_eq_true h0, Bool.not_true, Bool.and_false]
        rw [h0] at m1
        simp (disch := first | rfl | omega | decide | exact Nat.le_of_ble_eq_true rfl) only [↓q_br, q_rt, q_rz, q_gd, q_ca, ↓reduceIte, F_X13_isThere_2B, F_X13_isThere_32, ↓q_gA_26_33, ↓q_gA_26_41, ↓q_lI_46, ↓q_lI_54, w4, nI_leI, h3, nI_add, le, m1, not_true_eq_false, hld, Bool.false_and, Bool.false_eq_true, true_or]
      · have hld : q_ld X (A + w) = true := by
          unfold q_ld
          rw [decide_eq_false h0, decide_eq_true hx]
          rfl
        obtain ⟨y1, y2, y3⟩ := q_gv_e hz hL hld
        have inn := q_there_37 (κ := κ) (b := b) (C := C) (S := S) (O := O) (D := D) (s := s) (r := F_X13_isThere_2 κ f) (c := c) (v := q_gv Y A w) h21 hz hi hw4 cl (dW c (List.mem_of_getElem? hc)) (fun k hk => q_MW_at w7 hc cl hk) hx (by rw [m2 h0, y1]) (by omega) z q_fu 0 (by omega) (by unfold q_fu; omega)
        rw [nI_0] at inn
        have nz : (¬ Q 54 (A + w) = 0) = True := eq_true (by rw [m1]; exact h0)
        simp (disch := first | rfl | omega | decide | exact Nat.le_of_ble_eq_true rfl) only [↓q_br, q_rt, q_rz, q_gd, q_ca, ↓reduceIte, F_X13_isThere_2B, F_X13_isThere_32, ↓q_gA_26_33, ↓q_gA_26_41, ↓q_lI_46, ↓q_lI_54, w4, nI_leI, h3, nI_add, le, nz, inn, hld, Bool.true_and]
        cases hm : q_wm z c (q_gv Y A w) z 0 with
        | true => simp only [if_true, ihk, Bool.true_and]
        | false => simp only [Bool.false_eq_true, if_false, Bool.false_and]
    · have le : (4096 ≤ nI (A + w)) = True := eq_true (nI_le (a := 4096) (by omega) (by omega))
      have hld : q_ld X (A + w) = false := by
        unfold q_ld
        rw [decide_eq_false hx, Bool.false_and]
      simp (disch := first | rfl | omega | decide | exact Nat.le_of_ble_eq_true rfl) only [↓q_br, q_rt, q_rz, q_gd, q_ca, ↓reduceIte, F_X13_isThere_2B, F_X13_isThere_32, ↓q_gA_26_33, ↓q_gA_26_41, ↓q_lI_46, ↓q_lI_54, w4, nI_leI, h3, nI_add, le, hld, Bool.false_and, Bool.false_eq_true, true_or]
/-- the reference: does an instruction stand there -/
theorem q_there {N : List q_Nam} {i z A : Nat} {L : List q_Knd} {J : q_Ins} (h21 : P 21 = nI z) (hz : z ≤ 32) (hi : i < 96) (hM : q_MIn N Q L.length z i J) (hk : q_MMk N P Q L) (lW : ∀ w ∈ J.2.2.2, w.length = z) (dW : ∀ w ∈ J.2.2.2, q_Dok w) (hleg : q_leg (q_kb L J.2.2.1) J.2.2.1.length J.2.2.2.flatten) (hkb : ∀ o, q_kb L J.2.2.1 o ≤ 32) (hL : q_Lw z X Y) (hMw : q_Mw X Y Q S) (hA : A < 5000) : F_X13_isThere κ (some (b + 26)) (nI A) (nI i) (q_H b C (P, Q, S) O D, s) = some (.inl (q_b (q_st z L J X (q_gv Y A) A)), (q_H b C (P, Q, S) O D, s)) := by
  have e1 := q_there_2 (κ := κ) (b := b) (C := C) (O := O) (D := D) (s := s) h21 hz hi hM lW dW hL hMw hA J.2.2.2.length q_fu 0 (by omega) (by have := hM.2.2.2.2.2.2.2.2.2; unfold q_fu; omega)
  rw [nI_0] at e1
  unfold F_X13_isThere q_st
  rw [e1]
  cases hs : q_sw z J.2.2.2 X (q_gv Y A) A J.2.2.2.length 0 with
  | false => rfl
  | true =>
    have hld := q_sw_l hs
    have pz : 2 ^ z ≤ 2 ^ 32 := Nat.pow_le_pow_right (by decide) hz
    have hS : ∀ w, w < J.2.2.2.length → S 53 (A + w) = lN (q_gv Y A w) ∧ q_gv Y A w < 2 ^ 32 := fun w hw => by
      have h9 := hld w hw
      obtain ⟨y1, y2, y3⟩ := q_gv_e hz hL h9
      refine ⟨?_, by omega⟩
      rw [(hMw _ y3).2 ?_, y1]
      unfold q_ld at h9
      rw [Bool.and_eq_true, Bool.not_eq_true', decide_eq_false_iff_not] at h9
      exact h9.2
    have e2 := q_there_118 (κ := κ) (b := b) (C := C) (S := S) (O := O) (D := D) (s := s) (A := A) (F := q_fv z J.2.2.2 (q_gv Y A)) hi hM hk (fun o ho => ⟨q_mfield h21 hz hi hM.2.2.2.1 hM.2.2.2.2.2.2.2.2.2 lW hM.2.2.2.2.2.2.1 hleg hM.2.2.2.2.2.2.2.2.1 hkb ho (fun w hw => (q_gv_e hz hL (hld w hw)).2.2) hS, q_fv_lt⟩) J.2.2.1.length q_fu 0 (by omega) (by have := hM.2.2.2.2.2.2.2.2.1; unfold q_fu; omega)
    rw [nI_0] at e2
    simp only [if_true, e2, Bool.true_and]
end QSF
