section QLD
variable {κ : Nat → Nat} {b : Nat} {B : Nat → Int32} {l : List q_Tok} {zt : Nat} {R : Nat → Nat → Option Nat} {Z : Nat → Nat → Option Nat} {M : q_MT} {O : Nat → Int64} {D : q_Mem} {s : Nat × Nat}
/-- the class's memory -/
def q_CMm (I X : Nat → Nat → Int32) : Prop := I 11 2 = nI (q_lc (X 13) 4096) ∧ ∀ j, j < 4096 → X 13 j = 0 ∨ X 13 j = 1
def q_CQ (I I' X X' : Nat → Nat → Int32) (Y Y' : Nat → Nat → Int64) (la : Nat → Int32) (wo : Nat → Int64) : Prop := (∀ j, j ≠ 11 → I' j = I j) ∧ (∀ j, j ≠ 13 → X' j = X j) ∧ (∀ j, j ≠ 12 → j ≠ 25 → Y' j = Y j) ∧ X' 13 = la ∧ Y' 12 = wo ∧ q_CMm I' X'
theorem q_isFree_2 {I X : Nat → Nat → Int32} {Y : Nat → Nat → Int64} {a A wd : Nat} {v0 v1 v2 v3 v4 v5 : Value} (ea : b + 66 < a ∧ D a = some (.inr (.inl (6, [v0, v1, v2, v3, v4, v5, .int (nI wd), .int (nI A)])))) (hA : A + wd ≤ 4096) : ∀ d fuel w, w + d = wd → d < fuel → F_X8_isFree_2 κ fuel (some (b + 21)) (some a) (nI w) (q_H b (I, R, X, Y, Z) M O D, s) = some (.inl (q_b (q_free (X 13) A d w)), (q_H b (I, R, X, Y, Z) M O D, s)) := by
  intro d
  induction d with
  | zero =>
    intro fuel w h1 h2
    obtain ⟨g, rfl⟩ : ∃ g, fuel = g + 1 := ⟨fuel - 1, by omega⟩
    have le : (nI wd ≤ nI w) = True := eq_true (nI_le (by omega) (by omega))
    rw [F_X8_isFree_2]
    simp (disch := first | rfl | omega | decide | exact Nat.le_of_ble_eq_true rfl) only [↓q_br, q_rt, q_rz, q_gd, q_ca, ↓reduceIte, F_X8_isFree_2B, ↓q_gA_11_1, ↓q_gA_21_3, ↓q_lI_13, qd_I ea (k := 6) (v := nI wd) rfl, le, or_true]
    rfl
  | succ d ih =>
    intro fuel w h1 h2
    obtain ⟨g, rfl⟩ : ∃ g, fuel = g + 1 := ⟨fuel - 1, by omega⟩
    have le : (nI wd ≤ nI w) = False := eq_false (nI_ge (by omega) (by omega))
    have ix : nI A + nI w = nI (A + w) := nI_add _ _
    have il : A + w < 4096 := by omega
    have ef : q_free (X 13) A (d + 1) w = (decide (X 13 (A + w) = 0) && q_free (X 13) A d (w + 1)) := rfl
    have ihk := ih g (w + 1) (by omega) (by omega)
    rw [F_X8_isFree_2, ef]
    by_cases c : X 13 (A + w) = 0
    · have tc : (X 13 (A + w) = 0) = True := eq_true c
      rw [decide_eq_true c, Bool.true_and]
      simp (disch := first | rfl | omega | decide | exact Nat.le_of_ble_eq_true rfl) only [↓q_br, q_rt, q_rz, q_gd, q_ca, ↓reduceIte, F_X8_isFree_2B, ↓q_gA_11_1, ↓q_gA_21_3, ↓q_lI_13, qd_I ea (k := 6) (v := nI wd) rfl, le, qd_I ea (k := 7) (v := nI A) rfl, ix, tc, nI_1, ihk]
    · have tc : (X 13 (A + w) = 0) = False := eq_false c
      rw [decide_eq_false c, Bool.false_and]
      simp (disch := first | rfl | omega | decide | exact Nat.le_of_ble_eq_true rfl) only [↓q_br, q_rt, q_rz, q_gd, q_ca, ↓reduceIte, F_X8_isFree_2B, ↓q_gA_11_1, ↓q_gA_21_3, ↓q_lI_13, qd_I ea (k := 6) (v := nI wd) rfl, le, qd_I ea (k := 7) (v := nI A) rfl, ix, tc, true_or]
      rfl
theorem q_CQ_p {I I' X X' : Nat → Nat → Int32} {Y : Nat → Nat → Int64} {A w : Nat} {v : Nat → Int64} {la : Nat → Int32} {wo : Nat → Int64} (hX : X 13 = q_pL A w la) (hY : Y 12 = q_pW A w v wo) (hM : q_CMm I X) (hA : A + w < 4096) (h1 : ∀ i, i ≠ 11 → I' i = I i) (h2 : I' 11 2 = nI (q_lc (q_u1 (X 13) (A + w) 1) 4096)) (h3 : ∀ i, i ≠ 13 → X' i = X i) (h4 : X' 13 = q_u1 (X 13) (A + w) 1) : q_CQ I I' X X' Y (q_u2 Y 12 (A + w) (v w)) (q_pL A (w + 1) la) (q_pW A (w + 1) v wo) := by
  refine ⟨h1, h3, fun j j1 _ => q_u2_n _ _ _ j1, by rw [h4, hX, q_pL_s], by rw [q_u2_s, hY, q_pW_s], by rw [h2, h4], fun j hj => ?_⟩
  rw [h4]
  by_cases e : j = A + w
  · rw [e, q_u1_s]; exact Or.inr rfl
  · rw [q_u1_n _ _ e]; exact hM.2 j hj
theorem q_layN_9 {a A wd hd : Nat} {v0 v1 v2 v3 v4 v5 : Value} {v : Nat → Int64} {la : Nat → Int32} {wo : Nat → Int64} (ea : b + 66 < a ∧ D a = some (.inr (.inl (6, [v0, v1, v2, v3, v4, v5, .int (nI wd), .int (nI A)])))) (hA : A + wd ≤ 4096) (hh : hd + 2 + 2 * wd ≤ 6002) : ∀ d fuel w (I X : Nat → Nat → Int32) (Y : Nat → Nat → Int64), w + d = wd → d < fuel → q_CMm I X → X 13 = q_pL A w la → Y 12 = q_pW A w v wo → (∀ u, u < wd → Y 7 (hd + 2 + 2 * u) = v u) → ∃ I' X' Y', F_X8_layNumbers_9 κ fuel (some (b + 21)) (some a) (nI (hd + 2)) (nI w) (q_H b (I, R, X, Y, Z) M O D, s) = some (.inl (), (q_H b (I', R, X', Y', Z) M O D, s)) ∧ q_CQ I I' X X' Y Y' (q_pL A wd la) (q_pW A wd v wo) := by
  intro d
  induction d with
  | zero =>
    intro fuel w I X Y h1 h2 hM hX hY h7
    obtain ⟨g, rfl⟩ : ∃ g, fuel = g + 1 := ⟨fuel - 1, by omega⟩
    have ew : w = wd := by omega
    have le : (nI wd ≤ nI w) = True := eq_true (nI_le (by omega) (by omega))
    refine ⟨I, X, Y, ?_, fun _ _ => rfl, fun _ _ => rfl, fun _ _ _ => rfl, by rw [hX, ew], by rw [hY, ew], hM⟩
    rw [F_X8_layNumbers_9]
    simp (disch := first | rfl | omega | decide | exact Nat.le_of_ble_eq_true rfl) only [↓q_br, q_rt, q_rz, q_gd, q_ca, ↓reduceIte, F_X8_layNumbers_9B, ↓q_gA_21_1, ↓q_gA_21_3, ↓q_gA_2_4, ↓q_is_11, ↓q_lL_7, qd_I ea (k := 6) (v := nI wd) rfl, le]
  | succ d ih =>
    intro fuel w I X Y h1 h2 hM hX hY h7
    obtain ⟨g, rfl⟩ : ∃ g, fuel = g + 1 := ⟨fuel - 1, by omega⟩
    have le : (nI wd ≤ nI w) = False := eq_false (nI_ge (by omega) (by omega))
    have ix : nI A + nI w = nI (A + w) := nI_add _ _
    have il : A + w < 4096 := by omega
    have iy : nI (hd + 2) + (2 : Int32) * nI w = nI (hd + 2 + 2 * w) := by rw [show (2 : Int32) * nI w = nI (2 * w) from (Int32.ofNat_mul 2 w).symm, nI_add]
    have iyl : hd + 2 + 2 * w < 6003 := by omega
    have y7 := h7 w (by omega)
    obtain ⟨I1, X1, p1, p2, p3, p4, p5⟩ := q_put (κ := κ) (b := b) (R := R) (Y := Y) (Z := Z) (M := M) (O := O) (D := D) (s := s) (v := v w) il hM.1 (hM.2 _ il)
    have cq := q_CQ_p hX hY hM il p2 p3 p4 p5
    obtain ⟨I', X', Y', r1, r2, r3, r4, r5, r6, r7⟩ := ih g (w + 1) I1 X1 (q_u2 Y 12 (A + w) (v w)) (by omega) (by omega) cq.2.2.2.2.2 cq.2.2.2.1 cq.2.2.2.2.1 (fun u hu => by rw [q_u2_n _ _ _ (by decide)]; exact h7 u hu)
    refine ⟨I', X', Y', ?_, fun j hj => by rw [r2 j hj, p2 j hj], fun j hj => by rw [r3 j hj, p4 j hj], fun j j1 j2 => by rw [r4 j j1 j2, q_u2_n _ _ _ j1], r5, r6, r7⟩
    rw [F_X8_layNumbers_9]
    simp (disch := first | rfl | omega | decide | exact Nat.le_of_ble_eq_true rfl) only [↓q_br, q_rt, q_rz, q_gd, q_ca, ↓reduceIte, F_X8_layNumbers_9B, ↓q_gA_21_1, ↓q_gA_21_3, ↓q_gA_2_4, ↓q_is_11, ↓q_lL_7, qd_I ea (k := 6) (v := nI wd) rfl, le, qd_I ea (k := 7) (v := nI A) rfl, iy, y7, ↓q_is_11, ix, p1, nI_1, r1]
theorem q_layI_49 {n z ja a A : Nat} {L : List q_Knd} {J : q_Ins} {V : Nat → Int64} {v0 v1 v2 v3 v4 v5 v6 : Value} {v : Nat → Int64} {la : Nat → Int32} {wo : Nat → Int64} (ea : b + 66 < a ∧ D a = some (.inr (.inl (6, [v0, v1, v2, v3, v4, v5, v6, .int (nI A)])))) (hJ : q_CIn b n D Z L z ja J) (hkL : ∀ K ∈ L, q_kB K ≤ 32) (hz : z ≤ 32) (hA : A + J.2.2.2.length ≤ 4096) (hv : ∀ w c, J.2.2.2[w]? = some c → v w = lN (q_dw (q_pb9 V) 0 c)) : ∀ d fuel w (I X : Nat → Nat → Int32) (Y : Nat → Nat → Int64), w + d = J.2.2.2.length → d < fuel → q_CMm I X → X 13 = q_pL A w la → Y 12 = q_pW A w v wo → (∀ o, o < J.2.2.1.length → Y 25 o = V o) → ∃ I' X' Y', F_X8_layInstruction_49 κ fuel (some (b + 21)) (some a) (some ja) (nI w) (q_H b (I, R, X, Y, Z) M O D, s) = some (.inl (), (q_H b (I', R, X', Y', Z) M O D, s)) ∧ q_CQ I I' X X' Y Y' (q_pL A J.2.2.2.length la) (q_pW A J.2.2.2.length v wo) := by
  obtain ⟨fm, fd, fs, hCo, -⟩ := q_CIn_o hJ
  obtain ⟨k1, k2, k3, -⟩ := hCo
  have e3 := And.intro k1 k3
  intro d
  induction d with
  | zero =>
    intro fuel w I X Y h1 h2 hM hX hY h7
    obtain ⟨g, rfl⟩ : ∃ g, fuel = g + 1 := ⟨fuel - 1, by omega⟩
    have ew : w = J.2.2.2.length := by omega
    have le : (nI J.2.2.2.length ≤ nI w) = True := eq_true (nI_le (by omega) (by omega))
    refine ⟨I, X, Y, ?_, fun _ _ => rfl, fun _ _ => rfl, fun _ _ _ => rfl, by rw [hX, ew], by rw [hY, ew], hM⟩
    rw [F_X8_layInstruction_49]
    simp (disch := first | rfl | omega | decide | exact Nat.le_of_ble_eq_true rfl) only [↓q_br, q_rt, q_rz, q_gd, q_ca, ↓reduceIte, F_X8_layInstruction_49B, ↓q_gA_21_3, ↓q_gA_21_7, ↓q_is_11, qd_I e3 (k := 9) (v := nI J.2.2.2.length) rfl, le]
  | succ d ih =>
    intro fuel w I X Y h1 h2 hM hX hY h7
    obtain ⟨g, rfl⟩ : ∃ g, fuel = g + 1 := ⟨fuel - 1, by omega⟩
    have hwl : w < J.2.2.2.length := by omega
    have le : (nI J.2.2.2.length ≤ nI w) = False := eq_false (nI_ge (by omega) (by omega))
    have ix : nI A + nI w = nI (A + w) := nI_add _ _
    have il : A + w < 4096 := by omega
    have en := q_encode (κ := κ) (I := I) (R := R) (X := X) (Y := Y) (M := M) (O := O) (s := s) (V := V) hJ hkL hz (List.getElem?_eq_getElem hwl) h7
    rw [← hv w _ (List.getElem?_eq_getElem hwl)] at en
    obtain ⟨I1, X1, p1, p2, p3, p4, p5⟩ := q_put (κ := κ) (b := b) (R := R) (Y := Y) (Z := Z) (M := M) (O := O) (D := D) (s := s) (v := v w) il hM.1 (hM.2 _ il)
    have cq := q_CQ_p hX hY hM il p2 p3 p4 p5
    obtain ⟨I', X', Y', r1, r2, r3, r4, r5, r6, r7⟩ := ih g (w + 1) I1 X1 (q_u2 Y 12 (A + w) (v w)) (by omega) (by omega) cq.2.2.2.2.2 cq.2.2.2.1 cq.2.2.2.2.1 (fun o ho => by rw [q_u2_n _ _ _ (by decide)]; exact h7 o ho)
    refine ⟨I', X', Y', ?_, fun j hj => by rw [r2 j hj, p2 j hj], fun j hj => by rw [r3 j hj, p4 j hj], fun j j1 j2 => by rw [r4 j j1 j2, q_u2_n _ _ _ j1], r5, r6, r7⟩
    rw [F_X8_layInstruction_49]
    simp (disch := first | rfl | omega | decide | exact Nat.le_of_ble_eq_true rfl) only [↓q_br, q_rt, q_rz, q_gd, q_ca, ↓reduceIte, F_X8_layInstruction_49B, ↓q_gA_21_3, ↓q_gA_21_7, ↓q_is_11, qd_I e3 (k := 9) (v := nI J.2.2.2.length) rfl, le, qd_I ea (k := 7) (v := nI A) rfl, qd_S e3, en, ↓q_is_11, ix, p1, nI_1, r1]
end QLD
