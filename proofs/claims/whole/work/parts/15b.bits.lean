def q_neg (c : List Int32) : Nat := c.countP fun s => decide (s < 0)
def q_negs (W : List (List Int32)) : Nat := (W.map q_neg).sum
def q_CIb (b n : Nat) (D : q_Mem) (Z : Nat → Nat → Option Nat) (nk z a : Nat) (mn : q_Nam) (ps : List Int32) (os : q_Ops) (ws : List (List Int32)) (c : List Int32) : Prop := ∃ fm fd fs, q_CIo b n D Z nk a mn ps os ws.length (q_negs ws + q_neg (c.take z)) fm fd fs ∧ q_CWd z (ws ++ [c]) fm fd fs
theorem q_neg_add {c : List Int32} {s : Int32} {z : Nat} (h : c.length < z) : q_neg ((c ++ [s]).take z) = q_neg (c.take z) + (if s < 0 then 1 else 0) := by
  rw [List.take_of_length_le (by simp; omega), List.take_of_length_le (by omega)]
  unfold q_neg
  rw [List.countP_append]
  by_cases hs : s < 0 <;> simp [hs]
theorem q_neg_out {c : List Int32} {s : Int32} {z : Nat} (h : z ≤ c.length) : (c ++ [s]).take z = c.take z := by
  rw [List.take_append_of_le_length h]
section QBB
variable {κ : Nat → Nat} {b : Nat} {Z : Nat → Nat → Option Nat} {C : q_CT} {M : q_MT} {O : Nat → Int64} {D : q_Mem} {s : Nat × Nat}
/-- the object's numbers or arrays change, not its names -/
theorem q_CIo_up {n nk a : Nat} {mn : q_Nam} {ps : List Int32} {os : q_Ops} {wc dc wc' dc' : Nat} {fm fd fm' fd' : Nat → Int64} {fs fs' : Nat → Int32} {D' : q_Mem} (h : q_CIo b n D Z nk a mn ps os wc dc fm fd fs) (h0 : D' a = some (.inr (.inl (4, [.ref (a + 1), .ref (a + 3), .ref (a + 4), .ref (a + 5), .ref (a + 6), .ref (a + 7), .ref (a + 8), .int (nI ps.length), .int (nI os.length), .int (nI wc'), .int (nI dc')])))) (h6 : D' (a + 6) = some (.inl (2, 4, .inr (.inl fm')))) (h7 : D' (a + 7) = some (.inl (2, 4, .inr (.inl fd')))) (h8 : D' (a + 8) = some (.inl (1, 128, .inl fs'))) (hD : ∀ x, x ≠ a → x ≠ a + 6 → x ≠ a + 7 → x ≠ a + 8 → D' x = D x) : q_CIo b n D' Z nk a mn ps os wc' dc' fm' fd' fs' := by
  obtain ⟨k1, k2, k3, k4, k5, k6, k7, fp, fo, fk, k8, k9, k10, k11, k12⟩ := h
  have hcn : ∀ x nm, q_CN b n D x nm → q_CN b n D' x nm := by
    intro x nm hx
    obtain ⟨lx, fx, x1, x2, x3, x4, x5, x6, x7⟩ := hx
    have y1 : x ≠ a := by rintro rfl; rw [k3] at x5; cases x5
    have y2 : x ≠ a + 6 := by rintro rfl; rw [k5] at x5; cases x5
    have y3 : x ≠ a + 7 := by rintro rfl; rw [k6] at x5; cases x5
    have y4 : x ≠ a + 8 := by rintro rfl; rw [k7] at x5; cases x5
    have z1 : lx ≠ a := by rintro rfl; rw [k3] at x6; cases x6
    have z2 : lx ≠ a + 6 := by rintro rfl; rw [k5] at x6; cases x6
    have z3 : lx ≠ a + 7 := by rintro rfl; rw [k6] at x6; cases x6
    have z4 : lx ≠ a + 8 := by rintro rfl; rw [k7] at x6; cases x6
    exact ⟨lx, fx, x1, x2, x3, x4, by rw [hD _ y1 y2 y3 y4, x5], by rw [hD _ z1 z2 z3 z4, x6], x7⟩
  refine ⟨k1, k2, h0, hcn _ _ k4, h6, h7, h8, fp, fo, fk, by rw [hD _ (by omega) (by omega) (by omega) (by omega), k8], by rw [hD _ (by omega) (by omega) (by omega) (by omega), k9], by rw [hD _ (by omega) (by omega) (by omega) (by omega), k10], k11, fun i x hx => ?_⟩
  obtain ⟨a', y1, y2, y3⟩ := k12 i x hx
  exact ⟨a', y1, hcn _ _ y2, y3⟩
theorem q_putDigit {n nk z a : Nat} {mn : q_Nam} {ps : List Int32} {os : q_Ops} {ws : List (List Int32)} {c : List Int32} {g : Bool} (h : q_CIb b n D Z nk z a mn ps os ws c) (hc : c.length < z) (hz : z ≤ 32) (hw : ws.length < 4) : ∃ D', F_X1_putDigit κ (some a) (nI (z - 1 - c.length)) (q_b g) (q_H b C M O D, s) = some (.inl (), (q_H b C M O D', s)) ∧ q_CIb b n D' Z nk z a mn ps os ws (c ++ [if g = true then -2 else -1]) ∧ (∀ x, x ≠ a → x ≠ a + 6 → x ≠ a + 7 → D' x = D x) := by
  obtain ⟨fm, fd, fs, h1, h2⟩ := h
  obtain ⟨mv, dv, g1, g2, g3, g4, g5⟩ := q_CWd_dg g h2 hc hz hw
  have hk := h1
  obtain ⟨k1, k2, k3, k4, k5, k6, k7, -⟩ := hk
  obtain ⟨dc, hdc⟩ : ∃ dc, dc = q_negs ws + q_neg (c.take z) := ⟨_, rfl⟩
  rw [← hdc] at k3 h1
  have e3 : b + 66 < a ∧ D a = some (.inr (.inl (4, [.ref (a + 1), .ref (a + 3), .ref (a + 4), .ref (a + 5), .ref (a + 6), .ref (a + 7), .ref (a + 8), .int (nI ps.length), .int (nI os.length), .int (nI ws.length), .int (nI dc)]))) := ⟨k1, k3⟩
  have e6 : b + 66 < a + 6 ∧ D (a + 6) = some (.inl (2, 4, .inr (.inl fm))) := ⟨by omega, k5⟩
  obtain ⟨D1, hD1⟩ : ∃ D1, D1 = q_up D (a + 6) (.inl (2, 4, .inr (.inl (q_u1 fm ws.length (lN (mv ||| 2 ^ (z - 1 - c.length))))))) := ⟨_, rfl⟩
  have e3' : b + 66 < a ∧ D1 a = some (.inr (.inl (4, [.ref (a + 1), .ref (a + 3), .ref (a + 4), .ref (a + 5), .ref (a + 6), .ref (a + 7), .ref (a + 8), .int (nI ps.length), .int (nI os.length), .int (nI ws.length), .int (nI dc)]))) := ⟨k1, by rw [hD1, q_up_n _ _ (by omega), k3]⟩
  have e7 : b + 66 < a + 7 ∧ D1 (a + 7) = some (.inl (2, 4, .inr (.inl fd))) := ⟨by omega, by rw [hD1, q_up_n _ _ (by omega), k6]⟩
  obtain ⟨D2, hD2⟩ : ∃ D2, D2 = q_up D1 (a + 7) (.inl (2, 4, .inr (.inl (q_u1 fd ws.length (lN (dv ||| (if g = true then 2 ^ (z - 1 - c.length) else 0))))))) := ⟨_, rfl⟩
  have e3'' : b + 66 < a ∧ D2 a = some (.inr (.inl (4, [.ref (a + 1), .ref (a + 3), .ref (a + 4), .ref (a + 5), .ref (a + 6), .ref (a + 7), .ref (a + 8), .int (nI ps.length), .int (nI os.length), .int (nI ws.length), .int (nI dc)]))) := ⟨k1, by rw [hD2, q_up_n _ _ (by omega)]; exact e3'.2⟩
  have m1 : lN mv ||| ((1 : Int64) <<< ((nI (z - 1 - c.length)).toInt64 &&& 63)) = lN (mv ||| 2 ^ (z - 1 - c.length)) := q_orb (by omega) (by omega)
  have m2 : lN dv ||| ((q_b g).toInt64 <<< ((nI (z - 1 - c.length)).toInt64 &&& 63)) = lN (dv ||| (if g = true then 2 ^ (z - 1 - c.length) else 0)) := by
    cases g
    · have : (q_b false).toInt64 = lN 0 := by decide
      rw [this, wb_shl 0 (by omega), Nat.zero_mul, wb_or (by omega) (by omega)]
      simp
    · have : (q_b true).toInt64 = 1 := by decide
      rw [this, q_orb (by omega) (by omega)]
      simp
  refine ⟨q_up D2 a (.inr (.inl (4, [.ref (a + 1), .ref (a + 3), .ref (a + 4), .ref (a + 5), .ref (a + 6), .ref (a + 7), .ref (a + 8), .int (nI ps.length), .int (nI os.length), .int (nI ws.length), .int (nI (dc + 1))]))), ?_, ?_, ?_⟩
  · simp (disch := first | rfl | omega | decide | exact Nat.le_of_ble_eq_true rfl) only [↓q_br, q_rt, q_rz, q_gd, q_ca, ↓reduceIte, F_X1_putDigit, qd_A e3 (k := 4) (r := some (a + 6)) rfl, qd_I e3 (k := 9) (v := nI ws.length) rfl, qd_aL e6 hw (by decide), g1, m1]
    rw [qd_wL e6 hw (by decide), ← hD1]
    simp (disch := first | rfl | omega | decide | exact Nat.le_of_ble_eq_true rfl) only [↓q_br, q_rt, q_rz, q_gd, q_ca, ↓reduceIte, qd_A e3' (k := 5) (r := some (a + 7)) rfl, qd_I e3' (k := 9) (v := nI ws.length) rfl, qd_aL e7 hw (by decide), g2, m2]
    rw [qd_wL e7 hw (by decide), ← hD2]
    simp (disch := first | rfl | omega | decide | exact Nat.le_of_ble_eq_true rfl) only [↓q_br, q_rt, q_rz, q_gd, q_ca, ↓reduceIte, qd_I e3'' (k := 10) (v := nI dc) rfl, nI_1]
    rw [qd_W e3'' (by simp)]
    rfl
  · refine ⟨_, _, _, ?_, g5⟩
    have hneg : q_negs ws + q_neg ((c ++ [if g = true then (-2 : Int32) else -1]).take z) = dc + 1 := by
      rw [q_neg_add hc, hdc]
      cases g <;> simp <;> omega
    rw [hneg]
    refine q_CIo_up (D' := q_up D2 a (.inr (.inl (4, [.ref (a + 1), .ref (a + 3), .ref (a + 4), .ref (a + 5), .ref (a + 6), .ref (a + 7), .ref (a + 8), .int (nI ps.length), .int (nI os.length), .int (nI ws.length), .int (nI (dc + 1))])))) h1 (q_up_s _ _ _) ?_ ?_ ?_ ?_
    · rw [q_up_n _ _ (by omega), hD2, q_up_n _ _ (by omega), hD1, q_up_s]
    · rw [q_up_n _ _ (by omega), hD2, q_up_s]
    · rw [q_up_n _ _ (by omega), hD2, q_up_n _ _ (by omega), hD1, q_up_n _ _ (by omega), k7]
    · intro x x1 x2 x3 x4
      rw [q_up_n _ _ x1, hD2, q_up_n _ _ x3, hD1, q_up_n _ _ x2]
  · intro x x1 x2 x3
    rw [q_up_n _ _ x1, hD2, q_up_n _ _ x3, hD1, q_up_n _ _ x2]
theorem q_putOperandBit {n nk z a o k : Nat} {mn : q_Nam} {ps : List Int32} {os : q_Ops} {ws : List (List Int32)} {c : List Int32} (h : q_CIb b n D Z nk z a mn ps os ws c) (hc : c.length < z) (hz : z ≤ 32) (hw : ws.length < 4) (ho : o < 5) (hk : k < 32) : ∃ D', F_X1_putOperandBit κ (some a) (nI (z - 1 - c.length)) (nI o) (nI k) (q_H b C M O D, s) = some (.inl (), (q_H b C M O D', s)) ∧ q_CIb b n D' Z nk z a mn ps os ws (c ++ [nI (32 * o + k)]) ∧ (∀ x, x ≠ a + 8 → D' x = D x) := by
  obtain ⟨fm, fd, fs, h1, h2⟩ := h
  have hk' := h1
  obtain ⟨k1, k2, k3, k4, k5, k6, k7, -⟩ := hk'
  obtain ⟨dc, hdc⟩ : ∃ dc, dc = q_negs ws + q_neg (c.take z) := ⟨_, rfl⟩
  rw [← hdc] at k3 h1
  have hs : ¬ nI (32 * o + k) < 0 := nI_pos (by omega)
  have g5 := q_CWd_op (s := nI (32 * o + k)) h2 hc hz hw hs
  have e3 : b + 66 < a ∧ D a = some (.inr (.inl (4, [.ref (a + 1), .ref (a + 3), .ref (a + 4), .ref (a + 5), .ref (a + 6), .ref (a + 7), .ref (a + 8), .int (nI ps.length), .int (nI os.length), .int (nI ws.length), .int (nI dc)]))) := ⟨k1, k3⟩
  have e8 : b + 66 < a + 8 ∧ D (a + 8) = some (.inl (1, 128, .inl fs)) := ⟨by omega, k7⟩
  have m1 : nI ws.length * (32 : Int32) + nI (z - 1 - c.length) = nI (ws.length * 32 + (z - 1 - c.length)) := q_mulI ws.length 32 _
  have m2 : (1 : Int32) + nI o * 32 + nI k = nI (32 * o + k) + 1 := by
    have a1 : nI o * (32 : Int32) = nI (o * 32) := (Int32.ofNat_mul o 32).symm
    have a2 : (1 : Int32) + nI (o * 32) = nI (1 + o * 32) := nI_add 1 _
    rw [a1, a2, nI_add, nI_1]
    congr 1
    omega
  refine ⟨q_up D (a + 8) (.inl (1, 128, .inl (q_u1 fs (ws.length * 32 + (z - 1 - c.length)) (nI (32 * o + k) + 1)))), ?_, ?_, fun x hx => q_up_n _ _ hx⟩
  · simp (disch := first | rfl | omega | decide | exact Nat.le_of_ble_eq_true rfl) only [↓q_br, q_rt, q_rz, q_gd, q_ca, ↓reduceIte, F_X1_putOperandBit, qd_A e3 (k := 6) (r := some (a + 8)) rfl, qd_I e3 (k := 9) (v := nI ws.length) rfl, m1, m2]
    rw [qd_wI e8 (by omega) (by decide)]
    rfl
  · refine ⟨_, _, _, ?_, g5⟩
    have hneg : q_negs ws + q_neg ((c ++ [nI (32 * o + k)]).take z) = dc := by
      rw [q_neg_add hc, hdc, if_neg hs, Nat.add_zero]
    rw [hneg]
    refine q_CIo_up (D' := q_up D (a + 8) (.inl (1, 128, .inl (q_u1 fs (ws.length * 32 + (z - 1 - c.length)) (nI (32 * o + k) + 1))))) h1 ?_ ?_ ?_ (q_up_s _ _ _) ?_
    · rw [q_up_n _ _ (by omega), k3]
    · rw [q_up_n _ _ (by omega), k5]
    · rw [q_up_n _ _ (by omega), k6]
    · intro x x1 x2 x3 x4
      rw [q_up_n _ _ x4]
theorem q_CIb_out {n nk z a : Nat} {mn : q_Nam} {ps : List Int32} {os : q_Ops} {ws : List (List Int32)} {c : List Int32} {x : Int32} (h : q_CIb b n D Z nk z a mn ps os ws c) (hc : z ≤ c.length) : q_CIb b n D Z nk z a mn ps os ws (c ++ [x]) := by
  obtain ⟨fm, fd, fs, h1, h2⟩ := h
  refine ⟨fm, fd, fs, ?_, q_CWd_out h2 hc⟩
  rw [q_neg_out hc]
  exact h1
end QBB
