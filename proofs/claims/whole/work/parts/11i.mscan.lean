section QMT
variable {κ : Nat → Nat} {b : Nat} {C : q_CT} {O : Nat → Int64} {D : q_Mem} {s : Nat × Nat} {z : Nat}
theorem q_mscan_43 {P : Nat → Int32} {Q : Nat → Nat → Int32} {S : Nat → Nat → Int64} {r : Option Nat → Int32 → Int32 → q_X Unit} {l : Int32} (hs : P 14 = nI z) (hz : z ≤ 6000) : ∀ n fuel p, p + n = z → n < fuel → F_X13_scan_43 κ r fuel (some (b + 26)) l (nI p) (q_H b C (P, Q, S) O D, s) = r (some (b + 26)) l (nI (q_to (fun i => !decide (Q 28 i = 10)) n p)) (q_H b C (P, Q, S) O D, s) := by
  intro n
  induction n with
  | zero =>
    intro fuel p h1 h2
    obtain ⟨f, rfl⟩ : ∃ f, fuel = f + 1 := ⟨fuel - 1, by omega⟩
    have h3 : z ≤ p := by omega
    simp (disch := first | rfl | omega) only [F_X13_scan_43, ↓q_br, q_rt, q_rz, q_gd, q_ca, ↓reduceIte, F_X13_scan_43B, ↓q_gA_26_1, ↓q_gI_26_14, ↓q_lI_28, hs, nI_leI, h3, q_to]
  | succ n ih =>
    intro fuel p h1 h2
    obtain ⟨f, rfl⟩ : ∃ f, fuel = f + 1 := ⟨fuel - 1, by omega⟩
    have h3 : ¬ z ≤ p := by omega
    simp (disch := first | rfl | omega) only [F_X13_scan_43, ↓q_br, q_rt, q_rz, q_gd, q_ca, ↓reduceIte, F_X13_scan_43B, ↓q_gA_26_1, ↓q_gI_26_14, ↓q_lI_28, hs, nI_leI, h3, nI_1, q_to]
    by_cases h : Q 28 p = 10
    · simp [h]
    · simpa [h] using ih f (p + 1) (by omega) (by omega)
theorem q_mscan_103 {P : Nat → Int32} {Q : Nat → Nat → Int32} {S : Nat → Nat → Int64} {r : Option Nat → Int32 → Int32 → q_X Unit} {l c fr : Int32} {w : Int64} (hs : P 14 = nI z) (hz : z ≤ 6000) : ∀ n fuel p, p + n = z → n < fuel → F_X13_scan_103 κ r fuel (some (b + 26)) l (nI p) c fr w (q_H b C (P, Q, S) O D, s) = F_X13_scan_129 κ r (some (b + 26)) l (nI (q_to (fun i => q_row (Q 28 i)) n p)) c fr w (q_H b C (P, Q, S) O D, s) := by
  intro n
  induction n with
  | zero =>
    intro fuel p h1 h2
    obtain ⟨f, rfl⟩ : ∃ f, fuel = f + 1 := ⟨fuel - 1, by omega⟩
    have h3 : z ≤ p := by omega
    simp (disch := first | rfl | omega) only [F_X13_scan_103, ↓q_br, q_rt, q_rz, q_gd, q_ca, ↓reduceIte, F_X13_scan_103B, ↓q_gA_26_1, ↓q_gI_26_14, ↓q_lI_28, hs, nI_leI, h3, q_to]
  | succ n ih =>
    intro fuel p h1 h2
    obtain ⟨f, rfl⟩ : ∃ f, fuel = f + 1 := ⟨fuel - 1, by omega⟩
    have h3 : ¬ z ≤ p := by omega
    simp (disch := first | rfl | omega) only [F_X13_scan_103, ↓q_br, q_rt, q_rz, q_gd, q_ca, ↓reduceIte, F_X13_scan_103B, ↓q_gA_26_1, ↓q_gI_26_14, ↓q_lI_28, hs, nI_leI, h3, nI_1, q_to, q_X13_isInName, q_b_0]
    by_cases h : q_row (Q 28 p) = true
    · simpa [h] using ih f (p + 1) (by omega) (by omega)
    · simp [h]
/-- the memory after the reference has put down a token -/
def q_mp (P : Nat → Int32) (Q : Nat → Nat → Int32) (S : Nat → Nat → Int64) (k p e : Nat) (t : Nat) (w : Int64) : q_MT := (q_u1 P 13 (nI (k + 1)), q_u2 (q_u2 (q_u2 Q 30 k (nI t)) 31 k (nI p)) 32 k (nI (e - p)), q_u2 S 33 k w)
theorem q_mscan_200 {P : Nat → Int32} {Q : Nat → Nat → Int32} {S : Nat → Nat → Int64} {r : Option Nat → Int32 → Int32 → q_X Unit} {l : Int32} {w : Int64} {k p e t : Nat} (hk : P 13 = nI k) (h : k < 6002) (hp : p ≤ e) : F_X13_scan_200 κ r (some (b + 26)) l (nI e) (nI p) (nI t) w (q_H b C (P, Q, S) O D, s) = r (some (b + 26)) l (nI e) (q_H b C (q_mp P Q S k p e t w) O D, s) := by
  simp (disch := first | rfl | omega) only [↓q_br, q_rt, q_rz, q_gd, q_ca, ↓reduceIte, F_X13_scan_200, ↓q_gA_26_10, ↓q_gA_26_11, ↓q_gA_26_12, ↓q_gA_26_9, ↓q_gI_26_13, ↓q_pI_26_13, ↓q_sI_30, ↓q_sI_31, ↓q_sI_32, ↓q_sL_33, hk, nI_1, nI_sub, q_mp]
def q_mpt (P : Nat → Int32) (Q : Nat → Nat → Int32) (S : Nat → Nat → Int64) (c : Int32) (k p e : Nat) (x : Option (Nat × Int64)) : q_MT := match x with
  | some x => q_mp P Q S k p e (q_mt x.1) (q_mw c x.2)
  | none => (P, Q, S)
theorem q_mscan_129 {P : Nat → Int32} {Q : Nat → Nat → Int32} {S : Nat → Nat → Int64} {r : Option Nat → Int32 → Int32 → q_X Unit} {l : Int32} {k p e : Nat} (hk : P 13 = nI k) (h : k < 6002) (hp : p < e) (he : e ≤ 6000) (hr : q_row (Q 28 p) = true) : F_X13_scan_129 κ r (some (b + 26)) l (nI e) (Q 28 p) (nI p) 0 (q_H b C (P, Q, S) O D, s) = r (some (b + 26)) l (nI e) (q_H b C (q_mpt P Q S (Q 28 p) k p e (some (q_rk (Q 28) p e))) O D, s) := by
  have n10 : ¬ Q 28 p = 10 := by
    intro h9
    rw [h9] at hr
    exact absurd hr (by decide)
  by_cases hd : q_dgt (Q 28 p) = true
  · have e1 := q_number (κ := κ) (b := b) (C := C) (P := P) (Q := Q) (S := S) (O := O) (D := D) (s := s) hp he
    have hw : q_mw (Q 28 p) (q_ov (q_num (Q 28) p e)) = q_ov (q_num (Q 28) p e) := by simp [q_mw, hd, n10]
    have g2 := q_mscan_200 (κ := κ) (b := b) (C := C) (Q := Q) (S := S) (O := O) (D := D) (s := s) (r := r) (l := l) (w := q_ov (q_num (Q 28) p e)) (e := e) (t := 2) hk h (Nat.le_of_lt hp)
    have g5 := q_mscan_200 (κ := κ) (b := b) (C := C) (Q := Q) (S := S) (O := O) (D := D) (s := s) (r := r) (l := l) (w := q_ov (q_num (Q 28) p e)) (e := e) (t := 5) hk h (Nat.le_of_lt hp)
    have n2 : nI 2 = 2 := rfl
    have n5 : nI 5 = 5 := rfl
    rw [n2] at g2
    rw [n5] at g5
    simp only [q_mpt, q_rk_num hd, hw]
    simp (disch := first | rfl | omega) only [↓q_br, q_rt, q_rz, q_gd, q_ca, ↓reduceIte, F_X13_scan_129, F_X13_scan_176, ↓q_is_26, q_X13_isDigit, q_b_0, hd, e1, lg_cmp_ge, q_ov_ge (fun v hv => q_num_lt hv), not_false_eq_true, Bool.true_eq_false]
    by_cases hs : (q_num (Q 28) p e).isSome = true
    · simp only [hs, if_true, g2]
      rfl
    · simp only [hs, if_false, g5, Bool.false_eq_true]
      rfl
  · have hd' : q_dgt (Q 28 p) = false := by simpa using hd
    have h20 : (nI (e - p) ≤ (20 : Int32)) ↔ e - p ≤ 20 := nI_leI (b := 20) (by omega) (by decide)
    have g1 := q_mscan_200 (κ := κ) (b := b) (C := C) (Q := Q) (S := S) (O := O) (D := D) (s := s) (r := r) (l := l) (w := 0) (e := e) (t := 1) hk h (Nat.le_of_lt hp)
    have g5 := q_mscan_200 (κ := κ) (b := b) (C := C) (Q := Q) (S := S) (O := O) (D := D) (s := s) (r := r) (l := l) (w := 0) (e := e) (t := 5) hk h (Nat.le_of_lt hp)
    have n1 : nI 1 = 1 := rfl
    have n5 : nI 5 = 5 := rfl
    rw [n1] at g1
    rw [n5] at g5
    have hw : ∀ w, q_mw (Q 28 p) w = 0 := fun w => by simp [q_mw, hd', hr]
    simp only [q_mpt, hw]
    simp (disch := first | rfl | omega) only [↓q_br, q_rt, q_rz, q_gd, q_ca, ↓reduceIte, F_X13_scan_129, F_X13_scan_150, ↓q_is_26, q_X13_isDigit, q_b_0, hd', nI_sub, h20, not_true_eq_false]
    unfold q_rk
    rw [if_neg hd]
    by_cases y : e - p ≤ 20
    · simp only [y, if_true, g1]
      rfl
    · simp only [y, if_false, g5]
      rfl
theorem q_mscan_step {P : Nat → Int32} {Q : Nat → Nat → Int32} {S : Nat → Nat → Int64} {k p f : Nat} {ln : Bool} (hK : q_Kp κ b D) (hs : P 14 = nI z) (hz : z ≤ 6000) (hk : P 13 = nI k) (hkp : k ≤ p) (hp : p < z) (hB : q_By (Q 28 p)) : F_X13_scan_7 κ (f + 1) (some (b + 26)) (q_b ln) (nI p) (q_H b C (P, Q, S) O D, s) = F_X13_scan_7 κ f (some (b + 26)) (q_b ln) (nI (q_nx (Q 28) z p)) (q_H b C (q_mpt P Q S (Q 28 p) k p (q_nx (Q 28) z p) (q_tk ln (Q 28) z p)) O D, s) := by
  have hzp : ¬ z ≤ p := by omega
  have hnx := q_nx_b (B := Q 28) hp
  rw [F_X13_scan_7]
  by_cases c35 : Q 28 p = 35
  · have e1 := q_mscan_43 (κ := κ) (b := b) (C := C) (Q := Q) (S := S) (O := O) (D := D) (s := s) (r := F_X13_scan_7 κ f) (l := q_b ln) hs hz (z - p) q_fu p (by omega) (by unfold q_fu; omega)
    have e2 : q_nx (Q 28) z p = q_to (fun i => !decide (Q 28 i = 10)) (z - p) p := by unfold q_nx; rw [if_pos c35]
    have e3 : q_tk ln (Q 28) z p = none := by unfold q_tk; rw [if_pos c35]
    have d1 : ¬ (35 : Int32) = 32 := by decide
    rw [e2, e3]
    simp (disch := first | rfl | omega) only [↓q_br, q_rt, q_rz, q_gd, q_ca, ↓reduceIte, F_X13_scan_7B, ↓q_gA_26_1, ↓q_gA_26_11, ↓q_gA_26_9, ↓q_gI_26_13, ↓q_gI_26_14, ↓q_lI_28, ↓q_lI_30, ↓q_lI_32, ↓q_sI_28, ↓q_sI_30, ↓q_sI_32, hs, nI_leI, hzp, c35, d1, not_true_eq_false, not_false_eq_true, e1, q_mpt]
  · have e2 : q_nx (Q 28) z p = (if q_row (Q 28 p) = true then q_to (fun i => q_row (Q 28 i)) (z - p) p else p + 1) := by unfold q_nx; rw [if_neg c35]
    by_cases hr : q_row (Q 28 p) = true
    · rw [if_pos hr] at e2
      have e1 := q_mscan_103 (κ := κ) (b := b) (C := C) (Q := Q) (S := S) (O := O) (D := D) (s := s) (r := F_X13_scan_7 κ f) (l := q_b ln) (c := Q 28 p) (fr := nI p) (w := 0) hs hz (z - p) q_fu p (by omega) (by unfold q_fu; omega)
      have e3 : q_tk ln (Q 28) z p = some (q_rk (Q 28) p (q_to (fun i => q_row (Q 28 i)) (z - p) p)) := by unfold q_tk; rw [if_neg c35, if_pos hr]
      rw [e2] at hnx ⊢
      rw [e3]
      have n32 : ¬ Q 28 p = 32 := by
        intro h9
        rw [h9] at hr
        exact absurd hr (by decide)
      have n10 : ¬ Q 28 p = 10 := by
        intro h9
        rw [h9] at hr
        exact absurd hr (by decide)
      refine Eq.trans ?_ (e1.trans (q_mscan_129 hk (by omega) hnx.1 (by omega) hr))
      simp (disch := first | rfl | omega) only [↓q_br, q_rt, q_rz, q_gd, q_ca, ↓reduceIte, F_X13_scan_7B, ↓q_gA_26_1, ↓q_gA_26_11, ↓q_gA_26_9, ↓q_gI_26_13, ↓q_gI_26_14, ↓q_lI_28, ↓q_lI_30, ↓q_lI_32, ↓q_sI_28, ↓q_sI_30, ↓q_sI_32, hs, nI_leI, hzp, c35, n32, n10, q_X13_isInName, q_b_0, hr, not_false_eq_true, Bool.true_eq_false]
    · rw [if_neg hr] at e2
      have hr' : q_row (Q 28 p) = false := by simpa using hr
      rw [e2]
      by_cases c10 : Q 28 p = 10
      · have a4 := q_mscan_200 (κ := κ) (b := b) (C := C) (Q := Q) (S := S) (O := O) (D := D) (s := s) (r := F_X13_scan_7 κ f) (l := q_b ln) (w := 0) (p := p) (e := p + 1) (t := 4) hk (by omega) (by omega)
        have n4 : nI 4 = 4 := rfl
        rw [n4] at a4
        rw [c10] at hr'
        have d1 : ¬ (10 : Int32) = 32 := by decide
        have d2 : ¬ (10 : Int32) = 35 := by decide
        simp (disch := first | rfl | omega) only [↓q_br, q_rt, q_rz, q_gd, q_ca, ↓reduceIte, F_X13_scan_7B, ↓q_gA_26_1, ↓q_gA_26_11, ↓q_gA_26_9, ↓q_gI_26_13, ↓q_gI_26_14, ↓q_lI_28, ↓q_lI_30, ↓q_lI_32, ↓q_sI_28, ↓q_sI_30, ↓q_sI_32, hs, nI_leI, hzp, c10, d1, d2, nI_1, not_false_eq_true, not_true_eq_false, a4, q_b_0]
        cases ln
        · simp [q_tk, c10, hr', q_mpt]
        · simp [q_tk, c10, hr', q_mpt, q_mt, q_mw, n4]
      · by_cases c32 : Q 28 p = 32
        · rw [c32] at hr'
          simp (disch := first | rfl | omega) only [↓q_br, q_rt, q_rz, q_gd, q_ca, ↓reduceIte, F_X13_scan_7B, ↓q_gA_26_1, ↓q_gA_26_11, ↓q_gA_26_9, ↓q_gI_26_13, ↓q_gI_26_14, ↓q_lI_28, ↓q_lI_30, ↓q_lI_32, ↓q_sI_28, ↓q_sI_30, ↓q_sI_32, hs, nI_leI, hzp, c32, nI_1, not_true_eq_false]
          simp [q_tk, c32, hr', q_mpt]
        · obtain ⟨v, v1, v2⟩ := q_indexOf (κ := κ) (i := 2) (C := C) (M := (P, Q, S)) (O := O) (s := s) (c := Q 28 p) hK (by decide) (by decide)
          rw [q_By_m hB] at v2
          have hng : ∀ c : Int32, c < 0 → q_sg c = false := by
            intro c hc
            cases h9 : q_sg c with
            | false => rfl
            | true =>
              have h8 : ∀ x ∈ q_tt 2, ¬ x < 0 := by decide
              exact absurd hc (h8 c (List.contains_iff_mem.mp h9))
          have v3 : v < 0 ↔ q_sg (Q 28 p) = false := by
            rw [v2]
            constructor
            · rintro ((h | h) | h)
              · exact hng _ h
              · exact absurd (Int32.lt_of_lt_of_le h hB.2) (by decide)
              · exact h
            · exact fun h => Or.inr h
          have a3 := q_mscan_200 (κ := κ) (b := b) (C := C) (Q := Q) (S := S) (O := O) (D := D) (s := s) (r := F_X13_scan_7 κ f) (l := q_b ln) (w := (Q 28 p).toInt64) (p := p) (e := p + 1) (t := 3) hk (by omega) (by omega)
          have a5 := q_mscan_200 (κ := κ) (b := b) (C := C) (Q := Q) (S := S) (O := O) (D := D) (s := s) (r := F_X13_scan_7 κ f) (l := q_b ln) (w := (Q 28 p).toInt64) (p := p) (e := p + 1) (t := 5) hk (by omega) (by omega)
          have n3 : nI 3 = 3 := rfl
          have n5 : nI 5 = 5 := rfl
          rw [n3] at a3
          rw [n5] at a5
          have hsp : ∀ f : Nat → q_X Unit, q_rd (q_sp (some (κ 2)) 0) f (q_H b C (P, Q, S) O D, s) = f 2 (q_H b C (P, Q, S) O D, s) := fun f => q_sp_0 hK (by decide)
          simp (disch := first | rfl | omega) only [↓q_br, q_rt, q_rz, q_gd, q_ca, ↓reduceIte, F_X13_scan_7B, F_X13_scan_196, ↓q_gA_26_1, ↓q_gA_26_11, ↓q_gA_26_9, ↓q_gI_26_13, ↓q_gI_26_14, ↓q_lI_28, ↓q_lI_30, ↓q_lI_32, ↓q_sI_28, ↓q_sI_30, ↓q_sI_32, hs, nI_leI, hzp, c35, c10, c32, q_X13_isInName, q_b_0, hr', nI_1, not_false_eq_true, hsp, v1, v3]
          by_cases hc : q_sg (Q 28 p) = true
          · have hc' : ¬ q_sg (Q 28 p) = false := by rw [hc]; decide
            simp only [hc', if_false, a3]
            simp [q_tk, c35, c10, c32, hr', q_mpt, hc, q_mt, q_mw]
          · have hc' : q_sg (Q 28 p) = false := by simpa using hc
            simp only [hc', if_true, a5]
            simp [q_tk, c35, c10, c32, hr', q_mpt, hc', q_mt, q_mw]
end QMT
