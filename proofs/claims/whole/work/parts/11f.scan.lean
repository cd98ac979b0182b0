section QSF
variable {κ : Nat → Nat} {b : Nat} {R : Nat → Nat → Option Nat} {Z : Nat → Nat → Option Nat} {M : q_MT} {O : Nat → Int64} {D : q_Mem} {s : Nat × Nat} {z : Nat}
theorem q_scan_138 {I : Nat → Nat → Int32} {X : Nat → Nat → Int32} {Y : Nat → Nat → Int64} {k f : Nat} (hk : I 2 6 = nI k) (h : k ≤ 6000) : F_X10_scan_138 κ (f + 4) (some (b + 2)) 0 (q_H b (I, R, X, Y, Z) M O D, s) = some (.inl (nI k), (q_H b (I, R, q_u2 (q_u2 (q_u2 X 4 k 5) 4 (k + 1) 5) 4 (k + 2) 5, Y, Z) M O D, s)) := by
  have n5 : vp_nar .byte 5 = 5 := by decide
  have e1 : F_X10_scan_138 κ (f + 3 + 1) (some (b + 2)) 0 (q_H b (I, R, X, Y, Z) M O D, s) = F_X10_scan_138 κ (f + 2 + 1) (some (b + 2)) 1 (q_H b (I, R, q_u2 X 4 k 5, Y, Z) M O D, s) := by
    have c1 : ¬ (3 : Int32) ≤ 0 := by decide
    have c2 : (nI k + 0) = nI k := by simp
    have c3 : (0 : Int32) + 1 = 1 := by decide
    rw [F_X10_scan_138]
    simp (disch := first | rfl | omega) only [↓q_br, q_rt, q_rz, q_gd, q_ca, ↓reduceIte, F_X10_scan_138B, ↓q_gA_2_1, ↓q_gI_2_6, ↓q_sI_4, hk, c1, c2, c3, n5]
  have e2 : F_X10_scan_138 κ (f + 2 + 1) (some (b + 2)) 1 (q_H b (I, R, q_u2 X 4 k 5, Y, Z) M O D, s) = F_X10_scan_138 κ (f + 1 + 1) (some (b + 2)) 2 (q_H b (I, R, q_u2 (q_u2 X 4 k 5) 4 (k + 1) 5, Y, Z) M O D, s) := by
    have c1 : ¬ (3 : Int32) ≤ 1 := by decide
    have c3 : (1 : Int32) + 1 = 2 := by decide
    rw [F_X10_scan_138]
    simp (disch := first | rfl | omega) only [↓q_br, q_rt, q_rz, q_gd, q_ca, ↓reduceIte, F_X10_scan_138B, ↓q_gA_2_1, ↓q_gI_2_6, ↓q_sI_4, hk, c1, nI_1, c3, n5]
  have e3 : F_X10_scan_138 κ (f + 1 + 1) (some (b + 2)) 2 (q_H b (I, R, q_u2 (q_u2 X 4 k 5) 4 (k + 1) 5, Y, Z) M O D, s) = F_X10_scan_138 κ (f + 1) (some (b + 2)) 3 (q_H b (I, R, q_u2 (q_u2 (q_u2 X 4 k 5) 4 (k + 1) 5) 4 (k + 2) 5, Y, Z) M O D, s) := by
    have c1 : ¬ (3 : Int32) ≤ 2 := by decide
    have c2 : nI k + 2 = nI (k + 2) := nI_add k 2
    have c3 : (2 : Int32) + 1 = 3 := by decide
    rw [F_X10_scan_138]
    simp (disch := first | rfl | omega) only [↓q_br, q_rt, q_rz, q_gd, q_ca, ↓reduceIte, F_X10_scan_138B, ↓q_gA_2_1, ↓q_gI_2_6, ↓q_sI_4, hk, c1, c2, c3, n5]
  refine e1.trans (e2.trans (e3.trans ?_))
  have c1 : (3 : Int32) ≤ 3 := by decide
  rw [F_X10_scan_138]
  simp (disch := first | rfl | omega) only [↓q_br, q_rt, q_rz, q_gd, q_ca, ↓reduceIte, F_X10_scan_138B, ↓q_gA_2_1, ↓q_gI_2_6, ↓q_sI_4, hk, c1]
/-- the memory after a token (or none) is put down by the class -/
def q_pt (I : Nat → Nat → Int32) (R : Nat → Nat → Option Nat) (X : Nat → Nat → Int32) (Y : Nat → Nat → Int64) (Z : Nat → Nat → Option Nat) (k p e : Nat) (x : Option (Nat × Int64)) : q_CT := match x with
  | some x => (q_u2 I 2 6 (nI (k + 1)), R, q_u2 (q_u2 (q_u2 X 4 k (nI x.1)) 5 k (nI p)) 6 k (nI e), q_u2 Y 7 k x.2, Z)
  | none => (I, R, X, Y, Z)
theorem q_scan_124 {r : Option Nat → Int32 → Int32 → q_X Int32} {l : Int32} {p e : Nat} {σ : q_St} (h : p < e) (he : e < 2 ^ 31) : F_X10_scan_124 κ r (some (b + 2)) l (nI p) (nI e) σ = r (some (b + 2)) l (nI e) σ := by
  simp (disch := first | rfl | omega) only [↓q_br, q_rt, q_rz, q_gd, q_ca, ↓reduceIte, F_X10_scan_124, F_J9_max_7cf53_10, F_J9_max_7cf53, nI_1, nI_ltI]
  by_cases h1 : p + 1 < e
  · simp only [h1, if_true]
  · have h2 : p + 1 = e := by omega
    subst h2
    simp
theorem q_scan_step {I : Nat → Nat → Int32} {X : Nat → Nat → Int32} {Y : Nat → Nat → Int64} {k p f : Nat} {ln : Bool} (hK : q_Kp κ b D) (hs : I 2 5 = nI z) (hz : z ≤ 6000) (hk : I 2 6 = nI k) (hkp : k ≤ p) (hp : p < z) (hB : q_By (X 3 p)) : F_X10_scan_7 κ (f + 1) (some (b + 2)) (q_b ln) (nI p) (q_H b (I, R, X, Y, Z) M O D, s) = F_X10_scan_7 κ f (some (b + 2)) (q_b ln) (nI (q_nx (X 3) z p)) (q_H b (q_pt I R X Y Z k p (q_nx (X 3) z p) (q_tk ln (X 3) z p)) M O D, s) := by
  have hzp : ¬ z ≤ p := by omega
  have hnx := q_nx_b (B := X 3) hp
  rw [F_X10_scan_7]
  by_cases c35 : X 3 p = 35
  · have e1 := q_commentEnd_2 (κ := κ) (b := b) (R := R) (X := X) (Y := Y) (Z := Z) (M := M) (O := O) (D := D) (s := s) hs hz (z - p) q_fu p (by omega) (by unfold q_fu; omega)
    have e2 : q_nx (X 3) z p = q_to (fun i => !decide (X 3 i = 10)) (z - p) p := by unfold q_nx; rw [if_pos c35]
    have e3 : q_tk ln (X 3) z p = none := by unfold q_tk; rw [if_pos c35]
    rw [e2] at hnx ⊢
    rw [e3]
    simp (disch := first | rfl | omega) only [↓q_br, q_rt, q_rz, q_gd, q_ca, ↓reduceIte, F_X10_scan_7B, F_X10_commentEnd, ↓q_gA_2_0, ↓q_gI_2_5, ↓q_is_2, ↓q_lI_3, hs, nI_leI, hzp, c35, not_true_eq_false, e1, q_scan_124, q_pt]
  · have e2 : q_nx (X 3) z p = (if q_row (X 3 p) = true then q_to (fun i => q_row (X 3 i)) (z - p) p else p + 1) := by unfold q_nx; rw [if_neg c35]
    by_cases hr : q_row (X 3 p) = true
    · rw [if_pos hr] at e2
      have e1 := q_rowEnd_2 (κ := κ) (b := b) (R := R) (X := X) (Y := Y) (Z := Z) (M := M) (O := O) (D := D) (s := s) hs hz (z - p) q_fu p (by omega) (by unfold q_fu; omega)
      have e3 : q_tk ln (X 3) z p = some (q_rk (X 3) p (q_to (fun i => q_row (X 3 i)) (z - p) p)) := by unfold q_tk; rw [if_neg c35, if_pos hr]
      rw [e2] at hnx ⊢
      rw [e3]
      have e4 := q_addRow (κ := κ) (b := b) (R := R) (X := X) (Y := Y) (Z := Z) (M := M) (O := O) (D := D) (s := s) hk (by omega) hnx.1 (by omega)
      simp (disch := first | rfl | omega) only [↓q_br, q_rt, q_rz, q_gd, q_ca, ↓reduceIte, F_X10_scan_7B, F_X10_rowEnd, ↓q_gA_2_0, ↓q_gI_2_5, ↓q_is_2, ↓q_lI_3, hs, nI_leI, hzp, c35, q_X10_isRowByte, q_b_0, hr, e1, e4, q_scan_124, q_pt, not_false_eq_true, Bool.true_eq_false]
    · rw [if_neg hr] at e2
      have hr' : q_row (X 3 p) = false := by simpa using hr
      rw [e2]
      by_cases c10 : X 3 p = 10
      · have l10 : (10 : Int32).toInt64 = 10 := by decide
        have a4 := q_addToken (κ := κ) (b := b) (R := R) (X := X) (Y := Y) (Z := Z) (M := M) (O := O) (D := D) (s := s) (τ := 4) (p := p) (e := p + 1) (w := 10) hk (by omega) (by decide)
        have n4 : nI 4 = 4 := rfl
        rw [n4] at a4
        rw [c10] at hr'
        simp (disch := first | rfl | omega) only [↓q_br, q_rt, q_rz, q_gd, q_ca, ↓reduceIte, F_X10_scan_7B, ↓q_gA_2_0, ↓q_gI_2_5, ↓q_is_2, ↓q_lI_3, hs, nI_leI, hzp, c35, c10, q_X10_isRowByte, q_b_0, hr', nI_1, not_false_eq_true, not_true_eq_false, l10, a4, q_scan_124]
        cases ln
        · simp [q_tk, c10, hr', q_pt]
        · simp [q_tk, c10, hr', q_pt, n4]
      · by_cases c32 : X 3 p = 32
        · rw [c32] at hr'
          have d1 : ¬ (32 : Int32) = 35 := by decide
          have d2 : ¬ (32 : Int32) = 10 := by decide
          simp (disch := first | rfl | omega) only [↓q_br, q_rt, q_rz, q_gd, q_ca, ↓reduceIte, F_X10_scan_7B, ↓q_gA_2_0, ↓q_gI_2_5, ↓q_is_2, ↓q_lI_3, hs, nI_leI, hzp, d1, d2, c32, q_X10_isRowByte, q_b_0, hr', nI_1, not_false_eq_true, q_scan_124]
          simp [q_tk, c32, hr', q_pt]
        · obtain ⟨y1, y2, y3⟩ := q_By_c hB
          obtain ⟨v, v1, v2⟩ := q_indexOf (κ := κ) (i := 2) (C := (I, R, X, Y, Z)) (M := M) (O := O) (s := s) (c := ((X 3 p &&& (255 : Int32)).toUInt32 % 65536).toInt32) hK (by decide) (by decide)
          rw [y1] at v2
          have v3 : v < 0 ↔ q_sg (X 3 p) = false := by
            rw [v2]
            exact ⟨fun h => h.resolve_left (fun h => h.elim y2 y3), fun h => Or.inr h⟩
          have a3 := q_addToken (κ := κ) (b := b) (R := R) (X := X) (Y := Y) (Z := Z) (M := M) (O := O) (D := D) (s := s) (τ := 3) (p := p) (e := p + 1) (w := (X 3 p).toInt64) hk (by omega) (by decide)
          have a0 := q_addToken (κ := κ) (b := b) (R := R) (X := X) (Y := Y) (Z := Z) (M := M) (O := O) (D := D) (s := s) (τ := 0) (p := p) (e := p + 1) (w := (X 3 p).toInt64) hk (by omega) (by decide)
          have n3 : nI 3 = 3 := rfl
          rw [n3] at a3
          rw [nI_0] at a0
          have hsp : ∀ f : Nat → q_X Int32, q_rd (q_sp (some (κ 2)) 0) f (q_H b (I, R, X, Y, Z) M O D, s) = f 2 (q_H b (I, R, X, Y, Z) M O D, s) := fun f => q_sp_0 hK (by decide)
          simp (disch := first | rfl | omega) only [↓q_br, q_rt, q_rz, q_gd, q_ca, ↓reduceIte, F_X10_scan_7B, F_X10_scan_116, ↓q_gA_2_0, ↓q_gI_2_5, ↓q_is_2, ↓q_lI_3, hs, nI_leI, hzp, c35, c10, c32, q_X10_isRowByte, q_b_0, hr', nI_1, not_false_eq_true, hsp, v1, v3]
          by_cases hc : q_sg (X 3 p) = true
          · have hc' : ¬ q_sg (X 3 p) = false := by rw [hc]; decide
            simp (disch := first | rfl | omega) only [hc', if_false, ↓q_is_2, q_ca, a3, q_scan_124]
            simp [q_tk, c35, c10, c32, hr', q_pt, hc, n3]
          · have hc' : q_sg (X 3 p) = false := by simpa using hc
            simp (disch := first | rfl | omega) only [hc', if_true, ↓q_is_2, q_ca, a0, q_scan_124]
            simp [q_tk, c35, c10, c32, hr', q_pt, hc', nI_0]
end QSF
