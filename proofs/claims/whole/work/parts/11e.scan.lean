section QSE
variable {κ : Nat → Nat} {b : Nat} {I : Nat → Nat → Int32} {R : Nat → Nat → Option Nat} {X : Nat → Nat → Int32} {Y : Nat → Nat → Int64} {Z : Nat → Nat → Option Nat} {M : q_MT} {O : Nat → Int64} {D : q_Mem} {s : Nat × Nat} {z : Nat}
theorem q_valueOf {base md f t : Nat} (hf : f ≤ t) (ht : t ≤ 6000) (hb : 0 < base ∧ base ≤ 16) (hm : md < 100) (hp : base ^ md ≤ 2 ^ 40) : F_X10_valueOf κ (some (b + 2)) (nI f) (nI t) (nI base) (nI md) (q_H b (I, R, X, Y, Z) M O D, s) = some (.inl (if t - f ≤ md then q_ov (q_cap (q_vf base (X 3) (t - f) f 0)) else -1), (q_H b (I, R, X, Y, Z) M O D, s)) := by
  simp (disch := first | rfl | omega) only [↓q_br, q_rt, q_rz, q_gd, q_ca, ↓reduceIte, F_X10_valueOf, nI_sub, nI_leI]
  by_cases h : t - f ≤ md
  · rw [if_pos h, if_pos h]
    have h1 : (0 + 1) * base ^ (t - f) ≤ 2 ^ 40 := by
      have := Nat.pow_le_pow_right hb.1 h
      omega
    exact q_valueOf_18 (κ := κ) ht hb (t - f) q_fu f 0 (by omega) (by unfold q_fu; omega) h1
  · rw [if_neg h, if_neg h]
theorem q_num_16 {B : Nat → Int32} {f n : Nat} (h : n ≤ 8) : q_cap (q_vf 16 B n f 0) = q_vf 16 B n f 0 := by
  cases e : q_vf 16 B n f 0 with
  | none => rfl
  | some w =>
    have h1 := q_vf_lt (by decide) n f 0 w e
    have h2 : 16 ^ n ≤ 16 ^ 8 := Nat.pow_le_pow_right (by decide) h
    have h3 : w < 4294967296 := by omega
    simp [q_cap, h3]
theorem q_num_lt {B : Nat → Int32} {f t v : Nat} (h : q_num B f t = some v) : v < 4294967296 := by
  unfold q_num at h
  split at h
  · split at h
    · have h1 := q_vf_lt (by decide) _ _ _ _ h
      have h2 : 16 ^ (t - f - 2) ≤ 16 ^ 8 := Nat.pow_le_pow_right (by decide) (by omega)
      omega
    · cases h
  · split at h
    · split at h
      · split at h
        · simp only [Option.some.injEq] at h; omega
        · cases h
      · cases h
    · cases h
theorem q_ov_ge {o : Option Nat} (h : ∀ v, o = some v → v < 4294967296) : (0 ≤ q_ov o) ↔ o.isSome = true := by
  cases o with
  | none => simp [q_ov]
  | some v =>
    have h1 := h v rfl
    have h2 : (0 : Int64) ≤ lN v := (q_lN_le (a := 0) (b := v) (by decide) (by omega)).mpr (Nat.zero_le _)
    simp [q_ov, h2]
theorem q_addRow_101 {k p e : Nat} {o : Option Nat} (hk : I 2 6 = nI k) (h : k < 6003) (ho : ∀ v, o = some v → v < 4294967296) : F_X10_addRow_101 κ (some (b + 2)) (nI p) (nI e) (q_ov o) (q_H b (I, R, X, Y, Z) M O D, s) = some (.inl (), (q_H b (q_u2 I 2 6 (nI (k + 1)), R, q_u2 (q_u2 (q_u2 X 4 k (nI (if o.isSome = true then 2 else 0))) 5 k (nI p)) 6 k (nI e), q_u2 Y 7 k (q_ov o), Z) M O D, s)) := by
  have a2 := q_addToken (κ := κ) (b := b) (R := R) (X := X) (Y := Y) (Z := Z) (M := M) (O := O) (D := D) (s := s) (τ := 2) (p := p) (e := e) (w := q_ov o) hk h (by decide)
  have a0 := q_addToken (κ := κ) (b := b) (R := R) (X := X) (Y := Y) (Z := Z) (M := M) (O := O) (D := D) (s := s) (τ := 0) (p := p) (e := e) (w := q_ov o) hk h (by decide)
  have n2 : nI 2 = 2 := rfl
  rw [n2] at a2
  rw [nI_0] at a0
  simp only [F_X10_addRow_101, q_br, lg_cmp_ge, q_ov_ge ho]
  by_cases hs : o.isSome = true
  · simp only [hs, if_true, F_X10_addRow_116, ↓q_is_2, q_ca, a2, q_rt, n2]
  · simp only [hs, if_false, F_X10_addRow_116, ↓q_is_2, q_ca, a0, q_rt, nI_0, Bool.false_eq_true]
theorem q_rk_num {B : Nat → Int32} {p e : Nat} (h : q_dgt (B p) = true) : q_rk B p e = (if (q_num B p e).isSome = true then 2 else 0, q_ov (q_num B p e)) := by
  unfold q_rk
  rw [if_pos h]
  cases q_num B p e <;> rfl
theorem q_addRow {k p e : Nat} (hk : I 2 6 = nI k) (h : k < 6003) (hp : p < e) (he : e ≤ 6000) : F_X10_addRow κ (some (b + 2)) (nI p) (nI e) (q_H b (I, R, X, Y, Z) M O D, s) = some (.inl (), (q_H b (q_u2 I 2 6 (nI (k + 1)), R, q_u2 (q_u2 (q_u2 X 4 k (nI (q_rk (X 3) p e).1)) 5 k (nI p)) 6 k (nI e), q_u2 Y 7 k (q_rk (X 3) p e).2, Z) M O D, s)) := by
  have h2 : (nI (e - p) ≤ (2 : Int32)) ↔ e - p ≤ 2 := nI_leI (b := 2) (by omega) (by decide)
  have h20 : ((20 : Int32) < nI (e - p)) ↔ 20 < e - p := nI_ltI (a := 20) (by decide) (by omega)
  have e1 : nI p + 2 = nI (p + 2) := nI_add p 2
  by_cases hd : q_dgt (X 3 p) = true
  · have key : F_X10_addRow κ (some (b + 2)) (nI p) (nI e) (q_H b (I, R, X, Y, Z) M O D, s) = F_X10_addRow_101 κ (some (b + 2)) (nI p) (nI e) (q_ov (q_num (X 3) p e)) (q_H b (I, R, X, Y, Z) M O D, s) := by
      have v10 : F_X10_valueOf κ (some (b + 2)) (nI p) (nI e) 10 10 (q_H b (I, R, X, Y, Z) M O D, s) = _ := q_valueOf (κ := κ) (b := b) (I := I) (R := R) (X := X) (Y := Y) (Z := Z) (M := M) (O := O) (D := D) (s := s) (base := 10) (md := 10) (f := p) (t := e) (by omega) he (by decide) (by decide) (by decide)
      by_cases hx : 2 < e - p ∧ X 3 p = 48 ∧ X 3 (p + 1) = 120
      · have v16 : F_X10_valueOf κ (some (b + 2)) (nI (p + 2)) (nI e) 16 8 (q_H b (I, R, X, Y, Z) M O D, s) = _ := q_valueOf (κ := κ) (b := b) (I := I) (R := R) (X := X) (Y := Y) (Z := Z) (M := M) (O := O) (D := D) (s := s) (base := 16) (md := 8) (f := p + 2) (t := e) (by omega) he (by decide) (by decide) (by decide)
        obtain ⟨x1, x2, x3⟩ := hx
        have y1 : ¬ e - p ≤ 2 := by omega
        have d48 : q_dgt 48 = true := by decide
        simp (disch := first | rfl | omega) only [↓q_br, q_rt, q_rz, q_gd, q_ca, ↓reduceIte, F_X10_addRow, F_X10_addRow_71, F_X10_addRow_70, ↓q_gA_2_0, ↓q_is_2, ↓q_lI_3, q_X10_isDigit, q_b_0, hd, nI_sub, h2, y1, x2, nI_1, x3, d48, e1, v16, not_true_eq_false, Bool.true_eq_false, not_false_eq_true]
        simp only [q_num, x1, x2, x3, and_self, if_true]
        have y2 : (e - (p + 2) ≤ 8) ↔ (e - p ≤ 10) := by omega
        have y3 : e - (p + 2) = e - p - 2 := by omega
        simp only [y2]
        by_cases y4 : e - p ≤ 10
        · simp only [y4, if_true, y3]
          rw [q_num_16 (by omega)]
          rfl
        · simp only [y4, if_false]
          rfl
      · have k10 : (if e - p ≤ 10 then q_ov (q_cap (q_vf 10 (X 3) (e - p) p 0)) else -1) = q_ov (q_num (X 3) p e) := by
          unfold q_num
          rw [if_neg hx]
          by_cases y4 : e - p ≤ 10
          · rw [if_pos y4, if_pos y4]
            rfl
          · rw [if_neg y4, if_neg y4]
            rfl
        rw [k10] at v10
        have g70 : F_X10_addRow_70 κ (some (b + 2)) (nI p) (nI e) (q_H b (I, R, X, Y, Z) M O D, s) = F_X10_addRow_101 κ (some (b + 2)) (nI p) (nI e) (q_ov (q_num (X 3) p e)) (q_H b (I, R, X, Y, Z) M O D, s) := by
          simp (disch := first | rfl | omega) only [↓q_br, q_rt, q_rz, q_gd, q_ca, ↓reduceIte, F_X10_addRow_71, F_X10_addRow_70, ↓q_is_2, v10]
        simp (disch := first | rfl | omega) only [↓q_br, q_rt, q_rz, q_gd, q_ca, ↓reduceIte, F_X10_addRow, ↓q_gA_2_0, ↓q_lI_3, q_X10_isDigit, q_b_0, hd, nI_sub, h2, nI_1, Bool.true_eq_false, not_false_eq_true]
        by_cases y1 : e - p ≤ 2
        · simp only [y1, if_true, g70]
        · by_cases x2 : X 3 p = 48
          · simp (disch := first | rfl | omega) only [y1, x2, not_true_eq_false, if_false, ↓q_lI_3]
            by_cases x3 : X 3 (p + 1) = 120
            · exact absurd ⟨by omega, x2, x3⟩ hx
            · simp only [x3, not_false_eq_true, if_true, g70]
          · simp only [y1, x2, not_false_eq_true, if_false, if_true, g70]
    rw [key, q_addRow_101 hk h (fun v hv => q_num_lt hv), q_rk_num hd]
  · have a1 := q_addToken (κ := κ) (b := b) (R := R) (X := X) (Y := Y) (Z := Z) (M := M) (O := O) (D := D) (s := s) (τ := 1) (p := p) (e := e) (w := -1) hk h (by decide)
    have a0 := q_addToken (κ := κ) (b := b) (R := R) (X := X) (Y := Y) (Z := Z) (M := M) (O := O) (D := D) (s := s) (τ := 0) (p := p) (e := e) (w := -1) hk h (by decide)
    have n1 : nI 1 = 1 := rfl
    rw [n1] at a1
    rw [nI_0] at a0
    have hd' : q_dgt (X 3 p) = false := by simpa using hd
    simp (disch := first | rfl | omega) only [↓q_br, q_rt, q_rz, q_gd, q_ca, ↓reduceIte, F_X10_addRow, F_X10_addRow_26, ↓q_gA_2_0, ↓q_is_2, ↓q_lI_3, q_X10_isDigit, q_b_0, hd', nI_sub, h20, not_true_eq_false]
    unfold q_rk
    rw [if_neg hd]
    by_cases y : e - p ≤ 20
    · have y' : ¬ 20 < e - p := by omega
      simp only [y, y', if_true, if_false, a1, n1]
    · have y' : 20 < e - p := by omega
      simp only [y, y', if_true, if_false, a0, nI_0]
end QSE
