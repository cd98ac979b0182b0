/-! ===== rows of bytes, numbers, tokens: what a scan finds ===== -/
def q_to (c : Nat → Bool) : Nat → Nat → Nat
  | 0, p => p
  | n + 1, p => if c p = true then q_to c n (p + 1) else p
theorem q_to_b (c : Nat → Bool) : ∀ n p, p ≤ q_to c n p ∧ q_to c n p ≤ p + n := by
  intro n
  induction n with
  | zero => intro p; exact ⟨Nat.le_refl _, Nat.le_refl _⟩
  | succ n ih =>
    intro p
    unfold q_to
    split
    · have := ih (p + 1)
      omega
    · omega
theorem q_to_g {c : Nat → Bool} {n p : Nat} (h : c p = true) (hn : 0 < n) : p < q_to c n p := by
  obtain ⟨m, rfl⟩ : ∃ m, n = m + 1 := ⟨n - 1, by omega⟩
  unfold q_to
  rw [if_pos h]
  have := q_to_b c m (p + 1)
  omega
theorem q_to_a (c : Nat → Bool) : ∀ n p i, p ≤ i → i < q_to c n p → c i = true := by
  intro n
  induction n with
  | zero => intro p i h1 h2; unfold q_to at h2; omega
  | succ n ih =>
    intro p i h1 h2
    unfold q_to at h2
    by_cases h : c p = true
    · rw [if_pos h] at h2
      rcases Nat.eq_or_lt_of_le h1 with h3 | h3
      · rw [← h3]; exact h
      · exact ih (p + 1) i h3 h2
    · rw [if_neg h] at h2; omega
/-- a digit's worth, 16 for none -/
def q_dv (c : Int32) : Int32 := if c < 48 ∨ 57 < c then (if c < 97 ∨ 102 < c then (if c < 65 ∨ 70 < c then 16 else c - 65 + 10) else c - 97 + 10) else c - 48
def q_dn (c : Int32) : Nat := (q_dv c).toNatClampNeg
def q_vf (base : Nat) (B : Nat → Int32) : Nat → Nat → Nat → Option Nat
  | 0, _, v => some v
  | n + 1, p, v => if q_dn (B p) < base then q_vf base B n (p + 1) (v * base + q_dn (B p)) else none
def q_num (B : Nat → Int32) (f t : Nat) : Option Nat :=
  if 2 < t - f ∧ B f = 48 ∧ B (f + 1) = 120 then (if t - f ≤ 10 then q_vf 16 B (t - f - 2) (f + 2) 0 else none)
  else if t - f ≤ 10 then (match q_vf 10 B (t - f) f 0 with
    | some v => if v < 4294967296 then some v else none
    | none => none)
  else none
theorem q_dv_n (c : Int32) : q_dv c = nI (q_dn c) ∧ q_dn c ≤ 16 := by
  have h0 : 0 ≤ q_dv c ∧ q_dv c ≤ 16 := by
    unfold q_dv
    grind
  obtain ⟨j, h1, h2⟩ := nI_of2 (x := q_dv c) (M := 16) (n := 16) (by decide) (Int32.not_lt.mpr h0.1) h0.2
  have h3 : q_dn c = j := by
    unfold q_dn
    rw [h2, nI_clamp (by omega)]
  exact ⟨by rw [h3, h2], by omega⟩
def q_sg (c : Int32) : Bool := (q_tt 2).contains c
abbrev q_Tok : Type := Nat × Nat × Nat × Int64
def q_rk (B : Nat → Int32) (p e : Nat) : Nat × Int64 :=
  if q_dgt (B p) = true then (match q_num B p e with
    | some v => (2, lN v)
    | none => (0, -1))
  else if e - p ≤ 20 then (1, -1) else (0, -1)
/-- the token that begins at p, if one does: its type and its worth -/
def q_tk (ln : Bool) (B : Nat → Int32) (z p : Nat) : Option (Nat × Int64) :=
  if B p = 35 then none
  else if q_row (B p) = true then
    some (q_rk B p (q_to (fun i => q_row (B i)) (z - p) p))
  else if B p = 10 then (if ln = true then some (4, 10) else none)
  else if B p = 32 then none
  else some (if q_sg (B p) = true then 3 else 0, (B p).toInt64)
def q_nx (B : Nat → Int32) (z p : Nat) : Nat :=
  if B p = 35 then q_to (fun i => !decide (B i = 10)) (z - p) p
  else if q_row (B p) = true then q_to (fun i => q_row (B i)) (z - p) p
  else p + 1
def q_sc (ln : Bool) (B : Nat → Int32) (z : Nat) : Nat → Nat → List q_Tok
  | 0, _ => []
  | n + 1, p => if z ≤ p then [] else (match q_tk ln B z p with
    | some x => (x.1, p, q_nx B z p, x.2) :: q_sc ln B z n (q_nx B z p)
    | none => q_sc ln B z n (q_nx B z p))
theorem q_nx_b {B : Nat → Int32} {z p : Nat} (h : p < z) : p < q_nx B z p ∧ q_nx B z p ≤ z := by
  unfold q_nx
  split
  · rename_i h1
    refine ⟨q_to_g (by simp [h1]) (by omega), ?_⟩
    have := (q_to_b (fun i => !decide (B i = 10)) (z - p) p).2
    omega
  · split
    · rename_i h1
      refine ⟨q_to_g h1 (by omega), ?_⟩
      have := (q_to_b (fun i => q_row (B i)) (z - p) p).2
      omega
    · omega
theorem q_sc_len (ln : Bool) (B : Nat → Int32) (z : Nat) : ∀ n p, p ≤ z → (q_sc ln B z n p).length + p ≤ z := by
  intro n
  induction n with
  | zero => intro p hp; simpa [q_sc] using hp
  | succ n ih =>
    intro p hp
    unfold q_sc
    by_cases h : z ≤ p
    · rw [if_pos h]; simpa using hp
    · rw [if_neg h]
      have h1 := q_nx_b (B := B) (Nat.lt_of_not_le h)
      have h2 := ih (q_nx B z p) h1.2
      split
      · rw [List.length_cons]; omega
      · omega
theorem nI_sub {a b : Nat} (h : b ≤ a) : nI a - nI b = nI (a - b) := by
  have : nI a = nI (a - b) + nI b := by rw [nI_add, Nat.sub_add_cancel h]
  rw [this, Int32.add_sub_cancel]
theorem q_lN_i {n : Nat} (h : n < 2 ^ 63) : (lN n).toInt = (n : Int) := lg_ofNat_toInt h
theorem q_lN_lt {a b : Nat} (ha : a < 2 ^ 63) (hb : b < 2 ^ 63) : lN a < lN b ↔ a < b := by
  rw [Int64.lt_iff_toInt_lt, q_lN_i ha, q_lN_i hb]; omega
theorem q_lN_le {a b : Nat} (ha : a < 2 ^ 63) (hb : b < 2 ^ 63) : lN a ≤ lN b ↔ a ≤ b := by
  rw [Int64.le_iff_toInt_le, q_lN_i ha, q_lN_i hb]; omega
theorem q_lN_eq {a b : Nat} (ha : a < 2 ^ 63) (hb : b < 2 ^ 63) : lN a = lN b ↔ a = b := by
  rw [← Int64.toInt_inj, q_lN_i ha, q_lN_i hb]; omega
theorem q_vf_lt {base : Nat} {B : Nat → Int32} (hb : 0 < base) : ∀ n p v w, q_vf base B n p v = some w → w < (v + 1) * base ^ n := by
  intro n
  induction n with
  | zero => intro p v w h; simp only [q_vf, Option.some.injEq] at h; simp; omega
  | succ n ih =>
    intro p v w h
    unfold q_vf at h
    split at h
    · rename_i hd
      have h1 := ih _ _ _ h
      have h2 : (v * base + q_dn (B p) + 1) * base ^ n ≤ ((v + 1) * base) * base ^ n := Nat.mul_le_mul_right _ (by rw [Nat.add_mul]; omega)
      have h3 : ((v + 1) * base) * base ^ n = (v + 1) * base ^ (n + 1) := by rw [Nat.pow_succ, Nat.mul_assoc, Nat.mul_comm base]
      omega
    · cases h
/-! the class's scan -/
section QSX
variable {κ : Nat → Nat} {b : Nat} {I : Nat → Nat → Int32} {R : Nat → Nat → Option Nat} {X : Nat → Nat → Int32} {Y : Nat → Nat → Int64} {Z : Nat → Nat → Option Nat} {M : q_MT} {O : Nat → Int64} {D : q_Mem} {s : Nat × Nat} {z : Nat}
theorem q_rowEnd_2 (hs : I 2 5 = nI z) (hz : z ≤ 6000) : ∀ n fuel p, p + n = z → n < fuel → F_X10_rowEnd_2 κ fuel (some (b + 2)) (nI p) (q_H b (I, R, X, Y, Z) M O D, s) = some (.inl (nI (q_to (fun i => q_row (X 3 i)) n p)), (q_H b (I, R, X, Y, Z) M O D, s)) := by
  intro n
  induction n with
  | zero =>
    intro fuel p h1 h2
    obtain ⟨f, rfl⟩ : ∃ f, fuel = f + 1 := ⟨fuel - 1, by omega⟩
    have h3 : z ≤ p := by omega
    simp (disch := first | rfl | omega) only [F_X10_rowEnd_2, ↓q_br, q_rt, q_rz, q_gd, q_ca, ↓reduceIte, F_X10_rowEnd_2B, F_X10_rowEnd_28, ↓q_gA_2_0, ↓q_gI_2_5, ↓q_lI_3, hs, nI_leI, h3, q_to]
  | succ n ih =>
    intro fuel p h1 h2
    obtain ⟨f, rfl⟩ : ∃ f, fuel = f + 1 := ⟨fuel - 1, by omega⟩
    have h3 : ¬ z ≤ p := by omega
    simp (disch := first | rfl | omega) only [F_X10_rowEnd_2, ↓q_br, q_rt, q_rz, q_gd, q_ca, ↓reduceIte, F_X10_rowEnd_2B, F_X10_rowEnd_28, ↓q_gA_2_0, ↓q_gI_2_5, ↓q_lI_3, hs, nI_leI, h3, q_X10_isRowByte, q_b_0, nI_1, q_to]
    by_cases h : q_row (X 3 p) = true
    · simpa [h] using ih f (p + 1) (by omega) (by omega)
    · simp [h]
theorem q_commentEnd_2 (hs : I 2 5 = nI z) (hz : z ≤ 6000) : ∀ n fuel p, p + n = z → n < fuel → F_X10_commentEnd_2 κ fuel (some (b + 2)) (nI p) (q_H b (I, R, X, Y, Z) M O D, s) = some (.inl (nI (q_to (fun i => !decide (X 3 i = 10)) n p)), (q_H b (I, R, X, Y, Z) M O D, s)) := by
  intro n
  induction n with
  | zero =>
    intro fuel p h1 h2
    obtain ⟨f, rfl⟩ : ∃ f, fuel = f + 1 := ⟨fuel - 1, by omega⟩
    have h3 : z ≤ p := by omega
    simp (disch := first | rfl | omega) only [F_X10_commentEnd_2, ↓q_br, q_rt, q_rz, q_gd, q_ca, ↓reduceIte, F_X10_commentEnd_2B, F_X10_commentEnd_27, ↓q_gA_2_0, ↓q_gI_2_5, ↓q_lI_3, hs, nI_leI, h3, q_to]
  | succ n ih =>
    intro fuel p h1 h2
    obtain ⟨f, rfl⟩ : ∃ f, fuel = f + 1 := ⟨fuel - 1, by omega⟩
    have h3 : ¬ z ≤ p := by omega
    simp (disch := first | rfl | omega) only [F_X10_commentEnd_2, ↓q_br, q_rt, q_rz, q_gd, q_ca, ↓reduceIte, F_X10_commentEnd_2B, F_X10_commentEnd_27, ↓q_gA_2_0, ↓q_gI_2_5, ↓q_lI_3, hs, nI_leI, h3, nI_1, q_to]
    by_cases h : X 3 p = 10
    · simp [h]
    · simpa [h] using ih f (p + 1) (by omega) (by omega)
theorem q_digitValue {c : Int32} {σ : q_St} : F_X10_digitValue κ c σ = some (.inl (q_dv c), σ) := by
  simp only [↓q_br, q_rt, q_rz, q_gd, q_ca, ↓reduceIte, F_X10_digitValue_61, F_X10_digitValue_59, F_X10_digitValue_37, F_X10_digitValue_17, F_X10_digitValue, q_dv]
  by_cases h1 : c < 48 <;> by_cases h2 : 57 < c <;> by_cases h3 : c < 97 <;> by_cases h4 : 102 < c <;> by_cases h5 : c < 65 <;> by_cases h6 : 70 < c <;> simp [h1, h2, h3, h4, h5, h6]
/-- a number as the two programs give it -/
def q_ov (o : Option Nat) : Int64 := match o with
  | some v => lN v
  | none => -1
def q_cap (o : Option Nat) : Option Nat := match o with
  | some v => if v < 4294967296 then some v else none
  | none => none
theorem q_valueOf_18 {base : Nat} (hz : z ≤ 6000) (hb : 0 < base ∧ base ≤ 16) : ∀ n fuel p v, p + n = z → n < fuel → (v + 1) * base ^ n ≤ 2 ^ 40 → F_X10_valueOf_18 κ fuel (some (b + 2)) (nI z) (nI base) (lN v) (nI p) (q_H b (I, R, X, Y, Z) M O D, s) = some (.inl (q_ov (q_cap (q_vf base (X 3) n p v))), (q_H b (I, R, X, Y, Z) M O D, s)) := by
  intro n
  induction n with
  | zero =>
    intro fuel p v h1 h2 h3
    obtain ⟨f, rfl⟩ : ∃ f, fuel = f + 1 := ⟨fuel - 1, by omega⟩
    have h4 : z ≤ p := by omega
    rw [Nat.pow_zero, Nat.mul_one] at h3
    have h5 : ((4294967296 : Int64) ≤ lN v) ↔ 4294967296 ≤ v := q_lN_le (a := 4294967296) (b := v) (by decide) (by omega)
    simp (disch := first | rfl | omega) only [F_X10_valueOf_18, ↓q_br, q_rt, q_rz, q_gd, q_ca, ↓reduceIte, F_X10_valueOf_18B, F_X10_valueOf_80, ↓q_gA_2_0, ↓q_lI_3, nI_leI, h4, q_vf, q_cap, lg_cmp_ge, h5]
    by_cases h6 : v < 4294967296
    · simp [h6, Nat.not_le.mpr h6, q_ov]
    · simp [h6, Nat.not_lt.mp h6, q_ov]
  | succ n ih =>
    intro fuel p v h1 h2 h3
    obtain ⟨f, rfl⟩ : ∃ f, fuel = f + 1 := ⟨fuel - 1, by omega⟩
    have h4 : ¬ z ≤ p := by omega
    obtain ⟨e1, e2⟩ := q_dv_n (X 3 p)
    have e3 : lN v * (nI base).toInt64 + (nI (q_dn (X 3 p))).toInt64 = lN (v * base + q_dn (X 3 p)) := by
      rw [nI_l (by omega), nI_l (by omega), lN_mul, lN_add]
    simp (disch := first | rfl | omega) only [F_X10_valueOf_18, ↓q_br, q_rt, q_rz, q_gd, q_ca, ↓reduceIte, F_X10_valueOf_18B, F_X10_valueOf_80, ↓q_gA_2_0, ↓q_lI_3, nI_leI, nI_ltI, h4, q_digitValue, e1, e3, nI_1, q_vf]
    by_cases h6 : q_dn (X 3 p) < base
    · simp only [h6, if_true]
      refine ih f (p + 1) _ (by omega) (by omega) ?_
      have h7 : (v * base + q_dn (X 3 p) + 1) * base ^ n ≤ ((v + 1) * base) * base ^ n := Nat.mul_le_mul_right _ (by rw [Nat.add_mul]; omega)
      have h8 : ((v + 1) * base) * base ^ n = (v + 1) * base ^ (n + 1) := by rw [Nat.pow_succ, Nat.mul_assoc, Nat.mul_comm base]
      omega
    · simp [h6, q_cap, q_ov]
/-- a number's row of bytes from f to t -/
theorem q_nar {τ : Nat} (h : τ ≤ 5) : vp_nar .byte (nI τ).toInt8.toInt32 = nI τ := by
  have : ∀ τ, τ ≤ 5 → vp_nar .byte (nI τ).toInt8.toInt32 = nI τ := by decide
  exact this τ h
theorem q_addToken {k τ e p : Nat} {w : Int64} (hk : I 2 6 = nI k) (h : k < 6003) (hτ : τ ≤ 5) : F_X10_addToken κ (some (b + 2)) (nI τ) (nI p) (nI e) w (q_H b (I, R, X, Y, Z) M O D, s) = some (.inl (), (q_H b (q_u2 I 2 6 (nI (k + 1)), R, q_u2 (q_u2 (q_u2 X 4 k (nI τ)) 5 k (nI p)) 6 k (nI e), q_u2 Y 7 k w, Z) M O D, s)) := by
  simp (disch := first | rfl | omega) only [↓q_br, q_rt, q_rz, q_gd, q_ca, ↓reduceIte, F_X10_addToken, ↓q_gA_2_1, ↓q_gA_2_2, ↓q_gA_2_3, ↓q_gA_2_4, ↓q_gI_2_6, ↓q_pI_2_6, ↓q_sI_4, ↓q_sI_5, ↓q_sI_6, ↓q_sL_7, hk, q_nar, nI_1]
end QSX
