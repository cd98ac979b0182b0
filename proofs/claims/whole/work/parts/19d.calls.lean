def q_e8 (f : Nat → Int32) (k : Nat) : Nat → Nat → Int64 → Int64
  | 0, _, v => v
  | d + 1, i, v => q_e8 f k d (i + 1) ((v <<< ((8 : Int32).toInt64 &&& 63)) ||| (if k ≤ i then (0 : Int32) else f i &&& 255).toInt64)
theorem q_e8_c {f g : Nat → Int32} {k : Nat} (h : ∀ i, i < k → f i = g i) : ∀ d i v, q_e8 f k d i v = q_e8 g k d i v := by
  intro d
  induction d with
  | zero => intro i v; rfl
  | succ d ih =>
    intro i v
    rw [q_e8, q_e8, ih]
    by_cases hk : k ≤ i
    · rw [if_pos hk, if_pos hk]
    · rw [if_neg hk, if_neg hk, h i (by omega)]
def q_by (a s : Int32) : Int32 := (a >>> (s &&& 31)).toInt8.toInt32
theorem q_by_0 (a : Int32) : a.toInt8.toInt32 = q_by a 0 := by
  unfold q_by
  congr 2
  apply Int32.toBitVec_inj.mp
  ext i hi
  simp [Int32.toBitVec_shiftRight]
theorem q_by_u (a : Int32) : (q_ius a 24).toInt8.toInt32 = q_by a 24 ∧ (q_ius a 16).toInt8.toInt32 = q_by a 16 ∧ (q_ius a 8).toInt8.toInt32 = q_by a 8 := by
  refine ⟨?_, ?_, ?_⟩
  all_goals
    unfold q_by q_ius
    congr 1
    apply Int8.toBitVec_inj.mp
    ext i hi
    simp [Int32.toBitVec_shiftRight, BitVec.getElem_sshiftRight, BitVec.getElem_signExtend, BitVec.getLsbD_sshiftRight]
    have h32 : i < 32 := by omega
    rw [if_pos h32, dif_pos (by omega), decide_eq_true h32, Bool.true_and, BitVec.getLsbD_eq_getElem]
theorem q_by_B (a : Int32) : q_By a.toInt8.toInt32 := by
  have h1 := Int8.toInt_lt a.toInt8
  have h2 := Int8.le_toInt a.toInt8
  refine ⟨Int32.le_iff_toInt_le.mpr ?_, Int32.le_iff_toInt_le.mpr ?_⟩
  · rw [Int8.toInt_toInt32]
    have : (-128 : Int32).toInt = -128 := by decide
    omega
  · rw [Int8.toInt_toInt32]
    have : (127 : Int32).toInt = 127 := by decide
    omega
