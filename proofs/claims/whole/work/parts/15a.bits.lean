/-! ===== the bits of a word (the first rows are pasted from kit/laws) ===== -/
theorem wb_tb (n : Nat) : (lN n).toBitVec = BitVec.ofNat 64 n := rfl
theorem wb_inj {a b : Int64} (h : a.toBitVec = b.toBitVec) : a = b := Int64.toBitVec_inj.mp h
theorem wb_tn {n : Nat} (h : n < 2 ^ 64) : (lN n).toBitVec.toNat = n := by rw [wb_tb, BitVec.toNat_ofNat, Nat.mod_eq_of_lt h]
theorem wb_of (x : Int64) : ∃ n, n < 2 ^ 64 ∧ x = lN n := ⟨x.toBitVec.toNat, x.toBitVec.isLt, wb_inj (by rw [wb_tb]; simp)⟩
theorem wb_of32 (x : Int32) : ∃ n, n < 2 ^ 32 ∧ x = nI n := ⟨x.toBitVec.toNat, x.toBitVec.isLt, Int32.toBitVec_inj.mp (by show _ = BitVec.ofNat 32 _; simp)⟩
theorem wb_c : ∀ k, k < 64 → ((nI k).toInt64 &&& 63) = lN k := by decide +kernel
theorem wb_cu : ∀ k, k < 64 → ((nI k).toInt64.toUInt64 &&& Int64.toUInt64 63) = UInt64.ofNat k := by decide +kernel
theorem wb_sm : ∀ k, k < 64 → (BitVec.ofNat 64 k).smod 64 = BitVec.ofNat 64 k := by decide +kernel
theorem wb_pw {a b : Nat} (h : a ≤ b) : 2 ^ b = 2 ^ a * 2 ^ (b - a) := by rw [← Nat.pow_add]; congr 1; omega
theorem wb_lt2 {a b : Nat} (h : a < b) : 2 ^ a < 2 ^ b := Nat.pow_lt_pow_right (by decide) h
theorem wb_mod (n : Nat) : lN n = lN (n % 2 ^ 64) := wb_inj (by rw [wb_tb, wb_tb]; apply BitVec.eq_of_toNat_eq; rw [BitVec.toNat_ofNat, BitVec.toNat_ofNat, Nat.mod_mod])
theorem wb_shr {n k : Nat} (hn : n < 2 ^ 64) (hk : k < 64) : ((lN n).toUInt64 >>> ((nI k).toInt64.toUInt64 &&& Int64.toUInt64 63)).toInt64 = lN (n / 2 ^ k) := by
  rw [wb_cu k hk]
  apply wb_inj
  apply BitVec.eq_of_toNat_eq
  show ((lN n).toUInt64 >>> UInt64.ofNat k).toNat = (BitVec.ofNat 64 _).toNat
  have h1 : (UInt64.ofNat k).toNat = k := by
    show (BitVec.ofNat 64 k).toNat = k
    rw [BitVec.toNat_ofNat, Nat.mod_eq_of_lt (by omega)]
  have h2 : (lN n).toUInt64.toNat = n := wb_tn hn
  rw [UInt64.toNat_shiftRight, h1, h2, Nat.mod_eq_of_lt hk, Nat.shiftRight_eq_div_pow, BitVec.toNat_ofNat, Nat.mod_eq_of_lt (Nat.lt_of_le_of_lt (Nat.div_le_self _ _) hn)]
theorem wb_shl (n : Nat) {k : Nat} (hk : k < 64) : lN n <<< ((nI k).toInt64 &&& 63) = lN (n * 2 ^ k) := by
  rw [wb_c k hk]
  apply wb_inj
  rw [Int64.toBitVec_shiftLeft, wb_tb, wb_tb, wb_tb, wb_sm k hk]
  apply BitVec.eq_of_toNat_eq
  rw [BitVec.shiftLeft_eq', BitVec.toNat_shiftLeft, BitVec.toNat_ofNat, BitVec.toNat_ofNat, BitVec.toNat_ofNat, Nat.mod_eq_of_lt (show k < 2 ^ 64 by omega), Nat.shiftLeft_eq, Nat.mul_mod, Nat.mod_mod, ← Nat.mul_mod]
theorem wb_and {a b : Nat} (ha : a < 2 ^ 64) (hb : b < 2 ^ 64) : lN a &&& lN b = lN (a &&& b) := by
  apply wb_inj
  rw [Int64.toBitVec_and, wb_tb, wb_tb, wb_tb]
  apply BitVec.eq_of_toNat_eq
  rw [BitVec.toNat_and, BitVec.toNat_ofNat, BitVec.toNat_ofNat, BitVec.toNat_ofNat, Nat.mod_eq_of_lt ha, Nat.mod_eq_of_lt hb, Nat.mod_eq_of_lt (Nat.and_lt_two_pow _ hb)]
theorem wb_or {a b : Nat} (ha : a < 2 ^ 64) (hb : b < 2 ^ 64) : lN a ||| lN b = lN (a ||| b) := by
  apply wb_inj
  rw [Int64.toBitVec_or, wb_tb, wb_tb, wb_tb]
  apply BitVec.eq_of_toNat_eq
  rw [BitVec.toNat_or, BitVec.toNat_ofNat, BitVec.toNat_ofNat, BitVec.toNat_ofNat, Nat.mod_eq_of_lt ha, Nat.mod_eq_of_lt hb, Nat.mod_eq_of_lt (Nat.or_lt_two_pow ha hb)]
theorem wb_mask {n k : Nat} (hn : n < 2 ^ 64) (hk : k < 64) : lN n &&& lN (2 ^ k - 1) = lN (n % 2 ^ k) := by
  rw [wb_and hn (by have := wb_lt2 hk; omega), Nat.and_two_pow_sub_one_eq_mod]
theorem wb_a1 {n : Nat} (hn : n < 2 ^ 64) : lN n &&& 1 = lN (n % 2) := wb_mask (k := 1) hn (by decide)
theorem wb_bit {n k : Nat} (hn : n < 2 ^ 64) (hk : k < 64) : ((lN n).toUInt64 >>> ((nI k).toInt64.toUInt64 &&& Int64.toUInt64 63)).toInt64 &&& 1 = lN (n / 2 ^ k % 2) := by
  rw [wb_shr hn hk, wb_a1 (Nat.lt_of_le_of_lt (Nat.div_le_self _ _) hn)]
theorem q_sshr {v k : Nat} (hv : v < 2 ^ 63) (hk : k < 64) : lN v >>> ((nI k).toInt64 &&& 63) = lN (v / 2 ^ k) := by
  rw [wb_c k hk]
  apply wb_inj
  rw [Int64.toBitVec_shiftRight, wb_tb, wb_tb, wb_tb, wb_sm k hk, BitVec.sshiftRight_eq', BitVec.sshiftRight_eq_of_msb_false (by
    rw [BitVec.msb_eq_decide, BitVec.toNat_ofNat, Nat.mod_eq_of_lt (by omega)]
    simp; omega)]
  apply BitVec.eq_of_toNat_eq
  rw [BitVec.toNat_ushiftRight, BitVec.toNat_ofNat, BitVec.toNat_ofNat, BitVec.toNat_ofNat, Nat.mod_eq_of_lt (show k < 2 ^ 64 by omega), Nat.mod_eq_of_lt (show v < 2 ^ 64 by omega), Nat.shiftRight_eq_div_pow, Nat.mod_eq_of_lt (Nat.lt_of_le_of_lt (Nat.div_le_self _ _) (by omega))]
theorem q_bit {v k : Nat} (hv : v < 2 ^ 63) (hk : k < 64) : (lN v >>> ((nI k).toInt64 &&& 63)) &&& 1 = lN (if v.testBit k = true then 1 else 0) := by
  rw [q_sshr hv hk, wb_a1 (Nat.lt_of_le_of_lt (Nat.div_le_self _ _) (by omega))]
  congr 1
  rw [Nat.testBit_eq_decide_div_mod_eq]
  have := Nat.mod_two_eq_zero_or_one (v / 2 ^ k)
  rcases this with h | h <;> simp [h]
theorem q_orb {v k : Nat} (hv : v < 2 ^ 63) (hk : k < 63) : lN v ||| ((1 : Int64) <<< ((nI k).toInt64 &&& 63)) = lN (v ||| 2 ^ k) := by
  have h2 : 2 ^ k < 2 ^ 63 := wb_lt2 hk
  rw [q_shl1 k hk, wb_or (by omega) (by omega)]
/-- what stands for the bit j of a word of z bits whose sources, from its highest bit on, are c -/
def q_ca9 (z : Nat) (c : List Int32) (j : Nat) : Option Int32 := if j < z then c[z - 1 - j]? else none
def q_cm (z : Nat) (c : List Int32) (j : Nat) : Bool := match q_ca9 z c j with
  | some s => decide (s < 0)
  | none => false
def q_cd (z : Nat) (c : List Int32) (j : Nat) : Bool := match q_ca9 z c j with
  | some s => decide (s = -2)
  | none => false
def q_cs (z : Nat) (c : List Int32) (j : Nat) : Int32 := match q_ca9 z c j with
  | some s => if s < 0 then 0 else s + 1
  | none => 0
def q_CWd (z : Nat) (W : List (List Int32)) (fm fd : Nat → Int64) (fs : Nat → Int32) : Prop := ∀ w, w < 4 → ∃ mv dv : Nat, fm w = lN mv ∧ fd w = lN dv ∧ mv < 2 ^ 32 ∧ dv < 2 ^ 32 ∧ ∀ j, j < 32 → mv.testBit j = q_cm z (W.getD w []) j ∧ dv.testBit j = q_cd z (W.getD w []) j ∧ fs (w * 32 + j) = q_cs z (W.getD w []) j
theorem q_ca9_out {z : Nat} {c : List Int32} {s : Int32} {j : Nat} (h : z ≤ c.length) : q_ca9 z (c ++ [s]) j = q_ca9 z c j := by
  unfold q_ca9
  split
  · rw [List.getElem?_append_left (by omega)]
  · rfl
theorem q_ca9_s {z : Nat} {c : List Int32} {s : Int32} (h : c.length < z) : q_ca9 z (c ++ [s]) (z - 1 - c.length) = some s ∧ q_ca9 z c (z - 1 - c.length) = none := by
  unfold q_ca9
  have e : z - 1 - (z - 1 - c.length) = c.length := by omega
  rw [if_pos (by omega), if_pos (by omega), e]
  simp
theorem q_ca9_n {z : Nat} {c : List Int32} {s : Int32} {j : Nat} (h : c.length < z) (hj : j ≠ z - 1 - c.length) : q_ca9 z (c ++ [s]) j = q_ca9 z c j := by
  unfold q_ca9
  split
  · by_cases h1 : z - 1 - j < c.length
    · rw [List.getElem?_append_left h1]
    · rw [List.getElem?_append_right (by omega), List.getElem?_eq_none (by omega : c.length ≤ z - 1 - j)]
      rw [List.getElem?_eq_none]
      simp
      omega
  · rfl
theorem q_lw {W : List (List Int32)} {c : List Int32} {w : Nat} : (W ++ [c]).getD w [] = if w = W.length then c else W.getD w [] := by
  by_cases h : w = W.length
  · subst h; simp
  · rw [if_neg h]
    by_cases h1 : w < W.length
    · simp only [List.getD, List.getElem?_append_left h1]
    · simp [List.getD, List.getElem?_eq_none (by omega : W.length ≤ w), List.getElem?_eq_none (by simp; omega : (W ++ [c]).length ≤ w)]
/-- a source too many changes nothing -/
theorem q_CWd_out {z : Nat} {W : List (List Int32)} {c : List Int32} {s : Int32} {fm fd : Nat → Int64} {fs : Nat → Int32} (h : q_CWd z (W ++ [c]) fm fd fs) (hz : z ≤ c.length) : q_CWd z (W ++ [c ++ [s]]) fm fd fs := by
  intro w hw
  obtain ⟨mv, dv, h1, h2, h3, h4, h5⟩ := h w hw
  refine ⟨mv, dv, h1, h2, h3, h4, fun j hj => ?_⟩
  have h6 := h5 j hj
  rw [q_lw] at h6 ⊢
  by_cases hwe : w = W.length
  · rw [if_pos hwe] at h6 ⊢
    simp only [q_cm, q_cd, q_cs, q_ca9_out hz] at h6 ⊢
    exact h6
  · rw [if_neg hwe] at h6 ⊢
    exact h6
/-- an operand's bit -/
theorem q_CWd_op {z : Nat} {W : List (List Int32)} {c : List Int32} {s : Int32} {fm fd : Nat → Int64} {fs : Nat → Int32} (h : q_CWd z (W ++ [c]) fm fd fs) (hz : c.length < z) (hz2 : z ≤ 32) (hW : W.length < 4) (hs : ¬ s < 0) : q_CWd z (W ++ [c ++ [s]]) fm fd (q_u1 fs (W.length * 32 + (z - 1 - c.length)) (s + 1)) := by
  intro w hw
  obtain ⟨mv, dv, h1, h2, h3, h4, h5⟩ := h w hw
  refine ⟨mv, dv, h1, h2, h3, h4, fun j hj => ?_⟩
  have h6 := h5 j hj
  rw [q_lw] at h6 ⊢
  by_cases hwe : w = W.length
  · subst hwe
    rw [if_pos rfl] at h6 ⊢
    by_cases hje : j = z - 1 - c.length
    · subst hje
      obtain ⟨e1, e2⟩ := q_ca9_s (s := s) hz
      have hs2 : ¬ s = -2 := by rintro rfl; exact hs (by decide)
      simp only [q_cm, q_cd, q_cs, e1, e2, hs, hs2, decide_false, if_false, q_u1_s] at h6 ⊢
      exact ⟨h6.1, h6.2.1, trivial⟩
    · rw [q_u1_n _ _ (by omega)]
      simp only [q_cm, q_cd, q_cs, q_ca9_n hz hje] at h6 ⊢
      exact h6
  · rw [if_neg hwe] at h6 ⊢
    rw [q_u1_n _ _ (by omega)]
    exact h6
/-- a digit -/
theorem q_CWd_dg {z : Nat} {W : List (List Int32)} {c : List Int32} {fm fd : Nat → Int64} {fs : Nat → Int32} (g : Bool) (h : q_CWd z (W ++ [c]) fm fd fs) (hz : c.length < z) (hz2 : z ≤ 32) (hW : W.length < 4) : ∃ mv dv : Nat, fm W.length = lN mv ∧ fd W.length = lN dv ∧ mv < 2 ^ 32 ∧ dv < 2 ^ 32 ∧ q_CWd z (W ++ [c ++ [if g = true then -2 else -1]]) (q_u1 fm W.length (lN (mv ||| 2 ^ (z - 1 - c.length)))) (q_u1 fd W.length (lN (dv ||| (if g = true then 2 ^ (z - 1 - c.length) else 0)))) fs := by
  obtain ⟨mv, dv, h1, h2, h3, h4, h5⟩ := h W.length hW
  have hp : 2 ^ (z - 1 - c.length) < 2 ^ 32 := wb_lt2 (by omega)
  refine ⟨mv, dv, h1, h2, h3, h4, fun w hw => ?_⟩
  by_cases hwe : w = W.length
  · subst hwe
    refine ⟨_, _, q_u1_s _ _ _, q_u1_s _ _ _, Nat.or_lt_two_pow h3 hp, Nat.or_lt_two_pow h4 (by split <;> omega), fun j hj => ?_⟩
    have h6 := h5 j hj
    rw [q_lw, if_pos rfl] at h6 ⊢
    rw [Nat.testBit_or, Nat.testBit_or, Nat.testBit_two_pow, h6.1, h6.2.1, h6.2.2]
    by_cases hje : j = z - 1 - c.length
    · subst hje
      obtain ⟨e1, e2⟩ := q_ca9_s (s := if g = true then -2 else -1) hz
      cases g
      · simp only [Bool.false_eq_true, if_false] at e1
        simp [q_cm, q_cd, q_cs, e1, e2]
      · simp only [if_true] at e1
        simp [q_cm, q_cd, q_cs, e1, e2, Nat.testBit_two_pow]
    · have hne : ¬ z - 1 - c.length = j := fun h => hje h.symm
      have e0 : (if g = true then 2 ^ (z - 1 - c.length) else 0).testBit j = false := by
        cases g
        · simp
        · simp [Nat.testBit_two_pow, hne]
      simp only [q_cm, q_cd, q_cs, q_ca9_n hz hje, hne, decide_false, Bool.or_false, e0, and_self]
  · obtain ⟨mv', dv', g1, g2, g3, g4, g5⟩ := h w hw
    refine ⟨mv', dv', by rw [q_u1_n _ _ hwe, g1], by rw [q_u1_n _ _ hwe, g2], g3, g4, fun j hj => ?_⟩
    have h6 := g5 j hj
    rw [q_lw, if_neg hwe] at h6 ⊢
    exact h6
/-- a new word begins -/
theorem q_CWd_new {z : Nat} {W : List (List Int32)} {c : List Int32} {fm fd : Nat → Int64} {fs : Nat → Int32} (h : q_CWd z (W ++ [c]) fm fd fs) : q_CWd z ((W ++ [c]) ++ [[]]) fm fd fs := by
  intro w hw
  obtain ⟨mv, dv, h1, h2, h3, h4, h5⟩ := h w hw
  refine ⟨mv, dv, h1, h2, h3, h4, fun j hj => ?_⟩
  have h6 := h5 j hj
  have e : ((W ++ [c]) ++ [[]]).getD w [] = (W ++ [c]).getD w [] := by
    rw [q_lw]
    split
    · rename_i h7
      rw [h7]
      simp
    · rfl
  rw [e]
  exact h6
