def q_MA (l : List q_Tok) (a b c : Nat → Int32) (d : Nat → Int64) : Prop := ∀ t x, l[t]? = some x → a t = nI (q_mt x.1) ∧ b t = nI x.2.1 ∧ c t = nI (x.2.2.1 - x.2.1) ∧ ((x.1 = 2 ∨ x.1 = 3) → d t = x.2.2.2)
theorem q_MA_add {l : List q_Tok} {a b c : Nat → Int32} {d : Nat → Int64} {x : q_Tok} {w : Int64} (h : q_MA l a b c d) (hw : (x.1 = 2 ∨ x.1 = 3) → w = x.2.2.2) : q_MA (l ++ [x]) (q_u1 a l.length (nI (q_mt x.1))) (q_u1 b l.length (nI x.2.1)) (q_u1 c l.length (nI (x.2.2.1 - x.2.1))) (q_u1 d l.length w) := by
  intro t y hy
  by_cases ht : t < l.length
  · rw [List.getElem?_append_left ht] at hy
    obtain ⟨h1, h2, h3, h4⟩ := h t y hy
    have hn : t ≠ l.length := by omega
    exact ⟨by rw [q_u1_n _ _ hn, h1], by rw [q_u1_n _ _ hn, h2], by rw [q_u1_n _ _ hn, h3], fun e => by rw [q_u1_n _ _ hn, h4 e]⟩
  · have hl : t = l.length := by
      have := (List.getElem?_eq_some_iff.mp hy).1
      simp only [List.length_append, List.length_cons, List.length_nil] at this
      omega
    subst hl
    rw [List.getElem?_append_right (Nat.le_refl _), Nat.sub_self] at hy
    simp only [List.getElem?_cons_zero, Option.some.injEq] at hy
    subst hy
    exact ⟨q_u1_s _ _ _, q_u1_s _ _ _, q_u1_s _ _ _, fun e => by rw [q_u1_s]; exact hw e⟩
/-- the reference's tokens are l -/
def q_MK (l : List q_Tok) (Q : Nat → Nat → Int32) (S : Nat → Nat → Int64) : Prop := q_MA l (Q 30) (Q 31) (Q 32) (S 33) ∧ Q 30 l.length = 0 ∧ Q 30 (l.length + 1) = 0 ∧ Q 32 l.length = 0 ∧ Q 32 (l.length + 1) = 0
theorem q_u1_u1 {α : Type} (f : Nat → α) (k : Nat) (v w : α) : q_u1 (q_u1 f k v) k w = q_u1 f k w := by
  funext i
  by_cases hi : i = k
  · subst hi; rw [q_u1_s, q_u1_s]
  · rw [q_u1_n _ _ hi, q_u1_n _ _ hi, q_u1_n _ _ hi]
theorem q_u1_id {α : Type} (f : Nat → α) (k : Nat) {v : α} (h : f k = v) : q_u1 f k v = f := by
  funext i
  by_cases hi : i = k
  · subst hi; rw [q_u1_s, h]
  · rw [q_u1_n _ _ hi]
/-- the worth of a number or a sign is the same on both sides -/
theorem q_tk_w {ln : Bool} {B : Nat → Int32} {z p : Nat} {x : Nat × Int64} (h : q_tk ln B z p = some x) (hx : x.1 = 2 ∨ x.1 = 3) : q_mw (B p) x.2 = x.2 := by
  unfold q_tk at h
  split at h
  · cases h
  · split at h
    · rename_i c1 c2
      cases h
      have n10 : ¬ B p = 10 := by
        intro h9
        rw [h9] at c2
        exact absurd c2 (by decide)
      unfold q_rk at hx
      split at hx
      · rename_i c3
        simp [q_mw, c3, n10]
      · split at hx
        · exact absurd hx (by decide)
        · exact absurd hx (by decide)
    · split at h
      · split at h
        · cases h; exact absurd hx (by decide)
        · cases h
      · split at h
        · cases h
        · rename_i c1 c2 c3 c4
          cases h
          simp [q_mw, c2, c3]
section QMU
variable {κ : Nat → Nat} {b : Nat} {C : q_CT} {O : Nat → Int64} {D : q_Mem} {s : Nat × Nat} {z : Nat}
theorem q_mscan_7 {ln : Bool} (hK : q_Kp κ b D) (hz : z ≤ 6000) : ∀ n fuel p (pre : List q_Tok) (P : Nat → Int32) (Q : Nat → Nat → Int32) (S : Nat → Nat → Int64), z - p ≤ n → p ≤ z → n < fuel → P 14 = nI z → P 13 = nI pre.length → pre.length ≤ p → (∀ i, i < z → q_By (Q 28 i)) → q_MA pre (Q 30) (Q 31) (Q 32) (S 33) →
    ∃ Q' S', F_X13_scan_7 κ fuel (some (b + 26)) (q_b ln) (nI p) (q_H b C (P, Q, S) O D, s) = some (.inl (), (q_H b C (q_u1 P 13 (nI (pre ++ q_sc ln (Q 28) z n p).length), Q', S') O D, s)) ∧ q_MK (pre ++ q_sc ln (Q 28) z n p) Q' S' ∧ (∀ j, j ≠ 30 → j ≠ 31 → j ≠ 32 → Q' j = Q j) ∧ (∀ j, j ≠ 33 → S' j = S j) := by
  intro n
  induction n with
  | zero =>
    intro fuel p pre P Q S h1 h2 h3 h4 h5 h6 h7 h8
    obtain ⟨f, rfl⟩ : ∃ f, fuel = f + 1 := ⟨fuel - 1, by omega⟩
    have hp : z ≤ p := by omega
    refine ⟨q_u2 (q_u2 (q_u2 (q_u2 Q 30 pre.length 0) 32 pre.length 0) 30 (pre.length + 1) 0) 32 (pre.length + 1) 0, S, ?_, ?_, ?_, ?_⟩
    · rw [F_X13_scan_7, q_sc_z hp, List.append_nil, q_u1_id _ _ h5]
      simp (disch := first | rfl | omega) only [↓q_br, q_rt, q_rz, q_gd, q_ca, ↓reduceIte, F_X13_scan_7B, ↓q_gA_26_1, ↓q_gA_26_11, ↓q_gA_26_9, ↓q_gI_26_13, ↓q_gI_26_14, ↓q_lI_28, ↓q_lI_30, ↓q_lI_32, ↓q_sI_28, ↓q_sI_30, ↓q_sI_32, h4, h5, nI_leI, hp, nI_1]
    · rw [q_sc_z hp, List.append_nil]
      refine ⟨fun t x hx => ?_, ?_, ?_, ?_, ?_⟩
      · have ht := (List.getElem?_eq_some_iff.mp hx).1
        obtain ⟨a1, a2, a3, a4⟩ := h8 t x hx
        simp (disch := first | rfl | omega) only [q_u2_s, q_u2_n, q_u1_n]
        exact ⟨a1, a2, a3, a4⟩
      · simp (disch := first | rfl | omega) only [q_u2_s, q_u2_n, q_u1_n, q_u1_s]
      · simp (disch := first | rfl | omega) only [q_u2_s, q_u2_n, q_u1_n, q_u1_s]
      · simp (disch := first | rfl | omega) only [q_u2_s, q_u2_n, q_u1_n, q_u1_s]
      · simp (disch := first | rfl | omega) only [q_u2_s, q_u2_n, q_u1_n, q_u1_s]
    · intro j j1 j2 j3
      rw [q_u2_n _ _ _ j3, q_u2_n _ _ _ j1, q_u2_n _ _ _ j3, q_u2_n _ _ _ j1]
    · intro j _
      rfl
  | succ n ih =>
    intro fuel p pre P Q S h1 h2 h3 h4 h5 h6 h7 h8
    by_cases hp : z ≤ p
    · have := ih fuel p pre P Q S (by omega) h2 (by omega) h4 h5 h6 h7 h8
      rw [q_sc_z hp] at this ⊢
      exact this
    · obtain ⟨f, rfl⟩ : ∃ f, fuel = f + 1 := ⟨fuel - 1, by omega⟩
      have hnx := q_nx_b (B := Q 28) (Nat.lt_of_not_le hp)
      rw [q_mscan_step hK h4 hz h5 h6 (by omega) (h7 p (by omega))]
      have e1 : q_sc ln (Q 28) z (n + 1) p = (match q_tk ln (Q 28) z p with
        | some x => (x.1, p, q_nx (Q 28) z p, x.2) :: q_sc ln (Q 28) z n (q_nx (Q 28) z p)
        | none => q_sc ln (Q 28) z n (q_nx (Q 28) z p)) := by
        rw [q_sc, if_neg hp]
        cases q_tk ln (Q 28) z p <;> rfl
      rw [e1]
      cases htk : q_tk ln (Q 28) z p with
      | none =>
        simp only [q_mpt]
        exact ih f _ pre P Q S (by omega) hnx.2 (by omega) h4 h5 (by omega) h7 h8
      | some x =>
        simp only [q_mpt, q_mp]
        have x3 : q_u2 (q_u2 (q_u2 Q 30 pre.length (nI (q_mt x.1))) 31 pre.length (nI p)) 32 pre.length (nI (q_nx (Q 28) z p - p)) 28 = Q 28 := by
          simp (disch := first | rfl | omega) only [q_u2_n]
        obtain ⟨Q', S', r1, r2, r3, r4⟩ := ih f (q_nx (Q 28) z p) (pre ++ [(x.1, p, q_nx (Q 28) z p, x.2)]) (q_u1 P 13 (nI (pre.length + 1))) (q_u2 (q_u2 (q_u2 Q 30 pre.length (nI (q_mt x.1))) 31 pre.length (nI p)) 32 pre.length (nI (q_nx (Q 28) z p - p))) (q_u2 S 33 pre.length (q_mw (Q 28 p) x.2)) (by omega) hnx.2 (by omega) (by simp (disch := first | rfl | omega) only [q_u1_n]; exact h4) (by simp only [q_u1_s, List.length_append, List.length_cons, List.length_nil]) (by simp only [List.length_append, List.length_cons, List.length_nil]; omega) (by rw [x3]; exact h7) (by
            simp (disch := first | rfl | omega) only [q_u2_s, q_u2_n]
            exact q_MA_add (x := (x.1, p, q_nx (Q 28) z p, x.2)) h8 (fun hx => q_tk_w htk hx))
        rw [x3, List.append_assoc, List.singleton_append] at r1 r2
        rw [q_u1_u1] at r1
        refine ⟨Q', S', r1, r2, fun j j1 j2 j3 => ?_, fun j j1 => ?_⟩
        · rw [r3 j j1 j2 j3, q_u2_n _ _ _ j3, q_u2_n _ _ _ j2, q_u2_n _ _ _ j1]
        · rw [r4 j j1, q_u2_n _ _ _ j1]
theorem q_X13_scan {P : Nat → Int32} {Q : Nat → Nat → Int32} {S : Nat → Nat → Int64} {ln : Bool} (hK : q_Kp κ b D) (hz : z ≤ 6000) (hs : P 14 = nI z) (hB : ∀ i, i < z → q_By (Q 28 i)) : ∃ Q' S', F_X13_scan κ (some (b + 26)) (q_b ln) (q_H b C (P, Q, S) O D, s) = some (.inl (), (q_H b C (q_u1 P 13 (nI (q_sc ln (Q 28) z z 0).length), Q', S') O D, s)) ∧ q_MK (q_sc ln (Q 28) z z 0) Q' S' ∧ (∀ j, j ≠ 30 → j ≠ 31 → j ≠ 32 → Q' j = Q j) ∧ (∀ j, j ≠ 33 → S' j = S j) := by
  have h := q_mscan_7 (κ := κ) (b := b) (C := C) (O := O) (s := s) (ln := ln) hK hz z q_fu 0 [] (q_u1 P 13 0) Q S (by omega) (by omega) (by unfold q_fu; omega) (by simp (disch := first | rfl | omega) only [q_u1_n]; exact hs) (by simp only [q_u1_s]; rfl) (by simp) hB (fun t x hx => by simp at hx)
  rw [List.nil_append, q_u1_u1, nI_0] at h
  obtain ⟨Q', S', r1, r2⟩ := h
  refine ⟨Q', S', ?_, r2⟩
  simp (disch := first | rfl | omega) only [↓q_br, q_rt, q_rz, q_gd, q_ca, ↓reduceIte, F_X13_scan, ↓q_pI_26_13]
  exact r1
end QMU
