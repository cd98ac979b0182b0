theorem q_u2_id {α : Type} (f : Nat → Nat → α) (j k : Nat) {v : α} (h : f j k = v) : q_u2 f j k v = f := by
  funext a i
  by_cases ha : a = j
  · subst ha
    rw [q_u2_s]
    by_cases hi : i = k
    · subst hi; rw [q_u1_s, h]
    · rw [q_u1_n _ _ hi]
  · rw [q_u2_n _ _ _ ha]
theorem q_sc_z {ln : Bool} {B : Nat → Int32} {z n p : Nat} (h : z ≤ p) : q_sc ln B z n p = [] := by
  cases n with
  | zero => rfl
  | succ n => unfold q_sc; rw [if_pos h]
/-- the class's tokens are l -/
def q_CK (l : List q_Tok) (X : Nat → Nat → Int32) (Y : Nat → Nat → Int64) : Prop := q_CA l (X 4) (X 5) (X 6) (Y 7) ∧ X 4 l.length = 5 ∧ X 4 (l.length + 1) = 5 ∧ X 4 (l.length + 2) = 5
section QSG
variable {κ : Nat → Nat} {b : Nat} {R : Nat → Nat → Option Nat} {Z : Nat → Nat → Option Nat} {M : q_MT} {O : Nat → Int64} {D : q_Mem} {s : Nat × Nat} {z : Nat}
theorem q_scan_7 {ln : Bool} (hK : q_Kp κ b D) (hz : z ≤ 6000) : ∀ n fuel p (pre : List q_Tok) (I : Nat → Nat → Int32) (X : Nat → Nat → Int32) (Y : Nat → Nat → Int64), z - p ≤ n → p ≤ z → n < fuel → I 2 5 = nI z → I 2 6 = nI pre.length → pre.length ≤ p → (∀ i, i < z → q_By (X 3 i)) → q_CA pre (X 4) (X 5) (X 6) (Y 7) →
    ∃ X' Y', F_X10_scan_7 κ fuel (some (b + 2)) (q_b ln) (nI p) (q_H b (I, R, X, Y, Z) M O D, s) = some (.inl (nI (pre ++ q_sc ln (X 3) z n p).length), (q_H b (q_u2 I 2 6 (nI (pre ++ q_sc ln (X 3) z n p).length), R, X', Y', Z) M O D, s)) ∧ q_CK (pre ++ q_sc ln (X 3) z n p) X' Y' ∧ (∀ j, j ≠ 4 → j ≠ 5 → j ≠ 6 → X' j = X j) ∧ (∀ j, j ≠ 7 → Y' j = Y j) := by
  intro n
  induction n with
  | zero =>
    intro fuel p pre I X Y h1 h2 h3 h4 h5 h6 h7 h8
    obtain ⟨f, rfl⟩ : ∃ f, fuel = f + 1 := ⟨fuel - 1, by omega⟩
    have hp : z ≤ p := by omega
    have e0 : q_fu = 3999996 + 4 := rfl
    refine ⟨q_u2 (q_u2 (q_u2 X 4 pre.length 5) 4 (pre.length + 1) 5) 4 (pre.length + 2) 5, Y, ?_, ?_, ?_, ?_⟩
    · rw [F_X10_scan_7]
      simp (disch := first | rfl | omega) only [↓q_br, q_rt, q_rz, q_gd, q_ca, ↓reduceIte, F_X10_scan_7B, ↓q_gA_2_0, ↓q_gI_2_5, ↓q_is_2, ↓q_lI_3, h4, nI_leI, hp]
      rw [e0, q_scan_138 h5 (by omega), q_sc_z hp, List.append_nil, q_u2_id _ _ _ h5]
    · rw [q_sc_z hp, List.append_nil]
      refine ⟨fun t x hx => ?_, ?_, ?_, ?_⟩
      · have ht := (List.getElem?_eq_some_iff.mp hx).1
        obtain ⟨a1, a2, a3, a4⟩ := h8 t x hx
        simp (disch := first | rfl | omega) only [q_u2_s, q_u2_n, q_u1_n]
        exact ⟨a1, a2, a3, a4⟩
      · simp (disch := first | rfl | omega) only [q_u2_s, q_u1_n, q_u1_s]
      · simp (disch := first | rfl | omega) only [q_u2_s, q_u1_n, q_u1_s]
      · simp (disch := first | rfl | omega) only [q_u2_s, q_u1_s]
    · intro j hj _ _
      rw [q_u2_n _ _ _ hj, q_u2_n _ _ _ hj, q_u2_n _ _ _ hj]
    · intro j _
      rfl
  | succ n ih =>
    intro fuel p pre I X Y h1 h2 h3 h4 h5 h6 h7 h8
    by_cases hp : z ≤ p
    · have := ih fuel p pre I X Y (by omega) h2 (by omega) h4 h5 h6 h7 h8
      rw [q_sc_z hp] at this ⊢
      exact this
    · obtain ⟨f, rfl⟩ : ∃ f, fuel = f + 1 := ⟨fuel - 1, by omega⟩
      have hnx := q_nx_b (B := X 3) (Nat.lt_of_not_le hp)
      rw [q_scan_step hK h4 hz h5 h6 (by omega) (h7 p (by omega))]
      have e1 : q_sc ln (X 3) z (n + 1) p = (match q_tk ln (X 3) z p with
        | some x => (x.1, p, q_nx (X 3) z p, x.2) :: q_sc ln (X 3) z n (q_nx (X 3) z p)
        | none => q_sc ln (X 3) z n (q_nx (X 3) z p)) := by
        rw [q_sc, if_neg hp]
        cases q_tk ln (X 3) z p <;> rfl
      rw [e1]
      cases htk : q_tk ln (X 3) z p with
      | none =>
        simp only [q_pt]
        exact ih f _ pre I X Y (by omega) hnx.2 (by omega) h4 h5 (by omega) h7 h8
      | some x =>
        simp only [q_pt]
        have x3 : q_u2 (q_u2 (q_u2 X 4 pre.length (nI x.1)) 5 pre.length (nI p)) 6 pre.length (nI (q_nx (X 3) z p)) 3 = X 3 := by
          simp (disch := first | rfl | omega) only [q_u2_n]
        obtain ⟨X', Y', r1, r2, r3, r4⟩ := ih f (q_nx (X 3) z p) (pre ++ [(x.1, p, q_nx (X 3) z p, x.2)]) (q_u2 I 2 6 (nI (pre.length + 1))) (q_u2 (q_u2 (q_u2 X 4 pre.length (nI x.1)) 5 pre.length (nI p)) 6 pre.length (nI (q_nx (X 3) z p))) (q_u2 Y 7 pre.length x.2) (by omega) hnx.2 (by omega) (by simp (disch := first | rfl | omega) only [q_u2_s, q_u1_n]; exact h4) (by simp only [q_u2_s, q_u1_s, List.length_append, List.length_cons, List.length_nil]) (by simp only [List.length_append, List.length_cons, List.length_nil]; omega) (by rw [x3]; exact h7) (by
            simp (disch := first | rfl | omega) only [q_u2_s, q_u2_n]
            exact q_CA_add (x := (x.1, p, q_nx (X 3) z p, x.2)) h8 (fun _ => rfl))
        rw [x3, List.append_assoc, List.singleton_append] at r1 r2
        rw [q_u2_u2] at r1
        refine ⟨X', Y', r1, r2, fun j j1 j2 j3 => ?_, fun j j1 => ?_⟩
        · rw [r3 j j1 j2 j3, q_u2_n _ _ _ j3, q_u2_n _ _ _ j2, q_u2_n _ _ _ j1]
        · rw [r4 j j1, q_u2_n _ _ _ j1]
theorem q_X10_scan {I : Nat → Nat → Int32} {X : Nat → Nat → Int32} {Y : Nat → Nat → Int64} {ln : Bool} (hK : q_Kp κ b D) (hz : z ≤ 6000) (hs : I 2 5 = nI z) (hB : ∀ i, i < z → q_By (X 3 i)) : ∃ X' Y', F_X10_scan κ (some (b + 2)) (q_b ln) (q_H b (I, R, X, Y, Z) M O D, s) = some (.inl (nI (q_sc ln (X 3) z z 0).length), (q_H b (q_u2 I 2 6 (nI (q_sc ln (X 3) z z 0).length), R, X', Y', Z) M O D, s)) ∧ q_CK (q_sc ln (X 3) z z 0) X' Y' ∧ (∀ j, j ≠ 4 → j ≠ 5 → j ≠ 6 → X' j = X j) ∧ (∀ j, j ≠ 7 → Y' j = Y j) := by
  have h := q_scan_7 (κ := κ) (b := b) (R := R) (Z := Z) (M := M) (O := O) (s := s) (ln := ln) hK hz z q_fu 0 [] (q_u2 I 2 6 0) X Y (by omega) (by omega) (by unfold q_fu; omega) (by simp (disch := first | rfl | omega) only [q_u2_s, q_u1_n]; exact hs) (by simp only [q_u2_s, q_u1_s]; rfl) (by simp) hB (fun t x hx => by simp at hx)
  rw [List.nil_append, q_u2_u2, nI_0] at h
  obtain ⟨X', Y', r1, r2⟩ := h
  refine ⟨X', Y', ?_, r2⟩
  simp (disch := first | rfl | omega) only [↓q_br, q_rt, q_rz, q_gd, q_ca, ↓reduceIte, F_X10_scan, ↓q_pI_2_6]
  exact r1
end QSG
