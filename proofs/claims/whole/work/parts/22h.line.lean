theorem q_prev_c {hb hb' : Nat → Nat} {h : Nat} : ∀ k, (∀ j, j < k → hb j = hb' j) → q_prev hb h k = q_prev hb' h k := by
  intro k
  induction k with
  | zero => intro _; rfl
  | succ k ih =>
    intro hc
    rw [q_prev, q_prev, hc k (by omega), ih (fun j hj => hc j (by omega))]
theorem q_getD_a {l : List Nat} {t k : Nat} (hk : k < l.length) : (l ++ [t]).getD k 0 = l.getD k 0 := by
  rw [List.getD_eq_getElem?_getD, List.getD_eq_getElem?_getD, List.getElem?_append_left hk]
theorem q_getD_e {l : List Nat} {t : Nat} : (l ++ [t]).getD l.length 0 = t := by
  rw [List.getD_eq_getElem?_getD, List.getElem?_append_right (Nat.le_refl _), Nat.sub_self]
  rfl
section QRH
variable {κ : Nat → Nat} {b : Nat} {B : Nat → Int32} {l : List q_Tok} {zt t : Nat} {Y : Nat → Nat → Int64} {Z : Nat → Nat → Option Nat} {M : q_MT} {O : Nat → Int64}
theorem q_addLabel {I : Nat → Nat → Int32} {R : Nat → Nat → Option Nat} {X : Nat → Nat → Int32} {D : q_Mem} {n m a K c23 : Nat} {x : q_Lx} {g : Nat → Nat} (hT : q_TC B l zt I X Y) (hK : q_Kp κ b D) (hn : b + 66 < n) (hf : q_sF x.1 < l.length) (ha : b + 66 < a ∧ a < n) (hD : D a = some (q_Lc a x)) (hAL : q_AL κ b n D I R 23 c23 K g) (hKl : K ≤ 6100) (hg : ∀ i, i < K → ∃ fs, b + 66 < g i ∧ g i < n ∧ D (g i) = some (.inr (.inl (6, fs)))) : ∃ I' R' D' n' m' c', F_X8_addLabel κ (some (b + 21)) (some a) (q_H b (I, R, X, Y, Z) M O D, n, m) = some (.inl (), (q_H b (I', R', q_u2 X 24 (q_hk B l (q_sF x.1)) (nI K), Y, Z) M O D', n', m')) ∧ (∀ j, j ≠ 23 → I' j = I j) ∧ (∀ j, j ≠ 23 → R' j = R j) ∧ q_AL κ b n' D' I' R' 23 c' (K + 1) (q_u1 g K a) ∧ (∀ y, y < n → q_t7 (D y) = false → y ≠ a → D' y = D y) ∧ D' a = some (q_Lc a (x.1, (X 24 (q_hk B l (q_sF x.1)), q_xf x, q_xw x, q_xa x), q_xp x)) ∧ (∀ y, y < n → ¬ R 23 1 = some y → y ≠ a → D' y = D y) ∧ n ≤ n' ∧ m ≤ m' ∧ n' + c23 ≤ n + c' ∧ m' + 4 * c23 ≤ m + 4 * c' ∧ (R' 23 1 = R 23 1 ∨ R' 23 1 = some n) := by
  have hs := q_hash (κ := κ) (b := b) (R := R) (Z := Z) (M := M) (O := O) (D := D) (s := (n, m)) hT hf
  have lt : q_hb (q_hv B (q_tok l (q_sF x.1))) < 256 := q_hb_lt _
  have eD : b + 66 < a ∧ D a = some (.inr (.inl (6, [.int (nI (q_sS x.1)), .int (nI (q_sF x.1)), .int (nI (q_sH x.1)), .int (q_xo x), .ref (a + 1), .int (q_xf x), .int (q_xw x), .int (q_xa x)]))) := ⟨ha.1, hD⟩
  obtain ⟨D1, hD1⟩ : ∃ D1, D1 = q_up D a (.inr (.inl (6, [.int (nI (q_sS x.1)), .int (nI (q_sF x.1)), .int (nI (q_sH x.1)), .int (X 24 (q_hk B l (q_sF x.1))), .ref (a + 1), .int (q_xf x), .int (q_xw x), .int (q_xa x)]))) := ⟨_, rfl⟩
  have a7 : q_t7 (D a) = false := by rw [hD]; rfl
  have eD1 : b + 66 < a ∧ D1 a = some (.inr (.inl (6, [.int (nI (q_sS x.1)), .int (nI (q_sF x.1)), .int (nI (q_sH x.1)), .int (X 24 (q_hk B l (q_sF x.1))), .ref (a + 1), .int (q_xf x), .int (q_xw x), .int (q_xa x)]))) := ⟨ha.1, by rw [hD1, q_up_s]⟩
  have old : ∀ y, y ≠ a → D1 y = D y := fun y hy => by rw [hD1, q_up_n _ _ hy]
  have hAL1 : q_AL κ b n D1 I R 23 c23 K g := by rw [hD1]; exact q_AL_o (n0 := 0) hAL a7
  have hK1 : q_Kp κ b D1 := q_Kp_D hK (fun y hy => old y (by omega))
  obtain ⟨X1, hX1⟩ : ∃ X1, X1 = q_u2 X 24 (q_hk B l (q_sF x.1)) (nI K) := ⟨_, rfl⟩
  obtain ⟨I', R', D', n', m', c', r1, r2, r3, r4, r5, r6, r7, r8, r9, r10, r11⟩ := q_add23 (κ := κ) (b := b) (X := X1) (Y := Y) (Z := Z) (M := M) (O := O) (m := m) hK1 hn hAL1 hKl eD1 ha.2 (fun i hi => by
    obtain ⟨fs, g1, g2, g3⟩ := hg i hi
    by_cases hia : g i = a
    · exact ⟨_, g1, g2, by rw [hia]; exact eD1.2⟩
    · exact ⟨fs, g1, g2, by rw [old _ hia, g3]⟩)
  have sz := q_size23 (κ := κ) (b := b) (R := R) (X := X) (Y := Y) (Z := Z) (M := M) (O := O) (D := D1) (s := (n, m)) hAL.1
  have t71 : ∀ y, y ≠ a → q_t7 (D1 y) = q_t7 (D y) := fun y hy => by rw [old y hy]
  refine ⟨I', R', D', n', m', c', ?_, r2, r3, r4, fun y hy h7 hya => by rw [r6 y hy (by rw [t71 y hya]; exact h7), old y hya], ?_, fun y hy h1 hya => by rw [r5 y hy h1, old y hya], r7, r8, r9, r10, r11⟩
  · rw [← hX1]
    have hbk : q_hb (q_hv B (q_tok l (q_sF x.1))) = q_hk B l (q_sF x.1) := rfl
    have lt' : q_hk B l (q_sF x.1) < 256 := lt
    simp (disch := first | rfl | omega | decide | exact Nat.le_of_ble_eq_true rfl) only [↓q_br, q_rt, q_rz, q_gd, q_ca, ↓reduceIte, F_X8_addLabel, ↓q_gA_21_1, ↓q_gA_21_5, ↓q_gA_21_6, ↓q_is_2, ↓q_is_22, ↓q_is_23, ↓q_lI_24, ↓q_sI_24, qd_I eD (k := 1) (v := nI (q_sF x.1)) rfl, ↓q_is_2, hs, q_hb_e, hbk, ↓q_lI_24]
    rw [qd_W eD (by simp)]
    simp only [List.set_cons_succ, List.set_cons_zero, ← hD1]
    simp (disch := first | rfl | omega | decide | exact Nat.le_of_ble_eq_true rfl) only [↓q_br, q_rt, q_rz, q_gd, q_ca, ↓reduceIte, ↓q_gA_21_6, ↓q_gA_21_5, ↓q_is_23, sz, ↓q_sI_24, ← hX1, r1]
  · rw [r6 a ha.2 (by rw [eD1.2]; rfl), eD1.2]
    rfl
end QRH
