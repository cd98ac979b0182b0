/-! ===== the lists of the class, with what they hold ===== -/
def q_AL (κ : Nat → Nat) (b n : Nat) (D : q_Mem) (I : Nat → Nat → Int32) (R : Nat → Nat → Option Nat) (j cap N : Nat) (g : Nat → Nat) : Prop := I j 2 = nI N ∧ N ≤ cap ∧ cap < 20000 ∧ ((R j 1 = some (κ 99) ∧ cap = 0) ∨ ∃ e f, R j 1 = some e ∧ b + 66 < e ∧ e < n ∧ D e = some (.inl (7, cap, .inr (.inr (.inr (.inr f))))) ∧ ∀ i, i < N → f i = some (g i))
theorem q_AL_W {κ : Nat → Nat} {b n : Nat} {D : q_Mem} {I : Nat → Nat → Int32} {R : Nat → Nat → Option Nat} {j cap N : Nat} {g : Nat → Nat} (h : q_AL κ b n D I R j cap N g) : q_AW κ b n D I R j cap := by
  obtain ⟨h1, h2, h3, h4⟩ := h
  refine ⟨N, h1, h2, h3, ?_⟩
  rcases h4 with h5 | ⟨e, f, h5, h6, h7, h8, -⟩
  · exact Or.inl h5
  · exact Or.inr ⟨e, h5, h6, h7, f, h8⟩
theorem q_AL_0 {κ : Nat → Nat} {b n : Nat} {D : q_Mem} {I : Nat → Nat → Int32} {R : Nat → Nat → Option Nat} {j cap : Nat} (g : Nat → Nat) (h : q_AW κ b n D I R j cap) (h0 : I j 2 = 0) : q_AL κ b n D I R j cap 0 g := by
  obtain ⟨k, h1, h2, h3, h4⟩ := h
  refine ⟨by rw [h0]; rfl, Nat.zero_le _, h3, ?_⟩
  rcases h4 with h5 | ⟨e, h5, h6, h7, f, h8⟩
  · exact Or.inl h5
  · exact Or.inr ⟨e, f, h5, h6, h7, h8, fun i hi => by omega⟩
theorem q_AL_mo {κ : Nat → Nat} {b n n' : Nat} {D D' : q_Mem} {I I' : Nat → Nat → Int32} {R R' : Nat → Nat → Option Nat} {j cap N : Nat} {g : Nat → Nat} (h : q_AL κ b n D I R j cap N g) (hn : n ≤ n') (hI : I' j 2 = I j 2) (hR : R' j 1 = R j 1) (hD : ∀ x, x < n → R j 1 = some x → D' x = D x) : q_AL κ b n' D' I' R' j cap N g := by
  obtain ⟨h1, h2, h3, h4⟩ := h
  refine ⟨by rw [hI, h1], h2, h3, ?_⟩
  rw [hR]
  rcases h4 with h5 | ⟨e, f, h5, h6, h7, h8, h9⟩
  · exact Or.inl h5
  · exact Or.inr ⟨e, f, h5, h6, by omega, by rw [hD e h7 h5, h8], h9⟩
theorem q_AL_g {κ : Nat → Nat} {b n : Nat} {D : q_Mem} {I : Nat → Nat → Int32} {R : Nat → Nat → Option Nat} {j cap N : Nat} {g g' : Nat → Nat} (h : q_AL κ b n D I R j cap N g) (hg : ∀ i, i < N → g' i = g i) : q_AL κ b n D I R j cap N g' := by
  obtain ⟨h1, h2, h3, h4⟩ := h
  refine ⟨h1, h2, h3, ?_⟩
  rcases h4 with h5 | ⟨e, f, h5, h6, h7, h8, h9⟩
  · exact Or.inl h5
  · exact Or.inr ⟨e, f, h5, h6, h7, h8, fun i hi => by rw [h9 i hi, hg i hi]⟩
theorem q_max_e {κ : Nat → Nat} {a c : Nat} {σ : q_St} (ha : a < 2 ^ 31) (hc : c < 2 ^ 31) : F_J9_max_7cf53 κ (nI a) (nI c) σ = some (.inl (nI (max a c)), σ) := by
  by_cases h : a < c
  · have e : max a c = c := by omega
    rw [e]
    simp (disch := first | rfl | omega | decide | exact Nat.le_of_ble_eq_true rfl) only [↓q_br, q_rt, q_rz, q_gd, q_ca, ↓reduceIte, F_J9_max_7cf53, F_J9_max_7cf53_10, nI_ltI, h]
  · have e : max a c = a := by omega
    rw [e]
    simp (disch := first | rfl | omega | decide | exact Nat.le_of_ble_eq_true rfl) only [↓q_br, q_rt, q_rz, q_gd, q_ca, ↓reduceIte, F_J9_max_7cf53, F_J9_max_7cf53_10, nI_ltI, h]
theorem q_min_e {κ : Nat → Nat} {a c : Nat} {σ : q_St} (ha : a < 2 ^ 31) (hc : c < 2 ^ 31) : F_J9_min_7cf53 κ (nI a) (nI c) σ = some (.inl (nI (min a c)), σ) := by
  by_cases h : c < a
  · have e : min a c = c := by omega
    rw [e]
    simp (disch := first | rfl | omega | decide | exact Nat.le_of_ble_eq_true rfl) only [↓q_br, q_rt, q_rz, q_gd, q_ca, ↓reduceIte, F_J9_min_7cf53, F_J9_min_7cf53_10, nI_ltI, h]
  · have e : min a c = a := by omega
    rw [e]
    simp (disch := first | rfl | omega | decide | exact Nat.le_of_ble_eq_true rfl) only [↓q_br, q_rt, q_rz, q_gd, q_ca, ↓reduceIte, F_J9_min_7cf53, F_J9_min_7cf53_10, nI_ltI, h]
theorem q_half {a : Nat} (ha : a < 2 ^ 31) : nI a >>> ((1 : Int32) &&& 31) = nI (a / 2) := pk_shrN ha _ 1 (by decide)
theorem q_newLen {κ : Nat → Nat} {a : Nat} {σ : q_St} (ha : a < 20000) : F_J8_newLength_cabcc κ (nI a) (nI 1) (nI (a / 2)) σ = some (.inl (nI (a + max 1 (a / 2))), σ) := by
  have e := q_max_e (κ := κ) (a := 1) (c := a / 2) (σ := σ) (by decide) (by omega)
  have g1 : (nI (a + max 1 (a / 2)) ≤ (0 : Int32)) = False := eq_false (nI_nle (by omega) (by omega))
  have g2 : ((2147483639 : Int32) < nI (a + max 1 (a / 2))) = False := eq_false (nI_nlt (b := a + max 1 (a / 2)) (a := 2147483639) (by omega) (by decide))
  simp (disch := first | rfl | omega | decide | exact Nat.le_of_ble_eq_true rfl) only [↓q_br, q_rt, q_rz, q_gd, q_ca, ↓reduceIte, F_J8_newLength_cabcc, e, nI_add, g1, g2]
theorem sb_cpy0' {α : Type} {f g : Nat → α} {n j : Nat} (h : j < n) : va_cpy f g 0 0 n j = f j := by
  rw [pk_cpy_in (by omega) (by omega), Nat.zero_add, Nat.sub_zero]
section QAL
variable {κ : Nat → Nat} {b : Nat} {M : q_MT} {O : Nat → Int64} {β : Type}
theorem qd_len {a t c : Nat} {w : (Nat → Int32) ⊕ (Nat → Int64) ⊕ (Nat → UInt32) ⊕ (Nat → UInt64) ⊕ (Nat → Option Nat)} {C : q_CT} {D : q_Mem} {s : Nat × Nat} {f : Int32 → q_X β} (h : b + 66 < a ∧ D a = some (.inl (t, c, w))) : q_rd (q_len (some a)) f (q_H b C M O D, s) = f (nI c) (q_H b C M O D, s) := by
  refine q_rd_g ?_
  unfold q_len
  simp only [q_H_d (Or.inr h.1), h.2]
theorem qd_len0 {C : q_CT} {D : q_Mem} {s : Nat × Nat} {f : Int32 → q_X β} (hK : q_Kp κ b D) : q_rd (q_len (some (κ 99))) f (q_H b C M O D, s) = f 0 (q_H b C M O D, s) := by
  refine q_rd_g ?_
  unfold q_len
  simp only [q_H_d (Or.inl hK.2.2), hK.2.1]
theorem qd_t7 {a c : Nat} {w : Nat → Option Nat} {C : q_CT} {D : q_Mem} {s : Nat × Nat} {f : Unit → q_X β} (h : b + 66 < a ∧ D a = some (.inl (7, c, .inr (.inr (.inr (.inr w)))))) : q_rd (fun M => (q_ar (some a) M).bind fun p => if p.2.1 = 7 then some () else none) f (q_H b C M O D, s) = f () (q_H b C M O D, s) := by
  refine q_rd_g ?_
  rw [qd_aru h]
  rfl
theorem qd_cA {a a' c c' : Nat} {w w' : Nat → Option Nat} {C : q_CT} {D : q_Mem} {s : Nat × Nat} {f : q_X β} (h : b + 66 < a ∧ D a = some (.inl (7, c, .inr (.inr (.inr (.inr w)))))) (h' : b + 66 < a' ∧ D a' = some (.inl (7, c', .inr (.inr (.inr (.inr w')))))) (hc : c ≤ c') (hc2 : c' < 20000) (hl : ∀ i, i < c → ∃ x fs, w i = some x ∧ b + 66 < x ∧ D x = some (.inr (.inl (6, fs)))) : q_wr (q_cA (some a) 0 (some a') 0 (nI c)) f (q_H b C M O D, s) = f (q_H b C M O (q_up D a' (.inl (7, c', .inr (.inr (.inr (.inr (va_cpy w w' 0 0 c))))))), s) := by
  have e0 : (0 : Int32).toNatClampNeg = 0 := by decide
  have n0 : ¬ (0 : Int32) < 0 := by decide
  have ec : (nI c).toNatClampNeg = c := nI_clamp (by omega)
  have nc : ¬ nI c < 0 := nI_pos (by omega)
  refine q_wr_g ?_
  unfold q_cA
  rw [qd_aru h, qd_aru h', Option.bind_some, Option.bind_some]
  have el : ∀ i, i < (nI c).toNatClampNeg → (w ((0 : Int32).toNatClampNeg + i) = none ∨ (q_is (w ((0 : Int32).toNatClampNeg + i)) 6 (q_H b C M O D)).isSome = true) := by
    intro i hi
    rw [ec] at hi
    rw [e0, Nat.zero_add]
    obtain ⟨x, fs, x1, x2, x3⟩ := hl i hi
    refine Or.inr ?_
    rw [x1]
    unfold q_is
    rw [q_fs_d (Or.inr x2)]
    unfold q_fs
    simp only [x3, if_true]
    rfl
  refine (if_pos ⟨⟨rfl, rfl⟩, ⟨n0, n0, nc, by rw [e0, ec, Nat.zero_add]; exact Nat.le_refl _, by rw [e0, ec, Nat.zero_add]; exact hc⟩, el⟩).trans ?_
  rw [q_H_upd (Or.inr h'.1), e0, ec]
theorem q_get22 {I : Nat → Nat → Int32} {R : Nat → Nat → Option Nat} {X : Nat → Nat → Int32} {Y : Nat → Nat → Int64} {Z : Nat → Nat → Option Nat} {D : q_Mem} {s : Nat × Nat} {n cap N i : Nat} {g : Nat → Nat} (h : q_AL κ b n D I R 22 cap N g) (hi : i < N) : F_Jx4a65c_get_915e3 κ (some (b + 22)) (nI i) (q_H b (I, R, X, Y, Z) M O D, s) = some (.inl (some (g i)), (q_H b (I, R, X, Y, Z) M O D, s)) := by
  obtain ⟨h1, h2, h3, h4⟩ := h
  rcases h4 with ⟨-, h5⟩ | ⟨e, f, h5, h6, h7, h8, h9⟩
  · omega
  · have c1 : (nI i < 0) = False := eq_false (nI_pos (by omega))
    have c2 : (nI i < nI N) = True := eq_true (nI_lt hi (by omega))
    have e7 : b + 66 < e ∧ D e = some (.inl (7, cap, .inr (.inr (.inr (.inr f))))) := ⟨h6, h8⟩
    simp (disch := first | rfl | omega | decide | exact Nat.le_of_ble_eq_true rfl) only [↓q_br, q_rt, q_rz, q_gd, q_ca, ↓reduceIte, F_Jx4a65c_get_915e3, F_J15_checkIndex_7cf53, F_J3_checkIndex_8e157, F_Jx4a65c_elementData_915e3, ↓q_gA_22_1, ↓q_gA_23_1, ↓q_gI_22_2, ↓q_gI_23_2, ↓q_is_22, ↓q_is_23, ↓q_gI_22_2, ↓q_gA_22_1, ↓q_is_22, h1, c1, c2, h5, qd_aA e7 (by omega : i < cap) (by omega), h9 i hi]
theorem q_size22 {I : Nat → Nat → Int32} {R : Nat → Nat → Option Nat} {X : Nat → Nat → Int32} {Y : Nat → Nat → Int64} {Z : Nat → Nat → Option Nat} {D : q_Mem} {s : Nat × Nat} {N : Nat} (h : I 22 2 = nI N) : F_Jx4a65c_size_8abf5 κ (some (b + 22)) (q_H b (I, R, X, Y, Z) M O D, s) = some (.inl (nI N), (q_H b (I, R, X, Y, Z) M O D, s)) := by
  simp (disch := first | rfl | omega | decide | exact Nat.le_of_ble_eq_true rfl) only [↓q_br, q_rt, q_rz, q_gd, q_ca, ↓reduceIte, F_Jx4a65c_size_8abf5, ↓q_gI_22_2, ↓q_gI_23_2, ↓q_gI_22_2, h]
theorem q_add22 {I : Nat → Nat → Int32} {R : Nat → Nat → Option Nat} {X : Nat → Nat → Int32} {Y : Nat → Nat → Int64} {Z : Nat → Nat → Option Nat} {D : q_Mem} {n m cap N a : Nat} {fs : List Value} {g : Nat → Nat} (hK : q_Kp κ b D) (hn : b + 66 < n) (h : q_AL κ b n D I R 22 cap N g) (hN : N ≤ 6100) (ha : b + 66 < a ∧ D a = some (.inr (.inl (6, fs)))) (han : a < n) (hg : ∀ i, i < N → ∃ fs, b + 66 < g i ∧ g i < n ∧ D (g i) = some (.inr (.inl (6, fs)))) : ∃ I' R' D' n' m' cap', F_Jx4a65c_add_9ea2d κ (some (b + 22)) (some a) (q_H b (I, R, X, Y, Z) M O D, n, m) = some (.inl 1, (q_H b (I', R', X, Y, Z) M O D', n', m')) ∧ (∀ j, j ≠ 22 → I' j = I j) ∧ (∀ j, j ≠ 22 → R' j = R j) ∧ q_AL κ b n' D' I' R' 22 cap' (N + 1) (q_u1 g N a) ∧ (∀ x, x < n → ¬ R 22 1 = some x → D' x = D x) ∧ (∀ x, x < n → q_t7 (D x) = false → D' x = D x) ∧ n ≤ n' ∧ m ≤ m' ∧ n' + cap ≤ n + cap' ∧ m' + 4 * cap ≤ m + 4 * cap' ∧ (R' 22 1 = R 22 1 ∨ R' 22 1 = some n) := by
  obtain ⟨h1, h2, h3, h4⟩ := h
  obtain ⟨I1, hI1⟩ : ∃ I1, I1 = q_u2 I 22 0 (I 22 0 + 1) := ⟨_, rfl⟩
  have i2 : I1 22 2 = nI N := by rw [hI1, q_u2_s, q_u1_n _ _ (by decide), h1]
  obtain ⟨I2, hI2⟩ : ∃ I2, I2 = q_u2 I1 22 2 (nI (N + 1)) := ⟨_, rfl⟩
  have fI : ∀ j, j ≠ 22 → I2 j = I j := fun j hj => by rw [hI2, hI1, q_u2_n _ _ _ hj, q_u2_n _ _ _ hj]
  have i22 : I2 22 2 = nI (N + 1) := by rw [hI2, q_u2_s, q_u1_s]
  by_cases hNc : N < cap
  · rcases h4 with ⟨-, h5⟩ | ⟨e, f, h5, h6, h7, h8, h9⟩
    · omega
    · have e7 : b + 66 < e ∧ D e = some (.inl (7, cap, .inr (.inr (.inr (.inr f))))) := ⟨h6, h8⟩
      refine ⟨I2, R, q_up D e (.inl (7, cap, .inr (.inr (.inr (.inr (q_u1 f N (some a))))))), n, m, cap, ?_, fI, fun _ _ => rfl, ⟨i22, by omega, h3, Or.inr ⟨e, q_u1 f N (some a), h5, h6, h7, q_up_s _ _ _, fun i hi => ?_⟩⟩, fun x hx hxe => q_up_n _ _ (fun he => hxe (by rw [he, h5])), fun x hx h7 => q_up_n _ _ (fun he => by rw [he, h8] at h7; simp [q_t7] at h7), Nat.le_refl _, Nat.le_refl _, by omega, by omega, Or.inl rfl⟩
      · have ne : (¬ nI N = nI cap) = True := eq_true (fun he => by
          have := (nI_eq (by omega) (by omega)).mp he
          omega)
        simp (disch := first | rfl | omega | decide | exact Nat.le_of_ble_eq_true rfl) only [F_Jx4a65c_add_9ea2d, F_Jx4a65c_add_72be8, F_Jx4a65c_add_72be8_11, ↓q_br, q_rt, q_rz, q_gd, q_ca, ↓reduceIte, ↓q_gI_22_0, ↓q_pI_22_0, ↓q_gA_22_1, ↓q_gI_22_2, ↓q_is_22, ← hI1, i2, h5, qd_len e7, ne]
        rw [qd_sT e7 ha hNc (by omega)]
        rw [hI2]
        simp (disch := first | rfl | omega | decide | exact Nat.le_of_ble_eq_true rfl) only [↓q_br, q_rt, q_rz, q_gd, q_ca, ↓reduceIte, ↓q_pI_22_2, nI_1, or_true]
      · by_cases hiN : i = N
        · subst hiN; rw [q_u1_s, q_u1_s]
        · rw [q_u1_n _ _ hiN, q_u1_n _ _ hiN, h9 i (by omega)]
  · have hcN : cap = N := by omega
    subst hcN
    rcases h4 with ⟨h5, h0⟩ | ⟨e, f, h5, h6, h7, h8, h9⟩
    · -- the list is new
      subst h0
      obtain ⟨R1, hR1⟩ : ∃ R1, R1 = q_u2 R 22 1 (some n) := ⟨_, rfl⟩
      have mx := fun σ => q_max_e (κ := κ) (a := 10) (c := 1) (σ := σ) (by decide) (by decide)
      have r1 : R1 22 1 = some n := by rw [hR1, q_u2_s, q_u1_s]
      obtain ⟨D1, hD1⟩ : ∃ D1, D1 = q_up D n (q_nA 7 (nI 10)) := ⟨_, rfl⟩
      have eN : b + 66 < n ∧ D1 n = some (.inl (7, 10, .inr (.inr (.inr (.inr (fun _ => none)))))) := ⟨hn, by rw [hD1, q_up_s]; rfl⟩
      have eA : b + 66 < a ∧ D1 a = some (.inr (.inl (6, fs))) := ⟨ha.1, by rw [hD1, q_up_n _ _ (by omega), ha.2]⟩
      refine ⟨I2, R1, q_up D1 n (.inl (7, 10, .inr (.inr (.inr (.inr (q_u1 (fun _ => none) 0 (some a))))))), n + 1, m + 10, 10, ?_, fI, fun j hj => by rw [hR1, q_u2_n _ _ _ hj], ⟨i22, by omega, by decide, Or.inr ⟨n, _, r1, hn, by omega, q_up_s _ _ _, fun i hi => ?_⟩⟩, fun x hx hxe => by rw [q_up_n _ _ (by omega), hD1, q_up_n _ _ (by omega)], fun x hx h7 => by rw [q_up_n _ _ (by omega), hD1, q_up_n _ _ (by omega)], by omega, by omega, by omega, by omega, Or.inr r1⟩
      · have n00 : (¬ (0 : Int32) = 0) = False := eq_false (fun h => h rfl)
        have l00 : ((0 : Int32) < 0) = False := eq_false (by decide)
        have one : (0 : Int32) + 1 = nI 1 := rfl
        have ten : (10 : Int32) = nI 10 := rfl
        have m10 : max 10 1 = 10 := rfl
        have c10 : (nI 10 < 0) = False := eq_false (by decide)
        have l10 : (10 ≤ 65536) = True := eq_true (by decide)
        have k10 : (nI 10).toNatClampNeg = 10 := by decide
        rw [nI_0] at i2
        rw [m10] at mx
        simp (disch := first | rfl | omega | decide | exact Nat.le_of_ble_eq_true rfl) only [F_Jx4a65c_add_9ea2d, F_Jx4a65c_add_72be8, F_Jx4a65c_grow_d5877, F_Jx4a65c_grow_92f84, ↓q_br, q_rt, q_rz, q_gd, q_ca, ↓reduceIte, ↓q_gI_22_0, ↓q_pI_22_0, ↓q_gA_22_1, ↓q_gI_22_2, ↓q_is_22, ← hI1, i2, h5, qd_len0 hK, not_true_eq_false, l00, one, ten, mx, k10, c10, l10, not_false_eq_true, and_self, q_mk_H hn, ← hD1, ↓q_pA_22_1, ← hR1]
        simp (disch := first | rfl | omega | decide | exact Nat.le_of_ble_eq_true rfl) only [F_Jx4a65c_add_72be8_11]
        rw [← nI_0, qd_sT eN eA (by decide) (by decide)]
        rw [hI2]
        simp (disch := first | rfl | omega | decide | exact Nat.le_of_ble_eq_true rfl) only [↓q_br, q_rt, q_rz, q_gd, q_ca, ↓reduceIte, ↓q_pI_22_2, nI_1, or_true]
      · have hi0 : i = 0 := by omega
        subst hi0
        rw [q_u1_s, q_u1_s]
    · -- the list grows
      have e7 : b + 66 < e ∧ D e = some (.inl (7, cap, .inr (.inr (.inr (.inr f))))) := ⟨h6, h8⟩
      obtain ⟨c', hc'⟩ : ∃ c', c' = cap + max 1 (cap / 2) := ⟨_, rfl⟩
      have c1 : cap < c' := by omega
      have c2 : c' < 20000 := by omega
      obtain ⟨R1, hR1⟩ : ∃ R1, R1 = q_u2 R 22 1 (some n) := ⟨_, rfl⟩
      have r1 : R1 22 1 = some n := by rw [hR1, q_u2_s, q_u1_s]
      have kc : (nI c').toNatClampNeg = c' := nI_clamp (by omega)
      obtain ⟨D1, hD1⟩ : ∃ D1, D1 = q_up D n (q_nA 7 (nI c')) := ⟨_, rfl⟩
      have eN : b + 66 < n ∧ D1 n = some (.inl (7, c', .inr (.inr (.inr (.inr (fun _ => none)))))) := ⟨hn, by rw [hD1, q_up_s]; unfold q_nA; rw [kc]⟩
      have eE : b + 66 < e ∧ D1 e = some (.inl (7, cap, .inr (.inr (.inr (.inr f))))) := ⟨h6, by rw [hD1, q_up_n _ _ (by omega), h8]⟩
      obtain ⟨w, hw⟩ : ∃ w : Nat → Option Nat, w = va_cpy f (fun _ => none) 0 0 cap := ⟨_, rfl⟩
      obtain ⟨D2, hD2⟩ : ∃ D2, D2 = q_up D1 n (.inl (7, c', .inr (.inr (.inr (.inr w))))) := ⟨_, rfl⟩
      have eN2 : b + 66 < n ∧ D2 n = some (.inl (7, c', .inr (.inr (.inr (.inr w))))) := ⟨hn, by rw [hD2, q_up_s]⟩
      have old : ∀ x, x < n → D2 x = D x := fun x hx => by rw [hD2, q_up_n _ _ (by omega), hD1, q_up_n _ _ (by omega)]
      have eA : b + 66 < a ∧ D2 a = some (.inr (.inl (6, fs))) := ⟨ha.1, by rw [old a han, ha.2]⟩
      have nl := fun σ => q_newLen (κ := κ) (a := cap) (σ := σ) h3
      rw [← hc'] at nl
      have mn := fun σ => q_min_e (κ := κ) (a := cap) (c := c') (σ := σ) (by omega) (by omega)
      rw [show min cap c' = cap from by omega] at mn
      have hw1 : ∀ i, i < cap → w i = some (g i) := fun i hi => by rw [hw, sb_cpy0' hi, h9 i hi]
      refine ⟨I2, R1, q_up D2 n (.inl (7, c', .inr (.inr (.inr (.inr (q_u1 w cap (some a))))))), n + 1, m + c', c', ?_, fI, fun j hj => by rw [hR1, q_u2_n _ _ _ hj], ⟨i22, by omega, c2, Or.inr ⟨n, _, r1, hn, by omega, q_up_s _ _ _, fun i hi => ?_⟩⟩, fun x hx hxe => by rw [q_up_n _ _ (by omega), old x hx], fun x hx h7 => by rw [q_up_n _ _ (by omega), old x hx], by omega, by omega, by omega, by omega, Or.inr r1⟩
      · have n00 : (¬ nI cap = nI cap) = False := eq_false (fun h => h rfl)
        have sub1 : nI (cap + 1) - nI cap = nI 1 := by rw [nI_sub (by omega), Nat.add_sub_cancel_left]
        have gd : (nI c' < 0) = False := eq_false (nI_pos (by omega))
        have gl : (c' ≤ 65536) = True := eq_true (by omega)
        have hf := q_half (a := cap) (by omega)
        have n98 : (¬ (some (κ 98) = some (κ 98))) = False := eq_false (fun h => h rfl)
        have el : ∀ i, i < cap → ∃ x fs, f i = some x ∧ b + 66 < x ∧ D1 x = some (.inr (.inl (6, fs))) := fun i hi => by
          obtain ⟨fs, g1, g2, g3⟩ := hg i hi
          exact ⟨g i, fs, h9 i hi, g1, by rw [hD1, q_up_n _ _ (by omega), g3]⟩
        have cpy : ∀ C s, F_J7_copyOf_1904c κ (some e) (nI c') (q_H b C M O D, n, s) = some (.inl (some n), (q_H b C M O D2, n + 1, s + c')) := fun C s => by
          simp (disch := first | rfl | omega | decide | exact Nat.le_of_ble_eq_true rfl) only [F_J7_copyOf_1904c, F_J7_copyOf_6403c, F_J7_copyOf_6403c_24, ↓q_br, q_rt, q_gd, q_ca, ↓reduceIte, qd_t7 e7, not_true_eq_false, gd, gl, not_false_eq_true, and_self, q_mk_H hn, ← hD1, kc, qd_len eE, mn]
          rw [qd_cA eE eN (by omega) c2 el, ← hw, ← hD2]
          rfl
        have g20 : ∀ s, F_Jx4a65c_grow_92f84_20 κ (some (b + 22)) (nI (cap + 1)) (nI cap) (q_H b (I1, R, X, Y, Z) M O D, n, s) = some (.inl (some n), (q_H b (I1, R1, X, Y, Z) M O D2, n + 1, s + c')) := fun s => by
          simp (disch := first | rfl | omega | decide | exact Nat.le_of_ble_eq_true rfl) only [F_Jx4a65c_grow_92f84_20, ↓q_br, q_rt, q_ca, ↓reduceIte, sub1, hf, nl, ↓q_gA_22_1, h5, cpy, ↓q_pA_22_1, ← hR1]
        have g92 : ∀ s, F_Jx4a65c_grow_92f84 κ (some (b + 22)) (nI (cap + 1)) (q_H b (I1, R, X, Y, Z) M O D, n, s) = some (.inl (some n), (q_H b (I1, R1, X, Y, Z) M O D2, n + 1, s + c')) := fun s => by
          by_cases hp : 0 < cap
          · have lp : ((0 : Int32) < nI cap) = True := eq_true (nI_lt (a := 0) hp (by omega))
            simp (disch := first | rfl | omega | decide | exact Nat.le_of_ble_eq_true rfl) only [F_Jx4a65c_grow_92f84, ↓q_br, ↓reduceIte, ↓q_gA_22_1, h5, qd_len e7, lp, g20]
          · have lp : ((0 : Int32) < nI cap) = False := eq_false (fun h => by
              have := (nI_ltI (a := 0) (by decide) (by omega)).mp h
              omega)
            have ne : (some e = some (κ 99)) = False := eq_false (fun h => by
              have h1 := Option.some.inj h
              have := hK.2.2
              omega)
            simp (disch := first | rfl | omega | decide | exact Nat.le_of_ble_eq_true rfl) only [F_Jx4a65c_grow_92f84, ↓q_br, ↓reduceIte, ↓q_gA_22_1, h5, qd_len e7, lp, ne, g20]
        simp (disch := first | rfl | omega | decide | exact Nat.le_of_ble_eq_true rfl) only [F_Jx4a65c_add_9ea2d, F_Jx4a65c_add_72be8, F_Jx4a65c_grow_d5877, ↓q_br, q_rt, q_rz, q_gd, q_ca, ↓reduceIte, ↓q_gI_22_0, ↓q_pI_22_0, ↓q_gA_22_1, ↓q_gI_22_2, ↓q_is_22, ← hI1, i2, h5, qd_len e7, not_true_eq_false, nI_1, g92]
        simp (disch := first | rfl | omega | decide | exact Nat.le_of_ble_eq_true rfl) only [F_Jx4a65c_add_72be8_11]
        rw [qd_sT eN2 eA (by omega) (by omega)]
        rw [hI2]
        simp (disch := first | rfl | omega | decide | exact Nat.le_of_ble_eq_true rfl) only [↓q_br, q_rt, q_rz, q_gd, q_ca, ↓reduceIte, ↓q_pI_22_2, nI_1, or_true]
      · by_cases hiN : i = cap
        · subst hiN; rw [q_u1_s, q_u1_s]
        · rw [q_u1_n _ _ hiN, q_u1_n _ _ hiN, hw1 i (by omega)]
theorem q_get23 {I : Nat → Nat → Int32} {R : Nat → Nat → Option Nat} {X : Nat → Nat → Int32} {Y : Nat → Nat → Int64} {Z : Nat → Nat → Option Nat} {D : q_Mem} {s : Nat × Nat} {n cap N i : Nat} {g : Nat → Nat} (h : q_AL κ b n D I R 23 cap N g) (hi : i < N) : F_Jx4a65c_get_915e3 κ (some (b + 23)) (nI i) (q_H b (I, R, X, Y, Z) M O D, s) = some (.inl (some (g i)), (q_H b (I, R, X, Y, Z) M O D, s)) := by
  obtain ⟨h1, h2, h3, h4⟩ := h
  rcases h4 with ⟨-, h5⟩ | ⟨e, f, h5, h6, h7, h8, h9⟩
  · omega
  · have c1 : (nI i < 0) = False := eq_false (nI_pos (by omega))
    have c2 : (nI i < nI N) = True := eq_true (nI_lt hi (by omega))
    have e7 : b + 66 < e ∧ D e = some (.inl (7, cap, .inr (.inr (.inr (.inr f))))) := ⟨h6, h8⟩
    simp (disch := first | rfl | omega | decide | exact Nat.le_of_ble_eq_true rfl) only [↓q_br, q_rt, q_rz, q_gd, q_ca, ↓reduceIte, F_Jx4a65c_get_915e3, F_J15_checkIndex_7cf53, F_J3_checkIndex_8e157, F_Jx4a65c_elementData_915e3, ↓q_gA_22_1, ↓q_gA_23_1, ↓q_gI_22_2, ↓q_gI_23_2, ↓q_is_22, ↓q_is_23, ↓q_gI_23_2, ↓q_gA_23_1, ↓q_is_23, h1, c1, c2, h5, qd_aA e7 (by omega : i < cap) (by omega), h9 i hi]
theorem q_size23 {I : Nat → Nat → Int32} {R : Nat → Nat → Option Nat} {X : Nat → Nat → Int32} {Y : Nat → Nat → Int64} {Z : Nat → Nat → Option Nat} {D : q_Mem} {s : Nat × Nat} {N : Nat} (h : I 23 2 = nI N) : F_Jx4a65c_size_8abf5 κ (some (b + 23)) (q_H b (I, R, X, Y, Z) M O D, s) = some (.inl (nI N), (q_H b (I, R, X, Y, Z) M O D, s)) := by
  simp (disch := first | rfl | omega | decide | exact Nat.le_of_ble_eq_true rfl) only [↓q_br, q_rt, q_rz, q_gd, q_ca, ↓reduceIte, F_Jx4a65c_size_8abf5, ↓q_gI_22_2, ↓q_gI_23_2, ↓q_gI_23_2, h]
theorem q_add23 {I : Nat → Nat → Int32} {R : Nat → Nat → Option Nat} {X : Nat → Nat → Int32} {Y : Nat → Nat → Int64} {Z : Nat → Nat → Option Nat} {D : q_Mem} {n m cap N a : Nat} {fs : List Value} {g : Nat → Nat} (hK : q_Kp κ b D) (hn : b + 66 < n) (h : q_AL κ b n D I R 23 cap N g) (hN : N ≤ 6100) (ha : b + 66 < a ∧ D a = some (.inr (.inl (6, fs)))) (han : a < n) (hg : ∀ i, i < N → ∃ fs, b + 66 < g i ∧ g i < n ∧ D (g i) = some (.inr (.inl (6, fs)))) : ∃ I' R' D' n' m' cap', F_Jx4a65c_add_9ea2d κ (some (b + 23)) (some a) (q_H b (I, R, X, Y, Z) M O D, n, m) = some (.inl 1, (q_H b (I', R', X, Y, Z) M O D', n', m')) ∧ (∀ j, j ≠ 23 → I' j = I j) ∧ (∀ j, j ≠ 23 → R' j = R j) ∧ q_AL κ b n' D' I' R' 23 cap' (N + 1) (q_u1 g N a) ∧ (∀ x, x < n → ¬ R 23 1 = some x → D' x = D x) ∧ (∀ x, x < n → q_t7 (D x) = false → D' x = D x) ∧ n ≤ n' ∧ m ≤ m' ∧ n' + cap ≤ n + cap' ∧ m' + 4 * cap ≤ m + 4 * cap' ∧ (R' 23 1 = R 23 1 ∨ R' 23 1 = some n) := by
  obtain ⟨h1, h2, h3, h4⟩ := h
  obtain ⟨I1, hI1⟩ : ∃ I1, I1 = q_u2 I 23 0 (I 23 0 + 1) := ⟨_, rfl⟩
  have i2 : I1 23 2 = nI N := by rw [hI1, q_u2_s, q_u1_n _ _ (by decide), h1]
  obtain ⟨I2, hI2⟩ : ∃ I2, I2 = q_u2 I1 23 2 (nI (N + 1)) := ⟨_, rfl⟩
  have fI : ∀ j, j ≠ 23 → I2 j = I j := fun j hj => by rw [hI2, hI1, q_u2_n _ _ _ hj, q_u2_n _ _ _ hj]
  have i22 : I2 23 2 = nI (N + 1) := by rw [hI2, q_u2_s, q_u1_s]
  by_cases hNc : N < cap
  · rcases h4 with ⟨-, h5⟩ | ⟨e, f, h5, h6, h7, h8, h9⟩
    · omega
    · have e7 : b + 66 < e ∧ D e = some (.inl (7, cap, .inr (.inr (.inr (.inr f))))) := ⟨h6, h8⟩
      refine ⟨I2, R, q_up D e (.inl (7, cap, .inr (.inr (.inr (.inr (q_u1 f N (some a))))))), n, m, cap, ?_, fI, fun _ _ => rfl, ⟨i22, by omega, h3, Or.inr ⟨e, q_u1 f N (some a), h5, h6, h7, q_up_s _ _ _, fun i hi => ?_⟩⟩, fun x hx hxe => q_up_n _ _ (fun he => hxe (by rw [he, h5])), fun x hx h7 => q_up_n _ _ (fun he => by rw [he, h8] at h7; simp [q_t7] at h7), Nat.le_refl _, Nat.le_refl _, by omega, by omega, Or.inl rfl⟩
      · have ne : (¬ nI N = nI cap) = True := eq_true (fun he => by
          have := (nI_eq (by omega) (by omega)).mp he
          omega)
        simp (disch := first | rfl | omega | decide | exact Nat.le_of_ble_eq_true rfl) only [F_Jx4a65c_add_9ea2d, F_Jx4a65c_add_72be8, F_Jx4a65c_add_72be8_11, ↓q_br, q_rt, q_rz, q_gd, q_ca, ↓reduceIte, ↓q_gI_23_0, ↓q_pI_23_0, ↓q_gA_23_1, ↓q_gI_23_2, ↓q_is_23, ← hI1, i2, h5, qd_len e7, ne]
        rw [qd_sT e7 ha hNc (by omega)]
        rw [hI2]
        simp (disch := first | rfl | omega | decide | exact Nat.le_of_ble_eq_true rfl) only [↓q_br, q_rt, q_rz, q_gd, q_ca, ↓reduceIte, ↓q_pI_23_2, nI_1, or_true]
      · by_cases hiN : i = N
        · subst hiN; rw [q_u1_s, q_u1_s]
        · rw [q_u1_n _ _ hiN, q_u1_n _ _ hiN, h9 i (by omega)]
  · have hcN : cap = N := by omega
    subst hcN
    rcases h4 with ⟨h5, h0⟩ | ⟨e, f, h5, h6, h7, h8, h9⟩
    · -- the list is new
      subst h0
      obtain ⟨R1, hR1⟩ : ∃ R1, R1 = q_u2 R 23 1 (some n) := ⟨_, rfl⟩
      have mx := fun σ => q_max_e (κ := κ) (a := 10) (c := 1) (σ := σ) (by decide) (by decide)
      have r1 : R1 23 1 = some n := by rw [hR1, q_u2_s, q_u1_s]
      obtain ⟨D1, hD1⟩ : ∃ D1, D1 = q_up D n (q_nA 7 (nI 10)) := ⟨_, rfl⟩
      have eN : b + 66 < n ∧ D1 n = some (.inl (7, 10, .inr (.inr (.inr (.inr (fun _ => none)))))) := ⟨hn, by rw [hD1, q_up_s]; rfl⟩
      have eA : b + 66 < a ∧ D1 a = some (.inr (.inl (6, fs))) := ⟨ha.1, by rw [hD1, q_up_n _ _ (by omega), ha.2]⟩
      refine ⟨I2, R1, q_up D1 n (.inl (7, 10, .inr (.inr (.inr (.inr (q_u1 (fun _ => none) 0 (some a))))))), n + 1, m + 10, 10, ?_, fI, fun j hj => by rw [hR1, q_u2_n _ _ _ hj], ⟨i22, by omega, by decide, Or.inr ⟨n, _, r1, hn, by omega, q_up_s _ _ _, fun i hi => ?_⟩⟩, fun x hx hxe => by rw [q_up_n _ _ (by omega), hD1, q_up_n _ _ (by omega)], fun x hx h7 => by rw [q_up_n _ _ (by omega), hD1, q_up_n _ _ (by omega)], by omega, by omega, by omega, by omega, Or.inr r1⟩
      · have n00 : (¬ (0 : Int32) = 0) = False := eq_false (fun h => h rfl)
        have l00 : ((0 : Int32) < 0) = False := eq_false (by decide)
        have one : (0 : Int32) + 1 = nI 1 := rfl
        have ten : (10 : Int32) = nI 10 := rfl
        have m10 : max 10 1 = 10 := rfl
        have c10 : (nI 10 < 0) = False := eq_false (by decide)
        have l10 : (10 ≤ 65536) = True := eq_true (by decide)
        have k10 : (nI 10).toNatClampNeg = 10 := by decide
        rw [nI_0] at i2
        rw [m10] at mx
        simp (disch := first | rfl | omega | decide | exact Nat.le_of_ble_eq_true rfl) only [F_Jx4a65c_add_9ea2d, F_Jx4a65c_add_72be8, F_Jx4a65c_grow_d5877, F_Jx4a65c_grow_92f84, ↓q_br, q_rt, q_rz, q_gd, q_ca, ↓reduceIte, ↓q_gI_23_0, ↓q_pI_23_0, ↓q_gA_23_1, ↓q_gI_23_2, ↓q_is_23, ← hI1, i2, h5, qd_len0 hK, not_true_eq_false, l00, one, ten, mx, k10, c10, l10, not_false_eq_true, and_self, q_mk_H hn, ← hD1, ↓q_pA_23_1, ← hR1]
        simp (disch := first | rfl | omega | decide | exact Nat.le_of_ble_eq_true rfl) only [F_Jx4a65c_add_72be8_11]
        rw [← nI_0, qd_sT eN eA (by decide) (by decide)]
        rw [hI2]
        simp (disch := first | rfl | omega | decide | exact Nat.le_of_ble_eq_true rfl) only [↓q_br, q_rt, q_rz, q_gd, q_ca, ↓reduceIte, ↓q_pI_23_2, nI_1, or_true]
      · have hi0 : i = 0 := by omega
        subst hi0
        rw [q_u1_s, q_u1_s]
    · -- the list grows
      have e7 : b + 66 < e ∧ D e = some (.inl (7, cap, .inr (.inr (.inr (.inr f))))) := ⟨h6, h8⟩
      obtain ⟨c', hc'⟩ : ∃ c', c' = cap + max 1 (cap / 2) := ⟨_, rfl⟩
      have c1 : cap < c' := by omega
      have c2 : c' < 20000 := by omega
      obtain ⟨R1, hR1⟩ : ∃ R1, R1 = q_u2 R 23 1 (some n) := ⟨_, rfl⟩
      have r1 : R1 23 1 = some n := by rw [hR1, q_u2_s, q_u1_s]
      have kc : (nI c').toNatClampNeg = c' := nI_clamp (by omega)
      obtain ⟨D1, hD1⟩ : ∃ D1, D1 = q_up D n (q_nA 7 (nI c')) := ⟨_, rfl⟩
      have eN : b + 66 < n ∧ D1 n = some (.inl (7, c', .inr (.inr (.inr (.inr (fun _ => none)))))) := ⟨hn, by rw [hD1, q_up_s]; unfold q_nA; rw [kc]⟩
      have eE : b + 66 < e ∧ D1 e = some (.inl (7, cap, .inr (.inr (.inr (.inr f))))) := ⟨h6, by rw [hD1, q_up_n _ _ (by omega), h8]⟩
      obtain ⟨w, hw⟩ : ∃ w : Nat → Option Nat, w = va_cpy f (fun _ => none) 0 0 cap := ⟨_, rfl⟩
      obtain ⟨D2, hD2⟩ : ∃ D2, D2 = q_up D1 n (.inl (7, c', .inr (.inr (.inr (.inr w))))) := ⟨_, rfl⟩
      have eN2 : b + 66 < n ∧ D2 n = some (.inl (7, c', .inr (.inr (.inr (.inr w))))) := ⟨hn, by rw [hD2, q_up_s]⟩
      have old : ∀ x, x < n → D2 x = D x := fun x hx => by rw [hD2, q_up_n _ _ (by omega), hD1, q_up_n _ _ (by omega)]
      have eA : b + 66 < a ∧ D2 a = some (.inr (.inl (6, fs))) := ⟨ha.1, by rw [old a han, ha.2]⟩
      have nl := fun σ => q_newLen (κ := κ) (a := cap) (σ := σ) h3
      rw [← hc'] at nl
      have mn := fun σ => q_min_e (κ := κ) (a := cap) (c := c') (σ := σ) (by omega) (by omega)
      rw [show min cap c' = cap from by omega] at mn
      have hw1 : ∀ i, i < cap → w i = some (g i) := fun i hi => by rw [hw, sb_cpy0' hi, h9 i hi]
      refine ⟨I2, R1, q_up D2 n (.inl (7, c', .inr (.inr (.inr (.inr (q_u1 w cap (some a))))))), n + 1, m + c', c', ?_, fI, fun j hj => by rw [hR1, q_u2_n _ _ _ hj], ⟨i22, by omega, c2, Or.inr ⟨n, _, r1, hn, by omega, q_up_s _ _ _, fun i hi => ?_⟩⟩, fun x hx hxe => by rw [q_up_n _ _ (by omega), old x hx], fun x hx h7 => by rw [q_up_n _ _ (by omega), old x hx], by omega, by omega, by omega, by omega, Or.inr r1⟩
      · have n00 : (¬ nI cap = nI cap) = False := eq_false (fun h => h rfl)
        have sub1 : nI (cap + 1) - nI cap = nI 1 := by rw [nI_sub (by omega), Nat.add_sub_cancel_left]
        have gd : (nI c' < 0) = False := eq_false (nI_pos (by omega))
        have gl : (c' ≤ 65536) = True := eq_true (by omega)
        have hf := q_half (a := cap) (by omega)
        have n98 : (¬ (some (κ 98) = some (κ 98))) = False := eq_false (fun h => h rfl)
        have el : ∀ i, i < cap → ∃ x fs, f i = some x ∧ b + 66 < x ∧ D1 x = some (.inr (.inl (6, fs))) := fun i hi => by
          obtain ⟨fs, g1, g2, g3⟩ := hg i hi
          exact ⟨g i, fs, h9 i hi, g1, by rw [hD1, q_up_n _ _ (by omega), g3]⟩
        have cpy : ∀ C s, F_J7_copyOf_1904c κ (some e) (nI c') (q_H b C M O D, n, s) = some (.inl (some n), (q_H b C M O D2, n + 1, s + c')) := fun C s => by
          simp (disch := first | rfl | omega | decide | exact Nat.le_of_ble_eq_true rfl) only [F_J7_copyOf_1904c, F_J7_copyOf_6403c, F_J7_copyOf_6403c_24, ↓q_br, q_rt, q_gd, q_ca, ↓reduceIte, qd_t7 e7, not_true_eq_false, gd, gl, not_false_eq_true, and_self, q_mk_H hn, ← hD1, kc, qd_len eE, mn]
          rw [qd_cA eE eN (by omega) c2 el, ← hw, ← hD2]
          rfl
        have g20 : ∀ s, F_Jx4a65c_grow_92f84_20 κ (some (b + 23)) (nI (cap + 1)) (nI cap) (q_H b (I1, R, X, Y, Z) M O D, n, s) = some (.inl (some n), (q_H b (I1, R1, X, Y, Z) M O D2, n + 1, s + c')) := fun s => by
          simp (disch := first | rfl | omega | decide | exact Nat.le_of_ble_eq_true rfl) only [F_Jx4a65c_grow_92f84_20, ↓q_br, q_rt, q_ca, ↓reduceIte, sub1, hf, nl, ↓q_gA_23_1, h5, cpy, ↓q_pA_23_1, ← hR1]
        have g92 : ∀ s, F_Jx4a65c_grow_92f84 κ (some (b + 23)) (nI (cap + 1)) (q_H b (I1, R, X, Y, Z) M O D, n, s) = some (.inl (some n), (q_H b (I1, R1, X, Y, Z) M O D2, n + 1, s + c')) := fun s => by
          by_cases hp : 0 < cap
          · have lp : ((0 : Int32) < nI cap) = True := eq_true (nI_lt (a := 0) hp (by omega))
            simp (disch := first | rfl | omega | decide | exact Nat.le_of_ble_eq_true rfl) only [F_Jx4a65c_grow_92f84, ↓q_br, ↓reduceIte, ↓q_gA_23_1, h5, qd_len e7, lp, g20]
          · have lp : ((0 : Int32) < nI cap) = False := eq_false (fun h => by
              have := (nI_ltI (a := 0) (by decide) (by omega)).mp h
              omega)
            have ne : (some e = some (κ 99)) = False := eq_false (fun h => by
              have h1 := Option.some.inj h
              have := hK.2.2
              omega)
            simp (disch := first | rfl | omega | decide | exact Nat.le_of_ble_eq_true rfl) only [F_Jx4a65c_grow_92f84, ↓q_br, ↓reduceIte, ↓q_gA_23_1, h5, qd_len e7, lp, ne, g20]
        simp (disch := first | rfl | omega | decide | exact Nat.le_of_ble_eq_true rfl) only [F_Jx4a65c_add_9ea2d, F_Jx4a65c_add_72be8, F_Jx4a65c_grow_d5877, ↓q_br, q_rt, q_rz, q_gd, q_ca, ↓reduceIte, ↓q_gI_23_0, ↓q_pI_23_0, ↓q_gA_23_1, ↓q_gI_23_2, ↓q_is_23, ← hI1, i2, h5, qd_len e7, not_true_eq_false, nI_1, g92]
        simp (disch := first | rfl | omega | decide | exact Nat.le_of_ble_eq_true rfl) only [F_Jx4a65c_add_72be8_11]
        rw [qd_sT eN2 eA (by omega) (by omega)]
        rw [hI2]
        simp (disch := first | rfl | omega | decide | exact Nat.le_of_ble_eq_true rfl) only [↓q_br, q_rt, q_rz, q_gd, q_ca, ↓reduceIte, ↓q_pI_23_2, nI_1, or_true]
      · by_cases hiN : i = cap
        · subst hiN; rw [q_u1_s, q_u1_s]
        · rw [q_u1_n _ _ hiN, q_u1_n _ _ hiN, hw1 i (by omega)]
end QAL
