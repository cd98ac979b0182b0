/-! ===== what holds between two calls ===== -/
def q_VT (I X : Nat → Nat → Int32) (P : Nat → Int32) (Q : Nat → Nat → Int32) (zt : Nat) : Prop := zt ≤ 6000 ∧ I 2 5 = nI zt ∧ P 3 = nI zt ∧ ∀ i, i < zt → Q 27 i = X 3 i ∧ q_By (X 3 i)
def q_VD (b n : Nat) (D : q_Mem) (I : Nat → Nat → Int32) (Z : Nat → Nat → Option Nat) (P : Nat → Int32) (Q : Nat → Nat → Int32) (z : Nat) (L : List q_Knd) (Js : List q_Ins) : Prop := (z = 0 ∧ L = [] ∧ Js = [] ∨ z = 8 ∨ z = 16 ∨ z = 32) ∧ I 8 2 = nI z ∧ P 21 = nI z ∧ q_CMk b n D I Z L ∧ q_CIs b n D Z L z Js ∧ I 8 4 = nI Js.length ∧ Js.length ≤ 96 ∧ P 23 = nI Js.length ∧ (∃ N top, q_PL N top P Q ∧ q_MMk N P Q L ∧ q_MIs N Q L.length z Js) ∧ ∀ J ∈ Js, q_Jok J
def q_lc (f : Nat → Int32) : Nat → Nat
  | 0 => 0
  | n + 1 => q_lc f n + (if f n = 0 then 0 else 1)
def q_VM (I X : Nat → Nat → Int32) (Y : Nat → Nat → Int64) (P : Nat → Int32) (Q : Nat → Nat → Int32) (S : Nat → Nat → Int64) (z : Nat) : Prop := I 11 2 = nI (q_lc (X 13) 4096) ∧ P 42 = nI (q_lc (X 13) 4096) ∧ ∀ i, i < 4096 → Q 54 i = X 13 i ∧ (X 13 i = 0 ∨ X 13 i = 1) ∧ (X 13 i = 1 → S 53 i = Y 12 i ∧ ∃ v, v < 2 ^ z ∧ Y 12 i = lN v)
def q_VL (I X : Nat → Nat → Int32) (P : Nat → Int32) (Q : Nat → Nat → Int32) : Prop := I 15 6 = P 8 ∧ ∃ k, k ≤ 200 ∧ I 15 5 = nI k ∧ P 4 = nI k ∧ ∀ i, i < k → Q 29 i = X 18 i ∧ q_By (X 18 i)
def q_VA (κ : Nat → Nat) (b n : Nat) (D : q_Mem) (I : Nat → Nat → Int32) (R : Nat → Nat → Option Nat) (c22 c23 : Nat) : Prop := q_AW κ b n D I R 22 c22 ∧ q_AW κ b n D I R 23 c23 ∧ ∀ e, b < e → R 22 1 = some e → ¬ R 23 1 = some e
abbrev q_Sta : Type := q_CT × q_MT × q_Mem × Nat × Nat
def q_VI (κ : Nat → Nat) (b : Nat) (C : q_CT) (M : q_MT) (D : q_Mem) (n : Nat) (c22 c23 : Nat) : Prop := match C, M with
  | (I, R, X, Y, Z), (P, Q, S) => q_Kp κ b D ∧ b + 66 < n ∧ (∃ zt, q_VT I X P Q zt) ∧ I 14 2 = P 5 ∧ I 14 3 = P 6 ∧ I 23 2 = P 43 ∧ I 21 8 = P 44 ∧ (∃ z L Js, q_VD b n D I Z P Q z L Js ∧ q_VM I X Y P Q S z) ∧ q_VL I X P Q ∧ q_VA κ b n D I R c22 c23
theorem q_lc_0 {f : Nat → Int32} : ∀ n, (∀ i, i < n → f i = 0) → q_lc f n = 0 := by
  intro n
  induction n with
  | zero => intro _; rfl
  | succ n ih => intro h; rw [q_lc, ih (fun i hi => h i (by omega)), h n (by omega)]; rfl
theorem q_lc_z {f : Nat → Int32} : ∀ n, q_lc f n = 0 → ∀ i, i < n → f i = 0 := by
  intro n
  induction n with
  | zero => intro _ i hi; omega
  | succ n ih =>
    intro h i hi
    rw [q_lc] at h
    by_cases hn : f n = 0
    · by_cases hin : i = n
      · rw [hin, hn]
      · exact ih (by omega) i (by omega)
    · rw [if_neg hn] at h; omega
theorem q_lc_le {f : Nat → Int32} : ∀ n, q_lc f n ≤ n := by
  intro n
  induction n with
  | zero => exact Nat.le_refl _
  | succ n ih => rw [q_lc]; split <;> omega
section QIV
variable {κ : Nat → Nat} {b : Nat} {M : q_MT} {O : Nat → Int64}
theorem q_CN_m7 {n n' : Nat} {D D' : q_Mem} {a : Nat} {nm : q_Nam} (h : q_CN b n D a nm) (hn : n ≤ n') (hD : ∀ x, b < x → x < n → q_t7 (D x) = false → D' x = D x) : q_CN b n' D' a nm := by
  obtain ⟨l, f, h1, h2, h3, h4, h5, h6, h7⟩ := h
  exact ⟨l, f, h1, by omega, h3, by omega, by rw [hD a (by omega) (by omega) (by rw [h5]; rfl), h5], by rw [hD l (by omega) (by omega) (by rw [h6]; rfl), h6], h7⟩
theorem q_CKd_m7 {n n' : Nat} {D D' : q_Mem} {a : Nat} {K : q_Knd} (h : q_CKd b n D a K) (hn : n ≤ n') (hD : ∀ x, b < x → x < n → q_t7 (D x) = false → D' x = D x) : q_CKd b n' D' a K := by
  obtain ⟨h0, a1, a2, a3, f, h1, h2, h3, h4, h5, h6, h7, h8, h9⟩ := h
  refine ⟨h0, a1, a2, a3, f, h1, by omega, by rw [hD a (by omega) (by omega) (by rw [h3]; rfl), h3], q_CN_m7 h4 hn hD, q_CN_m7 h5 hn hD, h6, by omega, by rw [hD a3 (by omega) (by omega) (by rw [h8]; rfl), h8], fun i nm hi => ?_⟩
  obtain ⟨x, y1, y2⟩ := h9 i nm hi
  exact ⟨x, y1, q_CN_m7 y2 hn hD⟩
theorem q_CMk_m7 {n n' : Nat} {D D' : q_Mem} {I I' : Nat → Nat → Int32} {Z Z' : Nat → Nat → Option Nat} {L : List q_Knd} (h : q_CMk b n D I Z L) (hn : n ≤ n') (hD : ∀ x, b < x → x < n → q_t7 (D x) = false → D' x = D x) (hI : I' 8 3 = I 8 3) (hZ : Z' 9 = Z 9) : q_CMk b n' D' I' Z' L := by
  refine ⟨by rw [hI]; exact h.1, h.2.1, fun k K hk => ?_⟩
  obtain ⟨a, e1, e2⟩ := h.2.2 k K hk
  exact ⟨a, by rw [hZ, e1], q_CKd_m7 e2 hn hD⟩
theorem q_CIo_m7 {n n' nk a : Nat} {D D' : q_Mem} {Z : Nat → Nat → Option Nat} {mn : q_Nam} {ps : List Int32} {os : q_Ops} {wc dc : Nat} {fm fd : Nat → Int64} {fs : Nat → Int32} (h : q_CIo b n D Z nk a mn ps os wc dc fm fd fs) (hn : n ≤ n') (hD : ∀ x, b < x → x < n → q_t7 (D x) = false → D' x = D x) : q_CIo b n' D' Z nk a mn ps os wc dc fm fd fs := by
  obtain ⟨k1, k2, k3, k4, k5, k6, k7, fp, fo, fk, k8, k9, k10, k11, k12⟩ := h
  refine ⟨k1, by omega, by rw [hD _ (by omega) (by omega) (by rw [k3]; rfl), k3], q_CN_m7 k4 hn hD, by rw [hD _ (by omega) (by omega) (by rw [k5]; rfl), k5], by rw [hD _ (by omega) (by omega) (by rw [k6]; rfl), k6], by rw [hD _ (by omega) (by omega) (by rw [k7]; rfl), k7], fp, fo, fk, by rw [hD _ (by omega) (by omega) (by rw [k8]; rfl), k8], by rw [hD _ (by omega) (by omega) (by rw [k9]; rfl), k9], by rw [hD _ (by omega) (by omega) (by rw [k10]; rfl), k10], k11, fun i x hx => ?_⟩
  obtain ⟨a', y1, y2, y3⟩ := k12 i x hx
  exact ⟨a', y1, q_CN_m7 y2 hn hD, y3⟩
theorem q_CIs_m7 {n n' z : Nat} {D D' : q_Mem} {Z Z' : Nat → Nat → Option Nat} {L : List q_Knd} {Js : List q_Ins} (h : q_CIs b n D Z L z Js) (hn : n ≤ n') (hD : ∀ x, b < x → x < n → q_t7 (D x) = false → D' x = D x) (h9 : Z' 9 = Z 9) (h10 : Z' 10 = Z 10) : q_CIs b n' D' Z' L z Js := by
  intro i J hi
  obtain ⟨a, e1, e2⟩ := h i J hi
  obtain ⟨⟨fm, fd, fs, g1, g2⟩, g3⟩ := e2
  exact ⟨a, by rw [h10, e1], ⟨fm, fd, fs, q_CIo_Z (q_CIo_m7 g1 hn hD) (Nat.le_refl _) (fun k _ => by rw [h9]), g2⟩, g3⟩
/-- the class describes -/
theorem q_X11_describe {zt n m c c22 c23 : Nat} {I : Nat → Nat → Int32} {R : Nat → Nat → Option Nat} {X : Nat → Nat → Int32} {Y : Nat → Nat → Int64} {Z : Nat → Nat → Option Nat} {D : q_Mem} (hK : q_Kp κ b D) (hz : zt ≤ 6000) (hs : I 2 5 = nI zt) (hB : ∀ i, i < zt → q_By (X 3 i)) (hn : b + 66 < n) (hc : I 11 2 = nI c) (hc1 : c ≤ 4096) (h0 : c = 0 → ∀ v, v < 4096 → X 13 v = 0) (hA : q_VA κ b n D I R c22 c23) :
    ∃ I' R' X' Y' Z' D' n' m', (∀ j, j ≠ 2 → j ≠ 8 → j ≠ 11 → j ≠ 14 → j ≠ 19 → j ≠ 21 → j ≠ 22 → j ≠ 23 → I' j = I j) ∧ I' 2 5 = 0 ∧ (∀ j, j ≠ 4 → j ≠ 5 → j ≠ 6 → j ≠ 13 → j ≠ 24 → X' j = X j) ∧ (∀ j, j ≠ 7 → j ≠ 20 → Y' j = Y j) ∧ q_Kp κ b D' ∧ q_VA κ b n' D' I' R' c22 c23 ∧ n ≤ n' ∧ n' ≤ n + 7120 ∧ m ≤ m' ∧ m' ≤ m + 80800 ∧ I' 11 2 = 0 ∧ I' 21 8 = 0 ∧ I' 23 2 = 0 ∧ (∀ v, v < 4096 → X' 13 v = 0) ∧ (match q_pd (X 3) (q_sc false (X 3) zt zt 0) with
      | .inl (k, p) => F_X11_describe κ (some (b + 1)) (q_H b (I, R, X, Y, Z) M O D, n, m) = some (.inr ("java/lang/UnsupportedOperationException", n'), (q_H b (I', R', X', Y', Z') M O D', n' + 1, m' + 6)) ∧ I' 14 2 = nI k ∧ I' 14 3 = nI p ∧ I' 8 2 = 0 ∧ I' 8 3 = 0 ∧ I' 8 4 = 0
      | .inr (z, L, Js) => F_X11_describe κ (some (b + 1)) (q_H b (I, R, X, Y, Z) M O D, n, m) = some (.inl (nI Js.length), (q_H b (I', R', X', Y', Z') M O D', n', m')) ∧ I' 14 2 = 0 ∧ I' 14 3 = -1 ∧ I' 8 2 = nI z ∧ (z = 8 ∨ z = 16 ∨ z = 32) ∧ q_CMk b n' D' I' Z' L ∧ I' 8 4 = nI Js.length ∧ Js.length ≤ 96 ∧ q_CIs b n' D' Z' L z Js) := by
  obtain ⟨I1, X1, D1, a1, a2, a3, a4, a5, a6, a7, a8, a9, a10, a11, a12⟩ := q_forget (κ := κ) (b := b) (M := M) (O := O) (Y := Y) (Z := Z) (s := (n, m)) hc hc1 h0 hA.1 hA.2.1
  have old : ∀ x, x ≤ b → D1 x = D x ∨ q_t7 (D x) = true := fun x _ => by
    cases h7 : q_t7 (D x) with
    | false => exact Or.inl (a4.1 x h7)
    | true => exact Or.inr rfl
  have hK1 : q_Kp κ b D1 := by
    obtain ⟨k1, k2, k3⟩ := hK
    refine ⟨fun i hi => ?_, ?_, k3⟩
    · obtain ⟨e1, e2, e3, e4⟩ := k1 i hi
      exact ⟨by rw [a4.1 _ (by rw [e1]; rfl), e1], e2, by rw [a4.1 _ (by rw [e3]; rfl), e3], e4⟩
    · rw [a4.1 _ (by rw [k2]; rfl), k2]
  have x3 : X1 3 = X 3 := a3 3 (by decide) (by decide)
  obtain ⟨I2, R2, X2, Y2, Z2, D2, n2, m2, b1, b2, b3, b4, b5, b6, b7, b8, b9, b10, b11, b12⟩ := q_read (κ := κ) (b := b) (M := M) (O := O) (zt := zt) (n := n) (m := m) (I := I1) (R := R) (X := X1) (Y := Y) (Z := Z) hK1 hz (by rw [a2 2 (by decide) (by decide) (by decide) (by decide), hs]) (fun i hi => by rw [x3]; exact hB i hi) hn
  rw [x3] at b12
  have hK2 : q_Kp κ b D2 := q_Kp_D hK1 (fun x hx => b7 x (by omega))
  have r22 : R2 22 = R 22 := b3 22 (by decide)
  have r23 : R2 23 = R 23 := b3 23 (by decide)
  obtain ⟨I3, hI3⟩ : ∃ I3, I3 = q_u2 I2 2 5 0 := ⟨_, rfl⟩
  have f3 : ∀ j, j ≠ 2 → I3 j = I2 j := fun j j1 => by rw [hI3, q_u2_n _ _ _ j1]
  have aw : ∀ j cap, j = 22 ∨ j = 23 → q_AW κ b n D1 I1 R j cap → q_AW κ b n2 D2 I3 R2 j cap := by
    intro j cap hj h
    obtain ⟨k, h1, h2, h3, h4⟩ := h
    have hr : R2 j = R j := by rcases hj with rfl | rfl <;> assumption
    refine ⟨k, by rw [f3 j (by omega), b1 j (by omega) (by omega) (by omega) (by omega), h1], h2, h3, ?_⟩
    rcases h4 with h5 | ⟨e, h5, h6, h7, g, h8⟩
    · exact Or.inl (by rw [hr]; exact h5)
    · exact Or.inr ⟨e, by rw [hr, h5], h6, by omega, g, by rw [b7 e h7, h8]⟩
  have hA2 : q_VA κ b n2 D2 I3 R2 c22 c23 := ⟨aw 22 c22 (Or.inl rfl) a9, aw 23 c23 (Or.inr rfl) a10, by rw [r22, r23]; exact hA.2.2⟩
  have fr : ∀ j, j ≠ 2 → j ≠ 8 → j ≠ 11 → j ≠ 14 → j ≠ 19 → j ≠ 21 → j ≠ 22 → j ≠ 23 → I3 j = I j := fun j j1 j2 j3 j4 j5 j6 j7 j8 => by rw [f3 j j1, b1 j j1 j2 j4 j5, a2 j j3 j6 j7 j8]
  have g11 : I3 11 2 = 0 := by rw [f3 11 (by decide), b1 11 (by decide) (by decide) (by decide) (by decide), a5]
  have g21 : I3 21 8 = 0 := by rw [f3 21 (by decide), b1 21 (by decide) (by decide) (by decide) (by decide), a6]
  have g23 : I3 23 2 = 0 := by rw [f3 23 (by decide), b1 23 (by decide) (by decide) (by decide) (by decide), a8]
  refine ⟨I3, R2, X2, Y2, Z2, D2, n2, m2, fr, by rw [hI3, q_u2_s, q_u1_s], fun j j1 j2 j3 j4 j5 => by rw [b4 j j1 j2 j3, a3 j j4 j5], b5, hK2, hA2, b8, b9, b10, b11, g11, g21, g23, fun v hv => by rw [b4 13 (by decide) (by decide) (by decide), a11 v hv], ?_⟩
  cases hq : q_pd (X 3) (q_sc false (X 3) zt zt 0) with
  | inl e =>
    obtain ⟨k, p⟩ := e
    rw [hq] at b12
    obtain ⟨c1, c2, c3, c4, c5, c6, c7, c8⟩ := b12
    refine ⟨?_, by rw [f3 14 (by decide), c2], by rw [f3 14 (by decide), c3], by rw [f3 8 (by decide), c6], by rw [f3 8 (by decide), c7], by rw [f3 8 (by decide), c8]⟩
    rw [hI3]
    simp (disch := first | rfl | omega | decide | exact Nat.le_of_ble_eq_true rfl) only [↓q_br, q_rt, q_rz, q_gd, q_ca, ↓reduceIte, F_X11_describe, ↓q_gA_1_0, ↓q_gA_1_2, ↓q_gA_1_4, ↓q_gA_1_5, ↓q_gI_8_4, ↓q_is_19, ↓q_is_21, ↓q_pI_2_5, ↓q_is_21, ↓q_is_19, a1, c1, not_true_eq_false, q_th]
  | inr e =>
    obtain ⟨z, L, Js⟩ := e
    rw [hq] at b12
    obtain ⟨c1, c2, c3, c4, c5, c6, c7, c8, c9⟩ := b12
    have one : ¬ (1 : Int32) = 0 := by decide
    have i84 : q_u2 I2 2 5 0 8 4 = nI Js.length := by rw [q_u2_n _ _ _ (by decide), c7]
    refine ⟨?_, by rw [f3 14 (by decide), c2], by rw [f3 14 (by decide), c3], by rw [f3 8 (by decide), c4], c5, ⟨by rw [f3 8 (by decide)]; exact c6.1, c6.2⟩, by rw [f3 8 (by decide), c7], c8, c9⟩
    rw [hI3]
    simp (disch := first | rfl | omega | decide | exact Nat.le_of_ble_eq_true rfl) only [↓q_br, q_rt, q_rz, q_gd, q_ca, ↓reduceIte, F_X11_describe, ↓q_gA_1_0, ↓q_gA_1_2, ↓q_gA_1_4, ↓q_gA_1_5, ↓q_gI_8_4, ↓q_is_19, ↓q_is_21, ↓q_pI_2_5, ↓q_is_21, ↓q_is_19, a1, c1, one, not_false_eq_true, i84]
end QIV
