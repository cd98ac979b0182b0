/-! ===== the lists of the class, and what forget does ===== -/
def q_t7 (c : Option q_Cel) : Bool := match c with
  | some (.inl p) => decide (p.1 = 7)
  | _ => false
def q_a7 (D : q_Mem) (e cap : Nat) : Prop := ∃ f, D e = some (.inl (7, cap, .inr (.inr (.inr (.inr f)))))
/-- memories that differ in the arrays of lists alone -/
def q_S7 (D D' : q_Mem) : Prop := (∀ x, q_t7 (D x) = false → D' x = D x) ∧ ∀ e cap, q_a7 D e cap → q_a7 D' e cap
theorem q_S7_r (D : q_Mem) : q_S7 D D := ⟨fun _ _ => rfl, fun _ _ h => h⟩
theorem q_S7_t {D D' D'' : q_Mem} (h : q_S7 D D') (h' : q_S7 D' D'') : q_S7 D D'' := ⟨fun x hx => by
  have e := h.1 x hx
  rw [h'.1 x (by rw [e]; exact hx), e], fun e cap he => h'.2 e cap (h.2 e cap he)⟩
theorem q_S7_up {D : q_Mem} {e cap : Nat} {f f' : Nat → Option Nat} (h : D e = some (.inl (7, cap, .inr (.inr (.inr (.inr f)))))) : q_S7 D (q_up D e (.inl (7, cap, .inr (.inr (.inr (.inr f')))))) := by
  refine ⟨fun x hx => q_up_n _ _ ?_, fun x c hx => ?_⟩
  · rintro rfl
    rw [h] at hx
    exact absurd hx (by simp [q_t7])
  · by_cases hxe : x = e
    · subst hxe
      obtain ⟨g, hg⟩ := hx
      rw [h] at hg
      cases hg
      exact ⟨f', q_up_s _ _ _⟩
    · obtain ⟨g, hg⟩ := hx
      exact ⟨g, by rw [q_up_n _ _ hxe, hg]⟩
def q_AW (κ : Nat → Nat) (b n : Nat) (D : q_Mem) (I : Nat → Nat → Int32) (R : Nat → Nat → Option Nat) (j cap : Nat) : Prop := ∃ k, I j 2 = nI k ∧ k ≤ cap ∧ cap < 20000 ∧ ((R j 1 = some (κ 99) ∧ cap = 0) ∨ ∃ e, R j 1 = some e ∧ b + 66 < e ∧ e < n ∧ q_a7 D e cap)
section QFA
variable {κ : Nat → Nat} {b : Nat} {M : q_MT} {O : Nat → Int64} {β : Type}
theorem qd_sN {a t n i ci : Nat} {g : Nat → Option Nat} {C : q_CT} {D : q_Mem} {s : Nat × Nat} {f : q_X β} (h : b + 66 < a ∧ D a = some (.inl (t, n, .inr (.inr (.inr (.inr g)))))) (hi : i < n) (hn : n < 2 ^ 31) : q_wr (q_sT t ci (some a) (nI i) none) f (q_H b C M O D, s) = f (q_H b C M O (q_up D a (.inl (t, n, .inr (.inr (.inr (.inr (q_u1 g i none))))))), s) := by
  obtain ⟨e1, e2⟩ := q_nI_b hi hn
  refine q_wr_g ?_
  unfold q_sT
  simp only
  unfold q_sA
  rw [q_ar_d (Or.inr h.1)]
  unfold q_ar
  simp only [h.2, Option.bind_some, e1, e2, not_false_eq_true, and_self, if_true]
  rw [q_H_upd (Or.inr h.1)]
  rfl
theorem q_clear_27 {C : q_CT} {s : Nat × Nat} {e cap k : Nat} (he : b + 66 < e) (hk : k ≤ cap) (hc : cap < 20000) : ∀ d fuel o (D : q_Mem), o + d = k → d < fuel → q_a7 D e cap → ∃ D', F_Jx4a65c_clear_da8c8_27 κ fuel (some e) (nI k) (nI o) (q_H b C M O D, s) = some (.inl (), (q_H b C M O D', s)) ∧ q_S7 D D' := by
  intro d
  induction d with
  | zero =>
    intro fuel o D h1 h2 h3
    obtain ⟨f, rfl⟩ : ∃ f, fuel = f + 1 := ⟨fuel - 1, by omega⟩
    have h4 : k ≤ o := by omega
    refine ⟨D, ?_, q_S7_r D⟩
    rw [F_Jx4a65c_clear_da8c8_27]
    simp (disch := first | rfl | omega | decide | exact Nat.le_of_ble_eq_true rfl) only [↓q_br, q_rt, q_rz, q_gd, q_ca, ↓reduceIte, F_Jx4a65c_clear_da8c8_27B, nI_leI, h4]
  | succ d ih =>
    intro fuel o D h1 h2 h3
    obtain ⟨f, rfl⟩ : ∃ f, fuel = f + 1 := ⟨fuel - 1, by omega⟩
    have h4 : ¬ k ≤ o := by omega
    obtain ⟨g, hg⟩ := h3
    obtain ⟨D', r1, r2⟩ := ih f (o + 1) (q_up D e (.inl (7, cap, .inr (.inr (.inr (.inr (q_u1 g o none))))))) (by omega) (by omega) ⟨_, q_up_s _ _ _⟩
    refine ⟨D', ?_, q_S7_t (q_S7_up hg) r2⟩
    refine Eq.trans ?_ r1
    rw [F_Jx4a65c_clear_da8c8_27]
    simp (disch := first | rfl | omega | decide | exact Nat.le_of_ble_eq_true rfl) only [↓q_br, q_rt, q_rz, q_gd, q_ca, ↓reduceIte, F_Jx4a65c_clear_da8c8_27B, nI_leI, h4, nI_1]
    rw [qd_sN ⟨he, hg⟩ (by omega) (by omega)]
theorem q_clear22 {I : Nat → Nat → Int32} {R : Nat → Nat → Option Nat} {X : Nat → Nat → Int32} {Y : Nat → Nat → Int64} {Z : Nat → Nat → Option Nat} {D : q_Mem} {s : Nat × Nat} {n cap : Nat} (h : q_AW κ b n D I R 22 cap) : ∃ I' D', F_Jx4a65c_clear_da8c8 κ (some (b + 22)) (q_H b (I, R, X, Y, Z) M O D, s) = some (.inl (), (q_H b (I', R, X, Y, Z) M O D', s)) ∧ (∀ j, j ≠ 22 → I' j = I j) ∧ I' 22 2 = 0 ∧ q_S7 D D' := by
  obtain ⟨k, h1, h2, h3, h4⟩ := h
  have e2 : q_u2 I 22 0 (I 22 0 + 1) 22 2 = nI k := by rw [q_u2_s, q_u1_n _ _ (by decide), h1]
  rcases h4 with ⟨-, h5⟩ | ⟨e, h5, h6, h7, h8⟩
  · have hk : k = 0 := by omega
    subst hk
    obtain ⟨f, hf⟩ : ∃ f, q_fu = f + 1 := ⟨q_fu - 1, by unfold q_fu; omega⟩
    refine ⟨q_u2 (q_u2 I 22 0 (I 22 0 + 1)) 22 2 0, D, ?_, fun j j1 => by rw [q_u2_n _ _ _ j1, q_u2_n _ _ _ j1], by rw [q_u2_s, q_u1_s], q_S7_r D⟩
    simp (disch := first | rfl | omega | decide | exact Nat.le_of_ble_eq_true rfl) only [↓q_br, q_rt, q_rz, q_gd, q_ca, ↓reduceIte, F_Jx4a65c_clear_da8c8, ↓q_gA_22_1, ↓q_gA_23_1, ↓q_gI_22_0, ↓q_gI_22_2, ↓q_gI_23_0, ↓q_gI_23_2, ↓q_pI_22_0, ↓q_pI_22_2, ↓q_pI_23_0, ↓q_pI_23_2, e2]
    rw [hf, F_Jx4a65c_clear_da8c8_27]
    have h0 : (nI 0 ≤ (0 : Int32)) = True := eq_true (by decide)
    simp (disch := first | rfl | omega | decide | exact Nat.le_of_ble_eq_true rfl) only [↓q_br, q_rt, q_rz, q_gd, q_ca, ↓reduceIte, F_Jx4a65c_clear_da8c8_27B, h0]
  · obtain ⟨D', r1, r2⟩ := q_clear_27 (κ := κ) (b := b) (M := M) (O := O) (C := (q_u2 (q_u2 I 22 0 (I 22 0 + 1)) 22 2 0, R, X, Y, Z)) (s := s) h6 h2 h3 k q_fu 0 D (by omega) (by unfold q_fu; omega) h8
    rw [nI_0] at r1
    refine ⟨q_u2 (q_u2 I 22 0 (I 22 0 + 1)) 22 2 0, D', ?_, fun j j1 => by rw [q_u2_n _ _ _ j1, q_u2_n _ _ _ j1], by rw [q_u2_s, q_u1_s], r2⟩
    simp (disch := first | rfl | omega | decide | exact Nat.le_of_ble_eq_true rfl) only [↓q_br, q_rt, q_rz, q_gd, q_ca, ↓reduceIte, F_Jx4a65c_clear_da8c8, ↓q_gA_22_1, ↓q_gA_23_1, ↓q_gI_22_0, ↓q_gI_22_2, ↓q_gI_23_0, ↓q_gI_23_2, ↓q_pI_22_0, ↓q_pI_22_2, ↓q_pI_23_0, ↓q_pI_23_2, e2, h5, r1]
theorem q_clear23 {I : Nat → Nat → Int32} {R : Nat → Nat → Option Nat} {X : Nat → Nat → Int32} {Y : Nat → Nat → Int64} {Z : Nat → Nat → Option Nat} {D : q_Mem} {s : Nat × Nat} {n cap : Nat} (h : q_AW κ b n D I R 23 cap) : ∃ I' D', F_Jx4a65c_clear_da8c8 κ (some (b + 23)) (q_H b (I, R, X, Y, Z) M O D, s) = some (.inl (), (q_H b (I', R, X, Y, Z) M O D', s)) ∧ (∀ j, j ≠ 23 → I' j = I j) ∧ I' 23 2 = 0 ∧ q_S7 D D' := by
  obtain ⟨k, h1, h2, h3, h4⟩ := h
  have e2 : q_u2 I 23 0 (I 23 0 + 1) 23 2 = nI k := by rw [q_u2_s, q_u1_n _ _ (by decide), h1]
  rcases h4 with ⟨-, h5⟩ | ⟨e, h5, h6, h7, h8⟩
  · have hk : k = 0 := by omega
    subst hk
    obtain ⟨f, hf⟩ : ∃ f, q_fu = f + 1 := ⟨q_fu - 1, by unfold q_fu; omega⟩
    refine ⟨q_u2 (q_u2 I 23 0 (I 23 0 + 1)) 23 2 0, D, ?_, fun j j1 => by rw [q_u2_n _ _ _ j1, q_u2_n _ _ _ j1], by rw [q_u2_s, q_u1_s], q_S7_r D⟩
    simp (disch := first | rfl | omega | decide | exact Nat.le_of_ble_eq_true rfl) only [↓q_br, q_rt, q_rz, q_gd, q_ca, ↓reduceIte, F_Jx4a65c_clear_da8c8, ↓q_gA_22_1, ↓q_gA_23_1, ↓q_gI_22_0, ↓q_gI_22_2, ↓q_gI_23_0, ↓q_gI_23_2, ↓q_pI_22_0, ↓q_pI_22_2, ↓q_pI_23_0, ↓q_pI_23_2, e2]
    rw [hf, F_Jx4a65c_clear_da8c8_27]
    have h0 : (nI 0 ≤ (0 : Int32)) = True := eq_true (by decide)
    simp (disch := first | rfl | omega | decide | exact Nat.le_of_ble_eq_true rfl) only [↓q_br, q_rt, q_rz, q_gd, q_ca, ↓reduceIte, F_Jx4a65c_clear_da8c8_27B, h0]
  · obtain ⟨D', r1, r2⟩ := q_clear_27 (κ := κ) (b := b) (M := M) (O := O) (C := (q_u2 (q_u2 I 23 0 (I 23 0 + 1)) 23 2 0, R, X, Y, Z)) (s := s) h6 h2 h3 k q_fu 0 D (by omega) (by unfold q_fu; omega) h8
    rw [nI_0] at r1
    refine ⟨q_u2 (q_u2 I 23 0 (I 23 0 + 1)) 23 2 0, D', ?_, fun j j1 => by rw [q_u2_n _ _ _ j1, q_u2_n _ _ _ j1], by rw [q_u2_s, q_u1_s], r2⟩
    simp (disch := first | rfl | omega | decide | exact Nat.le_of_ble_eq_true rfl) only [↓q_br, q_rt, q_rz, q_gd, q_ca, ↓reduceIte, F_Jx4a65c_clear_da8c8, ↓q_gA_22_1, ↓q_gA_23_1, ↓q_gI_22_0, ↓q_gI_22_2, ↓q_gI_23_0, ↓q_gI_23_2, ↓q_pI_22_0, ↓q_pI_22_2, ↓q_pI_23_0, ↓q_pI_23_2, e2, h5, r1]
theorem q_memClear_2 {R : Nat → Nat → Option Nat} {Y : Nat → Nat → Int64} {Z : Nat → Nat → Option Nat} {D : q_Mem} {I : Nat → Nat → Int32} {s : Nat × Nat} {c : Nat} (hc : I 11 2 = nI c) (hc0 : 0 < c) (hc1 : c ≤ 4096) : ∀ d fuel o (X : Nat → Nat → Int32), o + d = 4096 → d < fuel → (∀ v, v < o → X 13 v = 0) → ∃ X', F_X6_clear_2 κ fuel (some (b + 11)) (nI o) (q_H b (I, R, X, Y, Z) M O D, s) = some (.inl (), (q_H b (q_u2 I 11 2 0, R, X', Y, Z) M O D, s)) ∧ (∀ j, j ≠ 13 → X' j = X j) ∧ ∀ v, v < 4096 → X' 13 v = 0 := by
  have g0 : ¬ nI c ≤ 0 := by rw [← nI_0, nI_leI (by omega) (by omega)]; omega
  intro d
  induction d with
  | zero =>
    intro fuel o X h1 h2 h3
    obtain ⟨f, rfl⟩ : ∃ f, fuel = f + 1 := ⟨fuel - 1, by omega⟩
    have h4 : (4096 : Int32) ≤ nI o := by rw [show (4096 : Int32) = nI 4096 from rfl, nI_leI (by decide) (by omega)]; omega
    refine ⟨X, ?_, fun _ _ => rfl, fun v hv => h3 v (by omega)⟩
    rw [F_X6_clear_2]
    simp (disch := first | rfl | omega | decide | exact Nat.le_of_ble_eq_true rfl) only [↓q_br, q_rt, q_rz, q_gd, q_ca, ↓reduceIte, F_X6_clear_2B, F_X6_clear_29, ↓q_gA_11_1, ↓q_gI_11_2, ↓q_pI_11_2, ↓q_sI_13, hc, g0, h4]
  | succ d ih =>
    intro fuel o X h1 h2 h3
    obtain ⟨f, rfl⟩ : ∃ f, fuel = f + 1 := ⟨fuel - 1, by omega⟩
    have h4 : ¬ (4096 : Int32) ≤ nI o := by rw [show (4096 : Int32) = nI 4096 from rfl, nI_leI (by decide) (by omega)]; omega
    have vn : vp_nar .boolean (0 : Int32) = 0 := by decide
    obtain ⟨X', r1, r2, r3⟩ := ih f (o + 1) (q_u2 X 13 o 0) (by omega) (by omega) (fun v hv => by
      by_cases hvo : v = o
      · subst hvo; rw [q_u2_s, q_u1_s]
      · rw [q_u2_s, q_u1_n _ _ hvo, h3 v (by omega)])
    refine ⟨X', ?_, fun j hj => by rw [r2 j hj, q_u2_n _ _ _ hj], r3⟩
    refine Eq.trans ?_ r1
    rw [F_X6_clear_2]
    simp (disch := first | rfl | omega | decide | exact Nat.le_of_ble_eq_true rfl) only [↓q_br, q_rt, q_rz, q_gd, q_ca, ↓reduceIte, F_X6_clear_2B, ↓q_gA_11_1, ↓q_gI_11_2, ↓q_sI_13, hc, g0, h4, nI_1, vn]
theorem q_memClear {R : Nat → Nat → Option Nat} {X : Nat → Nat → Int32} {Y : Nat → Nat → Int64} {Z : Nat → Nat → Option Nat} {D : q_Mem} {I : Nat → Nat → Int32} {s : Nat × Nat} {c : Nat} (hc : I 11 2 = nI c) (hc1 : c ≤ 4096) (h0 : c = 0 → ∀ v, v < 4096 → X 13 v = 0) : ∃ X', F_X6_clear κ (some (b + 11)) (q_H b (I, R, X, Y, Z) M O D, s) = some (.inl (), (q_H b (q_u2 I 11 2 0, R, X', Y, Z) M O D, s)) ∧ (∀ j, j ≠ 13 → X' j = X j) ∧ ∀ v, v < 4096 → X' 13 v = 0 := by
  unfold F_X6_clear
  by_cases hc0 : c = 0
  · refine ⟨X, ?_, fun _ _ => rfl, h0 hc0⟩
    subst hc0
    obtain ⟨f, hf⟩ : ∃ f, q_fu = f + 1 := ⟨q_fu - 1, by unfold q_fu; omega⟩
    have g0 : (nI 0 ≤ (0 : Int32)) = True := eq_true (by decide)
    rw [hf, F_X6_clear_2]
    simp (disch := first | rfl | omega | decide | exact Nat.le_of_ble_eq_true rfl) only [↓q_br, q_rt, q_rz, q_gd, q_ca, ↓reduceIte, F_X6_clear_2B, F_X6_clear_29, ↓q_gA_11_1, ↓q_gI_11_2, ↓q_pI_11_2, ↓q_sI_13, hc, g0]
  · have := q_memClear_2 (κ := κ) (b := b) (M := M) (O := O) (R := R) (Y := Y) (Z := Z) (D := D) (s := s) hc (by omega) hc1 4096 q_fu 0 X (by omega) (by unfold q_fu; omega) (fun v hv => by omega)
    rw [nI_0] at this
    exact this
theorem q_fill24 {R : Nat → Nat → Option Nat} {Y : Nat → Nat → Int64} {Z : Nat → Nat → Option Nat} {D : q_Mem} {I : Nat → Nat → Int32} {s : Nat × Nat} : ∀ d fuel o (X : Nat → Nat → Int32), o + d = 256 → d < fuel → (∀ v, v < o → X 24 v = -1) → ∃ X', F_J7_fill_53178_5 κ fuel (some (b + 24)) (-1) (nI o) (nI 256) (q_H b (I, R, X, Y, Z) M O D, s) = some (.inl (), (q_H b (I, R, X', Y, Z) M O D, s)) ∧ (∀ j, j ≠ 24 → X' j = X j) ∧ ∀ v, v < 256 → X' 24 v = -1 := by
  intro d
  induction d with
  | zero =>
    intro fuel o X h1 h2 h3
    obtain ⟨f, rfl⟩ : ∃ f, fuel = f + 1 := ⟨fuel - 1, by omega⟩
    have h4 : 256 ≤ o := by omega
    refine ⟨X, ?_, fun _ _ => rfl, fun v hv => h3 v (by omega)⟩
    rw [F_J7_fill_53178_5]
    simp (disch := first | rfl | omega | decide | exact Nat.le_of_ble_eq_true rfl) only [↓q_br, q_rt, q_rz, q_gd, q_ca, ↓reduceIte, F_J7_fill_53178_5B, nI_leI, h4]
  | succ d ih =>
    intro fuel o X h1 h2 h3
    obtain ⟨f, rfl⟩ : ∃ f, fuel = f + 1 := ⟨fuel - 1, by omega⟩
    have h4 : ¬ 256 ≤ o := by omega
    obtain ⟨X', r1, r2, r3⟩ := ih f (o + 1) (q_u2 X 24 o (-1)) (by omega) (by omega) (fun v hv => by
      by_cases hvo : v = o
      · subst hvo; rw [q_u2_s, q_u1_s]
      · rw [q_u2_s, q_u1_n _ _ hvo, h3 v (by omega)])
    refine ⟨X', ?_, fun j hj => by rw [r2 j hj, q_u2_n _ _ _ hj], r3⟩
    refine Eq.trans ?_ r1
    rw [F_J7_fill_53178_5]
    simp (disch := first | rfl | omega | decide | exact Nat.le_of_ble_eq_true rfl) only [↓q_br, q_rt, q_rz, q_gd, q_ca, ↓reduceIte, F_J7_fill_53178_5B, nI_leI, h4, nI_1, ↓q_sI_24]
theorem q_AW_S {D D' : q_Mem} {I I' : Nat → Nat → Int32} {R : Nat → Nat → Option Nat} {n n' j cap : Nat} (h : q_AW κ b n D I R j cap) (hS : q_S7 D D') (hI : I' j = I j) (hn : n ≤ n') : q_AW κ b n' D' I' R j cap := by
  obtain ⟨k, h1, h2, h3, h4⟩ := h
  refine ⟨k, by rw [hI, h1], h2, h3, ?_⟩
  rcases h4 with h5 | ⟨e, h5, h6, h7, h8⟩
  · exact Or.inl h5
  · exact Or.inr ⟨e, h5, h6, by omega, hS.2 e cap h8⟩
theorem q_AW_0 {D D' : q_Mem} {I I' : Nat → Nat → Int32} {R : Nat → Nat → Option Nat} {n n' j cap : Nat} (h : q_AW κ b n D I R j cap) (hS : q_S7 D D') (hI : I' j 2 = 0) (hn : n ≤ n') : q_AW κ b n' D' I' R j cap := by
  obtain ⟨k, h1, h2, h3, h4⟩ := h
  refine ⟨0, by rw [hI]; rfl, Nat.zero_le _, h3, ?_⟩
  rcases h4 with h5 | ⟨e, h5, h6, h7, h8⟩
  · exact Or.inl h5
  · exact Or.inr ⟨e, h5, h6, by omega, hS.2 e cap h8⟩
theorem q_forget {R : Nat → Nat → Option Nat} {X : Nat → Nat → Int32} {Y : Nat → Nat → Int64} {Z : Nat → Nat → Option Nat} {D : q_Mem} {I : Nat → Nat → Int32} {s : Nat × Nat} {c n c22 c23 : Nat} (hc : I 11 2 = nI c) (hc1 : c ≤ 4096) (h0 : c = 0 → ∀ v, v < 4096 → X 13 v = 0) (h22 : q_AW κ b n D I R 22 c22) (h23 : q_AW κ b n D I R 23 c23) :
    ∃ I' X' D', F_X8_forget κ (some (b + 21)) (q_H b (I, R, X, Y, Z) M O D, s) = some (.inl (), (q_H b (I', R, X', Y, Z) M O D', s)) ∧ (∀ j, j ≠ 11 → j ≠ 21 → j ≠ 22 → j ≠ 23 → I' j = I j) ∧ (∀ j, j ≠ 13 → j ≠ 24 → X' j = X j) ∧ q_S7 D D' ∧ I' 11 2 = 0 ∧ I' 21 8 = 0 ∧ I' 22 2 = 0 ∧ I' 23 2 = 0 ∧ q_AW κ b n D' I' R 22 c22 ∧ q_AW κ b n D' I' R 23 c23 ∧ (∀ v, v < 4096 → X' 13 v = 0) ∧ (∀ v, v < 256 → X' 24 v = -1) := by
  obtain ⟨X1, a1, a2, a3⟩ := q_memClear (κ := κ) (b := b) (M := M) (O := O) (R := R) (X := X) (Y := Y) (Z := Z) (D := D) (s := s) hc hc1 h0
  have w22 : q_AW κ b n D (q_u2 I 11 2 0) R 22 c22 := q_AW_S h22 (q_S7_r D) (q_u2_n _ _ _ (by decide)) (Nat.le_refl _)
  obtain ⟨I2, D2, b1, b2, b3, b4⟩ := q_clear22 (κ := κ) (b := b) (M := M) (O := O) (X := X1) (Y := Y) (Z := Z) (s := s) w22
  have w23 : q_AW κ b n D2 I2 R 23 c23 := q_AW_S h23 b4 (by rw [b2 23 (by decide), q_u2_n _ _ _ (by decide)]) (Nat.le_refl _)
  obtain ⟨I3, D3, d1, d2, d3, d4⟩ := q_clear23 (κ := κ) (b := b) (M := M) (O := O) (X := X1) (Y := Y) (Z := Z) (s := s) w23
  obtain ⟨X4, e1, e2, e3⟩ := q_fill24 (κ := κ) (b := b) (M := M) (O := O) (R := R) (Y := Y) (Z := Z) (D := D3) (I := I3) (s := s) 256 q_fu 0 X1 (by omega) (by unfold q_fu; omega) (fun v hv => by omega)
  rw [nI_0] at e1
  have x22 : q_u2 I3 21 8 0 22 2 = 0 := by rw [q_u2_n _ _ _ (by decide), d2 22 (by decide), b3]
  have x23 : q_u2 I3 21 8 0 23 2 = 0 := by rw [q_u2_n _ _ _ (by decide), d3]
  refine ⟨q_u2 I3 21 8 0, X4, D3, ?_, fun j j1 j2 j3 j4 => by rw [q_u2_n _ _ _ j2, d2 j j4, b2 j j3, q_u2_n _ _ _ j1], fun j j1 j2 => by rw [e2 j j2, a2 j j1], q_S7_t b4 d4, by rw [q_u2_n _ _ _ (by decide), d2 11 (by decide), b2 11 (by decide), q_u2_s, q_u1_s], by rw [q_u2_s, q_u1_s], x22, x23, q_AW_0 h22 (q_S7_t b4 d4) x22 (Nat.le_refl _), q_AW_0 h23 (q_S7_t b4 d4) x23 (Nat.le_refl _), fun v hv => by rw [e2 13 (by decide), a3 v hv], e3⟩
  simp (disch := first | rfl | omega | decide | exact Nat.le_of_ble_eq_true rfl) only [↓q_br, q_rt, q_rz, q_gd, q_ca, ↓reduceIte, F_X8_forget, F_J7_fill_53178, ↓q_gA_21_3, ↓q_gA_21_4, ↓q_gA_21_5, ↓q_gA_21_6, ↓q_is_11, ↓q_is_22, ↓q_is_23, ↓q_ln_24, ↓q_pI_21_8, ↓q_is_11, ↓q_is_22, ↓q_is_23, ↓q_ln_24, a1, b1, d1, e1]
end QFA
