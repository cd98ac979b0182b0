section QLB
variable {κ : Nat → Nat} {b : Nat} {B : Nat → Int32} {l : List q_Tok} {z t : Nat}
theorem q_min_p {κ : Nat → Nat} {i : Nat} {p : Option Nat} {σ : q_St} (hi : i < 10000) (hp : ∀ j, p = some j → j < i) : F_J9_min_7cf53 κ (nI i - 1) (q_mv p) σ = some (.inl (q_mv p), σ) := by
  cases p with
  | none =>
    have e : q_mv none = -1 := rfl
    rw [e]
    by_cases h0 : i = 0
    · subst h0
      have c : ((-1 : Int32) < -1) = False := eq_false (by decide)
      have d : nI 0 - 1 = -1 := by decide
      simp (disch := first | rfl | omega | decide | exact Nat.le_of_ble_eq_true rfl) only [↓q_br, q_rt, q_rz, q_gd, q_ca, ↓reduceIte, F_J9_min_7cf53, F_J9_min_7cf53_10, c, d]
    · have d : nI i - 1 = nI (i - 1) := nI_sub (b := 1) (by omega)
      have c : ((-1 : Int32) < nI (i - 1)) = True := eq_true (Int32.lt_of_lt_of_le (by decide) (nI_pos' (n := i - 1) (by omega)))
      rw [d]
      simp (disch := first | rfl | omega | decide | exact Nat.le_of_ble_eq_true rfl) only [↓q_br, q_rt, q_rz, q_gd, q_ca, ↓reduceIte, F_J9_min_7cf53, F_J9_min_7cf53_10, c]
  | some j =>
    have hj := hp j rfl
    have e : q_mv (some j) = nI j := rfl
    have d : nI i - 1 = nI (i - 1) := nI_sub (b := 1) (by omega)
    rw [e, d]
    by_cases hlt : j < i - 1
    · have c : (nI j < nI (i - 1)) = True := eq_true (nI_lt hlt (by omega))
      simp (disch := first | rfl | omega | decide | exact Nat.le_of_ble_eq_true rfl) only [↓q_br, q_rt, q_rz, q_gd, q_ca, ↓reduceIte, F_J9_min_7cf53, F_J9_min_7cf53_10, c]
    · have c : (nI j < nI (i - 1)) = False := eq_false (nI_nlt (by omega) (by omega))
      have e2 : i - 1 = j := by omega
      simp (disch := first | rfl | omega | decide | exact Nat.le_of_ble_eq_true rfl) only [↓q_br, q_rt, q_rz, q_gd, q_ca, ↓reduceIte, F_J9_min_7cf53, F_J9_min_7cf53_10, c]
      rw [e2]
/-- what the class knows of the labels -/
def q_LBo (b : Nat) (D : q_Mem) (B : Nat → Int32) (l : List q_Tok) (LT : List Nat) (la : Nat → Nat) : Prop := ∀ k, k < LT.length → ∃ v0 v2 v4 v5 v6 v7, b + 66 < la k ∧ D (la k) = some (.inr (.inl (6, [v0, .int (nI (LT.getD k 0)), v2, .int (q_mv (q_prev (fun k => q_hk B l (LT.getD k 0)) (q_hk B l (LT.getD k 0)) k)), v4, v5, v6, v7])))
def q_UQ (B : Nat → Int32) (l : List q_Tok) (LT : List Nat) : Prop := ∀ i j, i < j → j < LT.length → ¬ q_tB B (q_tok l (LT.getD i 0)) = q_tB B (q_tok l (LT.getD j 0))
theorem q_labelAt_18 {I : Nat → Nat → Int32} {R : Nat → Nat → Option Nat} {X : Nat → Nat → Int32} {Y : Nat → Nat → Int64} {Z : Nat → Nat → Option Nat} {M : q_MT} {O : Nat → Int64} {D : q_Mem} {s : Nat × Nat} {n c23 hh : Nat} {LT : List Nat} {la : Nat → Nat} (h : q_TC B l z I X Y) (ht : t < l.length) (hAL : q_AL κ b n D I R 23 c23 LT.length la) (hLB : q_LBo b D B l LT la) (hLT : ∀ k, k < LT.length → LT.getD k 0 < l.length) (hK : LT.length ≤ 6100) : ∀ k fuel, k ≤ LT.length → k < fuel → ∃ r, F_X8_labelAt_18 κ fuel (some (b + 21)) (nI t) (q_mv (q_prev (fun k => q_hk B l (LT.getD k 0)) hh k)) (q_H b (I, R, X, Y, Z) M O D, s) = some (.inl (q_mv r), (q_H b (I, R, X, Y, Z) M O D, s)) ∧ (∀ j, r = some j → j < k ∧ q_tB B (q_tok l (LT.getD j 0)) = q_tB B (q_tok l t)) ∧ (r = none → ∀ j, j < k → q_hk B l (LT.getD j 0) = hh → ¬ q_tB B (q_tok l (LT.getD j 0)) = q_tB B (q_tok l t)) := by
  intro k
  induction k using Nat.strongRecOn with
  | ind k ih =>
    intro fuel h1 h2
    obtain ⟨f, rfl⟩ : ∃ f, fuel = f + 1 := ⟨fuel - 1, by omega⟩
    cases hp : q_prev (fun k => q_hk B l (LT.getD k 0)) hh k with
    | none =>
      refine ⟨none, ?_, fun j hj => (by cases hj), fun _ j hj he => absurd he (q_prev_n k hp j hj)⟩
      have c : (q_mv none < 0) = True := eq_true (by decide)
      rw [F_X8_labelAt_18]
      simp (disch := first | rfl | omega | decide | exact Nat.le_of_ble_eq_true rfl) only [↓q_br, q_rt, q_rz, q_gd, q_ca, ↓reduceIte, F_X8_labelAt_18B, F_X8_labelAt_76, ↓q_gA_21_1, ↓q_gA_21_5, ↓q_is_2, ↓q_is_22, ↓q_is_23, c]
      rfl
    | some i =>
      obtain ⟨p1, p2, p3⟩ := q_prev_s k i hp
      have hil : i < LT.length := by omega
      have mv : q_mv (some i) = nI i := rfl
      have c1 : (nI i < 0) = False := eq_false (nI_pos (by omega))
      have c2 : (nI LT.length ≤ nI i) = False := eq_false (nI_ge hil (by omega))
      have sz := q_size23 (κ := κ) (b := b) (R := R) (X := X) (Y := Y) (Z := Z) (M := M) (O := O) (D := D) (s := s) hAL.1
      have gt := q_get23 (κ := κ) (b := b) (X := X) (Y := Y) (Z := Z) (M := M) (O := O) (s := s) hAL hil
      obtain ⟨v0, v2, v4, v5, v6, v7, o1, o2⟩ := hLB i hil
      have e3 := And.intro o1 o2
      have sm := q_isSame (κ := κ) (b := b) (R := R) (Z := Z) (M := M) (O := O) (D := D) (s := s) h (hLT i hil) ht
      rw [mv, F_X8_labelAt_18]
      by_cases hs : q_tB B (q_tok l (LT.getD i 0)) = q_tB B (q_tok l t)
      · rw [decide_eq_true hs] at sm
        refine ⟨some i, ?_, fun j hj => by cases hj; exact ⟨p1, hs⟩, fun hj => by cases hj⟩
        simp (disch := first | rfl | omega | decide | exact Nat.le_of_ble_eq_true rfl) only [↓q_br, q_rt, q_rz, q_gd, q_ca, ↓reduceIte, F_X8_labelAt_18B, ↓q_gA_21_1, ↓q_gA_21_5, ↓q_is_2, ↓q_is_22, ↓q_is_23, ↓q_is_23, ↓q_is_2, c1, sz, c2, gt, qd_S e3, qd_I e3 (k := 1) (v := nI (LT.getD i 0)) rfl, sm, q_b_0, Bool.true_eq_false]
        rfl
      · rw [decide_eq_false hs] at sm
        obtain ⟨r, r1, r2, r3⟩ := ih i p1 f (by omega) (by omega)
        have p2' : q_hk B l (LT.getD i 0) = hh := p2
        have mn := q_min_p (κ := κ) (i := i) (p := q_prev (fun k => q_hk B l (LT.getD k 0)) hh i) (σ := (q_H b (I, R, X, Y, Z) M O D, s)) (by omega) (fun j hj => (q_prev_s i j hj).1)
        rw [p2'] at e3
        refine ⟨r, ?_, fun j hj => ⟨by have := (r2 j hj).1; omega, (r2 j hj).2⟩, fun hn j hj he => ?_⟩
        · simp (disch := first | rfl | omega | decide | exact Nat.le_of_ble_eq_true rfl) only [↓q_br, q_rt, q_rz, q_gd, q_ca, ↓reduceIte, F_X8_labelAt_18B, ↓q_gA_21_1, ↓q_gA_21_5, ↓q_is_2, ↓q_is_22, ↓q_is_23, ↓q_is_23, ↓q_is_2, c1, sz, c2, gt, qd_S e3, qd_I e3 (k := 1) (v := nI (LT.getD i 0)) rfl, sm, q_b_0, qd_I e3 (k := 3) (v := q_mv (q_prev (fun k => q_hk B l (LT.getD k 0)) hh i)) rfl, mn, r1]
        · rcases Nat.lt_trichotomy j i with h9 | h9 | h9
          · exact r3 hn j h9 he
          · subst h9; exact hs
          · exact absurd he (p3 j h9 hj)
theorem q_fi_u {c : Nat → Bool} {n : Nat} {r : Option Nat} (h1 : ∀ j, r = some j → j < n ∧ c j = true) (h2 : r = none → ∀ j, j < n → c j = false) (hu : ∀ i j, i < j → j < n → ¬ (c i = true ∧ c j = true)) : r = q_fi c n 0 := by
  cases hf : q_fi c n 0 with
  | none =>
    cases r with
    | none => rfl
    | some j =>
      obtain ⟨a1, a2⟩ := h1 j rfl
      have := q_fi_n _ _ hf j (by omega) (by omega)
      rw [this] at a2
      cases a2
  | some i =>
    obtain ⟨f1, f2, f3, -⟩ := q_fi_s _ _ _ hf
    cases r with
    | none =>
      have := h2 rfl i (by omega)
      rw [this] at f3
      cases f3
    | some j =>
      obtain ⟨a1, a2⟩ := h1 j rfl
      rcases Nat.lt_trichotomy i j with h9 | h9 | h9
      · exact absurd ⟨f3, a2⟩ (hu i j h9 a1)
      · rw [h9]
      · exact absurd ⟨a2, f3⟩ (hu j i h9 (by omega))
theorem q_labelAt {I : Nat → Nat → Int32} {R : Nat → Nat → Option Nat} {X : Nat → Nat → Int32} {Y : Nat → Nat → Int64} {Z : Nat → Nat → Option Nat} {M : q_MT} {O : Nat → Int64} {D : q_Mem} {s : Nat × Nat} {n c23 : Nat} {LT : List Nat} {la : Nat → Nat} (h : q_TC B l z I X Y) (ht : t < l.length) (hAL : q_AL κ b n D I R 23 c23 LT.length la) (hLB : q_LBo b D B l LT la) (hLT : ∀ k, k < LT.length → LT.getD k 0 < l.length) (hK : LT.length ≤ 6100) (hX : ∀ g, g < 256 → X 24 g = q_mv (q_prev (fun k => q_hk B l (LT.getD k 0)) g LT.length)) (hu : q_UQ B l LT) : F_X8_labelAt κ (some (b + 21)) (nI t) (q_H b (I, R, X, Y, Z) M O D, s) = some (.inl (q_mv (q_lk B l LT t)), (q_H b (I, R, X, Y, Z) M O D, s)) := by
  obtain ⟨r, r1, r2, r3⟩ := q_labelAt_18 (κ := κ) (Z := Z) (M := M) (O := O) (s := s) (hh := q_hk B l t) h ht hAL hLB hLT hK LT.length q_fu (Nat.le_refl _) (by unfold q_fu; omega)
  have er : r = q_lk B l LT t := by
    unfold q_lk
    refine q_fi_u (fun j hj => ⟨(r2 j hj).1, decide_eq_true (r2 j hj).2⟩) (fun hn j hj => decide_eq_false (fun he => r3 hn j hj (q_hk_c he) he)) (fun i j hij hj hc => ?_)
    rw [decide_eq_true_eq, decide_eq_true_eq] at hc
    exact hu i j hij hj (by rw [hc.1, hc.2])
  have hs := q_hash (κ := κ) (b := b) (R := R) (Z := Z) (M := M) (O := O) (D := D) (s := s) h ht
  have lt : q_hb (q_hv B (q_tok l t)) < 256 := q_hb_lt _
  have x24 : X 24 (q_hb (q_hv B (q_tok l t))) = q_mv (q_prev (fun k => q_hk B l (LT.getD k 0)) (q_hk B l t) LT.length) := hX _ lt
  rw [← er]
  simp (disch := first | rfl | omega | decide | exact Nat.le_of_ble_eq_true rfl) only [↓q_br, q_rt, q_rz, q_gd, q_ca, ↓reduceIte, F_X8_labelAt, ↓q_gA_21_1, ↓q_gA_21_6, ↓q_is_2, ↓q_lI_24, ↓q_is_2, hs, q_hb_e, ↓q_lI_24, x24, r1]
/-- the reference: which label is it -/
theorem q_mlabelAt_2 {C : q_CT} {P : Nat → Int32} {Q : Nat → Nat → Int32} {S : Nat → Nat → Int64} {O : Nat → Int64} {D : q_Mem} {s : Nat × Nat} {LT : List Nat} (h : q_TM B l z P Q S) (ht : t < l.length) (h43 : P 43 = nI LT.length) (hQ : ∀ k, k < LT.length → Q 62 k = nI (LT.getD k 0)) (hLT : ∀ k, k < LT.length → LT.getD k 0 < l.length) (hK : LT.length ≤ 6000) : ∀ d fuel k, k + d = LT.length → d < fuel → F_X13_labelAt_2 κ fuel (some (b + 26)) (nI t) (nI k) (q_H b C (P, Q, S) O D, s) = some (.inl (q_mv (q_fi (fun k => decide (q_tB B (q_tok l (LT.getD k 0)) = q_tB B (q_tok l t))) d k)), (q_H b C (P, Q, S) O D, s)) := by
  intro d
  induction d with
  | zero =>
    intro fuel k h1 h2
    obtain ⟨f, rfl⟩ : ∃ f, fuel = f + 1 := ⟨fuel - 1, by omega⟩
    have h3 : LT.length ≤ k := by omega
    rw [F_X13_labelAt_2, q_fi]
    simp (disch := first | rfl | omega | decide | exact Nat.le_of_ble_eq_true rfl) only [↓q_br, q_rt, q_rz, q_gd, q_ca, ↓reduceIte, F_X13_labelAt_2B, ↓q_gA_26_53, ↓q_gI_26_43, ↓q_is_26, ↓q_lI_62, h43, nI_leI, h3]
    rfl
  | succ d ih =>
    intro fuel k h1 h2
    obtain ⟨f, rfl⟩ : ∃ f, fuel = f + 1 := ⟨fuel - 1, by omega⟩
    have h3 : ¬ LT.length ≤ k := by omega
    have k6 : k < 6000 := by omega
    have hq := hQ k (by omega)
    have sm := q_misSame (κ := κ) (b := b) (C := C) (O := O) (D := D) (s := s) h (hLT k (by omega)) ht
    have ihk := ih f (k + 1) (by omega) (by omega)
    rw [F_X13_labelAt_2, q_fi]
    by_cases hs : q_tB B (q_tok l (LT.getD k 0)) = q_tB B (q_tok l t)
    · rw [decide_eq_true hs] at sm
      simp (disch := first | rfl | omega | decide | exact Nat.le_of_ble_eq_true rfl) only [↓q_br, q_rt, q_rz, q_gd, q_ca, ↓reduceIte, F_X13_labelAt_2B, ↓q_gA_26_53, ↓q_gI_26_43, ↓q_is_26, ↓q_lI_62, h43, nI_leI, h3, hq, ↓q_is_26, sm, q_b_0, Bool.true_eq_false, decide_eq_true hs]
      rfl
    · rw [decide_eq_false hs] at sm
      simp (disch := first | rfl | omega | decide | exact Nat.le_of_ble_eq_true rfl) only [↓q_br, q_rt, q_rz, q_gd, q_ca, ↓reduceIte, F_X13_labelAt_2B, ↓q_gA_26_53, ↓q_gI_26_43, ↓q_is_26, ↓q_lI_62, h43, nI_leI, h3, hq, ↓q_is_26, sm, q_b_0, nI_1, ihk, decide_eq_false hs, Bool.false_eq_true]
theorem q_mlabelAt {C : q_CT} {P : Nat → Int32} {Q : Nat → Nat → Int32} {S : Nat → Nat → Int64} {O : Nat → Int64} {D : q_Mem} {s : Nat × Nat} {LT : List Nat} (h : q_TM B l z P Q S) (ht : t < l.length) (h43 : P 43 = nI LT.length) (hQ : ∀ k, k < LT.length → Q 62 k = nI (LT.getD k 0)) (hLT : ∀ k, k < LT.length → LT.getD k 0 < l.length) (hK : LT.length ≤ 6000) : F_X13_labelAt κ (some (b + 26)) (nI t) (q_H b C (P, Q, S) O D, s) = some (.inl (q_mv (q_lk B l LT t)), (q_H b C (P, Q, S) O D, s)) := by
  have := q_mlabelAt_2 (κ := κ) (b := b) (C := C) (O := O) (D := D) (s := s) h ht h43 hQ hLT hK LT.length q_fu 0 (by omega) (by unfold q_fu; omega)
  rw [nI_0] at this
  exact this
end QLB
