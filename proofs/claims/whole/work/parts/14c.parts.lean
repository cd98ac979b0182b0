def q_pp (B : Nat → Int32) (l : List q_Tok) (L : List q_Knd) : Nat → List Int32 → q_Ops → Nat → q_Out (List Int32 × q_Ops × Nat)
  | 0, _, _, t => .inl (1, t)
  | f + 1, ps, os, t => if q_sgn l t 61 = true then .inr (ps, os, t) else (match q_p1 B l L ps os t with
    | .inl e => .inl e
    | .inr x => q_pp B l L f x.1 x.2.1 x.2.2)
theorem q_p1_len {B : Nat → Int32} {l : List q_Tok} {L : List q_Knd} {ps ps' : List Int32} {os os' : q_Ops} {t t' : Nat} (h : q_p1 B l L ps os t = .inr (ps', os', t')) : ps'.length = ps.length + 1 ∧ t < t' := by
  unfold q_p1 at h
  split at h
  · split at h
    · cases h
    · split at h
      · cases h
      · split at h
        · split at h
          · split at h
            · cases h; simp
            · cases h
          · cases h
        · cases h
  · split at h
    · split at h
      · cases h
      · cases h; simp
    · cases h
section QIC
variable {κ : Nat → Nat} {b : Nat} {B : Nat → Int32} {l : List q_Tok} {z : Nat} {R : Nat → Nat → Option Nat} {X : Nat → Nat → Int32} {Y : Nat → Nat → Int64} {Z : Nat → Nat → Option Nat} {M : q_MT} {O : Nat → Int64}
theorem q_Kp_D {κ : Nat → Nat} {D D' : q_Mem} (h : q_Kp κ b D) (hD : ∀ x, x ≤ b → D' x = D x) : q_Kp κ b D' := by
  obtain ⟨h1, h2, h3⟩ := h
  refine ⟨fun i hi => ?_, ?_, h3⟩
  · obtain ⟨e1, e2, e3, e4⟩ := h1 i hi
    exact ⟨by rw [hD _ e2, e1], e2, by rw [hD _ e4, e3], e4⟩
  · rw [hD _ h3, h2]
theorem q_CMk_D {D D' : q_Mem} {I I' : Nat → Nat → Int32} {n n' : Nat} {L : List q_Knd} {a : Nat} (hk : q_CMk b n D I Z L) (hlo : ∀ k K, L[k]? = some K → ∃ x, Z 9 k = some x ∧ q_CKd b a D x K) (hI : I' 8 3 = I 8 3) (ha : a ≤ n') (hD : ∀ x, b < x → x < a → D' x = D x) : q_CMk b n' D' I' Z L := by
  refine ⟨hI.trans hk.1, hk.2.1, fun k K hK => ?_⟩
  obtain ⟨x, e1, e2⟩ := hlo k K hK
  exact ⟨x, e1, q_CKd_mo e2 ha hD⟩
theorem q_readParts {L : List q_Knd} {a : Nat} {mn : q_Nam} {wc dc : Nat} {fm fd : Nat → Int64} {fs : Nat → Int32} (hR : R 19 3 = some a) : ∀ f fuel c t (I : Nat → Nat → Int32) (D : q_Mem) (n m : Nat) (ps : List Int32) (os : q_Ops), q_TC B l z I X Y → q_Kp κ b D → I 14 1 = nI t → I 14 2 = 0 → t ≤ l.length → l.length < t + f → c ≤ t → f + 1 < fuel → b + 66 < n → I 8 3 = nI L.length → L.length ≤ 40 → (∀ k K, L[k]? = some K → ∃ x, Z 9 k = some x ∧ q_CKd b a D x K) → q_CIo b n D Z L.length a mn ps os wc dc fm fd fs → ps.length ≤ 12 → os.length ≤ 5 →
    ∃ D' n' m', (∀ x, x < n → x ≠ a → x ≠ a + 3 → x ≠ a + 4 → x ≠ a + 5 → D' x = D x) ∧ n ≤ n' ∧ n' ≤ n + 2 * (13 - ps.length) ∧ m ≤ m' ∧ m' ≤ m + 21 * (13 - ps.length) ∧ (match q_pp B l L f ps os t with
      | .inl (k, p) => F_X0_readInstruction_86 κ fuel (some (b + 19)) (nI c) (q_H b (I, R, X, Y, Z) M O D, n, m) = F_X0_readInstruction_129 κ (some (b + 19)) (q_H b (q_ft (q_u2 I 14 1 (nI p)) (nI k) (nI p), R, X, Y, Z) M O D', n', m') ∧ 1 ≤ k ∧ k ≤ 3
      | .inr (ps', os', t') => F_X0_readInstruction_86 κ fuel (some (b + 19)) (nI c) (q_H b (I, R, X, Y, Z) M O D, n, m) = F_X0_readInstruction_129 κ (some (b + 19)) (q_H b (q_u2 I 14 1 (nI t'), R, X, Y, Z) M O D', n', m') ∧ t ≤ t' ∧ q_sgn l t' 61 = true ∧ ps'.length ≤ 12 ∧ os'.length ≤ 5 ∧ q_CIo b n' D' Z L.length a mn ps' os' wc dc fm fd fs) := by
  intro f
  induction f with
  | zero => intro fuel c t I D n m ps os h hK ha hf ht htf; omega
  | succ f ih =>
    intro fuel c t I D n m ps os h hK ha hf ht htf hct hfu hn h83 hL hlo hc hp ho
    obtain ⟨fu, rfl⟩ : ∃ fu, fuel = fu + 1 := ⟨fuel - 1, by omega⟩
    have hz := h.2.2.1
    have hl := h.2.1
    have hI : q_u2 I 14 1 (nI t) = I := q_u2_id _ _ _ ha
    have c1 : ¬ l.length < c := by omega
    have c2 := q_hasFault (κ := κ) (b := b) (I := I) (R := R) (X := X) (Y := Y) (Z := Z) (M := M) (O := O) (D := D) (s := (n, m))
    have c3 := q_isAt (κ := κ) (b := b) (R := R) (Z := Z) (M := M) (O := O) (D := D) (s := (n, m)) (c := 61) h ha (by omega)
    unfold q_pp
    by_cases hs : q_sgn l t 61 = true
    · rw [if_pos hs]
      refine ⟨D, n, m, fun _ _ _ _ _ _ => rfl, Nat.le_refl _, by omega, Nat.le_refl _, by omega, ?_, Nat.le_refl _, hs, hp, ho, hc⟩
      rw [hI, F_X0_readInstruction_86]
      simp (disch := first | rfl | omega | decide | exact Nat.le_of_ble_eq_true rfl) only [↓q_br, q_rt, q_rz, q_gd, q_ca, ↓reduceIte, F_X0_readInstruction_86B, ↓q_gA_19_0, ↓q_gA_19_1, ↓q_gI_2_6, ↓q_is_14, ↓q_is_19, ↓q_gI_2_6, ↓q_is_14, h.1, nI_ltI, c1, c2, hf, q_b_0, decide_true, Bool.not_true, not_true_eq_false, c3, hs, Bool.true_eq_false, not_false_eq_true]
    · rw [if_neg hs]
      have hs' : q_sgn l t 61 = false := by simpa using hs
      have hk : q_CMk b n D I Z L := ⟨h83, hL, fun k K hK => by
        obtain ⟨x, e1, e2⟩ := hlo k K hK
        exact ⟨x, e1, q_CKd_mo e2 (by have := hc.2.1; omega) (fun _ _ _ => rfl)⟩⟩
      obtain ⟨D1, n1, m1, r1, r2, r3, r4, r5, r6⟩ := q_readPart (κ := κ) (m := m) (M := M) (O := O) h hK ha ht hn hR hk hc hp ho
      have step : ∀ (I1 : Nat → Nat → Int32), F_X0_readPart κ (some (b + 19)) (q_H b (I, R, X, Y, Z) M O D, n, m) = some (.inl (), (q_H b (I1, R, X, Y, Z) M O D1, n1, m1)) → F_X0_readInstruction_86 κ (fu + 1) (some (b + 19)) (nI c) (q_H b (I, R, X, Y, Z) M O D, n, m) = F_X0_readInstruction_86 κ fu (some (b + 19)) (nI (c + 1)) (q_H b (I1, R, X, Y, Z) M O D1, n1, m1) := by
        intro I1 hI1
        rw [F_X0_readInstruction_86]
        simp (disch := first | rfl | omega | decide | exact Nat.le_of_ble_eq_true rfl) only [↓q_br, q_rt, q_rz, q_gd, q_ca, ↓reduceIte, F_X0_readInstruction_86B, ↓q_gA_19_0, ↓q_gA_19_1, ↓q_gI_2_6, ↓q_is_14, ↓q_is_19, ↓q_gI_2_6, ↓q_is_14, ↓q_is_19, h.1, nI_ltI, c1, c2, hf, q_b_0, decide_true, Bool.not_true, not_true_eq_false, c3, hs', hI1, nI_1]
      cases hq : q_p1 B l L ps os t with
      | inl e =>
        obtain ⟨k, p⟩ := e
        rw [hq] at r6
        obtain ⟨r6, r7, r8⟩ := r6
        refine ⟨D1, n1, m1, r1, r2, by omega, r4, by omega, ?_, r7, r8⟩
        rw [step _ r6]
        obtain ⟨fv, rfl⟩ : ∃ fv, fu = fv + 1 := ⟨fu - 1, by omega⟩
        have h26 : q_ft (q_u2 I 14 1 (nI p)) (nI k) (nI p) 2 6 = nI l.length := by simp (disch := first | rfl | omega | decide | exact Nat.le_of_ble_eq_true rfl) only [q_u2_n]; exact h.1
        have h142 : q_ft (q_u2 I 14 1 (nI p)) (nI k) (nI p) 14 2 = nI k := by simp (disch := first | rfl | omega | decide | exact Nat.le_of_ble_eq_true rfl) only [q_u2_s, q_u1_n, q_u1_s]
        have hk0 : ¬ nI k = 0 := by
          have := nI_ne0 (n := k) (by omega) (by omega)
          exact this
        have c4 := q_hasFault (κ := κ) (b := b) (I := q_ft (q_u2 I 14 1 (nI p)) (nI k) (nI p)) (R := R) (X := X) (Y := Y) (Z := Z) (M := M) (O := O) (D := D1) (s := (n1, m1))
        rw [F_X0_readInstruction_86]
        simp (disch := first | rfl | omega | decide | exact Nat.le_of_ble_eq_true rfl) only [↓q_br, q_rt, q_rz, q_gd, q_ca, ↓reduceIte, F_X0_readInstruction_86B, ↓q_gA_19_0, ↓q_gA_19_1, ↓q_gI_2_6, ↓q_is_14, ↓q_is_19, ↓q_gI_2_6, ↓q_is_14, h26, nI_ltI, c4, h142, hk0, q_b_0, decide_false, Bool.not_false, Bool.true_eq_false, not_false_eq_true]
        by_cases h9 : l.length < c + 1 <;> simp [h9]
      | inr e =>
        obtain ⟨ps', os', t'⟩ := e
        rw [hq] at r6
        obtain ⟨r6, r7, r8, r9, r10, r11⟩ := r6
        have hlen := (q_p1_len hq).1
        have hlow : ∀ x, x < a → D1 x = D x := fun x hx => r1 x (by have := hc.2.1; omega) (by omega) (by omega) (by omega) (by omega)
        obtain ⟨D2, n2, m2, y1, y2, y3, y4, y5, y6⟩ := ih fu (c + 1) t' (q_u2 I 14 1 (nI t')) D1 n1 m1 ps' os' (q_TC_I h (by rw [q_u2_n _ _ _ (by decide)])) (q_Kp_D hK (fun x hx => hlow x (by have := hc.1; omega))) (by rw [q_u2_s, q_u1_s]) (by simp (disch := first | rfl | omega | decide | exact Nat.le_of_ble_eq_true rfl) only [q_u2_s, q_u1_n, hf]) r8 (by omega) (by omega) (by omega) (by omega) (by rw [q_u2_n _ _ _ (by decide), h83]) hL (fun k K hK => by
            obtain ⟨x, e1, e2⟩ := hlo k K hK
            exact ⟨x, e1, q_CKd_mo e2 (Nat.le_refl _) (fun y _ hy => hlow y hy)⟩) r11 r9 r10
        refine ⟨D2, n2, m2, fun x x0 x1 x2 x3 x4 => by rw [y1 x (by omega) x1 x2 x3 x4, r1 x x0 x1 x2 x3 x4], by omega, by omega, by omega, by omega, ?_⟩
        rw [step _ r6]
        have hu : ∀ v, q_u2 (q_u2 I 14 1 (nI t')) 14 1 v = q_u2 I 14 1 v := fun v => q_u2_u2 _ _ _ _ _
        simp only
        cases hq2 : q_pp B l L f ps' os' t' with
        | inl e =>
          obtain ⟨k, p⟩ := e
          rw [hq2] at y6
          simp only [q_ft, hu] at y6 ⊢
          exact y6
        | inr e =>
          obtain ⟨ps2, os2, t2⟩ := e
          rw [hq2] at y6
          simp only [hu] at y6 ⊢
          obtain ⟨x1, x2, x3⟩ := y6
          exact ⟨x1, by omega, x3⟩
end QIC
