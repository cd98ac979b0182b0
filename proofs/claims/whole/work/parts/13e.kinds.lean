/-- a kind, from its name to its semicolon -/
def q_pk (B : Nat → Int32) (l : List q_Tok) (L : List q_Knd) (so t : Nat) : q_Out (q_Knd × Nat) :=
  if (q_tok l t).1 = 1 then (if (q_fi (fun i => decide (q_tB B (q_tok l t) = q_kN (q_kg L i))) L.length 0).isSome = true then .inl (2, t) else if L.length = 40 then .inl (3, t) else (match q_pr B l so (q_tB B (q_tok l t)) (t + 1) with
    | .inl e => .inl e
    | .inr x => q_fin l x.1 x.2)) else .inl (1, t)
section QKE
variable {κ : Nat → Nat} {b : Nat} {B : Nat → Int32} {l : List q_Tok} {z t : Nat} {R : Nat → Nat → Option Nat} {X : Nat → Nat → Int32} {Y : Nat → Nat → Int64} {Z : Nat → Nat → Option Nat} {M : q_MT} {O : Nat → Int64}
/-- a new kind object -/
theorem q_newKind {C : q_CT} {D : q_Mem} {n m a a1 so : Nat} (hso : so ≤ 4) (hn : b + 66 < n) (ha : b + 66 < a ∧ D a = some (.inr (.inl (5, [.int 0, .null, .null, .null, .int 0, .int 0])))) (han : a < n) : F_X2_init κ (some a) (nI so) (some a1) (q_H b C M O D, n, m) = some (.inl (), (q_H b C M O (q_up (q_up D n (.inl (6, (if so = 4 then 32 else 0), .inr (.inr (.inr (.inr (fun _ => none))))))) a (.inr (.inl (5, [.int (nI so), .ref a1, .ref a1, .ref n, .int 0, .int 0])))), n + 1, m + (if so = 4 then 32 else 0))) := by
  have s4 : (nI so = (4 : Int32)) ↔ so = 4 := nI_eq (b := 4) (by omega) (by decide)
  have hne : a ≠ n := by omega
  have e0 : b + 66 < a := ha.1
  have u1 : ∀ (e e' : q_Cel), q_up (q_up D a e) n e' = q_up (q_up D n e') a e := by
    intro e e'
    funext x
    unfold q_up
    by_cases h1 : x = a
    · subst h1; simp [hne]
    · simp [h1]
  have key : ∀ (k : Int32) (w : Nat), k = nI w → w ≤ 32 → F_X2_init_31 κ (some a) k (q_H b C M O (q_up D a (.inr (.inl (5, [.int (nI so), .ref a1, .ref a1, .null, .int 0, .int 0])))), n, m) = some (.inl (), (q_H b C M O (q_up (q_up D n (.inl (6, w, .inr (.inr (.inr (.inr (fun _ => none))))))) a (.inr (.inl (5, [.int (nI so), .ref a1, .ref a1, .ref n, .int 0, .int 0])))), n + 1, m + w)) := by
    intro k w hk hw
    subst hk
    obtain ⟨c1, c2⟩ := q_nIc (k := w) (by omega)
    have c3 : q_nA 6 (nI w) = .inl (6, w, .inr (.inr (.inr (.inr (fun _ => none))))) := by unfold q_nA; rw [c2]
    unfold F_X2_init_31
    simp only [q_gd]
    rw [if_pos ⟨c1, by rw [c2]; omega⟩, q_mk_H hn, c2, c3, u1, qd_Wu e0 (by simp)]
    rfl
  unfold F_X2_init
  simp only [q_gd, reduceCtorEq, not_false_eq_true, if_true]
  rw [qd_W ha (by simp)]
  simp only [List.set_cons_succ, List.set_cons_zero]
  rw [qd_Wu e0 (by simp), qd_Wu e0 (by simp)]
  simp only [List.set_cons_succ, List.set_cons_zero, va_rf, q_br, s4]
  by_cases h4 : so = 4
  · rw [if_neg (fun h => h h4), if_pos h4]
    exact key 32 32 rfl (by omega)
  · rw [if_pos h4, if_neg h4]
    exact key 0 0 nI_0.symm (by omega)
theorem q_readKind {I : Nat → Nat → Int32} {D : q_Mem} {n m so : Nat} {L : List q_Knd} (h : q_TC B l z I X Y) (ha : I 14 1 = nI t) (hf : I 14 2 = 0) (ht : t ≤ l.length) (hso : so ≤ 4) (hn : b + 66 < n) (hk : q_CMk b n D I Z L) :
    ∃ D' n' m', (∀ x, x < n → D' x = D x) ∧ n ≤ n' ∧ n' ≤ n + 80 ∧ m ≤ m' ∧ m' ≤ m + 800 ∧ (match q_pk B l L so t with
      | .inl (k, p) => F_X0_readKind κ (some (b + 19)) (nI so) (q_H b (I, R, X, Y, Z) M O D, n, m) = some (.inl (), (q_H b (q_ft (q_u2 I 14 1 (nI p)) (nI k) (nI p), R, X, Y, Z) M O D', n', m')) ∧ 1 ≤ k ∧ k ≤ 3
      | .inr (K, t') => ∃ a, F_X0_readKind κ (some (b + 19)) (nI so) (q_H b (I, R, X, Y, Z) M O D, n, m) = some (.inl (), (q_H b (q_u2 (q_u2 I 14 1 (nI t')) 8 3 (nI (L.length + 1)), R, X, Y, q_u2 Z 9 L.length (some a)) M O D', n', m')) ∧ t < t' ∧ t' ≤ l.length ∧ L.length < 40 ∧ q_CKd b n' D' a K) := by
  have hz := h.2.2.1
  have hl := h.2.1
  have hwf := h.2.2.2.2.1
  have hI : q_u2 I 14 1 (nI t) = I := q_u2_id _ _ _ ha
  have i1 : nI 1 = 1 := rfl
  have i2 : nI 2 = 2 := rfl
  have i3 : nI 3 = 3 := rfl
  have c2 := q_isAtName (κ := κ) (b := b) (R := R) (Z := Z) (M := M) (O := O) (D := D) (s := (n, m)) h ha (by omega)
  have hfl := fun k => q_fail (κ := κ) (b := b) (R := R) (X := X) (Y := Y) (Z := Z) (M := M) (O := O) (D := D) (s := (n, m)) (k := k) ha
  unfold q_pk
  by_cases hy : (q_tok l t).1 = 1
  · rw [if_pos hy]
    have hlt := q_tok_lt (l := l) (t := t) (by omega)
    have c3 := q_kindNamed (κ := κ) (R := R) (M := M) (O := O) (s := (n, m)) h hy hk
    cases hq : q_fi (fun i => decide (q_tB B (q_tok l t) = q_kN (q_kg L i))) L.length 0 with
    | some i =>
      obtain ⟨a, z1, -⟩ := hk.2.2 i _ (q_kg_s (by have := (q_fi_s _ _ _ hq).2.1; omega))
      rw [hq, Option.bind_some, z1] at c3
      refine ⟨D, n, m, fun _ _ => rfl, Nat.le_refl _, by omega, Nat.le_refl _, by omega, ?_, by decide, by decide⟩
      rw [hI]
      simp (disch := first | rfl | omega | decide | exact Nat.le_of_ble_eq_true rfl) only [↓q_br, q_rt, q_rz, q_gd, q_ca, ↓reduceIte, F_X0_readKind, F_X0_readKind_147, ↓q_gA_19_0, ↓q_gA_19_1, ↓q_gA_19_2, ↓q_gI_14_1, ↓q_gI_8_3, ↓q_is_14, ↓q_is_19, ↓q_is_8, ↓q_pI_14_1, ↓q_is_14, ↓q_is_8, ↓q_gI_14_1, ha, c2, q_b_0, hy, decide_true, Bool.true_eq_false, not_false_eq_true, c3, reduceCtorEq, hfl, i2]
    | none =>
      rw [hq, Option.bind_none] at c3
      simp only [Option.isSome_none, Bool.false_eq_true, if_false]
      by_cases h40 : L.length = 40
      · rw [if_pos h40]
        have e8 : nI L.length = 40 := by rw [h40]; rfl
        refine ⟨D, n, m, fun _ _ => rfl, Nat.le_refl _, by omega, Nat.le_refl _, by omega, ?_, by decide, by decide⟩
        rw [hI]
        simp (disch := first | rfl | omega | decide | exact Nat.le_of_ble_eq_true rfl) only [↓q_br, q_rt, q_rz, q_gd, q_ca, ↓reduceIte, F_X0_readKind, F_X0_readKind_147, ↓q_gA_19_0, ↓q_gA_19_1, ↓q_gA_19_2, ↓q_gI_14_1, ↓q_gI_8_3, ↓q_is_14, ↓q_is_19, ↓q_is_8, ↓q_pI_14_1, ↓q_is_14, ↓q_is_8, ↓q_gI_14_1, ha, c2, q_b_0, hy, decide_true, Bool.true_eq_false, not_false_eq_true, c3, ↓q_gI_8_3, hk.1, e8, not_true_eq_false, hfl, i3]
      · rw [if_neg h40]
        have e8 : ¬ nI L.length = 40 := fun h9 => h40 ((nI_eq (b := 40) (by have := hk.2.1; omega) (by decide)).mp h9)
        obtain ⟨w1, w2, w3, w4, -⟩ := hwf t _ (q_tok_s hlt)
        have w5 := w4 hy
        obtain ⟨D2, d1, d2, d3⟩ := q_newName (κ := κ) (b := b) (R := R) (Z := Z) (M := M) (O := O) (D := q_up (q_up D n (.inr (.inl (5, [.int 0, .null, .null, .null, .int 0, .int 0])))) (n + 1) (.inr (.inl (10, [.null])))) (a := n + 1) (n := n + 1 + 1) (m := m + 6 + 1) h hy (by omega) ⟨by omega, by omega⟩ (q_up_s _ _ _)
        have dD : ∀ x, x < n → D2 x = D x := fun x hx => by rw [d3 x (by omega) (by omega), q_up_n _ _ (by omega), q_up_n _ _ (by omega)]
        have dn : b + 66 < n ∧ D2 n = some (.inr (.inl (5, [.int 0, .null, .null, .null, .int 0, .int 0]))) := ⟨hn, by rw [d3 n (by omega) (by omega), q_up_n _ _ (by omega), q_up_s]⟩
        have d4 := q_newKind (κ := κ) (b := b) (C := (I, R, X, Y, Z)) (M := M) (O := O) (D := D2) (n := n + 1 + 1 + 1) (m := m + 6 + 1 + ((q_tok l t).2.2.1 - (q_tok l t).2.1)) (a := n) (a1 := n + 1) hso (by omega) dn (by omega)
        obtain ⟨D3, hD3⟩ : ∃ D3, D3 = q_up (q_up D2 (n + 1 + 1 + 1) (.inl (6, (if so = 4 then 32 else 0), .inr (.inr (.inr (.inr (fun _ => none))))))) n (.inr (.inl (5, [.int (nI so), .ref (n + 1), .ref (n + 1), .ref (n + 1 + 1 + 1), .int 0, .int 0]))) := ⟨_, rfl⟩
        rw [← hD3] at d4
        have dD3 : ∀ x, x < n → D3 x = D x := fun x hx => by rw [hD3, q_up_n _ _ (by omega), q_up_n _ _ (by omega), dD x hx]
        have cn3 : q_CN b (n + 1 + 1 + 1 + 1) D3 (n + 1) (q_tB B (q_tok l t)) := by
          rw [hD3]
          exact q_CN_up (q_CN_new d2 (Nat.le_refl _) (by omega)) (by rw [q_up_n _ _ (by omega)]; exact dn.2) rfl
        have ck3 : q_CKo b (n + 1 + 1 + 1 + 1) D3 n (n + 1) (n + 1) (n + 1 + 1 + 1) (fun _ => none) (so, q_tB B (q_tok l t), q_tB B (q_tok l t), [], 0, 0) := by
          refine ⟨hn, by omega, ?_, cn3, cn3, by omega, by omega, ?_, fun i nm' hi => by simp [q_kM] at hi⟩
          · rw [hD3, q_up_s]
            rfl
          · rw [hD3, q_up_n _ _ (by omega), q_up_s]
        have h1 : q_TC B l z (q_u2 I 14 1 (nI (t + 1))) X Y := q_TC_I h (by rw [q_u2_n _ _ _ (by decide)])
        have ha1 : q_u2 I 14 1 (nI (t + 1)) 14 1 = nI (t + 1) := by rw [q_u2_s, q_u1_s]
        have hf1 : q_u2 I 14 1 (nI (t + 1)) 14 2 = 0 := by simp (disch := first | rfl | omega | decide | exact Nat.le_of_ble_eq_true rfl) only [q_u2_s, q_u1_n, hf]
        obtain ⟨D', n', m', r1, r2, r3, r4, r5, r6⟩ := q_readRest (κ := κ) (R := R) (Z := Z) (M := M) (O := O) (m := m + 6 + 1 + ((q_tok l t).2.2.1 - (q_tok l t).2.1) + (if so = 4 then 32 else 0)) h1 ha1 hf1 (by omega) hso (by omega) ck3
        have hm32 : (if so = 4 then 32 else 0) ≤ 32 := by split <;> omega
        have key : F_X0_readKind κ (some (b + 19)) (nI so) (q_H b (I, R, X, Y, Z) M O D, n, m) = q_ca (F_X0_readRestOfKind κ (some (b + 19)) (some n)) (fun v => q_br (v = 0) (F_X0_readKind_147 κ) (q_rd (q_gA (some (b + 19)) 3 0) fun v128 => q_rd (q_is v128 12) fun _ => q_ca (F_X9_take κ v128 (59 : Int32)) fun v133 => q_br (v133 = 0) (F_X0_readKind_147 κ) (q_rd (q_gA (some (b + 19)) 3 2) fun v140 => q_rd (q_is v140 8) fun _ => q_ca (F_X5_addKind κ v140 (some n)) fun _v144 => F_X0_readKind_147 κ))) (q_H b (q_u2 I 14 1 (nI (t + 1)), R, X, Y, Z) M O D3, n + 1 + 1 + 1 + 1, m + 6 + 1 + ((q_tok l t).2.2.1 - (q_tok l t).2.1) + (if so = 4 then 32 else 0)) := by
          simp (disch := first | rfl | omega | decide | exact Nat.le_of_ble_eq_true rfl) only [↓q_br, q_rt, q_rz, q_gd, q_ca, ↓reduceIte, F_X0_readKind, ↓q_gA_19_0, ↓q_gA_19_1, ↓q_gA_19_2, ↓q_gI_14_1, ↓q_gI_8_3, ↓q_is_14, ↓q_is_19, ↓q_is_8, ↓q_pI_14_1, ↓q_is_14, ↓q_is_8, ↓q_is_19, ↓q_gI_14_1, ↓q_pI_14_1, ha, c2, q_b_0, hy, decide_true, Bool.true_eq_false, not_false_eq_true, c3, ↓q_gI_8_3, hk.1, e8, q_mk_H, reduceCtorEq, d1, d4, nI_1]
        refine ⟨D', n', m', fun x hx => ?_, by omega, by omega, by omega, by omega, ?_⟩
        · rw [r1 x (by omega) (by omega) (by omega), dD3 x hx]
        · have hu : ∀ v, q_u2 (q_u2 I 14 1 (nI (t + 1))) 14 1 v = q_u2 I 14 1 v := fun v => q_u2_u2 _ _ _ _ _
          cases hp : q_pr B l so (q_tB B (q_tok l t)) (t + 1) with
          | inl e =>
            obtain ⟨k, p⟩ := e
            rw [hp] at r6
            simp only [q_ft, hu] at r6
            obtain ⟨r6, r7⟩ := r6
            refine ⟨?_, r7⟩
            rw [key]
            simp only [q_ca, r6, q_br, if_true, F_X0_readKind_147, q_rt]
          | inr e =>
            obtain ⟨K, t'⟩ := e
            rw [hp] at r6
            simp only [hu] at r6
            obtain ⟨r6, r7, r8, r9⟩ := r6
            have h2 : q_TC B l z (q_u2 I 14 1 (nI t')) X Y := q_TC_I h (by rw [q_u2_n _ _ _ (by decide)])
            have ha2 : q_u2 I 14 1 (nI t') 14 1 = nI t' := by rw [q_u2_s, q_u1_s]
            have c5 := q_take (κ := κ) (b := b) (R := R) (Z := Z) (M := M) (O := O) (D := D') (s := (n', m')) (c := 59) h2 ha2 (by omega)
            by_cases hs : q_sgn l t' 59 = true
            · rw [if_pos hs, q_u2_u2] at c5
              simp only [q_fin, hs, if_true]
              have hlt' := q_tok_lt (l := l) (t := t') (by have := (of_decide_eq_true hs).1; omega)
              obtain ⟨hwk, b1, b2, b3, g', r9⟩ := r9
              have dn' : b + 66 < n ∧ D' n = some (.inr (.inl (5, [.int (nI (q_kS K)), .ref b1, .ref b2, .ref b3, .int (nI (q_kZ K)), .int (nI (q_kB K))]))) := ⟨hn, r9.2.2.1⟩
              have hL : q_u2 I 14 1 (nI (t' + 1)) 8 3 = nI L.length := by rw [q_u2_n _ _ _ (by decide), hk.1]
              refine ⟨n, ?_, by omega, by omega, by have := hk.2.1; omega, hwk, b1, b2, b3, g', r9⟩
              rw [key]
              have hone : ¬ (1 : Int32) = 0 := by decide
              simp (disch := first | rfl | omega | decide | exact Nat.le_of_ble_eq_true rfl) only [↓q_br, q_rt, q_rz, q_gd, q_ca, ↓reduceIte, F_X5_addKind, F_X0_readKind_147, ↓q_gA_8_0, ↓q_gI_8_3, ↓q_pI_8_3, r6, hone, ↓q_gA_19_0, ↓q_gA_19_2, ↓q_is_14, ↓q_is_8, c5, hs, q_b_0, Bool.true_eq_false, hL]
              rw [qd_sZ (n := 40) rfl (by decide) (by decide) dn' (by have := hk.2.1; omega) (by decide)]
              simp (disch := first | rfl | omega | decide | exact Nat.le_of_ble_eq_true rfl) only [↓q_br, q_rt, q_rz, q_gd, q_ca, ↓reduceIte, ↓q_gI_8_3, ↓q_pI_8_3, hL, nI_1]
            · have hs' : q_sgn l t' 59 = false := by simpa using hs
              rw [if_neg hs] at c5
              simp only [q_fin, hs', Bool.false_eq_true, if_false]
              refine ⟨?_, by decide, by decide⟩
              rw [key]
              have hone : ¬ (1 : Int32) = 0 := by decide
              simp (disch := first | rfl | omega | decide | exact Nat.le_of_ble_eq_true rfl) only [↓q_br, q_rt, q_rz, q_gd, q_ca, ↓reduceIte, F_X0_readKind_147, r6, hone, ↓q_gA_19_0, ↓q_is_14, c5, hs', q_b_0, i1]
  · rw [if_neg hy]
    refine ⟨D, n, m, fun _ _ => rfl, Nat.le_refl _, by omega, Nat.le_refl _, by omega, ?_, by decide, by decide⟩
    rw [hI]
    simp (disch := first | rfl | omega | decide | exact Nat.le_of_ble_eq_true rfl) only [↓q_br, q_rt, q_rz, q_gd, q_ca, ↓reduceIte, F_X0_readKind, F_X0_readKind_147, ↓q_gA_19_0, ↓q_gA_19_1, ↓q_gA_19_2, ↓q_gI_14_1, ↓q_gI_8_3, ↓q_is_14, ↓q_is_19, ↓q_is_8, ↓q_pI_14_1, ↓q_is_14, c2, q_b_0, hy, decide_false, not_true_eq_false, hfl, i1]
end QKE
