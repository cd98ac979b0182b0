def q_MIn (N : List q_Nam) (Q : Nat → Nat → Int32) (nk z i : Nat) (J : q_Ins) : Prop := (∃ w, Q 43 i = nI w ∧ N[w]? = some J.1) ∧ Q 44 i = nI J.2.1.length ∧ Q 45 i = nI J.2.2.1.length ∧ Q 46 i = nI J.2.2.2.length ∧ Q 47 i = nI (q_negs J.2.2.2) ∧ q_MIo N Q nk i J.2.1 J.2.2.1 ∧ q_MW Q i z J.2.2.2 ∧ J.2.1.length ≤ 12 ∧ J.2.2.1.length ≤ 5 ∧ J.2.2.2.length ≤ 4
section QND
variable {κ : Nat → Nat} {b : Nat} {B : Nat → Int32} {l : List q_Tok} {zt : Nat} {C : q_CT} {S : Nat → Nat → Int64} {O : Nat → Int64} {D : q_Mem}
theorem q_mreset {P : Nat → Int32} {i : Nat} {s : Nat × Nat} : ∀ d fuel o (Q : Nat → Nat → Int32), o + d = 160 → d < fuel → (∀ v, v < o → Q 52 v = 0) → ∃ Q', F_X13_words_2 κ fuel (some (b + 26)) (nI i) (nI o) (q_H b C (P, Q, S) O D, s) = F_X13_words_31 κ q_fu (some (b + 26)) (nI i) 0 0 0 (q_H b C (P, Q', S) O D, s) ∧ (∀ j, j ≠ 52 → Q' j = Q j) ∧ ∀ v, v < 160 → Q' 52 v = 0 := by
  intro d
  induction d with
  | zero =>
    intro fuel o Q h1 h2 h3
    obtain ⟨f, rfl⟩ : ∃ f, fuel = f + 1 := ⟨fuel - 1, by omega⟩
    have h4 : 160 ≤ o := by omega
    refine ⟨Q, ?_, fun _ _ => rfl, fun v hv => h3 v (by omega)⟩
    rw [F_X13_words_2]
    simp (disch := first | rfl | omega | decide | exact Nat.le_of_ble_eq_true rfl) only [↓q_br, q_rt, q_rz, q_gd, q_ca, ↓reduceIte, F_X13_words_2B, ↓q_gA_26_39, ↓q_ln_52, ↓q_sI_52, nI_leI, h4]
  | succ d ih =>
    intro fuel o Q h1 h2 h3
    obtain ⟨f, rfl⟩ : ∃ f, fuel = f + 1 := ⟨fuel - 1, by omega⟩
    have h4 : ¬ 160 ≤ o := by omega
    obtain ⟨Q', r1, r2, r3⟩ := ih f (o + 1) (q_u2 Q 52 o 0) (by omega) (by omega) (fun v hv => by
      by_cases hvo : v = o
      · subst hvo; rw [q_u2_s, q_u1_s]
      · rw [q_u2_s, q_u1_n _ _ hvo, h3 v (by omega)])
    refine ⟨Q', ?_, fun j hj => by rw [r2 j hj, q_u2_n _ _ _ hj], r3⟩
    refine Eq.trans ?_ r1
    rw [F_X13_words_2]
    simp (disch := first | rfl | omega | decide | exact Nat.le_of_ble_eq_true rfl) only [↓q_br, q_rt, q_rz, q_gd, q_ca, ↓reduceIte, F_X13_words_2B, ↓q_gA_26_39, ↓q_ln_52, ↓q_sI_52, nI_leI, h4, nI_1]
theorem q_mwords {n m i z t top : Nat} {L : List q_Knd} {ps : List Int32} {os : q_Ops} {P : Nat → Int32} {Q : Nat → Nat → Int32} {N : List q_Nam} (hz : z ≤ 32) (hi : i < 96) (hos : os.length ≤ 5) (hn : b + 66 < n) (h : q_TM B l zt P Q S) (ha : P 15 = nI t) (h21 : P 21 = nI z) (ht : t ≤ l.length) (hP : q_PL N top P Q) (hN : N.length ≤ t) (hT : q_TP l top t) (hk : q_MMk N P Q L) (hm : q_MIo N Q L.length i ps os) (h45 : Q 45 i = nI os.length) :
    ∃ P' Q', (∀ j, j ≠ 15 → j ≠ 19 → j ≠ 20 → P' j = P j) ∧ (∀ j, j ≠ 34 → j ≠ 35 → j ≠ 36 → j ≠ 46 → j ≠ 47 → j ≠ 51 → j ≠ 52 → Q' j = Q j) ∧ (∀ x, x < 160 * i → Q' 51 x = Q 51 x) ∧ (∀ x, x ≠ i → Q' 46 x = Q 46 x ∧ Q' 47 x = Q 47 x) ∧ (match q_pb B l L os z (l.length + 1) [] [] t with
      | .inl (k, p) => F_X13_words κ (some (b + 26)) (nI i) (q_H b C (P, Q, S) O D, n, m) = q_thr Unit b C (P', Q', S) O D n m (nI k) (nI p)
      | .inr (ws', t') => F_X13_words κ (some (b + 26)) (nI i) (q_H b C (P, Q, S) O D, n, m) = some (.inl (), (q_H b C (P', Q', S) O D, n, m)) ∧ P' 15 = nI t' ∧ Q' 46 i = nI ws'.length ∧ Q' 47 i = nI (q_negs ws') ∧ q_MW Q' i z ws' ∧ q_sgn l t' 59 = true ∧ ∃ N' top', q_PL N' top' P' Q' ∧ N <+: N' ∧ N'.length ≤ t' ∧ q_TP l top' t') := by
  have hzt := h.2.2.1
  have hl := h.2.1
  obtain ⟨Q1, r1, r2, r3⟩ := q_mreset (κ := κ) (b := b) (C := C) (S := S) (O := O) (D := D) (P := P) (i := i) (s := (n, m)) 160 q_fu 0 Q (by omega) (by unfold q_fu; omega) (fun v hv => by omega)
  rw [nI_0] at r1
  obtain ⟨P', Q', y1, y2, y3, y4, y5⟩ := q_mwords_31 (κ := κ) (b := b) (C := C) (S := S) (O := O) (D := D) (n := n) (m := m) (B := B) (l := l) (zt := zt) (L := L) (ps := ps) hz hi hos hn (l.length + 1) q_fu t P Q1 N top [] [] 0 (q_TM_P h rfl (r2 28 (by decide)) (r2 30 (by decide)) (r2 31 (by decide)) (r2 32 (by decide))) ha h21 ht (by omega) (by unfold q_fu; omega) (q_PL_P hP rfl rfl (r2 34 (by decide)) (r2 35 (by decide)) (r2 36 (by decide))) hN hT (q_MMk_Q hk (List.prefix_refl _) rfl (fun j j1 j2 => r2 j (by omega))) (q_MIo_Q hm (List.prefix_refl _) (r2 48 (by decide)) (r2 49 (by decide)) (r2 50 (by decide))) (by rw [r2 45 (by decide), h45]) (by simp) (by simp) (by simp) (fun t' _ _ => Nat.zero_le _) (by omega) (by
      intro w x hx k s hk hs
      cases w with
      | zero => simp at hx; subst hx; simp at hs
      | succ w => simp at hx) (fun v hv => by rw [r3 v hv]; rfl)
  refine ⟨P', Q', y1, fun j j1 j2 j3 j4 j5 j6 j7 => by rw [y2 j j1 j2 j3 j4 j5 j6 j7, r2 j j7], fun x hx => by rw [y3 x hx, r2 51 (by decide)], fun x hx => by rw [(y4 x hx).1, (y4 x hx).2, r2 46 (by decide), r2 47 (by decide)]; exact ⟨rfl, rfl⟩, ?_⟩
  have e0 : q_negs [] + q_neg [] = 0 := by simp [q_negs, q_neg]
  simp only [List.length_nil, e0, nI_0] at y5
  unfold F_X13_words
  rw [r1]
  exact y5
theorem q_mloop {n m i z : Nat} {L : List q_Knd} (hK : q_Kp κ b D) (hz : z ≤ 32) (hi : i < 96) (hn : b + 66 < n) : ∀ f fuel t (P : Nat → Int32) (Q : Nat → Nat → Int32) (N : List q_Nam) (top : Nat) (ps : List Int32) (os : q_Ops), q_TM B l zt P Q S → P 15 = nI t → P 21 = nI z → P 23 = nI i → t ≤ l.length → l.length < t + f → f < fuel → q_PL N top P Q → N.length ≤ t → q_TP l top t → q_MMk N P Q L → q_MIo N Q L.length i ps os → ps.length ≤ 12 → os.length ≤ 5 →
    ∃ P' Q', (∀ j, j ≠ 15 → j ≠ 19 → j ≠ 20 → j ≠ 23 → P' j = P j) ∧ (∀ j, (j < 34 ∨ 36 < j) → (j < 44 ∨ 52 < j) → Q' j = Q j) ∧ (∀ x, x < 160 * i → Q' 51 x = Q 51 x) ∧ (∀ x, x ≠ i → Q' 44 x = Q 44 x ∧ Q' 45 x = Q 45 x ∧ Q' 46 x = Q 46 x ∧ Q' 47 x = Q 47 x) ∧ (∀ x, x < 12 * i → Q' 48 x = Q 48 x) ∧ (∀ x, x < 5 * i → Q' 49 x = Q 49 x ∧ Q' 50 x = Q 50 x) ∧ (match q_pp B l L f ps os t with
      | .inl (k, p) => F_X13_instruction_42 κ fuel (some (b + 26)) (nI i) (nI ps.length) (nI os.length) (q_H b C (P, Q, S) O D, n, m) = q_thr Unit b C (P', Q', S) O D n m (nI k) (nI p)
      | .inr (ps', os', t1) => (match q_pb B l L os' z (l.length + 1) [] [] (t1 + 1) with
        | .inl (k, p) => F_X13_instruction_42 κ fuel (some (b + 26)) (nI i) (nI ps.length) (nI os.length) (q_H b C (P, Q, S) O D, n, m) = q_thr Unit b C (P', Q', S) O D n m (nI k) (nI p)
        | .inr (ws', t') => F_X13_instruction_42 κ fuel (some (b + 26)) (nI i) (nI ps.length) (nI os.length) (q_H b C (P, Q, S) O D, n, m) = some (.inl (), (q_H b C (P', Q', S) O D, n, m)) ∧ P' 15 = nI t' ∧ P' 23 = nI (i + 1) ∧ Q' 44 i = nI ps'.length ∧ Q' 45 i = nI os'.length ∧ Q' 46 i = nI ws'.length ∧ Q' 47 i = nI (q_negs ws') ∧ q_MW Q' i z ws' ∧ q_sgn l t' 59 = true ∧ ps'.length ≤ 12 ∧ os'.length ≤ 5 ∧ ∃ N' top', q_PL N' top' P' Q' ∧ N <+: N' ∧ N'.length ≤ t' ∧ q_TP l top' t' ∧ q_MIo N' Q' L.length i ps' os')) := by
  intro f
  induction f with
  | zero => intro fuel t P Q N top ps os h ha h21 h23 ht htf; omega
  | succ f ih =>
    intro fuel t P Q N top ps os h ha h21 h23 ht htf hfu hP hN hT hk hm hp ho
    obtain ⟨fu, rfl⟩ : ∃ fu, fuel = fu + 1 := ⟨fuel - 1, by omega⟩
    have hzt := h.2.2.1
    have hl := h.2.1
    unfold q_pp
    by_cases hs : q_sgn l t 61 = true
    · rw [if_pos hs]
      have hlt := q_tok_lt (l := l) (t := t) (by have := (of_decide_eq_true hs).1; omega)
      have c61 := q_msign (κ := κ) (b := b) (C := C) (O := O) (D := D) (s := (n, m)) (c := 61) h (t := t) (by omega)
      obtain ⟨Q1, hQ1⟩ : ∃ Q1, Q1 = q_u2 (q_u2 Q 44 i (nI ps.length)) 45 i (nI os.length) := ⟨_, rfl⟩
      obtain ⟨P1, hP1⟩ : ∃ P1, P1 = q_u1 P 15 (nI (t + 1)) := ⟨_, rfl⟩
      have fQ : ∀ j, j ≠ 44 → j ≠ 45 → Q1 j = Q j := fun j j1 j2 => by rw [hQ1, q_u2_n _ _ _ j2, q_u2_n _ _ _ j1]
      have fP : ∀ j, j ≠ 15 → P1 j = P j := fun j j1 => by rw [hP1, q_u1_n _ _ j1]
      have q44 : Q1 44 = q_u1 (Q 44) i (nI ps.length) := by rw [hQ1, q_u2_n _ _ _ (by decide), q_u2_s]
      have q45 : Q1 45 = q_u1 (Q 45) i (nI os.length) := by rw [hQ1, q_u2_s, q_u2_n _ _ _ (by decide)]
      obtain ⟨P', Q', y1, y2, y3, y4, y5⟩ := q_mwords (κ := κ) (b := b) (C := C) (S := S) (O := O) (D := D) (n := n) (m := m) (B := B) (l := l) (zt := zt) (L := L) (ps := ps) (os := os) (t := t + 1) (P := P1) (Q := Q1) (N := N) (top := top) (z := z) (i := i) hz hi ho hn (q_TM_P h (fP 13 (by decide)) (fQ 28 (by decide) (by decide)) (fQ 30 (by decide) (by decide)) (fQ 31 (by decide) (by decide)) (fQ 32 (by decide) (by decide))) (by rw [hP1, q_u1_s]) (by rw [fP 21 (by decide), h21]) (by omega) (q_PL_P hP (fP _ (by decide)) (fP _ (by decide)) (fQ 34 (by decide) (by decide)) (fQ 35 (by decide) (by decide)) (fQ 36 (by decide) (by decide))) (by omega) (fun t' q1 q2 => hT t' (by omega) q2) (q_MMk_Q hk (List.prefix_refl _) (fP _ (by decide)) (fun j j1 j2 => fQ j (by omega) (by omega))) (q_MIo_Q hm (List.prefix_refl _) (fQ 48 (by decide) (by decide)) (fQ 49 (by decide) (by decide)) (fQ 50 (by decide) (by decide))) (by rw [q45, q_u1_s])
      have step : F_X13_instruction_42 κ (fu + 1) (some (b + 26)) (nI i) (nI ps.length) (nI os.length) (q_H b C (P, Q, S) O D, n, m) = q_ca (F_X13_words κ (some (b + 26)) (nI i)) (fun _ => q_rd (q_gI (some (b + 26)) 16 23) fun v375 => q_wr (q_pF (some (b + 26)) 16 23 (.int (v375 + (1 : Int32)))) (q_rt ())) (q_H b C (P1, Q1, S) O D, n, m) := by
        rw [F_X13_instruction_42, hP1, hQ1]
        simp (disch := first | rfl | omega | decide | exact Nat.le_of_ble_eq_true rfl) only [F_X13_instruction_42B, ↓q_br, ↓q_is_26, ↓q_gI_26_15, ↓q_pI_26_15, ↓q_gA_26_31, ↓q_gA_26_32, ↓q_sI_44, ↓q_sI_45, ↓reduceIte, ha, nI_1]
        rw [q_ca, c61]
        simp (disch := first | rfl | omega | decide | exact Nat.le_of_ble_eq_true rfl) only [hs, q_b_0, Bool.true_eq_false, not_false_eq_true, ↓q_br, ↓q_is_26, ↓q_gI_26_15, ↓q_pI_26_15, ↓q_gA_26_31, ↓q_gA_26_32, ↓q_sI_44, ↓q_sI_45, ↓reduceIte, ha, nI_1]
      have g1 : ∀ j, (j < 34 ∨ 36 < j) → (j < 44 ∨ 52 < j) → Q' j = Q j := fun j j1 j2 => by rw [y2 j (by omega) (by omega) (by omega) (by omega) (by omega) (by omega) (by omega), fQ j (by omega) (by omega)]
      have g2 : ∀ x, x < 160 * i → Q' 51 x = Q 51 x := fun x hx => by rw [y3 x hx, fQ 51 (by decide) (by decide)]
      have q44' : Q' 44 = Q1 44 := y2 44 (by decide) (by decide) (by decide) (by decide) (by decide) (by decide) (by decide)
      have q45' : Q' 45 = Q1 45 := y2 45 (by decide) (by decide) (by decide) (by decide) (by decide) (by decide) (by decide)
      have g3 : ∀ x, x ≠ i → Q' 44 x = Q 44 x ∧ Q' 45 x = Q 45 x ∧ Q' 46 x = Q 46 x ∧ Q' 47 x = Q 47 x := fun x hx => by
        rw [q44', q45', q44, q45, q_u1_n _ _ hx, q_u1_n _ _ hx, (y4 x hx).1, (y4 x hx).2, fQ 46 (by decide) (by decide), fQ 47 (by decide) (by decide)]
        exact ⟨rfl, rfl, rfl, rfl⟩
      have q4 : ∀ j, 48 ≤ j → j ≤ 50 → Q' j = Q j := fun j j1 j2 => by rw [y2 j (by omega) (by omega) (by omega) (by omega) (by omega) (by omega) (by omega), fQ j (by omega) (by omega)]
      have g4 : ∀ x, x < 12 * i → Q' 48 x = Q 48 x := fun x _ => by rw [q4 48 (by decide) (by decide)]
      have g5 : ∀ x, x < 5 * i → Q' 49 x = Q 49 x ∧ Q' 50 x = Q 50 x := fun x _ => by rw [q4 49 (by decide) (by decide), q4 50 (by decide) (by decide)]; exact ⟨rfl, rfl⟩
      rw [step]
      simp only
      cases hq : q_pb B l L os z (l.length + 1) [] [] (t + 1) with
      | inl e =>
        obtain ⟨k, p⟩ := e
        rw [hq] at y5
        refine ⟨P', Q', fun j j1 j2 j3 _ => by rw [y1 j j1 j2 j3, fP j j1], g1, g2, g3, g4, g5, ?_⟩
        simp only [q_ca, y5, q_thr]
      | inr e =>
        obtain ⟨ws', t'⟩ := e
        rw [hq] at y5
        obtain ⟨y5, y6, y7, y8, y9, y10, N', top', y11, y12, y13, y14⟩ := y5
        have p23 : P' 23 = nI i := by rw [y1 23 (by decide) (by decide) (by decide), fP 23 (by decide), h23]
        refine ⟨q_u1 P' 23 (nI (i + 1)), Q', fun j j1 j2 j3 j4 => by rw [q_u1_n _ _ j4, y1 j j1 j2 j3, fP j j1], g1, g2, g3, g4, g5, ?_, by rw [q_u1_n _ _ (by decide), y6], q_u1_s _ _ _, by rw [q44', q44, q_u1_s], by rw [q45', q45, q_u1_s], y7, y8, y9, y10, hp, ho, N', top', q_PL_P y11 (q_u1_n _ _ (by decide)) (q_u1_n _ _ (by decide)) rfl rfl rfl, y12, y13, y14, q_MIo_Q hm y12 (q4 48 (by decide) (by decide)) (q4 49 (by decide) (by decide)) (q4 50 (by decide) (by decide))⟩
        simp (disch := first | rfl | omega | decide | exact Nat.le_of_ble_eq_true rfl) only [q_ca, y5, ↓q_gI_26_23, ↓q_pI_26_23, p23, nI_1, q_rt]
    · rw [if_neg hs]
      obtain ⟨P1, Q1, x1, x2, x3, x4, x5⟩ := q_mpart (κ := κ) (b := b) (C := C) (O := O) (n := n) (m := m) (f := fu) h hK ha ht hn hP hN hT hk hi hm hp ho (by simpa using hs)
      have tP : (∀ j, j ≠ 15 → j ≠ 19 → j ≠ 20 → P1 j = P j) := x1
      cases hq : q_p1 B l L ps os t with
      | inl e =>
        obtain ⟨k, p⟩ := e
        rw [hq] at x5
        exact ⟨P1, Q1, fun j j1 j2 j3 _ => x1 j j1 j2 j3, fun j j1 j2 => x2 j (by omega) (by omega) (by omega) (by omega) (by omega) (by omega), fun x _ => by rw [x2 51 (by decide) (by decide) (by decide) (by decide) (by decide) (by decide)], fun x _ => by rw [x2 44 (by decide) (by decide) (by decide) (by decide) (by decide) (by decide), x2 45 (by decide) (by decide) (by decide) (by decide) (by decide) (by decide), x2 46 (by decide) (by decide) (by decide) (by decide) (by decide) (by decide), x2 47 (by decide) (by decide) (by decide) (by decide) (by decide) (by decide)]; exact ⟨rfl, rfl, rfl, rfl⟩, x3, x4, x5⟩
      | inr e =>
        obtain ⟨ps', os', t'⟩ := e
        rw [hq] at x5
        obtain ⟨x5, x6, x7, x8, x9, N1, top1, x10, x11, x12, x13, x14⟩ := x5
        have hlt := (q_p1_len hq).2
        have nx := fun j (h1 : j ≠ 34) (h2 : j ≠ 35) (h3 : j ≠ 36) (h4 : j < 48 ∨ 50 < j) => x2 j h1 h2 h3 (by omega) (by omega) (by omega)
        obtain ⟨P', Q', y1, y2, y3, y4, y5, y6, y7⟩ := ih fu t' P1 Q1 N1 top1 ps' os' (q_TM_P h (x1 13 (by decide) (by decide) (by decide)) (nx 28 (by decide) (by decide) (by decide) (by omega)) (nx 30 (by decide) (by decide) (by decide) (by omega)) (nx 31 (by decide) (by decide) (by decide) (by omega)) (nx 32 (by decide) (by decide) (by decide) (by omega))) x6 (by rw [x1 21 (by decide) (by decide) (by decide), h21]) (by rw [x1 23 (by decide) (by decide) (by decide), h23]) x7 (by omega) (by omega) x10 x12 x13 (q_MMk_Q hk x11 (x1 22 (by decide) (by decide) (by decide)) (fun j j1 j2 => nx j (by omega) (by omega) (by omega) (by omega))) x14 x8 x9
        refine ⟨P', Q', fun j j1 j2 j3 j4 => by rw [y1 j j1 j2 j3 j4, x1 j j1 j2 j3], fun j j1 j2 => by rw [y2 j j1 j2, nx j (by omega) (by omega) (by omega) (by omega)], fun x hx => by rw [y3 x hx, nx 51 (by decide) (by decide) (by decide) (by omega)], fun x hx => ?_, fun x hx => by rw [y5 x hx, x3 x hx], fun x hx => by rw [(y6 x hx).1, (y6 x hx).2, (x4 x hx).1, (x4 x hx).2]; exact ⟨rfl, rfl⟩, ?_⟩
        · obtain ⟨u1, u2, u3, u4⟩ := y4 x hx
          rw [u1, u2, u3, u4, nx 44 (by decide) (by decide) (by decide) (by omega), nx 45 (by decide) (by decide) (by decide) (by omega), nx 46 (by decide) (by decide) (by decide) (by omega), nx 47 (by decide) (by decide) (by decide) (by omega)]
          exact ⟨rfl, rfl, rfl, rfl⟩
        · simp only
          rw [x5]
          cases hq2 : q_pp B l L f ps' os' t' with
          | inl e =>
            obtain ⟨k, p⟩ := e
            rw [hq2] at y7
            exact y7
          | inr e =>
            obtain ⟨ps2, os2, t2⟩ := e
            rw [hq2] at y7
            simp only at y7 ⊢
            cases hq3 : q_pb B l L os2 z (l.length + 1) [] [] (t2 + 1) with
            | inl e =>
              obtain ⟨k, p⟩ := e
              rw [hq3] at y7
              exact y7
            | inr e =>
              obtain ⟨ws3, t3⟩ := e
              rw [hq3] at y7
              obtain ⟨v1, v2, v3, v4, v5, v6, v7, v8, v9, v10, v11, N', top', v12, v13, v14⟩ := y7
              exact ⟨v1, v2, v3, v4, v5, v6, v7, v8, v9, v10, v11, N', top', v12, x11.trans v13, v14⟩
end QND
