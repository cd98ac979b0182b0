/-! ===== what is read stands behind where it began ===== -/
theorem q_pc_m {l : List q_Tok} {sz t : Nat} {x : Nat × Nat × Nat} (h : q_pc l sz t = .inr x) : t ≤ x.2.2 := by
  unfold q_pc at h
  repeat' split at h
  all_goals first | (cases h; done) | skip
  all_goals (cases h; simp only; omega)
theorem q_pb_m {B : Nat → Int32} {l : List q_Tok} {L : List q_Knd} {os : q_Ops} {z : Nat} : ∀ f ws c t ws' t', q_pb B l L os z f ws c t = .inr (ws', t') → t ≤ t' ∧ (ws.length ≤ 3 → ws'.length ≤ 4) := by
  intro f
  induction f with
  | zero => intro ws c t ws' t' h; cases h
  | succ f ih =>
    intro ws c t ws' t' h
    unfold q_pb at h
    split at h
    · split at h
      · have := ih _ _ _ _ _ h
        exact ⟨by omega, this.2⟩
      · cases h
    · split at h
      · split at h
        · cases h
        · split at h
          · cases h
          · rename_i x hx
            have h1 := q_pc_m hx
            have := ih _ _ _ _ _ h
            exact ⟨by omega, this.2⟩
      · split at h
        · split at h
          · cases h
          · split at h
            · have := ih _ _ _ _ _ h
              refine ⟨by omega, fun h9 => this.2 ?_⟩
              simp only [List.length_append, List.length_cons, List.length_nil]
              omega
            · cases h
        · split at h
          · split at h
            · split at h
              · cases h
                refine ⟨Nat.le_refl _, fun h9 => ?_⟩
                simp only [List.length_append, List.length_cons, List.length_nil]
                omega
              · cases h
            · cases h
          · cases h
theorem q_pp_m {B : Nat → Int32} {l : List q_Tok} {L : List q_Knd} : ∀ f ps os t ps' os' t', q_pp B l L f ps os t = .inr (ps', os', t') → t ≤ t' := by
  intro f
  induction f with
  | zero => intro ps os t ps' os' t' h; cases h
  | succ f ih =>
    intro ps os t ps' os' t' h
    unfold q_pp at h
    split at h
    · cases h; exact Nat.le_refl _
    · split at h
      · cases h
      · rename_i x hx
        obtain ⟨a, b, c⟩ := x
        have h1 := (q_p1_len hx).2
        have h2 : c ≤ t' := ih _ _ _ _ _ _ h
        omega
theorem q_pi_m {B : Nat → Int32} {l : List q_Tok} {L : List q_Knd} {ni z t t' : Nat} {J : q_Ins} (h : q_pi B l L ni z t = .inr (J, t')) : t < t' ∧ ni ≠ 96 ∧ J.2.2.2.length ≤ 4 := by
  unfold q_pi at h
  split at h
  · split at h
    · cases h
    · rename_i hn
      split at h
      · cases h
      · rename_i x hx
        obtain ⟨ps, os, t1⟩ := x
        have h1 := q_pp_m _ _ _ _ _ _ _ hx
        split at h
        · cases h
        · rename_i y hy
          obtain ⟨ws, t2⟩ := y
          have h2 := q_pb_m _ _ _ _ _ _ hy
          cases h
          exact ⟨by simp only; have := h2.1; simp only at this; omega, hn, h2.2 (by simp)⟩
  · cases h
theorem q_mset_m {B : Nat → Int32} {l : List q_Tok} : ∀ f mem t mem' t', q_mset B l f mem t = .inr (mem', t') → t ≤ t' := by
  intro f
  induction f with
  | zero => intro mem t mem' t' h; cases h
  | succ f ih =>
    intro mem t mem' t' h
    unfold q_mset at h
    split at h
    · split at h
      · cases h
      · split at h
        · cases h
        · have := ih _ _ _ _ h
          omega
    · split at h
      · cases h
      · cases h; exact Nat.le_refl _
theorem q_pk_m {B : Nat → Int32} {l : List q_Tok} {L : List q_Knd} {so t t' : Nat} {K : q_Knd} (h : q_pk B l L so t = .inr (K, t')) : t < t' := by
  unfold q_pk at h
  split at h
  · split at h
    · cases h
    · split at h
      · cases h
      · split at h
        · cases h
        · rename_i x hx
          obtain ⟨K1, t1⟩ := x
          have h1 : t + 1 ≤ t1 := by
            unfold q_pr at hx
            repeat' split at hx
            all_goals first | (cases hx; done) | skip
            · cases hx; omega
            · rename_i y hy
              obtain ⟨mem, t2⟩ := y
              have := q_mset_m _ _ _ _ _ hy
              cases hx
              exact this
            · cases hx; omega
          unfold q_fin at h
          split at h
          · cases h; simp only; omega
          · cases h
  · cases h
def q_MIs (N : List q_Nam) (Q : Nat → Nat → Int32) (nk z : Nat) (Js : List q_Ins) : Prop := ∀ i J, Js[i]? = some J → q_MIn N Q nk z i J
theorem q_MIn_Q {N N' : List q_Nam} {Q Q' : Nat → Nat → Int32} {nk nk' z i : Nat} {J : q_Ins} (h : q_MIn N Q nk z i J) (hp : N <+: N') (hk : nk ≤ nk') (hQ : ∀ j, 42 < j → j < 52 → Q' j = Q j) : q_MIn N' Q' nk' z i J := by
  obtain ⟨⟨w, e1, e2⟩, e3, e4, e5, e6, e7, e8, e9⟩ := h
  have e7' := q_MIo_Q e7 hp (hQ 48 (by decide) (by decide)) (hQ 49 (by decide) (by decide)) (hQ 50 (by decide) (by decide))
  refine ⟨⟨w, by rw [hQ 43 (by decide) (by decide), e1], q_pre_g hp e2⟩, by rw [hQ 44 (by decide) (by decide), e3], by rw [hQ 45 (by decide) (by decide), e4], by rw [hQ 46 (by decide) (by decide), e5], by rw [hQ 47 (by decide) (by decide), e6], ⟨e7'.1, fun j x hx => ?_⟩, fun w x hx k s hk hs => by rw [hQ 51 (by decide) (by decide)]; exact e8 w x hx k s hk hs, e9⟩
  obtain ⟨v1, v2, v3⟩ := e7'.2 j x hx
  exact ⟨v1, v2, by omega⟩
section QRE
variable {κ : Nat → Nat} {b : Nat} {B : Nat → Int32} {l : List q_Tok} {zt : Nat} {C : q_CT} {S : Nat → Nat → Int64} {O : Nat → Int64} {D : q_Mem}
theorem q_mdescr_148 {n m z : Nat} (hK : q_Kp κ b D) (hz : z ≤ 32) (hn : b + 66 < n) : ∀ f fuel t (P : Nat → Int32) (Q : Nat → Nat → Int32) (N : List q_Nam) (top : Nat) (L : List q_Knd) (Js : List q_Ins), q_TM B l zt P Q S → P 15 = nI t → P 21 = nI z → P 23 = nI Js.length → Js.length ≤ 96 → t ≤ l.length → l.length < t + f → f < fuel → q_PL N top P Q → N.length ≤ t → q_TP l top t → q_MMk N P Q L → q_MIs N Q L.length z Js →
    ∃ P' Q', (∀ j, j ≠ 15 → j ≠ 19 → j ≠ 20 → j ≠ 22 → j ≠ 23 → P' j = P j) ∧ (∀ j, j < 34 ∨ 52 < j → Q' j = Q j) ∧ (match q_ps B l z f L Js t with
      | .inl (k, p) => F_X13_described_148 κ fuel (some (b + 26)) (q_H b C (P, Q, S) O D, n, m) = q_thr Unit b C (P', Q', S) O D n m (nI k) (nI p)
      | .inr (L', Js') => F_X13_described_148 κ fuel (some (b + 26)) (q_H b C (P, Q, S) O D, n, m) = some (.inl (), (q_H b C (P', Q', S) O D, n, m)) ∧ P' 23 = nI Js'.length ∧ ∃ N' top', q_PL N' top' P' Q' ∧ q_MMk N' P' Q' L' ∧ q_MIs N' Q' L'.length z Js') := by
  intro f
  induction f with
  | zero => intro fuel t P Q N top L Js h ha h21 h23 hJ ht htf; omega
  | succ f ih =>
    intro fuel t P Q N top L Js h ha h21 h23 hJ ht htf hfu hP hN hT hk hI
    obtain ⟨fu, rfl⟩ : ∃ fu, fuel = fu + 1 := ⟨fuel - 1, by omega⟩
    have hzt := h.2.2.1
    have hl := h.2.1
    have hwf := h.2.2.2.2.1
    have i1 : nI 1 = 1 := rfl
    have te := q_TM_end h (t := t) (by omega)
    unfold q_ps
    by_cases hle : l.length ≤ t
    · rw [if_pos hle]
      have ty : (Q 30 t = 0) = True := eq_true (te.mpr (by rw [q_tok_e hle]))
      refine ⟨P, Q, fun _ _ _ _ _ _ => rfl, fun _ _ => rfl, ?_, h23, N, top, hP, hk, hI⟩
      rw [F_X13_described_148]
      simp (disch := first | rfl | omega | decide | exact Nat.le_of_ble_eq_true rfl) only [↓q_br, q_rt, q_rz, q_gd, q_ca, ↓reduceIte, F_X13_described_148B, ↓q_gA_26_9, ↓q_gI_26_15, ↓q_is_26, ↓q_lI_30, ↓q_pI_26_15, ha, ty]
    · rw [if_neg hle]
      have hlt : t < l.length := by omega
      have ty : ¬ Q 30 t = 0 := fun h9 => by
        have := (hwf t _ (q_tok_s hlt)).1
        have := te.mp h9
        omega
      have c := fun i (hi : i < q_tx.length) => q_isWord (κ := κ) (b := b) (C := C) (O := O) (s := (n, m)) (i := i) (t := t) h hK hi (by omega)
      have c4 := c 4 (by decide)
      have c5 := c 5 (by decide)
      have c6 := c 6 (by decide)
      have c7 := c 7 (by decide)
      have c8 := c 8 (by decide)
      have c9 := c 9 (by decide)
      obtain ⟨P1, hP1⟩ : ∃ P1, P1 = q_u1 P 15 (nI (t + 1)) := ⟨_, rfl⟩
      have fP : ∀ j, j ≠ 15 → P1 j = P j := fun j j1 => by rw [hP1, q_u1_n _ _ j1]
      have a1 : P1 15 = nI (t + 1) := by rw [hP1, q_u1_s]
      have hT1 : q_TM B l zt P1 Q S := q_TM_P h (fP 13 (by decide)) rfl rfl rfl rfl
      have hPL1 : q_PL N top P1 Q := q_PL_P hP (fP _ (by decide)) (fP _ (by decide)) rfl rfl rfl
      have hTP1 : q_TP l top (t + 1) := fun t' q1 q2 => hT t' (by omega) q2
      have hk1 : q_MMk N P1 Q L := q_MMk_Q hk (List.prefix_refl _) (fP _ (by decide)) (fun _ _ _ => rfl)
      by_cases h9 : q_wd B l t 9 = true
      · rw [if_pos h9]
        obtain ⟨P2, Q2, x1, x2, x3⟩ := q_minstr (κ := κ) (b := b) (C := C) (O := O) (D := D) (n := n) (m := m) (ni := Js.length) hK hz hJ hn hT1 a1 (by rw [fP 21 (by decide), h21]) (by rw [fP 23 (by decide), h23]) (by omega) hPL1 (by omega) hTP1 hk1
        have step : F_X13_described_148 κ (fu + 1) (some (b + 26)) (q_H b C (P, Q, S) O D, n, m) = q_ca (F_X13_instruction κ (some (b + 26))) (fun _ => F_X13_described_311 κ (F_X13_described_148 κ fu) (some (b + 26))) (q_H b C (P1, Q, S) O D, n, m) := by
          rw [F_X13_described_148, hP1, F_X13_described_148B]
          simp (disch := first | rfl | omega | decide | exact Nat.le_of_ble_eq_true rfl) only [↓q_br, ↓reduceIte, ↓q_gA_26_9, ↓q_gI_26_15, ↓q_lI_30, ↓q_is_26, ha, ty]
          rw [q_ca, c9]
          simp (disch := first | rfl | omega | decide | exact Nat.le_of_ble_eq_true rfl) only [h9, q_b_0, Bool.true_eq_false, ↓q_br, ↓reduceIte, ↓q_gI_26_15, ↓q_pI_26_15, ↓q_is_26, ha, nI_1]
        rw [step]
        cases hq : q_pi B l L Js.length z (t + 1) with
        | inl e =>
          obtain ⟨k, p⟩ := e
          rw [hq] at x3
          refine ⟨P2, Q2, fun j j1 j2 j3 _ j5 => by rw [x1 j j1 j2 j3 j5, fP j j1], fun j j1 => x2 j (by omega) (by omega), ?_⟩
          simp only [q_ca, x3, q_thr]
        | inr e =>
          obtain ⟨J, t'⟩ := e
          rw [hq] at x3
          obtain ⟨y1, t1, rfl, y2, y3, y4, N2, top2, y5, y6, y7, y8, y9, y10⟩ := x3
          obtain ⟨m1, m2, m3⟩ := q_pi_m hq
          have hlt1 := q_tok_lt (l := l) (t := t1) (by have := (of_decide_eq_true y4).1; omega)
          have fP2 : ∀ j, j ≠ 15 → j ≠ 19 → j ≠ 20 → j ≠ 23 → P2 j = P j := fun j j1 j2 j3 j5 => by rw [x1 j j1 j2 j3 j5, fP j j1]
          have nx := fun j (h1 : j < 34) => x2 j (Or.inl h1) (Or.inl (by omega))
          have hT2 : q_TM B l zt P2 Q2 S := q_TM_P h (fP2 13 (by decide) (by decide) (by decide) (by decide)) (nx 28 (by decide)) (nx 30 (by decide)) (nx 31 (by decide)) (nx 32 (by decide))
          have ex := q_expect_t (κ := κ) (b := b) (C := C) (O := O) (D := D) (s := (n, m)) hT2 y2 y4
          obtain ⟨P3, hP3⟩ : ∃ P3, P3 = q_u1 P2 15 (nI (t1 + 1)) := ⟨_, rfl⟩
          rw [← hP3] at ex
          have fP3 : ∀ j, j ≠ 15 → P3 j = P2 j := fun j j1 => by rw [hP3, q_u1_n _ _ j1]
          have hlen : (Js ++ [J]).length = Js.length + 1 := by simp
          have hMI : q_MIs N2 Q2 L.length z (Js ++ [J]) := by
            intro i J' hi
            by_cases hil : i < Js.length
            · rw [List.getElem?_append_left hil] at hi
              exact y10 i J' hil (hI i J' hi)
            · have hie : i = Js.length := by
                have := (List.getElem?_eq_some_iff.mp hi).1
                omega
              subst hie
              rw [List.getElem?_append_right (Nat.le_refl _), Nat.sub_self] at hi
              simp only [List.getElem?_cons_zero, Option.some.injEq] at hi
              subst hi
              exact y9 m3
          have hk2 : q_MMk N2 P3 Q2 L := q_MMk_Q hk y6 (by rw [fP3 22 (by decide), fP2 22 (by decide) (by decide) (by decide) (by decide)]) (fun j j1 j2 => x2 j (by omega) (by omega))
          obtain ⟨P', Q', w1, w2, w3⟩ := ih fu (t1 + 1) P3 Q2 N2 top2 L (Js ++ [J]) (q_TM_P hT2 (fP3 13 (by decide)) rfl rfl rfl rfl) (by rw [hP3, q_u1_s]) (by rw [fP3 21 (by decide), fP2 21 (by decide) (by decide) (by decide) (by decide), h21]) (by rw [fP3 23 (by decide), y3, hlen]) (by omega) (by omega) (by omega) (by omega) (q_PL_P y5 (fP3 _ (by decide)) (fP3 _ (by decide)) rfl rfl rfl) y7 y8 hk2 hMI
          refine ⟨P', Q', fun j j1 j2 j3 j4 j5 => by rw [w1 j j1 j2 j3 j4 j5, fP3 j j1, fP2 j j1 j2 j3 j5], fun j j1 => by rw [w2 j j1, x2 j (by omega) (by omega)], ?_⟩
          rw [q_ca, y1]
          simp (disch := first | rfl | omega | decide | exact Nat.le_of_ble_eq_true rfl) only [F_X13_described_311, ↓q_is_26, q_ca, ex]
          cases hq2 : q_ps B l z f L (Js ++ [J]) (t1 + 1) with
          | inl e => obtain ⟨k, p⟩ := e; rw [hq2] at w3; exact w3
          | inr e => obtain ⟨L', Js'⟩ := e; rw [hq2] at w3; exact w3
      · rw [if_neg h9]
        have h9' : q_wd B l t 9 = false := by simpa using h9
        have step : F_X13_described_148 κ (fu + 1) (some (b + 26)) (q_H b C (P, Q, S) O D, n, m) = F_X13_described_278 κ (F_X13_described_148 κ fu) (some (b + 26)) (q_mv (q_so B l t)) (q_H b C (P, Q, S) O D, n, m) := by
          rw [F_X13_described_148]
          simp (disch := first | rfl | omega | decide | exact Nat.le_of_ble_eq_true rfl) only [↓q_br, q_rt, q_rz, q_gd, q_ca, ↓reduceIte, F_X13_described_148B, ↓q_gA_26_9, ↓q_gI_26_15, ↓q_is_26, ↓q_lI_30, ↓q_pI_26_15, ha, ty, c9, h9', c4, c5, c6, c7, c8, q_b_0, q_so]
          cases q_wd B l t 4 <;> simp only [Bool.false_eq_true, Bool.true_eq_false, if_true, if_false, q_mv] <;> try rfl
          cases q_wd B l t 5 <;> simp only [Bool.false_eq_true, Bool.true_eq_false, if_true, if_false, q_mv] <;> try rfl
          cases q_wd B l t 6 <;> simp only [Bool.false_eq_true, Bool.true_eq_false, if_true, if_false, q_mv] <;> try rfl
          cases q_wd B l t 7 <;> simp only [Bool.false_eq_true, Bool.true_eq_false, if_true, if_false, q_mv] <;> try rfl
          cases q_wd B l t 8 <;> simp only [Bool.false_eq_true, Bool.true_eq_false, if_true, if_false, q_mv] <;> try rfl
        rw [step]
        cases hso : q_so B l t with
        | none =>
          have neg1 : ¬ (0 : Int32) ≤ -1 := by decide
          refine ⟨P, Q, fun _ _ _ _ _ _ => rfl, fun _ _ => rfl, ?_⟩
          simp (disch := first | rfl | omega | decide | exact Nat.le_of_ble_eq_true rfl) only [↓q_br, q_rt, q_rz, q_gd, q_ca, ↓reduceIte, F_X13_described_278, ↓q_gI_26_15, ↓q_is_26, ↓q_pI_26_15, q_mv, neg1, ha, q_mk_H, reduceCtorEq, not_false_eq_true, q_fault, qd_Su, q_tr, i1]
        | some sv =>
          have hs4 := q_so_le hso
          have pos : (0 : Int32) ≤ nI sv := by rw [← nI_0, nI_leI (by decide) (by omega)]; omega
          obtain ⟨P2, Q2, x1, x2, x3⟩ := q_mkind (κ := κ) (b := b) (C := C) (O := O) (D := D) (n := n) (m := m) (so := sv) hT1 a1 (by omega) hs4 hn hPL1 (by omega) hTP1 hk1
          have st : F_X13_described_278 κ (F_X13_described_148 κ fu) (some (b + 26)) (q_mv (some sv)) (q_H b C (P, Q, S) O D, n, m) = q_ca (F_X13_kind κ (some (b + 26)) (nI sv)) (fun _ => F_X13_described_311 κ (F_X13_described_148 κ fu) (some (b + 26))) (q_H b C (P1, Q, S) O D, n, m) := by
            rw [hP1]
            simp (disch := first | rfl | omega | decide | exact Nat.le_of_ble_eq_true rfl) only [F_X13_described_278, ↓q_br, ↓reduceIte, ↓q_gI_26_15, ↓q_pI_26_15, ↓q_is_26, q_mv, pos, ha, nI_1]
          rw [st]
          simp only
          cases hq : q_pk B l L sv (t + 1) with
          | inl e =>
            obtain ⟨k, p⟩ := e
            rw [hq] at x3
            refine ⟨P2, Q2, fun j j1 j2 j3 j4 _ => by rw [x1 j j1 j2 j3 j4, fP j j1], fun j j1 => x2 j (by omega), ?_⟩
            simp only [q_ca, x3, q_thr]
          | inr e =>
            obtain ⟨K, t'⟩ := e
            rw [hq] at x3
            obtain ⟨y1, t1, rfl, y2, y4, N2, top2, y5, y6, y7, y8, y9⟩ := x3
            have m1 := q_pk_m hq
            have hlt1 := q_tok_lt (l := l) (t := t1) (by have := (of_decide_eq_true y4).1; omega)
            have fP2 : ∀ j, j ≠ 15 → j ≠ 19 → j ≠ 20 → j ≠ 22 → P2 j = P j := fun j j1 j2 j3 j5 => by rw [x1 j j1 j2 j3 j5, fP j j1]
            have nx := fun j (h1 : j < 34) => x2 j (Or.inl h1)
            have hT2 : q_TM B l zt P2 Q2 S := q_TM_P h (fP2 13 (by decide) (by decide) (by decide) (by decide)) (nx 28 (by decide)) (nx 30 (by decide)) (nx 31 (by decide)) (nx 32 (by decide))
            have ex := q_expect_t (κ := κ) (b := b) (C := C) (O := O) (D := D) (s := (n, m)) hT2 y2 y4
            obtain ⟨P3, hP3⟩ : ∃ P3, P3 = q_u1 P2 15 (nI (t1 + 1)) := ⟨_, rfl⟩
            rw [← hP3] at ex
            have fP3 : ∀ j, j ≠ 15 → P3 j = P2 j := fun j j1 => by rw [hP3, q_u1_n _ _ j1]
            have hlen : (L ++ [K]).length = L.length + 1 := by simp
            have hMI : q_MIs N2 Q2 (L ++ [K]).length z Js := fun i J' hi => q_MIn_Q (hI i J' hi) y6 (by omega) (fun j j1 _ => x2 j (Or.inr j1))
            obtain ⟨P', Q', w1, w2, w3⟩ := ih fu (t1 + 1) P3 Q2 N2 top2 (L ++ [K]) Js (q_TM_P hT2 (fP3 13 (by decide)) rfl rfl rfl rfl) (by rw [hP3, q_u1_s]) (by rw [fP3 21 (by decide), fP2 21 (by decide) (by decide) (by decide) (by decide), h21]) (by rw [fP3 23 (by decide), fP2 23 (by decide) (by decide) (by decide) (by decide), h23]) hJ (by omega) (by omega) (by omega) (q_PL_P y5 (fP3 _ (by decide)) (fP3 _ (by decide)) rfl rfl rfl) y7 y8 (q_MMk_Q y9 (List.prefix_refl _) (fP3 22 (by decide)) (fun _ _ _ => rfl)) hMI
            refine ⟨P', Q', fun j j1 j2 j3 j4 j5 => by rw [w1 j j1 j2 j3 j4 j5, fP3 j j1, fP2 j j1 j2 j3 j4], fun j j1 => by rw [w2 j j1, x2 j (by omega)], ?_⟩
            rw [q_ca, y1]
            simp (disch := first | rfl | omega | decide | exact Nat.le_of_ble_eq_true rfl) only [F_X13_described_311, ↓q_is_26, q_ca, ex]
            cases hq2 : q_ps B l z f (L ++ [K]) Js (t1 + 1) with
            | inl e => obtain ⟨k, p⟩ := e; rw [hq2] at w3; exact w3
            | inr e => obtain ⟨L', Js'⟩ := e; rw [hq2] at w3; exact w3
end QRE
