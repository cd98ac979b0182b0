/-! ===== the reference reads the parts ===== -/
def q_MIo (N : List q_Nam) (Q : Nat → Nat → Int32) (nk i : Nat) (ps : List Int32) (os : q_Ops) : Prop := (∀ j v, ps[j]? = some v → Q 48 (12 * i + j) = v) ∧ (∀ j x, os[j]? = some x → (∃ w, Q 49 (5 * i + j) = nI w ∧ N[w]? = some x.1) ∧ Q 50 (5 * i + j) = nI x.2 ∧ x.2 < nk)
theorem q_mulI (a k j : Nat) : nI a * nI k + nI j = nI (a * k + j) := by
  have : nI a * nI k = nI (a * k) := (Int32.ofNat_mul a k).symm
  rw [this, nI_add]
section QMD
variable {κ : Nat → Nat} {b : Nat} {B : Nat → Int32} {l : List q_Tok} {z t : Nat} {C : q_CT} {P : Nat → Int32} {Q : Nat → Nat → Int32} {S : Nat → Nat → Int64} {O : Nat → Int64} {D : q_Mem}
theorem q_og_s {os : q_Ops} {j : Nat} (h : j < os.length) : os[j]? = some (os.getD j ([], 0)) := by simp [List.getD, h]
theorem q_i160_s {r : Option Nat → Int32 → Int32 → Int32 → q_X Unit} {N : List q_Nam} {top nk i w n m : Nat} {l3 tt : Int32} {tb : q_Nam} {ps : List Int32} {os : q_Ops} (hP : q_PL N top P Q) (hm : q_MIo N Q nk i ps os) (hi : i < 96) (ho : os.length ≤ 5) (hw : N[w]? = some tb) (hn : b + 66 < n) : ∀ d fuel j, j + d = os.length → d < fuel → (q_fi (fun k => decide (tb = q_og os k)) d j).isSome = true → F_X13_instruction_160 κ r fuel (some (b + 26)) (nI i) l3 (nI os.length) tt (nI w) (nI j) (q_H b C (P, Q, S) O D, n, m) = q_thr Unit b C (P, Q, S) O D n m 2 tt := by
  intro d
  induction d with
  | zero => intro fuel j h1 h2 h3; simp [q_fi] at h3
  | succ d ih =>
    intro fuel j h1 h2 h3
    obtain ⟨f, rfl⟩ : ∃ f, fuel = f + 1 := ⟨fuel - 1, by omega⟩
    have h4 : ¬ os.length ≤ j := by omega
    obtain ⟨⟨v, q2, q3⟩, -⟩ := hm.2 j _ (q_og_s (by omega))
    have h5 := q_id_eq hP.2.2.2.2.1 (by have := hP.2.2.1; omega) q3 hw
    have h6 : (5 : Int32) * nI i + nI j = nI (5 * i + j) := q_mulI 5 i j
    unfold q_fi at h3
    by_cases hc : tb = q_og os j
    · have h7 : nI v = nI w := h5.mpr hc.symm
      rw [F_X13_instruction_160]
      simp (disch := first | rfl | omega | decide | exact Nat.le_of_ble_eq_true rfl) only [↓q_br, q_rt, q_rz, q_gd, q_ca, ↓reduceIte, F_X13_instruction_160B, ↓q_gA_26_36, ↓q_is_26, ↓q_lI_49, nI_leI, h4, h6, q2, h7, not_true_eq_false, q_mk_H, reduceCtorEq, not_false_eq_true, q_fault, qd_Su, q_tr]
    · rw [if_neg (by simpa using hc)] at h3
      have h7 : ¬ nI v = nI w := fun h9 => hc ((h5.mp h9).symm)
      refine Eq.trans ?_ (ih f (j + 1) (by omega) (by omega) h3)
      rw [F_X13_instruction_160]
      simp (disch := first | rfl | omega | decide | exact Nat.le_of_ble_eq_true rfl) only [↓q_br, q_rt, q_rz, q_gd, q_ca, ↓reduceIte, F_X13_instruction_160B, ↓q_gA_26_36, ↓q_is_26, ↓q_lI_49, nI_leI, h4, h6, q2, h7, not_false_eq_true, nI_1]
theorem q_i160_n {r : Option Nat → Int32 → Int32 → Int32 → q_X Unit} {N : List q_Nam} {top nk i w : Nat} {l3 tt : Int32} {tb : q_Nam} {ps : List Int32} {os : q_Ops} {s : Nat × Nat} (hP : q_PL N top P Q) (hm : q_MIo N Q nk i ps os) (hi : i < 96) (ho : os.length ≤ 5) (hw : N[w]? = some tb) : ∀ d fuel j, j + d = os.length → d < fuel → q_fi (fun k => decide (tb = q_og os k)) d j = none → ∃ f, F_X13_instruction_160 κ r fuel (some (b + 26)) (nI i) l3 (nI os.length) tt (nI w) (nI j) (q_H b C (P, Q, S) O D, s) = F_X13_instruction_160 κ r (f + 1) (some (b + 26)) (nI i) l3 (nI os.length) tt (nI w) (nI os.length) (q_H b C (P, Q, S) O D, s) := by
  intro d
  induction d with
  | zero =>
    intro fuel j h1 h2 h3
    have h4 : j = os.length := by omega
    exact ⟨fuel - 1, by rw [h4, Nat.sub_add_cancel (by omega)]⟩
  | succ d ih =>
    intro fuel j h1 h2 h3
    obtain ⟨f, rfl⟩ : ∃ f, fuel = f + 1 := ⟨fuel - 1, by omega⟩
    have h4 : ¬ os.length ≤ j := by omega
    obtain ⟨⟨v, q2, q3⟩, -⟩ := hm.2 j _ (q_og_s (by omega))
    have h5 := q_id_eq hP.2.2.2.2.1 (by have := hP.2.2.1; omega) q3 hw
    have h6 : (5 : Int32) * nI i + nI j = nI (5 * i + j) := q_mulI 5 i j
    unfold q_fi at h3
    by_cases hc : tb = q_og os j
    · rw [if_pos (decide_eq_true hc)] at h3; cases h3
    · rw [if_neg (by simpa using hc)] at h3
      have h7 : ¬ nI v = nI w := fun h9 => hc ((h5.mp h9).symm)
      obtain ⟨f', r'⟩ := ih f (j + 1) (by omega) (by omega) h3
      refine ⟨f', Eq.trans ?_ r'⟩
      rw [F_X13_instruction_160]
      simp (disch := first | rfl | omega | decide | exact Nat.le_of_ble_eq_true rfl) only [↓q_br, q_rt, q_rz, q_gd, q_ca, ↓reduceIte, F_X13_instruction_160B, ↓q_gA_26_36, ↓q_is_26, ↓q_lI_49, nI_leI, h4, h6, q2, h7, not_false_eq_true, nI_1]
/-- the search for a kind: where it ends -/
theorem q_i246 {r : Option Nat → Int32 → Int32 → Int32 → q_X Unit} {N : List q_Nam} {top w : Nat} {l2 l3 l4 l6 l7 : Int32} {tb : q_Nam} {L : List q_Knd} {s : Nat × Nat} (hP : q_PL N top P Q) (hk : q_MMk N P Q L) (hw : N[w]? = some tb) : ∀ d fuel j, j + d = L.length → d < fuel → F_X13_instruction_246 κ r fuel (some (b + 26)) l2 l3 l4 l6 l7 (nI w) (nI j) (q_H b C (P, Q, S) O D, s) = F_X13_instruction_273 κ r (some (b + 26)) l2 l3 l4 l6 l7 (nI ((q_fi (fun i => decide (tb = q_kN (q_kg L i))) d j).getD L.length)) (q_H b C (P, Q, S) O D, s) := by
  obtain ⟨k1, k2, k3⟩ := hk
  intro d
  induction d with
  | zero =>
    intro fuel j h1 h2
    obtain ⟨f, rfl⟩ : ∃ f, fuel = f + 1 := ⟨fuel - 1, by omega⟩
    have h4 : L.length ≤ j := by omega
    have h5 : j = L.length := by omega
    rw [F_X13_instruction_246]
    simp (disch := first | rfl | omega | decide | exact Nat.le_of_ble_eq_true rfl) only [↓q_br, q_rt, q_rz, q_gd, q_ca, ↓reduceIte, F_X13_instruction_246B, ↓q_gA_26_24, ↓q_gI_26_22, ↓q_lI_37, k1, nI_leI, h4, q_fi, Option.getD_none]
    rw [h5]
  | succ d ih =>
    intro fuel j h1 h2
    obtain ⟨f, rfl⟩ : ∃ f, fuel = f + 1 := ⟨fuel - 1, by omega⟩
    have h4 : ¬ L.length ≤ j := by omega
    obtain ⟨-, q1, ⟨wk, q2, q3⟩, -⟩ := k3 j _ (q_kg_s (by omega))
    have h5 := q_id_eq hP.2.2.2.2.1 (by have := hP.2.2.1; omega) q3 hw
    rw [F_X13_instruction_246]
    unfold q_fi
    by_cases hc : tb = q_kN (q_kg L j)
    · have h7 : nI wk = nI w := h5.mpr hc.symm
      rw [if_pos (decide_eq_true hc)]
      simp (disch := first | rfl | omega | decide | exact Nat.le_of_ble_eq_true rfl) only [↓q_br, q_rt, q_rz, q_gd, q_ca, ↓reduceIte, F_X13_instruction_246B, ↓q_gA_26_24, ↓q_gI_26_22, ↓q_lI_37, k1, nI_leI, h4, q2, h7, Option.getD_some]
    · have h7 : ¬ nI wk = nI w := fun h9 => hc ((h5.mp h9).symm)
      rw [if_neg (by simpa using hc)]
      refine Eq.trans ?_ (ih f (j + 1) (by omega) (by omega))
      simp (disch := first | rfl | omega | decide | exact Nat.le_of_ble_eq_true rfl) only [↓q_br, q_rt, q_rz, q_gd, q_ca, ↓reduceIte, F_X13_instruction_246B, ↓q_gA_26_24, ↓q_gI_26_22, ↓q_lI_37, k1, nI_leI, h4, q2, h7, nI_1]
/-- one part -/
theorem q_mpart {N : List q_Nam} {top i n m f : Nat} {L : List q_Knd} {ps : List Int32} {os : q_Ops} (h : q_TM B l z P Q S) (hK : q_Kp κ b D) (ha : P 15 = nI t) (ht : t ≤ l.length) (hn : b + 66 < n) (hP : q_PL N top P Q) (hN : N.length ≤ t) (hT : q_TP l top t) (hk : q_MMk N P Q L) (hi : i < 96) (hm : q_MIo N Q L.length i ps os) (hp : ps.length ≤ 12) (ho : os.length ≤ 5) (hs : q_sgn l t 61 = false) :
    ∃ P' Q', (∀ j, j ≠ 15 → j ≠ 19 → j ≠ 20 → P' j = P j) ∧ (∀ j, j ≠ 34 → j ≠ 35 → j ≠ 36 → j ≠ 48 → j ≠ 49 → j ≠ 50 → Q' j = Q j) ∧ (∀ x, x < 12 * i → Q' 48 x = Q 48 x) ∧ (∀ x, x < 5 * i → Q' 49 x = Q 49 x ∧ Q' 50 x = Q 50 x) ∧ (match q_p1 B l L ps os t with
      | .inl (e, p) => F_X13_instruction_42 κ (f + 1) (some (b + 26)) (nI i) (nI ps.length) (nI os.length) (q_H b C (P, Q, S) O D, n, m) = q_thr Unit b C (P', Q', S) O D n m (nI e) (nI p)
      | .inr (ps', os', t') => F_X13_instruction_42 κ (f + 1) (some (b + 26)) (nI i) (nI ps.length) (nI os.length) (q_H b C (P, Q, S) O D, n, m) = F_X13_instruction_42 κ f (some (b + 26)) (nI i) (nI ps'.length) (nI os'.length) (q_H b C (P', Q', S) O D, n, m) ∧ P' 15 = nI t' ∧ t' ≤ l.length ∧ ps'.length ≤ 12 ∧ os'.length ≤ 5 ∧ ∃ N' top', q_PL N' top' P' Q' ∧ N <+: N' ∧ N'.length ≤ t' ∧ q_TP l top' t' ∧ q_MIo N' Q' L.length i ps' os') := by
  have hz := h.2.2.1
  have hl := h.2.1
  have hwf := h.2.2.2.2.1
  have i1 : nI 1 = 1 := rfl
  have i2 : nI 2 = 2 := rfl
  have i3 : nI 3 = 3 := rfl
  have p12 : (nI ps.length = (12 : Int32)) ↔ ps.length = 12 := nI_eq (b := 12) (by omega) (by decide)
  have o5 : (nI os.length = (5 : Int32)) ↔ os.length = 5 := nI_eq (b := 5) (by omega) (by decide)
  have c1 := q_msign (κ := κ) (b := b) (C := C) (O := O) (D := D) (s := (n, m)) (c := 61) h (t := t) (by omega)
  have h3 : (Q 30 t = (3 : Int32)) ↔ (q_tok l t).1 = 3 := q_TM_is (c := 3) h (by omega) (by decide)
  have m12 : (12 : Int32) * nI i + nI ps.length = nI (12 * i + ps.length) := q_mulI 12 i ps.length
  have m5 : (5 : Int32) * nI i + nI os.length = nI (5 * i + os.length) := q_mulI 5 i os.length
  have hsp : ∀ f : Nat → q_X Unit, q_rd (q_sp (some (κ 10)) 0) f (q_H b C (P, Q, S) O D, n, m) = f 10 (q_H b C (P, Q, S) O D, n, m) := fun f => q_sp_0 hK (by decide)
  unfold q_p1
  by_cases hy : (q_tok l t).1 = 1
  · rw [if_pos hy]
    have hlt := q_tok_lt (l := l) (t := t) (by omega)
    have hy3 : ¬ (q_tok l t).1 = 3 := by omega
    have c2 := q_expectName_t (κ := κ) (b := b) (C := C) (O := O) (D := D) (s := (n, m)) h ha hy
    have h1 : q_TM B l z (q_u1 P 15 (nI (t + 1))) Q S := q_TM_P h (q_u1_n _ _ (by decide)) rfl rfl rfl rfl
    have hP1 : q_PL N top (q_u1 P 15 (nI (t + 1))) Q := q_PL_P hP (q_u1_n _ _ (by decide)) (q_u1_n _ _ (by decide)) rfl rfl rfl
    obtain ⟨N2, top2, w, P2, Q2, n1, n2, n3, n4, n5, n6, n7⟩ := q_nameOf (κ := κ) (b := b) (C := C) (O := O) (D := D) (s := (n, m)) h1 hy hP1 hN (hT t (Nat.le_refl _) hlt)
    have hpre : N <+: N2 := by
      rcases n4 with e | e <;> rw [e]
      · exact List.prefix_refl _
      · exact List.prefix_append _ _
    have hN2 : N2.length ≤ t + 1 := by
      rcases n4 with e | e <;> rw [e]
      · omega
      · simp only [List.length_append, List.length_cons, List.length_nil]; omega
    have ha2 : P2 15 = nI (t + 1) := by rw [n6 15 (by decide) (by decide), q_u1_s]
    have h2 : q_TM B l z P2 Q2 S := q_TM_P h1 (n6 13 (by decide) (by decide)) (n7 28 (by decide) (by decide) (by decide)) (n7 30 (by decide) (by decide) (by decide)) (n7 31 (by decide) (by decide) (by decide)) (n7 32 (by decide) (by decide) (by decide))
    have hT2 : q_TP l top2 (t + 1) := q_TP_next hwf n5
    have fP2 : ∀ j, j ≠ 15 → j ≠ 19 → j ≠ 20 → P2 j = P j := fun j j1 j2 j3 => by rw [n6 j j2 j3, q_u1_n _ _ j1]
    have hm2 : q_MIo N2 Q2 L.length i ps os := ⟨fun j v hj => by rw [n7 48 (by decide) (by decide) (by decide)]; exact hm.1 j v hj, fun j x hx => by
      obtain ⟨⟨v, v1, v2⟩, v3, v4⟩ := hm.2 j x hx
      exact ⟨⟨v, by rw [n7 49 (by decide) (by decide) (by decide), v1], q_pre_g hpre v2⟩, by rw [n7 50 (by decide) (by decide) (by decide), v3], v4⟩⟩
    have step : F_X13_instruction_42 κ (f + 1) (some (b + 26)) (nI i) (nI ps.length) (nI os.length) (q_H b C (P, Q, S) O D, n, m) = F_X13_instruction_160 κ (F_X13_instruction_42 κ f) q_fu (some (b + 26)) (nI i) (nI ps.length) (nI os.length) (nI t) (nI w) 0 (q_H b C (P2, Q2, S) O D, n, m) := by
      rw [F_X13_instruction_42]
      simp (disch := first | rfl | omega | decide | exact Nat.le_of_ble_eq_true rfl) only [↓q_br, q_rt, q_rz, q_gd, q_ca, ↓reduceIte, F_X13_instruction_42B, F_X13_instruction_143, ↓q_gA_26_12, ↓q_gA_26_31, ↓q_gA_26_32, ↓q_gA_26_35, ↓q_gA_26_9, ↓q_gI_26_15, ↓q_gI_26_23, ↓q_is_26, ↓q_lI_30, ↓q_lI_44, ↓q_lI_45, ↓q_lI_48, ↓q_lL_33, ↓q_pI_26_15, ↓q_pI_26_23, ↓q_sI_30, ↓q_sI_44, ↓q_sI_45, ↓q_sI_48, ha, c1, hs, q_b_0, not_true_eq_false, h3, hy3, not_false_eq_true, c2, n1]
    rw [step]
    by_cases hin : (q_oi B l t os).isSome = true
    · rw [if_pos hin]
      have r := q_i160_s (κ := κ) (b := b) (C := C) (S := S) (O := O) (D := D) (m := m) (r := F_X13_instruction_42 κ f) (l3 := nI ps.length) (tt := nI t) n2 hm2 hi ho n3 hn os.length q_fu 0 (by omega) (by unfold q_fu; omega) hin
      rw [nI_0] at r
      exact ⟨P2, Q2, fP2, fun j j1 j2 j3 _ _ _ => n7 j j1 j2 j3, fun x _ => by rw [n7 48 (by decide) (by decide) (by decide)], fun x _ => by rw [n7 49 (by decide) (by decide) (by decide), n7 50 (by decide) (by decide) (by decide)]; exact ⟨rfl, rfl⟩, r⟩
    · rw [if_neg hin]
      have hnone : q_fi (fun k => decide (q_tB B (q_tok l t) = q_og os k)) os.length 0 = none := by
        unfold q_oi at hin
        cases hq : q_fi (fun k => decide (q_tB B (q_tok l t) = q_og os k)) os.length 0 with
        | none => rfl
        | some x => rw [hq] at hin; simp at hin
      obtain ⟨f1, r⟩ := q_i160_n (κ := κ) (b := b) (C := C) (S := S) (O := O) (D := D) (s := (n, m)) (r := F_X13_instruction_42 κ f) (l3 := nI ps.length) (tt := nI t) n2 hm2 hi ho n3 os.length q_fu 0 (by omega) (by unfold q_fu; omega) hnone
      rw [nI_0] at r
      rw [r, F_X13_instruction_160]
      have e9 : nI os.length ≤ nI os.length := Int32.le_refl _
      by_cases hfull : ps.length = 12 ∨ os.length = 5
      · rw [if_pos hfull]
        refine ⟨P2, Q2, fP2, fun j j1 j2 j3 _ _ _ => n7 j j1 j2 j3, fun x _ => by rw [n7 48 (by decide) (by decide) (by decide)], fun x _ => by rw [n7 49 (by decide) (by decide) (by decide), n7 50 (by decide) (by decide) (by decide)]; exact ⟨rfl, rfl⟩, ?_⟩
        show F_X13_instruction_160B κ (F_X13_instruction_42 κ f) (F_X13_instruction_160 κ (F_X13_instruction_42 κ f) f1) (some (b + 26)) (nI i) (nI ps.length) (nI os.length) (nI t) (nI w) (nI os.length) (q_H b C (P2, Q2, S) O D, n, m) = q_thr Unit b C (P2, Q2, S) O D n m (nI 3) (nI t)
        by_cases h12 : ps.length = 12
        · have h12' : (nI ps.length = (12 : Int32)) = True := eq_true (p12.mpr h12)
          simp (disch := first | rfl | omega | decide | exact Nat.le_of_ble_eq_true rfl) only [↓q_br, q_rt, q_rz, q_gd, q_ca, ↓reduceIte, F_X13_instruction_160B, F_X13_instruction_212, ↓q_gA_26_36, ↓q_is_26, ↓q_lI_49, e9, h12', q_mk_H, reduceCtorEq, not_false_eq_true, q_fault, qd_Su, q_tr, i3]
        · have h5' : (nI os.length = (5 : Int32)) = True := eq_true (o5.mpr (hfull.resolve_left h12))
          simp (disch := first | rfl | omega | decide | exact Nat.le_of_ble_eq_true rfl) only [↓q_br, q_rt, q_rz, q_gd, q_ca, ↓reduceIte, F_X13_instruction_160B, F_X13_instruction_212, ↓q_gA_26_36, ↓q_is_26, ↓q_lI_49, e9, p12, h12, h5', not_true_eq_false, q_mk_H, reduceCtorEq, not_false_eq_true, q_fault, qd_Su, q_tr, i3]
      · rw [if_neg hfull]
        have h12 : ¬ ps.length = 12 := fun h => hfull (Or.inl h)
        have h5 : ¬ os.length = 5 := fun h => hfull (Or.inr h)
        by_cases hs2 : q_sgn l (t + 1) 58 = true
        · rw [if_pos hs2]
          have hlt1 := q_tok_lt (l := l) (t := t + 1) (by have := (of_decide_eq_true hs2).1; omega)
          have c3 := q_expect_t (κ := κ) (b := b) (C := C) (O := O) (D := D) (s := (n, m)) (c := 58) h2 ha2 hs2
          have h4 : q_TM B l z (q_u1 P2 15 (nI (t + 1 + 1))) Q2 S := q_TM_P h2 (q_u1_n _ _ (by decide)) rfl rfl rfl rfl
          have ha4 : q_u1 P2 15 (nI (t + 1 + 1)) 15 = nI (t + 1 + 1) := q_u1_s _ _ _
          by_cases hy2 : (q_tok l (t + 2)).1 = 1
          · rw [if_pos hy2]
            have hlt2 := q_tok_lt (l := l) (t := t + 2) (by omega)
            have c4 := q_expectName_t (κ := κ) (b := b) (C := C) (O := O) (D := D) (s := (n, m)) (t := t + 1 + 1) h4 ha4 hy2
            rw [q_u1_u1] at c4
            have h5t : q_TM B l z (q_u1 P2 15 (nI (t + 1 + 1 + 1))) Q2 S := q_TM_P h2 (q_u1_n _ _ (by decide)) rfl rfl rfl rfl
            have hP5 : q_PL N2 top2 (q_u1 P2 15 (nI (t + 1 + 1 + 1))) Q2 := q_PL_P n2 (q_u1_n _ _ (by decide)) (q_u1_n _ _ (by decide)) rfl rfl rfl
            obtain ⟨N3, top3, w3, P3, Q3, o1, o2, o3, o4, o5', o6, o7⟩ := q_nameOf (κ := κ) (b := b) (C := C) (O := O) (D := D) (s := (n, m)) (t := t + 1 + 1) h5t hy2 hP5 (by omega) (hT2 (t + 1 + 1) (by omega) hlt2)
            have hpre3 : N2 <+: N3 := by
              rcases o4 with e | e <;> rw [e]
              · exact List.prefix_refl _
              · exact List.prefix_append _ _
            have hN3 : N3.length ≤ t + 3 := by
              rcases o4 with e | e <;> rw [e]
              · omega
              · simp only [List.length_append, List.length_cons, List.length_nil]; omega
            have h22 : P3 22 = nI L.length := by rw [o6 22 (by decide) (by decide), q_u1_n _ _ (by decide), fP2 22 (by decide) (by decide) (by decide), hk.1]
            have hk3 : q_MMk N3 P3 Q3 L := ⟨h22, hk.2.1, q_MK_ext hk.2.2 (hpre.trans hpre3) (fun j x j1 j2 _ => by rw [o7 j (by omega) (by omega) (by omega), n7 j (by omega) (by omega) (by omega)]) (fun x _ => by rw [o7 42 (by decide) (by decide) (by decide), n7 42 (by decide) (by decide) (by decide)])⟩
            have fP3 : ∀ j, j ≠ 15 → j ≠ 19 → j ≠ 20 → P3 j = P j := fun j j1 j2 j3 => by rw [o6 j j2 j3, q_u1_n _ _ j1, fP2 j j1 j2 j3]
            have fQ3 : ∀ j, j ≠ 34 → j ≠ 35 → j ≠ 36 → Q3 j = Q j := fun j j1 j2 j3 => by rw [o7 j j1 j2 j3, n7 j j1 j2 j3]
            have r2 := q_i246 (κ := κ) (b := b) (C := C) (S := S) (O := O) (D := D) (s := (n, m)) (r := F_X13_instruction_42 κ f) (l2 := nI i) (l3 := nI ps.length) (l4 := nI os.length) (l6 := nI w) (l7 := nI (t + 1 + 1)) o2 hk3 o3 L.length q_fu 0 (by omega) (by have := hk.2.1; unfold q_fu; omega)
            rw [nI_0] at r2
            have st2 : F_X13_instruction_160B κ (F_X13_instruction_42 κ f) (F_X13_instruction_160 κ (F_X13_instruction_42 κ f) f1) (some (b + 26)) (nI i) (nI ps.length) (nI os.length) (nI t) (nI w) (nI os.length) (q_H b C (P2, Q2, S) O D, n, m) = F_X13_instruction_273 κ (F_X13_instruction_42 κ f) (some (b + 26)) (nI i) (nI ps.length) (nI os.length) (nI w) (nI (t + 1 + 1)) (nI ((q_fi (fun k => decide (q_tB B (q_tok l (t + 1 + 1)) = q_kN (q_kg L k))) L.length 0).getD L.length)) (q_H b C (P3, Q3, S) O D, n, m) := by
              simp (disch := first | rfl | omega | decide | exact Nat.le_of_ble_eq_true rfl) only [↓q_br, q_rt, q_rz, q_gd, q_ca, ↓reduceIte, F_X13_instruction_160B, ↓q_gA_26_36, ↓q_is_26, ↓q_lI_49, e9, p12, h12, o5, h5, not_false_eq_true, c3, c4, o1, r2]
            rw [st2]
            have hdec : t + 1 + 1 = t + 2 := rfl
            rw [hdec]
            cases hq2 : q_fi (fun k => decide (q_tB B (q_tok l (t + 2)) = q_kN (q_kg L k))) L.length 0 with
            | none =>
              refine ⟨P3, Q3, fP3, fun j j1 j2 j3 _ _ _ => fQ3 j j1 j2 j3, fun x _ => by rw [fQ3 48 (by decide) (by decide) (by decide)], fun x _ => by rw [fQ3 49 (by decide) (by decide) (by decide), fQ3 50 (by decide) (by decide) (by decide)]; exact ⟨rfl, rfl⟩, ?_⟩
              simp (disch := first | rfl | omega | decide | exact Nat.le_of_ble_eq_true rfl) only [↓q_br, q_rt, q_rz, q_gd, q_ca, ↓reduceIte, F_X13_instruction_273, ↓q_gA_26_35, ↓q_gA_26_36, ↓q_gA_26_37, ↓q_gI_26_22, ↓q_sI_48, ↓q_sI_49, ↓q_sI_50, Option.getD_none, h22, not_true_eq_false, q_mk_H, reduceCtorEq, not_false_eq_true, q_fault, qd_Su, q_tr, i2]
            | some k =>
              have hkl := (q_fi_s _ _ _ hq2).2.1
              have hkne : ¬ nI k = nI L.length := by
                rw [nI_eq (by have := hk.2.1; omega) (by have := hk.2.1; omega)]
                omega
              have hlp : (ps ++ [-1 - nI os.length]).length = ps.length + 1 := by simp
              have hlo : (os ++ [(q_tB B (q_tok l t), k)]).length = os.length + 1 := by simp
              refine ⟨P3, q_u2 (q_u2 (q_u2 Q3 49 (5 * i + os.length) (nI w)) 50 (5 * i + os.length) (nI k)) 48 (12 * i + ps.length) (-1 - nI os.length), fP3, fun j j1 j2 j3 j4 j5 j6 => by rw [q_u2_n _ _ _ j4, q_u2_n _ _ _ j6, q_u2_n _ _ _ j5, fQ3 j j1 j2 j3], fun x hx => ?_, fun x hx => ?_, ?_⟩
              · rw [q_u2_s, q_u1_n _ _ (by omega), q_u2_n _ _ _ (by decide), q_u2_n _ _ _ (by decide), fQ3 48 (by decide) (by decide) (by decide)]
              · refine ⟨?_, ?_⟩
                · rw [q_u2_n _ _ _ (by decide), q_u2_n _ _ _ (by decide), q_u2_s, q_u1_n _ _ (by omega), fQ3 49 (by decide) (by decide) (by decide)]
                · rw [q_u2_n _ _ _ (by decide), q_u2_s, q_u1_n _ _ (by omega), q_u2_n _ _ _ (by decide), fQ3 50 (by decide) (by decide) (by decide)]
              · simp only
                refine ⟨?_, by rw [o6 15 (by decide) (by decide), q_u1_s], by omega, by rw [hlp]; omega, by rw [hlo]; omega, N3, top3, ?_, hpre.trans hpre3, hN3, ?_, ?_, ?_⟩
                · rw [hlp, hlo]
                  simp (disch := first | rfl | omega | decide | exact Nat.le_of_ble_eq_true rfl) only [↓q_br, q_rt, q_rz, q_gd, q_ca, ↓reduceIte, F_X13_instruction_273, ↓q_gA_26_35, ↓q_gA_26_36, ↓q_gA_26_37, ↓q_gI_26_22, ↓q_sI_48, ↓q_sI_49, ↓q_sI_50, Option.getD_some, h22, hkne, not_false_eq_true, m12, m5, nI_1]
                · exact q_PL_P o2 rfl rfl (by simp (disch := first | rfl | omega | decide | exact Nat.le_of_ble_eq_true rfl) only [q_u2_n]) (by simp (disch := first | rfl | omega | decide | exact Nat.le_of_ble_eq_true rfl) only [q_u2_n]) (by simp (disch := first | rfl | omega | decide | exact Nat.le_of_ble_eq_true rfl) only [q_u2_n])
                · exact q_TP_next hwf o5'
                · intro j v hj
                  by_cases hjl : j < ps.length
                  · rw [List.getElem?_append_left hjl] at hj
                    rw [q_u2_s, q_u1_n _ _ (by omega), q_u2_n _ _ _ (by decide), q_u2_n _ _ _ (by decide), fQ3 48 (by decide) (by decide) (by decide)]
                    exact hm.1 j v hj
                  · have hje : j = ps.length := by
                      have := (List.getElem?_eq_some_iff.mp hj).1
                      rw [hlp] at this
                      omega
                    subst hje
                    rw [List.getElem?_append_right (Nat.le_refl _), Nat.sub_self] at hj
                    simp only [List.getElem?_cons_zero, Option.some.injEq] at hj
                    rw [q_u2_s, q_u1_s, hj]
                · intro j x hj
                  by_cases hjl : j < os.length
                  · rw [List.getElem?_append_left hjl] at hj
                    obtain ⟨⟨v, v1, v2⟩, v3, v4⟩ := hm.2 j x hj
                    refine ⟨⟨v, ?_, q_pre_g (hpre.trans hpre3) v2⟩, ?_, v4⟩
                    · rw [q_u2_n _ _ _ (by decide), q_u2_n _ _ _ (by decide), q_u2_s, q_u1_n _ _ (by omega), fQ3 49 (by decide) (by decide) (by decide), v1]
                    · rw [q_u2_n _ _ _ (by decide), q_u2_s, q_u1_n _ _ (by omega), q_u2_n _ _ _ (by decide), fQ3 50 (by decide) (by decide) (by decide), v3]
                  · have hje : j = os.length := by
                      have := (List.getElem?_eq_some_iff.mp hj).1
                      rw [hlo] at this
                      omega
                    subst hje
                    rw [List.getElem?_append_right (Nat.le_refl _), Nat.sub_self] at hj
                    simp only [List.getElem?_cons_zero, Option.some.injEq] at hj
                    subst hj
                    refine ⟨⟨w, ?_, q_pre_g hpre3 n3⟩, ?_, by omega⟩
                    · rw [q_u2_n _ _ _ (by decide), q_u2_n _ _ _ (by decide), q_u2_s, q_u1_s]
                    · rw [q_u2_n _ _ _ (by decide), q_u2_s, q_u1_s]
          · rw [if_neg hy2]
            have c4 := q_expectName_f (κ := κ) (b := b) (C := C) (O := O) (D := D) (m := m) (t := t + 1 + 1) h4 ha4 (by omega) hy2 hn
            refine ⟨q_u1 P2 15 (nI (t + 1 + 1)), Q2, fun j j1 j2 j3 => by rw [q_u1_n _ _ j1, fP2 j j1 j2 j3], fun j j1 j2 j3 _ _ _ => n7 j j1 j2 j3, fun x _ => by rw [n7 48 (by decide) (by decide) (by decide)], fun x _ => by rw [n7 49 (by decide) (by decide) (by decide), n7 50 (by decide) (by decide) (by decide)]; exact ⟨rfl, rfl⟩, ?_⟩
            simp (disch := first | rfl | omega | decide | exact Nat.le_of_ble_eq_true rfl) only [↓q_br, q_rt, q_rz, q_gd, q_ca, ↓reduceIte, F_X13_instruction_160B, ↓q_gA_26_36, ↓q_is_26, ↓q_lI_49, e9, p12, h12, o5, h5, not_false_eq_true, c3, c4, i1]
        · rw [if_neg hs2]
          have hs2' : q_sgn l (t + 1) 58 = false := by simpa using hs2
          have c3 := q_expect_f (κ := κ) (b := b) (C := C) (O := O) (D := D) (m := m) (c := 58) h2 ha2 (by omega) hs2' hn
          refine ⟨P2, Q2, fP2, fun j j1 j2 j3 _ _ _ => n7 j j1 j2 j3, fun x _ => by rw [n7 48 (by decide) (by decide) (by decide)], fun x _ => by rw [n7 49 (by decide) (by decide) (by decide), n7 50 (by decide) (by decide) (by decide)]; exact ⟨rfl, rfl⟩, ?_⟩
          simp (disch := first | rfl | omega | decide | exact Nat.le_of_ble_eq_true rfl) only [↓q_br, q_rt, q_rz, q_gd, q_ca, ↓reduceIte, F_X13_instruction_160B, ↓q_gA_26_36, ↓q_is_26, ↓q_lI_49, e9, p12, h12, o5, h5, not_false_eq_true, c3, i1]
  · rw [if_neg hy]
    have c2 := q_expectName_f (κ := κ) (b := b) (C := C) (O := O) (D := D) (m := m) h ha (by omega) hy hn
    have fr0 : ∀ x, x < 5 * i → Q 49 x = Q 49 x ∧ Q 50 x = Q 50 x := fun _ _ => ⟨rfl, rfl⟩
    by_cases hy3 : (q_tok l t).1 = 3
    · have hlt := q_tok_lt (l := l) (t := t) (by omega)
      obtain ⟨d1, d2⟩ := q_sgn_c hwf hy3
      obtain ⟨-, g2, g3, g4, g5⟩ := q_sg_c _ d2
      have e1 : S 33 t = q_nv l t := q_TM_wo h hlt (Or.inr hy3)
      have e2 : (q_nv l t).toInt32 = B (q_tok l t).2.1 := by rw [d1, g5]
      obtain ⟨v, v1, v2⟩ := q_indexOf (κ := κ) (i := 10) (C := C) (M := (P, Q, S)) (O := O) (s := (n, m)) (c := B (q_tok l t).2.1) hK (by decide) (by decide)
      rw [g4] at v2
      have v3 : v < 0 ↔ q_psg l t = false := by
        rw [v2]
        unfold q_psg
        rw [e2]
        constructor
        · intro h9
          have := h9.resolve_left (fun h => h.elim g2 g3)
          exact decide_eq_false (fun h8 => by have h7 : q_pss (B (q_tok l t).2.1) = false := this; rw [h7] at h8; exact absurd h8.2 (by decide))
        · intro h9
          refine Or.inr ?_
          have h8 := of_decide_eq_false h9
          cases h7 : q_pss (B (q_tok l t).2.1) with
          | false => exact h7
          | true => exact absurd ⟨hy3, h7⟩ h8
      by_cases hps : q_psg l t = true
      · rw [if_pos hps]
        have hps' : ¬ q_psg l t = false := by rw [hps]; decide
        by_cases h12 : ps.length = 12
        · rw [if_pos h12]
          have h12' : (nI ps.length = (12 : Int32)) = True := eq_true (p12.mpr h12)
          refine ⟨P, Q, fun _ _ _ _ => rfl, fun _ _ _ _ _ _ _ => rfl, fun _ _ => rfl, fr0, ?_⟩
          show F_X13_instruction_42 κ (f + 1) (some (b + 26)) (nI i) (nI ps.length) (nI os.length) (q_H b C (P, Q, S) O D, n, m) = q_thr Unit b C (P, Q, S) O D n m (nI 3) (nI t)
          rw [F_X13_instruction_42]
          simp (disch := first | rfl | omega | decide | exact Nat.le_of_ble_eq_true rfl) only [↓q_br, q_rt, q_rz, q_gd, q_ca, ↓reduceIte, F_X13_instruction_42B, ↓q_gA_26_12, ↓q_gA_26_31, ↓q_gA_26_32, ↓q_gA_26_35, ↓q_gA_26_9, ↓q_gI_26_15, ↓q_gI_26_23, ↓q_is_26, ↓q_lI_30, ↓q_lI_44, ↓q_lI_45, ↓q_lI_48, ↓q_lL_33, ↓q_pI_26_15, ↓q_pI_26_23, ↓q_sI_30, ↓q_sI_44, ↓q_sI_45, ↓q_sI_48, ha, c1, hs, q_b_0, not_true_eq_false, h3, hy3, e1, e2, hsp, v1, v3, hps', h12', q_mk_H, reduceCtorEq, not_false_eq_true, q_fault, qd_Su, q_tr, i3]
        · rw [if_neg h12]
          have hlp : (ps ++ [(q_nv l t).toInt32]).length = ps.length + 1 := by simp
          refine ⟨q_u1 P 15 (nI (t + 1)), q_u2 Q 48 (12 * i + ps.length) (q_nv l t).toInt32, fun j j1 _ _ => q_u1_n _ _ j1, fun j _ _ _ j4 _ _ => q_u2_n _ _ _ j4, fun x hx => by rw [q_u2_s, q_u1_n _ _ (by omega)], fun x _ => by rw [q_u2_n _ _ _ (by decide), q_u2_n _ _ _ (by decide)]; exact ⟨rfl, rfl⟩, ?_⟩
          simp only
          refine ⟨?_, q_u1_s _ _ _, by omega, by rw [hlp]; omega, ho, N, top, q_PL_P hP (q_u1_n _ _ (by decide)) (q_u1_n _ _ (by decide)) (q_u2_n _ _ _ (by decide)) (q_u2_n _ _ _ (by decide)) (q_u2_n _ _ _ (by decide)), List.prefix_refl _, by omega, fun t' h1 h2 => hT t' (by omega) h2, ?_, ?_⟩
          · rw [F_X13_instruction_42, hlp]
            simp (disch := first | rfl | omega | decide | exact Nat.le_of_ble_eq_true rfl) only [↓q_br, q_rt, q_rz, q_gd, q_ca, ↓reduceIte, F_X13_instruction_42B, ↓q_gA_26_12, ↓q_gA_26_31, ↓q_gA_26_32, ↓q_gA_26_35, ↓q_gA_26_9, ↓q_gI_26_15, ↓q_gI_26_23, ↓q_is_26, ↓q_lI_30, ↓q_lI_44, ↓q_lI_45, ↓q_lI_48, ↓q_lL_33, ↓q_pI_26_15, ↓q_pI_26_23, ↓q_sI_30, ↓q_sI_44, ↓q_sI_45, ↓q_sI_48, ha, c1, hs, q_b_0, not_true_eq_false, h3, hy3, e1, e2, hsp, v1, v3, hps', p12, h12, not_false_eq_true, m12, nI_1, Bool.true_eq_false]
          · intro j v hj
            by_cases hjl : j < ps.length
            · rw [List.getElem?_append_left hjl] at hj
              rw [q_u2_s, q_u1_n _ _ (by omega)]
              exact hm.1 j v hj
            · have hje : j = ps.length := by
                have := (List.getElem?_eq_some_iff.mp hj).1
                rw [hlp] at this
                omega
              subst hje
              rw [List.getElem?_append_right (Nat.le_refl _), Nat.sub_self] at hj
              simp only [List.getElem?_cons_zero, Option.some.injEq] at hj
              rw [q_u2_s, q_u1_s, hj]
          · intro j x hj
            rw [q_u2_n _ _ _ (by decide), q_u2_n _ _ _ (by decide)]
            exact hm.2 j x hj
      · rw [if_neg hps]
        have hps' : q_psg l t = false := by simpa using hps
        refine ⟨P, Q, fun _ _ _ _ => rfl, fun _ _ _ _ _ _ _ => rfl, fun _ _ => rfl, fr0, ?_⟩
        show F_X13_instruction_42 κ (f + 1) (some (b + 26)) (nI i) (nI ps.length) (nI os.length) (q_H b C (P, Q, S) O D, n, m) = q_thr Unit b C (P, Q, S) O D n m (nI 1) (nI t)
        rw [F_X13_instruction_42]
        simp (disch := first | rfl | omega | decide | exact Nat.le_of_ble_eq_true rfl) only [↓q_br, q_rt, q_rz, q_gd, q_ca, ↓reduceIte, F_X13_instruction_42B, F_X13_instruction_143, ↓q_gA_26_12, ↓q_gA_26_31, ↓q_gA_26_32, ↓q_gA_26_35, ↓q_gA_26_9, ↓q_gI_26_15, ↓q_gI_26_23, ↓q_is_26, ↓q_lI_30, ↓q_lI_44, ↓q_lI_45, ↓q_lI_48, ↓q_lL_33, ↓q_pI_26_15, ↓q_pI_26_23, ↓q_sI_30, ↓q_sI_44, ↓q_sI_45, ↓q_sI_48, ha, c1, hs, q_b_0, not_true_eq_false, h3, hy3, e1, e2, hsp, v1, v3, hps', c2, i1]
    · have hps : ¬ q_psg l t = true := fun h9 => hy3 (of_decide_eq_true h9).1
      rw [if_neg hps]
      refine ⟨P, Q, fun _ _ _ _ => rfl, fun _ _ _ _ _ _ _ => rfl, fun _ _ => rfl, fr0, ?_⟩
      show F_X13_instruction_42 κ (f + 1) (some (b + 26)) (nI i) (nI ps.length) (nI os.length) (q_H b C (P, Q, S) O D, n, m) = q_thr Unit b C (P, Q, S) O D n m (nI 1) (nI t)
      rw [F_X13_instruction_42]
      simp (disch := first | rfl | omega | decide | exact Nat.le_of_ble_eq_true rfl) only [↓q_br, q_rt, q_rz, q_gd, q_ca, ↓reduceIte, F_X13_instruction_42B, F_X13_instruction_143, ↓q_gA_26_12, ↓q_gA_26_31, ↓q_gA_26_32, ↓q_gA_26_35, ↓q_gA_26_9, ↓q_gI_26_15, ↓q_gI_26_23, ↓q_is_26, ↓q_lI_30, ↓q_lI_44, ↓q_lI_45, ↓q_lI_48, ↓q_lL_33, ↓q_pI_26_15, ↓q_pI_26_23, ↓q_sI_30, ↓q_sI_44, ↓q_sI_45, ↓q_sI_48, ha, c1, hs, q_b_0, not_true_eq_false, h3, hy3, not_false_eq_true, c2, i1]
end QMD
