section QMB
variable {κ : Nat → Nat} {b : Nat} {B : Nat → Int32} {l : List q_Tok} {z t : Nat} {C : q_CT} {S : Nat → Nat → Int64} {O : Nat → Int64} {D : q_Mem}
theorem q_al_lt {B : Nat → Int32} {x : q_Tok} : q_lt B x = q_al (fun i => q_ltr (B (x.2.1 + i))) (x.2.2.1 - x.2.1) 0 := by
  unfold q_lt
  generalize x.2.2.1 - x.2.1 = n
  have : ∀ n j, q_al (fun i => q_ltr (B i)) n (x.2.1 + j) = q_al (fun i => q_ltr (B (x.2.1 + i))) n j := by
    intro n
    induction n with
    | zero => intro j; rfl
    | succ n ih =>
      intro j
      unfold q_al
      rw [← ih (j + 1)]
      rfl
  exact this n 0
/-- the letters of a register's name -/
theorem q_k253_f {P : Nat → Int32} {Q : Nat → Nat → Int32} {so w k : Int32} {n m : Nat} (h : q_TM B l z P Q S) (ht : t < l.length) (hn : b + 66 < n) : ∀ d fuel j, j + d = (q_tok l t).2.2.1 - (q_tok l t).2.1 → d < fuel → q_al (fun i => q_ltr (B ((q_tok l t).2.1 + i))) d j = false → F_X13_kind_253 κ fuel (some (b + 26)) so w k (nI t) (nI j) (q_H b C (P, Q, S) O D, n, m) = q_thr Unit b C (P, Q, S) O D n m 1 (nI t) := by
  have hz := h.2.2.1
  have hl := h.2.1
  obtain ⟨w1, w2, w3, -⟩ := h.2.2.2.2.1 t _ (q_tok_s ht)
  have e1 := q_TM_st h ht
  have e2 := q_TM_ln h ht
  intro d
  induction d with
  | zero => intro fuel j h1 h2 h3; simp [q_al] at h3
  | succ d ih =>
    intro fuel j h1 h2 h3
    obtain ⟨f, rfl⟩ : ∃ f, fuel = f + 1 := ⟨fuel - 1, by omega⟩
    have h4 : ¬ (q_tok l t).2.2.1 - (q_tok l t).2.1 ≤ j := by omega
    have h5 : Q 28 ((q_tok l t).2.1 + j) = B ((q_tok l t).2.1 + j) := h.2.2.2.2.2.1 _ (by omega)
    unfold q_al at h3
    by_cases hc : q_ltr (B ((q_tok l t).2.1 + j)) = true
    · rw [hc, Bool.true_and] at h3
      refine Eq.trans ?_ (ih f (j + 1) (by omega) (by omega) h3)
      rw [F_X13_kind_253]
      simp (disch := first | rfl | omega | decide | exact Nat.le_of_ble_eq_true rfl) only [↓q_br, q_rt, q_rz, q_gd, q_ca, ↓reduceIte, F_X13_kind_253B, ↓q_gA_26_1, ↓q_gA_26_10, ↓q_gA_26_11, ↓q_gA_26_26, ↓q_gA_26_28, ↓q_is_26, ↓q_lI_28, ↓q_lI_31, ↓q_lI_32, ↓q_lI_39, ↓q_lI_41, ↓q_sI_28, ↓q_sI_31, ↓q_sI_32, ↓q_sI_39, ↓q_sI_41, e1, e2, nI_leI, h4, nI_add, h5, q_X13_isLetter, q_b_0, hc, nI_1, Bool.true_eq_false, not_false_eq_true]
    · have hc' : q_ltr (B ((q_tok l t).2.1 + j)) = false := by simpa using hc
      rw [F_X13_kind_253]
      simp (disch := first | rfl | omega | decide | exact Nat.le_of_ble_eq_true rfl) only [↓q_br, q_rt, q_rz, q_gd, q_ca, ↓reduceIte, F_X13_kind_253B, ↓q_gA_26_1, ↓q_gA_26_10, ↓q_gA_26_11, ↓q_gA_26_26, ↓q_gA_26_28, ↓q_is_26, ↓q_lI_28, ↓q_lI_31, ↓q_lI_32, ↓q_lI_39, ↓q_lI_41, ↓q_sI_28, ↓q_sI_31, ↓q_sI_32, ↓q_sI_39, ↓q_sI_41, e1, e2, nI_leI, h4, nI_add, h5, q_X13_isLetter, q_b_0, hc', not_true_eq_false, q_mk_H, reduceCtorEq, not_false_eq_true, q_fault, qd_Su, q_tr]
theorem q_k253_t {P : Nat → Int32} {Q : Nat → Nat → Int32} {so w k : Int32} {s : Nat × Nat} (h : q_TM B l z P Q S) (ht : t < l.length) : ∀ d fuel j, j + d = (q_tok l t).2.2.1 - (q_tok l t).2.1 → d < fuel → q_al (fun i => q_ltr (B ((q_tok l t).2.1 + i))) d j = true → ∃ f, F_X13_kind_253 κ fuel (some (b + 26)) so w k (nI t) (nI j) (q_H b C (P, Q, S) O D, s) = F_X13_kind_253 κ (f + 1) (some (b + 26)) so w k (nI t) (nI ((q_tok l t).2.2.1 - (q_tok l t).2.1)) (q_H b C (P, Q, S) O D, s) := by
  have hz := h.2.2.1
  have hl := h.2.1
  obtain ⟨w1, w2, w3, -⟩ := h.2.2.2.2.1 t _ (q_tok_s ht)
  have e1 := q_TM_st h ht
  have e2 := q_TM_ln h ht
  intro d
  induction d with
  | zero =>
    intro fuel j h1 h2 h3
    have h4 : j = (q_tok l t).2.2.1 - (q_tok l t).2.1 := by omega
    exact ⟨fuel - 1, by rw [h4, Nat.sub_add_cancel (by omega)]⟩
  | succ d ih =>
    intro fuel j h1 h2 h3
    obtain ⟨f, rfl⟩ : ∃ f, fuel = f + 1 := ⟨fuel - 1, by omega⟩
    have h4 : ¬ (q_tok l t).2.2.1 - (q_tok l t).2.1 ≤ j := by omega
    have h5 : Q 28 ((q_tok l t).2.1 + j) = B ((q_tok l t).2.1 + j) := h.2.2.2.2.2.1 _ (by omega)
    unfold q_al at h3
    rw [Bool.and_eq_true] at h3
    obtain ⟨f', r⟩ := ih f (j + 1) (by omega) (by omega) h3.2
    refine ⟨f', Eq.trans ?_ r⟩
    rw [F_X13_kind_253]
    simp (disch := first | rfl | omega | decide | exact Nat.le_of_ble_eq_true rfl) only [↓q_br, q_rt, q_rz, q_gd, q_ca, ↓reduceIte, F_X13_kind_253B, ↓q_gA_26_1, ↓q_gA_26_10, ↓q_gA_26_11, ↓q_gA_26_26, ↓q_gA_26_28, ↓q_is_26, ↓q_lI_28, ↓q_lI_31, ↓q_lI_32, ↓q_lI_39, ↓q_lI_41, ↓q_sI_28, ↓q_sI_31, ↓q_sI_32, ↓q_sI_39, ↓q_sI_41, e1, e2, nI_leI, h4, nI_add, h5, q_X13_isLetter, q_b_0, h3.1, nI_1, Bool.true_eq_false, not_false_eq_true]
/-- the members so far, in the reference -/
def q_MS (N : List q_Nam) (Q : Nat → Nat → Int32) (k : Nat) (mem : List q_Nam) : Prop := ∀ i nm, mem[i]? = some nm → ∃ w, Q 42 (32 * k + i) = nI w ∧ N[w]? = some nm
theorem q_k109_s {P : Nat → Int32} {Q : Nat → Nat → Int32} {r : Option Nat → Int32 → Int32 → Int32 → Int32 → q_X Unit} {N : List q_Nam} {top k w n m : Nat} {so l3 : Int32} {tb : q_Nam} {mem : List q_Nam} (hP : q_PL N top P Q) (hs : q_MS N Q k mem) (hk : k < 40) (hm : mem.length ≤ 32) (hw : N[w]? = some tb) (ha : P 15 = nI t) (hn : b + 66 < n) : ∀ d fuel j, j + d = mem.length → d < fuel → (q_fi (fun i => decide (tb = mem.getD i [])) d j).isSome = true → F_X13_kind_109 κ r fuel (some (b + 26)) so l3 (nI k) (nI mem.length) (nI w) (nI j) (q_H b C (P, Q, S) O D, n, m) = q_thr Unit b C (P, Q, S) O D n m 2 (nI t) := by
  intro d
  induction d with
  | zero => intro fuel j h1 h2 h3; simp [q_fi] at h3
  | succ d ih =>
    intro fuel j h1 h2 h3
    obtain ⟨f, rfl⟩ : ∃ f, fuel = f + 1 := ⟨fuel - 1, by omega⟩
    have h4 : ¬ mem.length ≤ j := by omega
    have hjl : j < mem.length := by omega
    have hg := List.getElem?_eq_getElem hjl
    have hgd : mem.getD j [] = mem[j] := by simp [List.getD, hjl]
    obtain ⟨v, q2, q3⟩ := hs j _ hg
    have h5 := q_id_eq hP.2.2.2.2.1 (by have := hP.2.2.1; omega) q3 hw
    have h6 : (32 : Int32) * nI k + nI j = nI (32 * k + j) := by
      have : (32 : Int32) * nI k = nI (32 * k) := (Int32.ofNat_mul 32 k).symm
      rw [this, nI_add]
    unfold q_fi at h3
    by_cases hc : tb = mem[j]
    · have h7 : nI v = nI w := h5.mpr hc.symm
      rw [F_X13_kind_109]
      simp (disch := first | rfl | omega | decide | exact Nat.le_of_ble_eq_true rfl) only [↓q_br, q_rt, q_rz, q_gd, q_ca, ↓reduceIte, F_X13_kind_109B, ↓q_gA_26_29, ↓q_gI_26_15, ↓q_lI_42, ↓q_pI_26_15, ↓q_sI_42, nI_leI, h4, h6, q2, h7, not_true_eq_false, ha, q_mk_H, reduceCtorEq, not_false_eq_true, q_fault, qd_Su, q_tr]
    · rw [if_neg (by rw [hgd]; simpa using hc)] at h3
      have h7 : ¬ nI v = nI w := fun h9 => hc ((h5.mp h9).symm)
      refine Eq.trans ?_ (ih f (j + 1) (by omega) (by omega) h3)
      rw [F_X13_kind_109]
      simp (disch := first | rfl | omega | decide | exact Nat.le_of_ble_eq_true rfl) only [↓q_br, q_rt, q_rz, q_gd, q_ca, ↓reduceIte, F_X13_kind_109B, ↓q_gA_26_29, ↓q_gI_26_15, ↓q_lI_42, ↓q_pI_26_15, ↓q_sI_42, nI_leI, h4, h6, q2, h7, not_false_eq_true, nI_1]
theorem q_k109_n {P : Nat → Int32} {Q : Nat → Nat → Int32} {r : Option Nat → Int32 → Int32 → Int32 → Int32 → q_X Unit} {N : List q_Nam} {top k w : Nat} {so l3 : Int32} {tb : q_Nam} {mem : List q_Nam} {s : Nat × Nat} (hP : q_PL N top P Q) (hs : q_MS N Q k mem) (hk : k < 40) (hm : mem.length ≤ 32) (hw : N[w]? = some tb) : ∀ d fuel j, j + d = mem.length → d < fuel → q_fi (fun i => decide (tb = mem.getD i [])) d j = none → ∃ f, F_X13_kind_109 κ r fuel (some (b + 26)) so l3 (nI k) (nI mem.length) (nI w) (nI j) (q_H b C (P, Q, S) O D, s) = F_X13_kind_109 κ r (f + 1) (some (b + 26)) so l3 (nI k) (nI mem.length) (nI w) (nI mem.length) (q_H b C (P, Q, S) O D, s) := by
  intro d
  induction d with
  | zero =>
    intro fuel j h1 h2 h3
    have h4 : j = mem.length := by omega
    exact ⟨fuel - 1, by rw [h4, Nat.sub_add_cancel (by omega)]⟩
  | succ d ih =>
    intro fuel j h1 h2 h3
    obtain ⟨f, rfl⟩ : ∃ f, fuel = f + 1 := ⟨fuel - 1, by omega⟩
    have h4 : ¬ mem.length ≤ j := by omega
    have hjl : j < mem.length := by omega
    have hg := List.getElem?_eq_getElem hjl
    have hgd : mem.getD j [] = mem[j] := by simp [List.getD, hjl]
    obtain ⟨v, q2, q3⟩ := hs j _ hg
    have h5 := q_id_eq hP.2.2.2.2.1 (by have := hP.2.2.1; omega) q3 hw
    have h6 : (32 : Int32) * nI k + nI j = nI (32 * k + j) := by
      have : (32 : Int32) * nI k = nI (32 * k) := (Int32.ofNat_mul 32 k).symm
      rw [this, nI_add]
    unfold q_fi at h3
    by_cases hc : tb = mem[j]
    · rw [if_pos (by rw [hgd]; exact decide_eq_true hc)] at h3; cases h3
    · rw [if_neg (by rw [hgd]; simpa using hc)] at h3
      have h7 : ¬ nI v = nI w := fun h9 => hc ((h5.mp h9).symm)
      obtain ⟨f', r'⟩ := ih f (j + 1) (by omega) (by omega) h3
      refine ⟨f', Eq.trans ?_ r'⟩
      rw [F_X13_kind_109]
      simp (disch := first | rfl | omega | decide | exact Nat.le_of_ble_eq_true rfl) only [↓q_br, q_rt, q_rz, q_gd, q_ca, ↓reduceIte, F_X13_kind_109B, ↓q_gA_26_29, ↓q_gI_26_15, ↓q_lI_42, ↓q_pI_26_15, ↓q_sI_42, nI_leI, h4, h6, q2, h7, not_false_eq_true, nI_1]
/-- the members of a set -/
theorem q_k83 {k w n m : Nat} (hk : k < 40) (hn : b + 66 < n) : ∀ f fuel t (P : Nat → Int32) (Q : Nat → Nat → Int32) (N : List q_Nam) (top : Nat) (mem : List q_Nam), q_TM B l z P Q S → P 15 = nI t → t ≤ l.length → l.length < t + f → mem.length ≤ 32 → f < fuel → q_PL N top P Q → N.length ≤ t → q_TP l top t → q_MS N Q k mem →
    ∃ P' Q', (∀ j, j ≠ 15 → j ≠ 19 → j ≠ 20 → P' j = P j) ∧ (∀ j, j ≠ 34 → j ≠ 35 → j ≠ 36 → j ≠ 42 → Q' j = Q j) ∧ (∀ i, i < 32 * k ∨ 32 * k + 32 ≤ i → Q' 42 i = Q 42 i) ∧ (match q_mset B l f mem t with
      | .inl (e, p) => F_X13_kind_83 κ fuel (some (b + 26)) (nI 4) (nI w) (nI k) (nI mem.length) (q_H b C (P, Q, S) O D, n, m) = q_thr Unit b C (P', Q', S) O D n m (nI e) (nI p)
      | .inr (mem', t') => F_X13_kind_83 κ fuel (some (b + 26)) (nI 4) (nI w) (nI k) (nI mem.length) (q_H b C (P, Q, S) O D, n, m) = F_X13_kind_362 κ (some (b + 26)) (nI 4) (nI w) (nI k) (nI mem'.length) (q_H b C (P', q_u2 Q' 41 k (nI (q_nd mem'.length 6 1)), S) O D, n, m) ∧ P' 15 = nI t' ∧ t ≤ t' ∧ t' ≤ l.length ∧ mem'.length ≤ 32 ∧ 2 ≤ mem'.length ∧ ∃ N' top', q_PL N' top' P' Q' ∧ N <+: N' ∧ N'.length ≤ t' ∧ q_TP l top' t' ∧ q_MS N' Q' k mem') := by
  intro f
  induction f with
  | zero => intro fuel t P Q N top mem h1 h2 h3 h4; omega
  | succ f ih =>
    intro fuel t P Q N top mem h ha ht htf hm32 hf hP hN hT hs
    obtain ⟨fu, rfl⟩ : ∃ fu, fuel = fu + 1 := ⟨fuel - 1, by omega⟩
    have hz := h.2.2.1
    have hl := h.2.1
    have hwf := h.2.2.2.2.1
    have h3 : (Q 30 t = (1 : Int32)) ↔ (q_tok l t).1 = 1 := q_TM_is (c := 1) h (by omega) (by decide)
    unfold q_mset
    by_cases hy : (q_tok l t).1 = 1
    · rw [if_pos hy]
      have hlt := q_tok_lt (l := l) (t := t) (by omega)
      obtain ⟨N1, top1, w1, P1, Q1, n1, n2, n3, n4, n5, n6, n7⟩ := q_nameOf (κ := κ) (b := b) (C := C) (O := O) (D := D) (s := (n, m)) h hy hP hN (hT t (Nat.le_refl _) hlt)
      have hpre : N <+: N1 := by
        rcases n4 with e | e <;> rw [e]
        · exact List.prefix_refl _
        · exact List.prefix_append _ _
      have hN1 : N1.length ≤ t + 1 := by
        rcases n4 with e | e <;> rw [e]
        · omega
        · simp only [List.length_append, List.length_cons, List.length_nil]; omega
      have ha1 : P1 15 = nI t := by rw [n6 15 (by decide) (by decide), ha]
      have hs1 : q_MS N1 Q1 k mem := by
        intro i nm hi
        obtain ⟨v, v1, v2⟩ := hs i nm hi
        exact ⟨v, by rw [n7 42 (by decide) (by decide) (by decide), v1], q_pre_g hpre v2⟩
      have h1 : q_TM B l z P1 Q1 S := q_TM_P h (n6 13 (by decide) (by decide)) (n7 28 (by decide) (by decide) (by decide)) (n7 30 (by decide) (by decide) (by decide)) (n7 31 (by decide) (by decide) (by decide)) (n7 32 (by decide) (by decide) (by decide))
      have step : F_X13_kind_83 κ (fu + 1) (some (b + 26)) (nI 4) (nI w) (nI k) (nI mem.length) (q_H b C (P, Q, S) O D, n, m) = F_X13_kind_109 κ (F_X13_kind_83 κ fu) q_fu (some (b + 26)) (nI 4) (nI w) (nI k) (nI mem.length) (nI w1) 0 (q_H b C (P1, Q1, S) O D, n, m) := by
        rw [F_X13_kind_83]
        simp (disch := first | rfl | omega | decide | exact Nat.le_of_ble_eq_true rfl) only [↓q_br, q_rt, q_rz, q_gd, q_ca, ↓reduceIte, F_X13_kind_83B, ↓q_gA_26_28, ↓q_gA_26_9, ↓q_gI_26_15, ↓q_is_26, ↓q_lI_30, ↓q_lI_41, ↓q_sI_30, ↓q_sI_41, ha, h3, hy, not_true_eq_false, n1]
      rw [step]
      by_cases hin : q_mb B l t mem = true
      · rw [if_pos hin]
        refine ⟨P1, Q1, fun j _ j2 j3 => n6 j j2 j3, fun j j1 j2 j3 _ => n7 j j1 j2 j3, fun i _ => by rw [n7 42 (by decide) (by decide) (by decide)], ?_⟩
        have := q_k109_s (κ := κ) (b := b) (C := C) (O := O) (S := S) (D := D) (m := m) (r := F_X13_kind_83 κ fu) (so := nI 4) (l3 := nI w) n2 hs1 hk hm32 n3 ha1 hn mem.length q_fu 0 (by omega) (by unfold q_fu; omega) hin
        rw [nI_0] at this
        exact this
      · rw [if_neg hin]
        have hnone : q_fi (fun i => decide (q_tB B (q_tok l t) = mem.getD i [])) mem.length 0 = none := by
          unfold q_mb at hin
          cases hq : q_fi (fun i => decide (q_tB B (q_tok l t) = mem.getD i [])) mem.length 0 with
          | none => rfl
          | some i => rw [hq] at hin; simp at hin
        obtain ⟨f', r1⟩ := q_k109_n (κ := κ) (b := b) (C := C) (O := O) (S := S) (D := D) (s := (n, m)) (r := F_X13_kind_83 κ fu) (so := nI 4) (l3 := nI w) n2 hs1 hk hm32 n3 mem.length q_fu 0 (by omega) (by unfold q_fu; omega) hnone
        rw [nI_0] at r1
        rw [r1]
        by_cases h32 : mem.length = 32
        · rw [if_pos h32]
          refine ⟨P1, Q1, fun j _ j2 j3 => n6 j j2 j3, fun j j1 j2 j3 _ => n7 j j1 j2 j3, fun i _ => by rw [n7 42 (by decide) (by decide) (by decide)], ?_⟩
          have e8 : nI mem.length = 32 := by rw [h32]; rfl
          have e9 : (32 : Int32) ≤ 32 := by decide
          have i3 : nI 3 = 3 := rfl
          rw [F_X13_kind_109]
          simp (disch := first | rfl | omega | decide | exact Nat.le_of_ble_eq_true rfl) only [↓q_br, q_rt, q_rz, q_gd, q_ca, ↓reduceIte, F_X13_kind_109B, ↓q_gA_26_29, ↓q_gI_26_15, ↓q_lI_42, ↓q_pI_26_15, ↓q_sI_42, e8, e9, not_true_eq_false, ha1, q_mk_H, reduceCtorEq, not_false_eq_true, q_fault, qd_Su, q_tr, i3]
        · rw [if_neg h32]
          have e8 : ¬ nI mem.length = 32 := fun h9 => h32 ((nI_eq (b := 32) (by omega) (by decide)).mp h9)
          have e9 : nI mem.length ≤ nI mem.length := Int32.le_refl _
          have h6 : (32 : Int32) * nI k + nI mem.length = nI (32 * k + mem.length) := by
            have : (32 : Int32) * nI k = nI (32 * k) := (Int32.ofNat_mul 32 k).symm
            rw [this, nI_add]
          have hlen : (mem ++ [q_tB B (q_tok l t)]).length = mem.length + 1 := by simp
          have step2 : F_X13_kind_109 κ (F_X13_kind_83 κ fu) (f' + 1) (some (b + 26)) (nI 4) (nI w) (nI k) (nI mem.length) (nI w1) (nI mem.length) (q_H b C (P1, Q1, S) O D, n, m) = F_X13_kind_83 κ fu (some (b + 26)) (nI 4) (nI w) (nI k) (nI (mem ++ [q_tB B (q_tok l t)]).length) (q_H b C (q_u1 P1 15 (nI (t + 1)), q_u2 Q1 42 (32 * k + mem.length) (nI w1), S) O D, n, m) := by
            rw [F_X13_kind_109, hlen]
            simp (disch := first | rfl | omega | decide | exact Nat.le_of_ble_eq_true rfl) only [↓q_br, q_rt, q_rz, q_gd, q_ca, ↓reduceIte, F_X13_kind_109B, ↓q_gA_26_29, ↓q_gI_26_15, ↓q_lI_42, ↓q_pI_26_15, ↓q_sI_42, e9, e8, not_false_eq_true, h6, ha1, nI_1]
          rw [step2]
          have hms : q_MS N1 (q_u2 Q1 42 (32 * k + mem.length) (nI w1)) k (mem ++ [q_tB B (q_tok l t)]) := by
            intro i nm hi
            by_cases hil : i < mem.length
            · rw [List.getElem?_append_left hil] at hi
              obtain ⟨v, v1, v2⟩ := hs1 i nm hi
              exact ⟨v, by rw [q_u2_s, q_u1_n _ _ (by omega), v1], v2⟩
            · have hie : i = mem.length := by
                have := (List.getElem?_eq_some_iff.mp hi).1
                rw [hlen] at this
                omega
              subst hie
              rw [List.getElem?_append_right (Nat.le_refl _), Nat.sub_self] at hi
              simp only [List.getElem?_cons_zero, Option.some.injEq] at hi
              subst hi
              exact ⟨w1, by rw [q_u2_s, q_u1_s], n3⟩
          have h1' : q_TM B l z (q_u1 P1 15 (nI (t + 1))) (q_u2 Q1 42 (32 * k + mem.length) (nI w1)) S := q_TM_P h1 (q_u1_n _ _ (by decide)) (q_u2_n _ _ _ (by decide)) (q_u2_n _ _ _ (by decide)) (q_u2_n _ _ _ (by decide)) (q_u2_n _ _ _ (by decide))
          have hP1 : q_PL N1 top1 (q_u1 P1 15 (nI (t + 1))) (q_u2 Q1 42 (32 * k + mem.length) (nI w1)) := q_PL_P n2 (q_u1_n _ _ (by decide)) (q_u1_n _ _ (by decide)) (q_u2_n _ _ _ (by decide)) (q_u2_n _ _ _ (by decide)) (q_u2_n _ _ _ (by decide))
          obtain ⟨P', Q', r2, r3, r4, r5⟩ := ih fu (t + 1) _ _ N1 top1 (mem ++ [q_tB B (q_tok l t)]) h1' (q_u1_s _ _ _) (by omega) (by omega) (by rw [hlen]; omega) (by omega) hP1 hN1 (q_TP_next hwf n5) hms
          refine ⟨P', Q', fun j j1 j2 j3 => by rw [r2 j j1 j2 j3, q_u1_n _ _ j1, n6 j j2 j3], fun j j1 j2 j3 j4 => by rw [r3 j j1 j2 j3 j4, q_u2_n _ _ _ j4, n7 j j1 j2 j3], fun i hi => by rw [r4 i hi, q_u2_s, q_u1_n _ _ (by omega), n7 42 (by decide) (by decide) (by decide)], ?_⟩
          cases hq : q_mset B l f (mem ++ [q_tB B (q_tok l t)]) (t + 1) with
          | inl e =>
            obtain ⟨k', p⟩ := e
            rw [hq] at r5
            exact r5
          | inr e =>
            obtain ⟨mem', t'⟩ := e
            rw [hq] at r5
            obtain ⟨y1, y2, y3, y4, y5, y6, N', top', y7, y8, y9⟩ := r5
            exact ⟨y1, y2, by omega, y4, y5, y6, N', top', y7, hpre.trans y8, y9⟩
    · rw [if_neg hy]
      have e7 : ((2 : Int32) ≤ nI mem.length) ↔ 2 ≤ mem.length := nI_leI (a := 2) (by decide) (by omega)
      have i1 : nI 1 = 1 := rfl
      refine ⟨P, Q, fun _ _ _ _ => rfl, fun _ _ _ _ _ => rfl, fun _ _ => rfl, ?_⟩
      by_cases h2 : mem.length < 2
      · rw [if_pos h2]
        have h2' : ¬ 2 ≤ mem.length := by omega
        show F_X13_kind_83 κ (fu + 1) (some (b + 26)) (nI 4) (nI w) (nI k) (nI mem.length) (q_H b C (P, Q, S) O D, n, m) = q_thr Unit b C (P, Q, S) O D n m (nI 1) (nI t)
        rw [F_X13_kind_83]
        simp (disch := first | rfl | omega | decide | exact Nat.le_of_ble_eq_true rfl) only [↓q_br, q_rt, q_rz, q_gd, q_ca, ↓reduceIte, F_X13_kind_83B, ↓q_gA_26_28, ↓q_gA_26_9, ↓q_gI_26_15, ↓q_is_26, ↓q_lI_30, ↓q_lI_41, ↓q_sI_30, ↓q_sI_41, ha, h3, hy, not_false_eq_true, e7, h2', q_mk_H, reduceCtorEq, not_false_eq_true, q_fault, qd_Su, q_tr, i1]
      · rw [if_neg h2]
        have h2' : 2 ≤ mem.length := by omega
        refine ⟨?_, ha, Nat.le_refl _, ht, hm32, h2', N, top, hP, List.prefix_refl _, hN, hT, hs⟩
        have e8 : nI mem.length - 1 = nI (mem.length - 1) := nI_sub (b := 1) (by omega)
        have e9 := q_needed (κ := κ) (a := mem.length - 1) (σ := (q_H b C (P, Q, S) O D, n, m)) (by omega)
        have e10 : mem.length - 1 + 1 = mem.length := by omega
        rw [e10] at e9
        rw [F_X13_kind_83]
        simp (disch := first | rfl | omega | decide | exact Nat.le_of_ble_eq_true rfl) only [↓q_br, q_rt, q_rz, q_gd, q_ca, ↓reduceIte, F_X13_kind_83B, ↓q_gA_26_28, ↓q_gA_26_9, ↓q_gI_26_15, ↓q_is_26, ↓q_lI_30, ↓q_lI_41, ↓q_sI_30, ↓q_sI_41, ha, h3, hy, not_false_eq_true, e7, h2', e8, e9]
end QMB
