/-! ===== the reference reads a kind ===== -/
def q_TP (l : List q_Tok) (top t : Nat) : Prop := ∀ t', t ≤ t' → t' < l.length → top ≤ (q_tok l t').2.1
theorem q_wf_mono {B : Nat → Int32} {z : Nat} {l : List q_Tok} (h : q_WF B z l) {t : Nat} : ∀ d, t + 1 + d < l.length → (q_tok l t).2.2.1 ≤ (q_tok l (t + 1 + d)).2.1 := by
  intro d
  induction d with
  | zero =>
    intro hd
    exact (h t _ (q_tok_s (by omega))).2.2.2.2.2.2 _ (q_tok_s hd)
  | succ d ih =>
    intro hd
    have h1 := ih (by omega)
    obtain ⟨-, w2, -, -, -, -, w7⟩ := h (t + 1 + d) _ (q_tok_s (by omega))
    have h2 := w7 _ (q_tok_s (by omega : t + 1 + d + 1 < l.length))
    have h3 : t + 1 + (d + 1) = t + 1 + d + 1 := by omega
    rw [h3]
    omega
theorem q_TP_next {B : Nat → Int32} {z : Nat} {l : List q_Tok} (h : q_WF B z l) {t top : Nat} (ht : top ≤ (q_tok l t).2.2.1) : q_TP l top (t + 1) := by
  intro t' h1 h2
  have h3 := q_wf_mono h (t := t) (t' - (t + 1)) (by omega)
  have h4 : t + 1 + (t' - (t + 1)) = t' := by omega
  rw [h4] at h3
  omega
theorem q_id_eq {N : List q_Nam} {w v : Nat} {x y : q_Nam} (hN : N.Nodup) (hl : N.length ≤ 6001) (hw : N[w]? = some x) (hv : N[v]? = some y) : (nI w = nI v) ↔ x = y := by
  have h1 := (List.getElem?_eq_some_iff.mp hw).1
  have h2 := (List.getElem?_eq_some_iff.mp hv).1
  rw [nI_eq (by omega) (by omega)]
  constructor
  · rintro rfl
    rw [hw] at hv
    exact Option.some.inj hv
  · rintro rfl
    exact (List.getElem?_inj h1 hN).mp (hw.trans hv.symm)
theorem q_pre_g {N N' : List q_Nam} {w : Nat} {x : q_Nam} (h : N <+: N') (hw : N[w]? = some x) : N'[w]? = some x := by
  obtain ⟨r, rfl⟩ := h
  rw [List.getElem?_append_left (List.getElem?_eq_some_iff.mp hw).1]
  exact hw
section QMA
variable {κ : Nat → Nat} {b : Nat} {B : Nat → Int32} {l : List q_Tok} {z t : Nat} {C : q_CT} {P : Nat → Int32} {Q : Nat → Nat → Int32} {S : Nat → Nat → Int64} {O : Nat → Int64} {D : q_Mem}
theorem q_TM_P {P' : Nat → Int32} {Q' : Nat → Nat → Int32} (h : q_TM B l z P Q S) (hP : P' 13 = P 13) (h28 : Q' 28 = Q 28) (h30 : Q' 30 = Q 30) (h31 : Q' 31 = Q 31) (h32 : Q' 32 = Q 32) : q_TM B l z P' Q' S := by
  obtain ⟨h1, h2, h3, ⟨h4, h5⟩, h6, h7, h8⟩ := h
  refine ⟨hP.trans h1, h2, h3, ⟨?_, ?_⟩, h6, ?_, h8⟩
  · unfold q_MA
    rw [h30, h31, h32]
    exact h4
  · rw [h30, h32]
    exact h5
  · rw [h28]
    exact h7
theorem q_PL_P {N : List q_Nam} {top : Nat} {P' : Nat → Int32} {Q' : Nat → Nat → Int32} (h : q_PL N top P Q) (h19 : P' 19 = P 19) (h20 : P' 20 = P 20) (h34 : Q' 34 = Q 34) (h35 : Q' 35 = Q 35) (h36 : Q' 36 = Q 36) : q_PL N top P' Q' := by
  obtain ⟨h1, h2, h3, h4, h5, h6⟩ := h
  refine ⟨h19.trans h1, h20.trans h2, h3, h4, h5, fun w nm hw => ?_⟩
  unfold q_PN
  rw [h34, h35, h36]
  exact h6 w nm hw
/-- the end of a kind -/
theorem q_k362 {n m k w so cnt : Nat} (h : q_TM B l z P Q S) (ha : P 15 = nI t) (ht : t ≤ l.length) (hk : k < 40) (h22 : P 22 = nI k) (hn : b + 66 < n) : F_X13_kind_362 κ (some (b + 26)) (nI so) (nI w) (nI k) (nI cnt) (q_H b C (P, Q, S) O D, n, m) = if q_sgn l t 59 = true then some (.inl (), (q_H b C (q_u1 P 22 (nI (k + 1)), q_u2 (q_u2 (q_u2 Q 37 k (nI w)) 38 k (nI so)) 40 k (nI cnt), S) O D, n, m)) else q_thr Unit b C (P, q_u2 (q_u2 (q_u2 Q 37 k (nI w)) 38 k (nI so)) 40 k (nI cnt), S) O D n m 1 (nI t) := by
  have h1 : q_TM B l z P (q_u2 (q_u2 (q_u2 Q 37 k (nI w)) 38 k (nI so)) 40 k (nI cnt)) S := q_TM_P h rfl (by simp (disch := first | rfl | omega | decide | exact Nat.le_of_ble_eq_true rfl) only [q_u2_n]) (by simp (disch := first | rfl | omega | decide | exact Nat.le_of_ble_eq_true rfl) only [q_u2_n]) (by simp (disch := first | rfl | omega | decide | exact Nat.le_of_ble_eq_true rfl) only [q_u2_n]) (by simp (disch := first | rfl | omega | decide | exact Nat.le_of_ble_eq_true rfl) only [q_u2_n])
  have h2 := q_msign (κ := κ) (b := b) (C := C) (O := O) (D := D) (s := (n, m)) (c := 59) h1 (t := t) (by omega)
  by_cases hs : q_sgn l t 59 = true
  · simp (disch := first | rfl | omega | decide | exact Nat.le_of_ble_eq_true rfl) only [↓q_br, q_rt, q_rz, q_gd, q_ca, ↓reduceIte, F_X13_kind_362, ↓q_gA_26_24, ↓q_gA_26_25, ↓q_gA_26_27, ↓q_gI_26_15, ↓q_gI_26_22, ↓q_is_26, ↓q_pI_26_22, ↓q_sI_37, ↓q_sI_38, ↓q_sI_40, ha, h22, h2, hs, q_b_0, nI_1, Bool.true_eq_false, not_false_eq_true]
  · have hs' : q_sgn l t 59 = false := by simpa using hs
    simp (disch := first | rfl | omega | decide | exact Nat.le_of_ble_eq_true rfl) only [↓q_br, q_rt, q_rz, q_gd, q_ca, ↓reduceIte, F_X13_kind_362, ↓q_gA_26_24, ↓q_gA_26_25, ↓q_gA_26_27, ↓q_gI_26_15, ↓q_gI_26_22, ↓q_is_26, ↓q_pI_26_22, ↓q_sI_37, ↓q_sI_38, ↓q_sI_40, ha, h2, hs', q_b_0, not_true_eq_false, Bool.false_eq_true, q_mk_H, reduceCtorEq, not_false_eq_true, q_fault, qd_Su, q_tr]
theorem q_k14_n {N : List q_Nam} {top : Nat} {L : List q_Knd} {w : Nat} {so tt : Int32} {tb : q_Nam} {s : Nat × Nat} (hP : q_PL N top P Q) (hk : q_MMk N P Q L) (hw : N[w]? = some tb) : ∀ m fuel k, k + m = L.length → m < fuel → q_fi (fun i => decide (tb = q_kN (q_kg L i))) m k = none → ∃ f, F_X13_kind_14 κ fuel (some (b + 26)) so tt (nI w) (nI k) (q_H b C (P, Q, S) O D, s) = F_X13_kind_14 κ (f + 1) (some (b + 26)) so tt (nI w) (nI L.length) (q_H b C (P, Q, S) O D, s) := by
  obtain ⟨k1, k2, k3⟩ := hk
  intro m
  induction m with
  | zero =>
    intro fuel k h1 h2 h3
    have h4 : k = L.length := by omega
    exact ⟨fuel - 1, by rw [h4, Nat.sub_add_cancel (by omega)]⟩
  | succ m ih =>
    intro fuel k h1 h2 h3
    obtain ⟨f, rfl⟩ : ∃ f, fuel = f + 1 := ⟨fuel - 1, by omega⟩
    have h4 : ¬ L.length ≤ k := by omega
    obtain ⟨-, q1, ⟨wk, q2, q3⟩, -⟩ := k3 k _ (q_kg_s (by omega))
    unfold q_fi at h3
    by_cases hc : tb = q_kN (q_kg L k)
    · rw [if_pos (decide_eq_true hc)] at h3; cases h3
    · rw [if_neg (by simpa using hc)] at h3
      have h5 : ¬ nI wk = nI w := fun h9 => hc (((q_id_eq hP.2.2.2.2.1 (by have := hP.2.2.1; omega) q3 hw).mp h9).symm)
      obtain ⟨f', r⟩ := ih f (k + 1) (by omega) (by omega) h3
      refine ⟨f', Eq.trans ?_ r⟩
      rw [F_X13_kind_14]
      simp (disch := first | rfl | omega | decide | exact Nat.le_of_ble_eq_true rfl) only [↓q_br, q_rt, q_rz, q_gd, q_ca, ↓reduceIte, F_X13_kind_14B, ↓q_gA_26_24, ↓q_gA_26_28, ↓q_gI_26_22, ↓q_is_26, ↓q_lI_37, ↓q_lI_41, ↓q_sI_37, ↓q_sI_41, k1, nI_leI, h4, q2, h5, not_false_eq_true, nI_1]
theorem q_k14_s {N : List q_Nam} {top : Nat} {L : List q_Knd} {w n m : Nat} {so tt : Int32} {tb : q_Nam} (hP : q_PL N top P Q) (hk : q_MMk N P Q L) (hw : N[w]? = some tb) (hn : b + 66 < n) : ∀ d fuel k, k + d = L.length → d < fuel → (q_fi (fun i => decide (tb = q_kN (q_kg L i))) d k).isSome = true → F_X13_kind_14 κ fuel (some (b + 26)) so tt (nI w) (nI k) (q_H b C (P, Q, S) O D, n, m) = q_thr Unit b C (P, Q, S) O D n m 2 tt := by
  obtain ⟨k1, k2, k3⟩ := hk
  intro d
  induction d with
  | zero => intro fuel k h1 h2 h3; simp [q_fi] at h3
  | succ d ih =>
    intro fuel k h1 h2 h3
    obtain ⟨f, rfl⟩ : ∃ f, fuel = f + 1 := ⟨fuel - 1, by omega⟩
    have h4 : ¬ L.length ≤ k := by omega
    obtain ⟨-, q1, ⟨wk, q2, q3⟩, -⟩ := k3 k _ (q_kg_s (by omega))
    have h5 := q_id_eq hP.2.2.2.2.1 (by have := hP.2.2.1; omega) q3 hw
    unfold q_fi at h3
    by_cases hc : tb = q_kN (q_kg L k)
    · have h6 : nI wk = nI w := h5.mpr hc.symm
      rw [F_X13_kind_14]
      simp (disch := first | rfl | omega | decide | exact Nat.le_of_ble_eq_true rfl) only [↓q_br, q_rt, q_rz, q_gd, q_ca, ↓reduceIte, F_X13_kind_14B, ↓q_gA_26_24, ↓q_gA_26_28, ↓q_gI_26_22, ↓q_is_26, ↓q_lI_37, ↓q_lI_41, ↓q_sI_37, ↓q_sI_41, k1, nI_leI, h4, q2, h6, not_true_eq_false, q_mk_H, reduceCtorEq, not_false_eq_true, q_fault, qd_Su, q_tr]
    · rw [if_neg (by simpa using hc)] at h3
      have h6 : ¬ nI wk = nI w := fun h9 => hc ((h5.mp h9).symm)
      refine Eq.trans ?_ (ih f (k + 1) (by omega) (by omega) h3)
      rw [F_X13_kind_14]
      simp (disch := first | rfl | omega | decide | exact Nat.le_of_ble_eq_true rfl) only [↓q_br, q_rt, q_rz, q_gd, q_ca, ↓reduceIte, F_X13_kind_14B, ↓q_gA_26_24, ↓q_gA_26_28, ↓q_gI_26_22, ↓q_is_26, ↓q_lI_37, ↓q_lI_41, ↓q_sI_37, ↓q_sI_41, k1, nI_leI, h4, q2, h6, not_false_eq_true, nI_1]
end QMA
