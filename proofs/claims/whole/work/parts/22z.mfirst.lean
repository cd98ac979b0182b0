/-- what the reference holds while it assembles -/
def q_ME (B : Nat → Int32) (l : List q_Tok) (zt : Nat) (N : List q_Nam) (top : Nat) (L : List q_Knd) (z : Nat) (Js : List q_Ins) (FL : List q_Lin) (P : Nat → Int32) (Q : Nat → Nat → Int32) (S : Nat → Nat → Int64) : Prop := q_TM B l zt P Q S ∧ q_PL N top P Q ∧ q_MIs N Q L.length z Js ∧ q_MMk N P Q L ∧ P 23 = nI Js.length ∧ P 21 = nI z ∧ P 52 = nI FL.length ∧ q_MLs Q FL ∧ q_MLb P Q FL
def q_MF (P P' : Nat → Int32) (Q Q' : Nat → Nat → Int32) (S S' : Nat → Nat → Int64) : Prop := (∀ j, j ≠ 42 → j ≠ 44 → P' j = P j) ∧ (∀ j, j ≠ 54 → j ≠ 58 → j ≠ 59 → j ≠ 64 → Q' j = Q j) ∧ ∀ j, j ≠ 53 → j ≠ 65 → S' j = S j
theorem q_MF_r {P : Nat → Int32} {Q : Nat → Nat → Int32} {S : Nat → Nat → Int64} : q_MF P P Q Q S S := ⟨fun _ _ _ => rfl, fun _ _ _ _ _ => rfl, fun _ _ _ => rfl⟩
theorem q_MF_t {P P' P2 : Nat → Int32} {Q Q' Q2 : Nat → Nat → Int32} {S S' S2 : Nat → Nat → Int64} (h : q_MF P P' Q Q' S S') (h' : q_MF P' P2 Q' Q2 S' S2) : q_MF P P2 Q Q2 S S2 := ⟨fun j h1 h2 => by rw [h'.1 j h1 h2, h.1 j h1 h2], fun j h1 h2 h3 h4 => by rw [h'.2.1 j h1 h2 h3 h4, h.2.1 j h1 h2 h3 h4], fun j h1 h2 => by rw [h'.2.2 j h1 h2, h.2.2 j h1 h2]⟩
theorem q_MF_q {P : Nat → Int32} {Q Q' : Nat → Nat → Int32} {S S' : Nat → Nat → Int64} (h : q_QS Q Q' S S') : q_MF P P Q Q' S S' := ⟨fun _ _ _ => rfl, fun j _ _ _ h4 => h.1 j h4, fun j _ h2 => h.2 j h2⟩
theorem q_MF_58 {P : Nat → Int32} {Q : Nat → Nat → Int32} {S : Nat → Nat → Int64} {i : Nat} {v : Int32} : q_MF P P Q (q_u2 Q 58 i v) S S := ⟨fun _ _ _ => rfl, fun j _ h2 _ _ => q_u2_n _ _ _ h2, fun _ _ _ => rfl⟩
theorem q_MF_59 {P : Nat → Int32} {Q : Nat → Nat → Int32} {S : Nat → Nat → Int64} {i : Nat} {v : Int32} : q_MF P P Q (q_u2 Q 59 i v) S S := ⟨fun _ _ _ => rfl, fun j _ _ h3 _ => q_u2_n _ _ _ h3, fun _ _ _ => rfl⟩
theorem q_ME_u {B : Nat → Int32} {l : List q_Tok} {zt : Nat} {N : List q_Nam} {top : Nat} {L : List q_Knd} {z : Nat} {Js : List q_Ins} {FL : List q_Lin} {P P' : Nat → Int32} {Q Q' : Nat → Nat → Int32} {S S' : Nat → Nat → Int64} (h : q_ME B l zt N top L z Js FL P Q S) (hf : q_MF P P' Q Q' S S') : q_ME B l zt N top L z Js FL P' Q' S' := by
  obtain ⟨h1, h2, h3, h4, h5, h6, h7, h8, h9⟩ := h
  obtain ⟨fP, fQ, fS⟩ := hf
  have g : ∀ j, j < 54 → Q' j = Q j := fun j hj => fQ j (by omega) (by omega) (by omega) (by omega)
  refine ⟨?_, q_PL_P h2 (fP 19 (by decide) (by decide)) (fP 20 (by decide) (by decide)) (g 34 (by decide)) (g 35 (by decide)) (g 36 (by decide)), fun i J hi => q_MIn_Q (h3 i J hi) (List.prefix_refl _) (Nat.le_refl _) (fun j j1 j2 => g j (by omega)), q_MMk_Q h4 (List.prefix_refl _) (fP 22 (by decide) (by decide)) (fun j j1 j2 => g j (by omega)), by rw [fP 23 (by decide) (by decide), h5], by rw [fP 21 (by decide) (by decide), h6], by rw [fP 52 (by decide) (by decide), h7], fun i hi => ?_, ?_⟩
  · have t1 := q_TM_P h1 (P' := P') (Q' := Q') (fP 13 (by decide) (by decide)) (g 28 (by decide)) (g 30 (by decide)) (g 31 (by decide)) (g 32 (by decide))
    unfold q_TM q_MK at t1 ⊢
    rw [fS 33 (by decide) (by decide)]
    exact t1
  · obtain ⟨a1, a2, a3, a4, a5⟩ := h8 i hi
    refine ⟨?_, ?_, ?_, ?_, ?_⟩
    · rw [fQ 55 (by decide) (by decide) (by decide) (by decide), a1]
    · rw [fQ 56 (by decide) (by decide) (by decide) (by decide), a2]
    · rw [fQ 57 (by decide) (by decide) (by decide) (by decide), a3]
    · rw [fQ 60 (by decide) (by decide) (by decide) (by decide), a4]
    · rw [fQ 61 (by decide) (by decide) (by decide) (by decide), a5]
  · obtain ⟨a1, a2, a3⟩ := h9
    refine ⟨by rw [fP 43 (by decide) (by decide), a1], fun k hk => ?_, fun k hk => ?_⟩
    · rw [fQ 62 (by decide) (by decide) (by decide) (by decide), a2 k hk]
    · rw [fQ 63 (by decide) (by decide) (by decide) (by decide), a3 k hk]
section QMT
variable {κ : Nat → Nat} {b : Nat} {B : Nat → Int32} {l : List q_Tok} {zt : Nat} {C : q_CT} {P : Nat → Int32} {O : Nat → Int64} {D : q_Mem} {n m : Nat}
theorem q_asm10 {N : List q_Nam} {top z : Nat} {L : List q_Knd} {Js : List q_Ins} {FL : List q_Lin} (hn : b + 66 < n) (hJ : ∀ J ∈ Js, q_Jok J) (h96 : Js.length ≤ 96) (hXP : ∀ x ∈ FL, q_XP B l z x) (hIN : q_INC FL) (hG : q_LG B l (q_LT FL)) (hK : (q_LT FL).length ≤ 6000) (hFL : FL.length ≤ 6001) : ∀ d fuel i (fo : Nat → Nat) (Q : Nat → Nat → Int32) (S : Nat → Nat → Int64), i + d = FL.length → d < fuel → q_ME B l zt N top L z Js FL P Q S → (∀ j, j < i → q_sS (q_lg FL j) = 1 → Q 58 j = nI (fo (q_sF (q_lg FL j)))) →
    ∃ Q' S', q_MF P P Q Q' S S' ∧ (∀ j, j ≠ 58 → j ≠ 64 → Q' j = Q j) ∧ (∀ j, j ≠ 65 → S' j = S j) ∧ (match q_ff (q_nfx B l (q_LT FL) L Js) (FL.drop i) fo with
      | .inl (k, p) => F_X13_assembled_10 κ fuel (some (b + 26)) (nI i) (q_H b C (P, Q, S) O D, n, m) = q_thr Unit b C (P, Q', S') O D n m (nI k) (nI p)
      | .inr fo' => F_X13_assembled_10 κ fuel (some (b + 26)) (nI i) (q_H b C (P, Q, S) O D, n, m) = F_X13_assembled_76 κ q_fu (some (b + 26)) 0 (q_H b C (P, Q', S') O D, n, m) ∧ ∀ j, j < FL.length → q_sS (q_lg FL j) = 1 → Q' 58 j = nI (fo' (q_sF (q_lg FL j)))) := by
  intro d
  induction d with
  | zero =>
    intro fuel i fo Q S h1 h2 hM hlo
    obtain ⟨g, rfl⟩ : ∃ g, fuel = g + 1 := ⟨fuel - 1, by omega⟩
    have h3 : FL.length ≤ i := by omega
    have h52 := hM.2.2.2.2.2.2.1
    have le : (nI FL.length ≤ nI i) = True := eq_true (nI_le h3 (by omega))
    refine ⟨Q, S, q_MF_r, fun _ _ _ => rfl, fun _ _ => rfl, ?_⟩
    rw [List.drop_eq_nil_of_le h3, q_ff]
    refine ⟨?_, fun j hj => hlo j (by omega)⟩
    rw [F_X13_assembled_10]
    simp (disch := first | rfl | omega | decide | exact Nat.le_of_ble_eq_true rfl) only [↓q_br, q_rt, q_rz, q_gd, q_ca, ↓reduceIte, F_X13_assembled_10B, ↓q_gA_26_46, ↓q_gA_26_47, ↓q_gA_26_48, ↓q_gI_26_52, ↓q_is_26, ↓q_lI_56, ↓q_lI_57, ↓q_lI_58, ↓q_sI_56, ↓q_sI_57, ↓q_sI_58, h52, le]
  | succ d ih =>
    intro fuel i fo Q S h1 h2 hM hlo
    obtain ⟨g, rfl⟩ : ∃ g, fuel = g + 1 := ⟨fuel - 1, by omega⟩
    have hi9 : i < FL.length := by omega
    have i6 : i < 6002 := by omega
    have hM0 := hM
    obtain ⟨hT, hPL, hMI, hMM, h23, h21, h52, hML, hMB⟩ := hM0
    have hwf : ∀ i, i < l.length → (q_tok l i).1 ≤ 4 := fun i hi => (hT.2.2.2.2.1 i _ (q_tok_s hi)).1
    obtain ⟨a1, a2, a3, a4, a5⟩ := hML i hi9
    have le : (nI FL.length ≤ nI i) = False := eq_false (nI_ge hi9 (by omega))
    rw [q_lg_d hi9, q_ff]
    by_cases c1 : q_sS (q_lg FL i) = 1
    · have t1 : (nI (q_sS (q_lg FL i)) = (1 : Int32)) = True := eq_true (by rw [c1]; rfl)
      obtain ⟨hE, hy1⟩ := q_XP_E hwf (hXP _ (q_lg_m hi9)) c1
      rw [if_pos c1]
      obtain ⟨Q1, S1, r0, r1⟩ := q_mnext (κ := κ) (b := b) (C := C) (O := O) (D := D) (s := (n, m)) (i := 0) hT hE h96 h23 i6 a2 a5 hPL hMI hMM hJ hMB.1 hMB.2.1 hG.2 hK (Nat.zero_le _)
      rw [nI_0] at r1
      have enf : q_nfx B l (q_LT FL) L Js (q_lg FL i) 0 = q_nf B l (q_LT FL) L Js (q_sH (q_lg FL i)) (q_sE (q_lg FL i)) 0 := rfl
      rw [enf]
      obtain ⟨r, hr⟩ : ∃ r, r = q_nf B l (q_LT FL) L Js (q_sH (q_lg FL i)) (q_sE (q_lg FL i)) 0 := ⟨_, rfl⟩
      rw [← hr] at r1 ⊢
      obtain ⟨Q2, hQ2⟩ : ∃ Q2, Q2 = q_u2 Q1 58 i (q_mv r) := ⟨_, rfl⟩
      have q58 : Q2 58 i = q_mv r := by rw [hQ2, q_u2_s, q_u1_s]
      have f2 : q_MF P P Q Q2 S S1 := q_MF_t (q_MF_q r0) (by rw [hQ2]; exact q_MF_58)
      have g2 : ∀ j, j ≠ 58 → j ≠ 64 → Q2 j = Q j := fun j j1 j2 => by rw [hQ2, q_u2_n _ _ _ j1, r0.1 j j2]
      have q56 : Q2 56 i = nI (q_sH (q_lg FL i)) := by rw [g2 56 (by decide) (by decide), a2]
      cases hrc : r with
      | none =>
        rw [hrc] at q58 r1
        have n0 : ((0 : Int32) ≤ q_mv none) = False := eq_false (by decide)
        rw [hrc] at hQ2
        refine ⟨Q2, S1, f2, g2, r0.2, ?_⟩
        show F_X13_assembled_10 κ (g + 1) (some (b + 26)) (nI i) (q_H b C (P, Q, S) O D, n, m) = q_thr Unit b C (P, Q2, S1) O D n m (nI 6) (nI (q_sH (q_lg FL i)))
        rw [F_X13_assembled_10]
        simp (disch := first | rfl | omega | decide | exact Nat.le_of_ble_eq_true rfl) only [↓q_br, q_rt, q_rz, q_gd, q_ca, ↓reduceIte, F_X13_assembled_10B, ↓q_gA_26_46, ↓q_gA_26_47, ↓q_gA_26_48, ↓q_gI_26_52, ↓q_is_26, ↓q_lI_56, ↓q_lI_57, ↓q_lI_58, ↓q_sI_56, ↓q_sI_57, ↓q_sI_58, h52, le, a3, t1, ↓q_is_26, r1, ← hQ2, q58, n0, q56, q_mk_H, reduceCtorEq, not_false_eq_true, q_fault, qd_Su, q_tr]
        rfl
      | some j =>
        rw [hrc] at q58 r1 hr
        obtain ⟨j1, j2, -⟩ := q_nf_s hr.symm (Nat.zero_le _)
        have n0 : ((0 : Int32) ≤ q_mv (some j)) = True := eq_true (nI_pos' (by omega))
        rw [hrc] at hQ2
        obtain ⟨Q', S', w1, w2, w3, w4⟩ := ih g (i + 1) (q_u1 fo (q_sF (q_lg FL i)) j) Q2 S1 (by omega) (by omega) (q_ME_u hM f2) (fun u hu hs => by
          by_cases hui : u = i
          · rw [hui, q58, q_u1_s]
            rfl
          · rw [q_u1_n _ _ (q_INC_n hIN (by omega) hi9 hui), hQ2, q_u2_s, q_u1_n _ _ hui, r0.1 58 (by decide)]
            exact hlo u (by omega) hs)
        refine ⟨Q', S', q_MF_t f2 w1, fun j j1 j2 => by rw [w2 j j1 j2, g2 j j1 j2], fun j j1 => by rw [w3 j j1, r0.2 j j1], ?_⟩
        have st : F_X13_assembled_10 κ (g + 1) (some (b + 26)) (nI i) (q_H b C (P, Q, S) O D, n, m) = F_X13_assembled_10 κ g (some (b + 26)) (nI (i + 1)) (q_H b C (P, Q2, S1) O D, n, m) := by
          rw [F_X13_assembled_10]
          simp (disch := first | rfl | omega | decide | exact Nat.le_of_ble_eq_true rfl) only [↓q_br, q_rt, q_rz, q_gd, q_ca, ↓reduceIte, F_X13_assembled_10B, F_X13_assembled_68, ↓q_gA_26_46, ↓q_gA_26_47, ↓q_gA_26_48, ↓q_gI_26_52, ↓q_is_26, ↓q_lI_56, ↓q_lI_57, ↓q_lI_58, ↓q_sI_56, ↓q_sI_57, ↓q_sI_58, h52, le, a3, t1, ↓q_is_26, r1, ← hQ2, q58, n0, nI_1]
        rw [st]
        exact w4
    · have t1 : (nI (q_sS (q_lg FL i)) = (1 : Int32)) = False := eq_false (fun h9 => c1 (by
        obtain ⟨LT, t, ht, hx⟩ := hXP _ (q_lg_m hi9)
        have b8 := (q_ln1_b hwf hx ht).2.2.2.2.2.2.2.1
        exact (nI_eq (b := 1) (by omega) (by decide)).mp h9))
      rw [if_neg c1]
      obtain ⟨Q', S', w1, w2, w3, w4⟩ := ih g (i + 1) fo Q S (by omega) (by omega) hM (fun u hu hs => by
        by_cases hui : u = i
        · rw [hui] at hs
          exact absurd hs c1
        · exact hlo u (by omega) hs)
      refine ⟨Q', S', w1, w2, w3, ?_⟩
      have st : F_X13_assembled_10 κ (g + 1) (some (b + 26)) (nI i) (q_H b C (P, Q, S) O D, n, m) = F_X13_assembled_10 κ g (some (b + 26)) (nI (i + 1)) (q_H b C (P, Q, S) O D, n, m) := by
        rw [F_X13_assembled_10]
        simp (disch := first | rfl | omega | decide | exact Nat.le_of_ble_eq_true rfl) only [↓q_br, q_rt, q_rz, q_gd, q_ca, ↓reduceIte, F_X13_assembled_10B, F_X13_assembled_68, ↓q_gA_26_46, ↓q_gA_26_47, ↓q_gA_26_48, ↓q_gI_26_52, ↓q_is_26, ↓q_lI_56, ↓q_lI_57, ↓q_lI_58, ↓q_sI_56, ↓q_sI_57, ↓q_sI_58, h52, le, a3, t1, nI_1]
      rw [st]
      exact w4
end QMT
