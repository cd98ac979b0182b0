section QLJ
variable {κ : Nat → Nat} {b : Nat}
/-- the reference writes the parts -/
theorem q_mParts {C : q_CT} {S : Nat → Nat → Int64} {O : Nat → Int64} {D : q_Mem} {s : Nat × Nat} {N : List q_Nam} {top i z A : Nat} {L : List q_Knd} {J : q_Ins} {F : Nat → Nat} {P0 : Nat → Int32} {Q0 : Nat → Nat → Int32} (hi : i < 96) (hPL : q_PL N top P0 Q0) (hM : q_MIn N Q0 L.length z i J) (hk : q_MMk N P0 Q0 L) (hJ : q_Jok J) (hA : A < 5000) (hF : ∀ o, o < J.2.2.1.length → F o < 2 ^ q_kb L J.2.2.1 o) (hff : ∀ (P : Nat → Int32) (Q : Nat → Nat → Int32), q_PF P0 P Q0 Q → ∀ o, o < J.2.2.1.length → F_X13_field κ (some (b + 26)) (nI A) (nI i) (nI o) (q_H b C (P, Q, S) O D, s) = some (.inl (lN (F o)), (q_H b C (P, Q, S) O D, s))) (hh : ∀ o, o < J.2.2.1.length → q_hs (q_ok L J.2.2.1 o) (F o) = true) (hN20 : ∀ nm ∈ N, nm.length ≤ 20) (hWL : ∀ o, o < J.2.2.1.length → ∀ v, v < 2 ^ 32 → (q_otx (q_ok L J.2.2.1 o) v A).length ≤ 32) : ∀ d fuel k (P : Nat → Int32) (Q : Nat → Nat → Int32) (txt : List Int32), k + d = J.2.1.length → d < fuel → q_PF P0 P Q0 Q → q_LM txt P Q → txt.length + 30 * (J.2.1.drop k).countP (fun v => decide (v < 0)) + 2 * d ≤ 200 → ∃ P' Q', F_X13_lists_132 κ fuel (some (b + 26)) (nI A) (nI i) (nI k) (q_H b C (P, Q, S) O D, s) = some (.inl (), (q_H b C (P', Q', S) O D, s)) ∧ q_LM (txt ++ (J.2.1.drop k).flatMap (q_ptx L J.2.2.1 F A)) P' Q' ∧ q_PF P0 P' Q0 Q' := by
  obtain ⟨w1, w2, w3, w4, w5, w6, w7, w8, w9, w10⟩ := hM
  have hl40 := hk.2.1
  intro d
  induction d with
  | zero =>
    intro fuel k P Q txt h1 h2 hpf h3 h4
    obtain ⟨f, rfl⟩ : ∃ f, fuel = f + 1 := ⟨fuel - 1, by omega⟩
    have h5 : J.2.1.length ≤ k := by omega
    have q44 : Q 44 i = nI J.2.1.length := by rw [hpf.2 44 (by decide), w2]
    refine ⟨P, Q, ?_, ?_, hpf⟩
    · rw [F_X13_lists_132]
      simp (disch := first | rfl | omega | decide | exact Nat.le_of_ble_eq_true rfl) only [↓q_br, q_rt, q_rz, q_gd, q_ca, ↓reduceIte, F_X13_lists_132B, ↓q_gA_26_28, ↓q_gA_26_31, ↓q_gA_26_35, ↓q_gA_26_37, ↓q_is_26, ↓q_lI_41, ↓q_lI_44, ↓q_lI_48, ↓q_lI_50, q44, nI_leI, h5]
    · rw [List.drop_eq_nil_of_le h5]
      simpa using h3
  | succ d ih =>
    intro fuel k P Q txt h1 h2 hpf h3 h4
    obtain ⟨f, rfl⟩ : ∃ f, fuel = f + 1 := ⟨fuel - 1, by omega⟩
    have h5 : ¬ J.2.1.length ≤ k := by omega
    have h6 : k < J.2.1.length := by omega
    have hk12 : k < 12 := by omega
    have q44 : Q 44 i = nI J.2.1.length := by rw [hpf.2 44 (by decide), w2]
    have ixp : (12 : Int32) * nI i + nI k = nI (12 * i + k) := by
      rw [show (12 : Int32) * nI i = nI (12 * i) from (Int32.ofNat_mul 12 i).symm, nI_add]
    have ixl : 12 * i + k < 1152 := by omega
    have pe : Q 48 (12 * i + k) = J.2.1.getD k 0 := by
      rw [hpf.2 48 (by decide), w6.1 k _ (List.getElem?_eq_getElem h6), List.getD_eq_getElem?_getD, List.getElem?_eq_getElem h6]
      rfl
    rw [q_neg_drop h6] at h4
    rw [q_drop_s (d := 0) h6, List.flatMap_cons]
    obtain ⟨p, hp⟩ : ∃ p, p = J.2.1.getD k 0 := ⟨_, rfl⟩
    have pm := q_ps_at h6
    rw [← hp] at pe pm h4 ⊢
    have go : ∀ (P1 : Nat → Int32) (Q1 : Nat → Nat → Int32) (t : List Int32), F_X13_lists_132B κ (F_X13_lists_132 κ f) (some (b + 26)) (nI A) (nI i) (nI k) (q_H b C (P, Q, S) O D, s) = F_X13_lists_132 κ f (some (b + 26)) (nI A) (nI i) (nI (k + 1)) (q_H b C (P1, Q1, S) O D, s) → q_LM (txt ++ t) P1 Q1 → q_PF P P1 Q Q1 → t = q_ptx L J.2.2.1 F A p → t.length ≤ (if p < 0 then 30 else 0) + 2 → ∃ P' Q', F_X13_lists_132 κ (f + 1) (some (b + 26)) (nI A) (nI i) (nI k) (q_H b C (P, Q, S) O D, s) = some (.inl (), (q_H b C (P', Q', S) O D, s)) ∧ q_LM (txt ++ (q_ptx L J.2.2.1 F A p ++ (J.2.1.drop (k + 1)).flatMap (q_ptx L J.2.2.1 F A))) P' Q' ∧ q_PF P0 P' Q0 Q' := by
      intro P1 Q1 t u1 u2 u3 u4 u5
      obtain ⟨P2, Q2, y1, y2, y3⟩ := ih f (k + 1) P1 Q1 (txt ++ t) (by omega) (by omega) (q_PF_t hpf u3) u2 (by
        rw [List.length_append]
        by_cases hn : p < 0
        · rw [if_pos hn] at h4 u5
          omega
        · rw [if_neg hn] at h4 u5
          omega)
      rw [List.append_assoc, u4] at y2
      refine ⟨P2, Q2, ?_, y2, y3⟩
      rw [F_X13_lists_132, u1, y1]
    rcases hJ.1.2.1 p pm with ⟨o, o1, o2⟩ | hsg
    · have o5 : o < 5 := by have := hJ.1.1; omega
      have np : ¬ (0 : Int32) ≤ p := by rw [o2]; exact q_m1n o5
      have np2 : p < 0 := Int32.not_le.mp np
      have eo : -1 - p = nI o := by rw [o2, q_m1]
      have te : q_ptx L J.2.2.1 F A p = q_otx (q_ok L J.2.2.1 o) (F o) A := by
        unfold q_ptx
        rw [if_neg np, eo, nI_clamp (by omega)]
      obtain ⟨kk, c1, c2, c3, c4, c5⟩ := q_mok (nk := 0) w6 hk o1
      have c4' : q_MKd N Q kk (q_ok L J.2.2.1 o) := by
        obtain ⟨m1, m2, m3, m4, m5, m6⟩ := c4
        exact ⟨by rw [hpf.2 38 (by decide), m1], by rw [hpf.2 37 (by decide)]; exact m2, by rw [hpf.2 39 (by decide)]; exact m3, by rw [hpf.2 40 (by decide)]; exact m4, by rw [hpf.2 41 (by decide), m5], by rw [hpf.2 42 (by decide)]; exact m6⟩
      have q50 : Q 50 (5 * i + o) = nI kk := by rw [hpf.2 50 (by decide), c2]
      have hPL' : q_PL N top P Q := q_PL_P hPL (hpf.1 19 (by decide)) (hpf.1 20 (by decide)) (hpf.2 34 (by decide)) (hpf.2 35 (by decide)) (hpf.2 36 (by decide))
      have fld := hff P Q hpf o o1
      have vlt : F o < 2 ^ q_kB (q_ok L J.2.2.1 o) := hF o o1
      have p2 : 2 ^ q_kB (q_ok L J.2.2.1 o) ≤ 2 ^ 32 := Nat.pow_le_pow_right (by decide) c3.2.2.1
      rw [if_pos np2] at h4
      have ix5 : (5 : Int32) * nI i - 1 - p = nI (5 * i + o) := by
        rw [o2, q_m2, show (5 : Int32) * nI i = nI (5 * i) from (Int32.ofNat_mul 5 i).symm, nI_add]
      have ix5l : 5 * i + o < 480 := by omega
      have q41 : Q 41 kk = nI (q_kB (q_ok L J.2.2.1 o)) := c4'.2.2.2.2.1
      have sb : nI (q_kB (q_ok L J.2.2.1 o)) - 1 = nI (q_kB (q_ok L J.2.2.1 o) - 1) := nI_sub (b := 1) c3.2.1
      have sh := q_lN_shr c3.2.1 c3.2.2.1 vlt
      have sh2 := q_shl1 (q_kB (q_ok L J.2.2.1 o)) (by have := c3.2.2.1; omega)
      have tlen := hWL o o1 (F o) (by omega)
      by_cases hc : 2 ^ (q_kB (q_ok L J.2.2.1 o) - 1) ≤ F o
      · obtain ⟨P1, Q1, r1, r2, r3⟩ := q_mOp (κ := κ) (b := b) (C := C) (S := S) (O := O) (D := D) (s := s) (r := F_X13_lists_132 κ f) (i := i) (ix := k) (x := lN (F o) - lN (2 ^ q_kB (q_ok L J.2.2.1 o))) (by omega) c3 c4' hPL' vlt (by rw [if_pos hc, q_lN_subI (by omega) (by omega)]) hA (hh o o1) hN20 h3 (by omega)
        refine go P1 Q1 _ ?_ r2 r3 te.symm (by rw [if_pos np2]; exact tlen)
        have tc : (2 ^ (q_kB (q_ok L J.2.2.1 o) - 1) ≤ F o) = True := eq_true hc
        simp (disch := first | rfl | omega | decide | exact Nat.le_of_ble_eq_true rfl) only [↓q_br, q_rt, q_rz, q_gd, q_ca, ↓reduceIte, F_X13_lists_132B, ↓q_gA_26_28, ↓q_gA_26_31, ↓q_gA_26_35, ↓q_gA_26_37, ↓q_is_26, ↓q_lI_41, ↓q_lI_44, ↓q_lI_48, ↓q_lI_50, q44, nI_leI, h5, ixp, pe, np2, ix5, q50, q41, ↓q_is_26, eo, fld, sb, sh, tc, not_true_eq_false, sh2, r1]
      · obtain ⟨P1, Q1, r1, r2, r3⟩ := q_mOp (κ := κ) (b := b) (C := C) (S := S) (O := O) (D := D) (s := s) (r := F_X13_lists_132 κ f) (i := i) (ix := k) (x := lN (F o)) (by omega) c3 c4' hPL' vlt (by rw [if_neg hc, q_lN_i (by omega)]) hA (hh o o1) hN20 h3 (by omega)
        refine go P1 Q1 _ ?_ r2 r3 te.symm (by rw [if_pos np2]; exact tlen)
        have tc : (2 ^ (q_kB (q_ok L J.2.2.1 o) - 1) ≤ F o) = False := eq_false hc
        simp (disch := first | rfl | omega | decide | exact Nat.le_of_ble_eq_true rfl) only [↓q_br, q_rt, q_rz, q_gd, q_ca, ↓reduceIte, F_X13_lists_132B, ↓q_gA_26_28, ↓q_gA_26_31, ↓q_gA_26_35, ↓q_gA_26_37, ↓q_is_26, ↓q_lI_41, ↓q_lI_44, ↓q_lI_48, ↓q_lI_50, q44, nI_leI, h5, ixp, pe, np2, ix5, q50, q41, ↓q_is_26, eo, fld, sb, sh, tc, not_false_eq_true, r1]
    · have np : ¬ p < 0 := q_t10_p p hsg
      have np2 : (0 : Int32) ≤ p := Int32.not_lt.mp np
      rw [if_neg np] at h4
      obtain ⟨P1, Q1, r1, r2, r3⟩ := q_mSay (κ := κ) (b := b) (C := C) (S := S) (O := O) (D := D) (s := s) (v := p) h3 (by omega)
      by_cases h44 : p = 44
      · obtain ⟨P2, Q2, y1, y2, y3⟩ := q_mSay (κ := κ) (b := b) (C := C) (S := S) (O := O) (D := D) (s := s) (v := 32) r2 (by simp; omega)
        have t44 : (p = 44) = True := eq_true h44
        refine go P2 Q2 [q_cv p, q_cv 32] ?_ (by simpa using y2) (q_PF_t r3 y3) ?_ (by rw [if_neg np]; simp)
        · simp (disch := first | rfl | omega | decide | exact Nat.le_of_ble_eq_true rfl) only [↓q_br, q_rt, q_rz, q_gd, q_ca, ↓reduceIte, F_X13_lists_132B, F_X13_lists_347, ↓q_gA_26_28, ↓q_gA_26_31, ↓q_gA_26_35, ↓q_gA_26_37, ↓q_is_26, ↓q_lI_41, ↓q_lI_44, ↓q_lI_48, ↓q_lI_50, q44, nI_leI, h5, ixp, pe, np, ↓q_is_26, r1, t44, not_true_eq_false, y1, nI_1]
        · unfold q_ptx
          rw [if_pos np2, if_pos h44]
          rfl
      · have t44 : (p = 44) = False := eq_false h44
        refine go P1 Q1 [q_cv p] ?_ r2 r3 ?_ (by rw [if_neg np]; simp)
        · simp (disch := first | rfl | omega | decide | exact Nat.le_of_ble_eq_true rfl) only [↓q_br, q_rt, q_rz, q_gd, q_ca, ↓reduceIte, F_X13_lists_132B, F_X13_lists_347, ↓q_gA_26_28, ↓q_gA_26_31, ↓q_gA_26_35, ↓q_gA_26_37, ↓q_is_26, ↓q_lI_41, ↓q_lI_44, ↓q_lI_48, ↓q_lI_50, q44, nI_leI, h5, ixp, pe, np, ↓q_is_26, r1, t44, not_false_eq_true, nI_1]
        · unfold q_ptx
          rw [if_pos np2, if_neg h44]
          rfl
theorem q_lText {R : Nat → Nat → Option Nat} {Y : Nat → Nat → Int64} {Z : Nat → Nat → Option Nat} {M : q_MT} {O : Nat → Int64} {D : q_Mem} {s : Nat × Nat} {i : Nat} (hK : q_Kp κ b D) (hi : i < q_tx.length) : ∀ d fuel k (I X : Nat → Nat → Int32) (txt : List Int32), k + d = (q_tt i).length → d < fuel → q_LC txt I X → txt.length + d ≤ 200 → ∃ I' X', F_X4_addText_2 κ fuel (some (b + 15)) (some (κ i)) (nI k) (q_H b (I, R, X, Y, Z) M O D, s) = some (.inl (), (q_H b (I', R, X', Y, Z) M O D, s)) ∧ q_LC (txt ++ ((q_tt i).drop k).map q_cv) I' X' ∧ q_IF I I' X X' := by
  have hl := q_tt_len i hi
  intro d
  induction d with
  | zero =>
    intro fuel k I X txt h1 h2 h3 h4
    obtain ⟨g, rfl⟩ : ∃ g, fuel = g + 1 := ⟨fuel - 1, by omega⟩
    have h5 : (q_tt i).length ≤ k := by omega
    have e1 := q_J0_length (C := (I, R, X, Y, Z)) (M := M) (O := O) (s := s) hK hi
    refine ⟨I, X, ?_, ?_, q_IF_r I X⟩
    · rw [F_X4_addText_2]
      simp (disch := first | rfl | omega | decide | exact Nat.le_of_ble_eq_true rfl) only [↓q_br, q_rt, q_rz, q_gd, q_ca, ↓reduceIte, F_X4_addText_2B, ↓q_is_15, q_sp_0 hK hi, e1, nI_leI, h5]
    · rw [List.drop_eq_nil_of_le h5]
      simpa using h3
  | succ d ih =>
    intro fuel k I X txt h1 h2 h3 h4
    obtain ⟨g, rfl⟩ : ∃ g, fuel = g + 1 := ⟨fuel - 1, by omega⟩
    have h5 : ¬ (q_tt i).length ≤ k := by omega
    have h6 : k < (q_tt i).length := by omega
    have e1 := q_J0_length (C := (I, R, X, Y, Z)) (M := M) (O := O) (s := s) hK hi
    have e2 := q_J0_charAt (C := (I, R, X, Y, Z)) (M := M) (O := O) (s := s) hK hi h6
    obtain ⟨I1, X1, r1, r2, r3, r4⟩ := q_lAdd (κ := κ) (b := b) (R := R) (Y := Y) (Z := Z) (M := M) (O := O) (D := D) (s := s) (v := (q_tt i).getD k 0) h3 (by omega)
    obtain ⟨I2, X2, y1, y2, y3⟩ := ih g (k + 1) I1 X1 _ (by omega) (by omega) r2 (by simp; omega)
    refine ⟨I2, X2, ?_, ?_, q_IF_t r3 y3⟩
    · rw [F_X4_addText_2]
      simp (disch := first | rfl | omega | decide | exact Nat.le_of_ble_eq_true rfl) only [↓q_br, q_rt, q_rz, q_gd, q_ca, ↓reduceIte, F_X4_addText_2B, ↓q_is_15, q_sp_0 hK hi, e1, nI_leI, h5, e2, ↓q_is_15, r1, nI_1, y1]
    · rw [q_drop_s (d := 0) h6, List.map_cons]
      simpa using y2
theorem q_mText {C : q_CT} {S : Nat → Nat → Int64} {O : Nat → Int64} {D : q_Mem} {s : Nat × Nat} {i A : Nat} {t : Int} {x : Int64} (hK : q_Kp κ b D) (hi : i < q_tx.length) (hA : A < 4096) (hS : S 53 A = x) (hx : x.toInt = t) (ht : t.natAbs < 10 ^ 11) : ∀ d fuel k (P : Nat → Int32) (Q : Nat → Nat → Int32) (txt : List Int32), k + d = (q_tt i).length → d < fuel → q_LM txt P Q → txt.length + d + 12 ≤ 200 → ∃ P' Q', F_X13_lists_69 κ fuel (some (b + 26)) (nI A) (some (κ i)) (nI k) (q_H b C (P, Q, S) O D, s) = some (.inl (), (q_H b C (P', Q', S) O D, s)) ∧ q_LM (txt ++ ((q_tt i).drop k).map q_cv ++ q_itx t) P' Q' ∧ q_PF P P' Q Q' := by
  have hl := q_tt_len i hi
  intro d
  induction d with
  | zero =>
    intro fuel k P Q txt h1 h2 h3 h4
    obtain ⟨g, rfl⟩ : ∃ g, fuel = g + 1 := ⟨fuel - 1, by omega⟩
    have h5 : (q_tt i).length ≤ k := by omega
    have e1 := q_J0_length (C := C) (M := (P, Q, S)) (O := O) (s := s) hK hi
    obtain ⟨P1, Q1, r1, r2, r3⟩ := q_mItx (κ := κ) (b := b) (C := C) (S := S) (O := O) (D := D) (s := s) hx ht h3 (by omega)
    refine ⟨P1, Q1, ?_, ?_, r3⟩
    · rw [F_X13_lists_69]
      simp (disch := first | rfl | omega | decide | exact Nat.le_of_ble_eq_true rfl) only [↓q_br, q_rt, q_rz, q_gd, q_ca, ↓reduceIte, F_X13_lists_69B, ↓q_gA_26_40, ↓q_is_26, ↓q_lL_53, q_sp_0 hK hi, e1, nI_leI, h5, hS, ↓q_is_26, r1]
    · rw [List.drop_eq_nil_of_le h5]
      simpa using r2
  | succ d ih =>
    intro fuel k P Q txt h1 h2 h3 h4
    obtain ⟨g, rfl⟩ : ∃ g, fuel = g + 1 := ⟨fuel - 1, by omega⟩
    have h5 : ¬ (q_tt i).length ≤ k := by omega
    have h6 : k < (q_tt i).length := by omega
    have e1 := q_J0_length (C := C) (M := (P, Q, S)) (O := O) (s := s) hK hi
    have e2 := q_J0_charAt (C := C) (M := (P, Q, S)) (O := O) (s := s) hK hi h6
    obtain ⟨P1, Q1, r1, r2, r3⟩ := q_mSay (κ := κ) (b := b) (C := C) (S := S) (O := O) (D := D) (s := s) (v := (q_tt i).getD k 0) h3 (by omega)
    obtain ⟨P2, Q2, y1, y2, y3⟩ := ih g (k + 1) P1 Q1 _ (by omega) (by omega) r2 (by simp; omega)
    refine ⟨P2, Q2, ?_, ?_, q_PF_t r3 y3⟩
    · rw [F_X13_lists_69]
      simp (disch := first | rfl | omega | decide | exact Nat.le_of_ble_eq_true rfl) only [↓q_br, q_rt, q_rz, q_gd, q_ca, ↓reduceIte, F_X13_lists_69B, ↓q_gA_26_40, ↓q_is_26, ↓q_lL_53, q_sp_0 hK hi, e1, nI_leI, h5, e2, ↓q_is_26, r1, nI_1, y1]
    · rw [q_drop_s (d := 0) h6, List.map_cons]
      simpa using y2
end QLJ
