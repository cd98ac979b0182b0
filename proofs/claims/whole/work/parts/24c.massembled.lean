theorem q_ff_FO {nf : q_Lin → Nat → Option Nat} : ∀ (Ls : List q_Lin) (fo fo' : Nat → Nat), q_ff nf Ls fo = .inr fo' → q_INC Ls → (∀ k, (∀ x ∈ Ls, k ≠ q_sF x) → fo' k = fo k) ∧ ∀ x ∈ Ls, q_sS x = 1 → nf x 0 = some (fo' (q_sF x)) := by
  intro Ls
  induction Ls with
  | nil =>
    intro fo fo' h _
    cases h
    exact ⟨fun _ _ => rfl, fun x hx => by cases hx⟩
  | cons x r ih =>
    intro fo fo' h hI
    have hI' : (∀ y ∈ r, q_sF x < q_sF y) ∧ q_INC r := List.pairwise_cons.mp hI
    rw [q_ff] at h
    split at h
    · rename_i c1
      cases hj : nf x 0 with
      | none => rw [hj] at h; cases h
      | some j =>
        rw [hj] at h
        obtain ⟨g1, g2⟩ := ih _ _ h hI'.2
        refine ⟨fun k hk => ?_, fun y hy hs => ?_⟩
        · rw [g1 k (fun y hy => hk y (List.mem_cons_of_mem _ hy)), q_u1_n _ _ (hk x List.mem_cons_self)]
        · rcases List.mem_cons.mp hy with e | e
          · rw [e, hj, g1 _ (fun w hw => by have := hI'.1 w hw; omega), q_u1_s]
          · exact g2 y e hs
    · rename_i c1
      obtain ⟨g1, g2⟩ := ih _ _ h hI'.2
      refine ⟨fun k hk => g1 k (fun y hy => hk y (List.mem_cons_of_mem _ hy)), fun y hy hs => ?_⟩
      rcases List.mem_cons.mp hy with e | e
      · rw [e] at hs
        exact absurd hs c1
      · exact g2 y e hs
section QWC
variable {κ : Nat → Nat} {b : Nat} {B : Nat → Int32} {l : List q_Tok} {zt : Nat} {C : q_CT} {O : Nat → Int64} {D : q_Mem} {n m : Nat}
def q_PF9 (P P' : Nat → Int32) (Q Q' : Nat → Nat → Int32) : Prop := (∀ j, j ≠ 15 → j ≠ 42 → j ≠ 43 → j ≠ 44 → j ≠ 52 → P' j = P j) ∧ ∀ j, j < 54 → Q' j = Q j
theorem q_massembled {N : List q_Nam} {top z : Nat} {L : List q_Knd} {Js : List q_Ins} {P : Nat → Int32} {Q : Nat → Nat → Int32} {S : Nat → Nat → Int64} {la0 : Nat → Int32} {wo0 : Nat → Int64} (hn : b + 66 < n) (hK : q_Kp κ b D) (hz : z ≤ 32) (hT : q_TM B l zt P Q S) (hPL : q_PL N top P Q) (hMI : q_MIs N Q L.length z Js) (hMM : q_MMk N P Q L) (h23 : P 23 = nI Js.length) (h21 : P 21 = nI z) (h96 : Js.length ≤ 96) (hJ : ∀ J ∈ Js, q_Jok J) (hcl : ∀ J ∈ Js, ∀ c ∈ J.2.2.2, c.length = z) (hleg : ∀ J ∈ Js, q_leg (q_kb L J.2.2.1) J.2.2.1.length J.2.2.2.flatten) (hkL : ∀ K ∈ L, q_kB K ≤ 32) (hla0 : ∀ v, v < 4096 → la0 v = 0) :
    ∃ P' Q' S', q_PF9 P P' Q Q' ∧ (match q_as B l z L Js la0 wo0 with
      | .inl (k, p) => F_X13_assembled κ (some (b + 26)) (q_H b C (P, Q, S) O D, n, m) = q_thr Unit b C (P', Q', S') O D n m (nI k) (nI p)
      | .inr (FL, rd, la, wo) => F_X13_assembled κ (some (b + 26)) (q_H b C (P, Q, S) O D, n, m) = some (.inl (), (q_H b C (P', Q', S') O D, n, m)) ∧ P' 43 = nI (q_LT FL).length ∧ P' 44 = nI rd ∧ q_MMm P' Q' S' la wo) := by
  have hzt := hT.2.2.1
  have hl := hT.2.1
  have hwfx := hT.2.2.2.2.1
  have hwf4 : ∀ i, i < l.length → (q_tok l i).1 ≤ 4 := fun i hi => (hwfx i _ (q_tok_s hi)).1
  obtain ⟨Q1, a1, a2, a3⟩ := q_mclear_2 (κ := κ) (b := b) (C := C) (O := O) (S := S) (D := D) (P := P) (s := (n, m)) 4096 q_fu 0 Q (by omega) (by unfold q_fu; omega) (fun v hv => by omega)
  rw [nI_0] at a1
  obtain ⟨P1, hP1⟩ : ∃ P1, P1 = q_u1 (q_u1 (q_u1 P 42 0) 43 0) 44 0 := ⟨_, rfl⟩
  rw [← hP1] at a1
  obtain ⟨P2, hP2⟩ : ∃ P2, P2 = q_u1 (q_u1 (q_u1 P1 15 0) 52 0) 43 0 := ⟨_, rfl⟩
  have gP : ∀ j, j ≠ 15 → j ≠ 42 → j ≠ 43 → j ≠ 44 → j ≠ 52 → P2 j = P j := fun j j1 j2 j3 j4 j5 => by rw [hP2, q_u1_n _ _ j3, q_u1_n _ _ j5, q_u1_n _ _ j1, hP1, q_u1_n _ _ j4, q_u1_n _ _ j3, q_u1_n _ _ j2]
  have p15 : P2 15 = nI 0 := by rw [hP2, q_u1_n _ _ (by decide), q_u1_n _ _ (by decide), q_u1_s]; rfl
  have p52 : P2 52 = nI 0 := by rw [hP2, q_u1_n _ _ (by decide), q_u1_s]; rfl
  have p43 : P2 43 = nI 0 := by rw [hP2, q_u1_s]; rfl
  have p44 : P2 44 = nI 0 := by rw [hP2, q_u1_n _ _ (by decide), q_u1_n _ _ (by decide), q_u1_n _ _ (by decide), hP1, q_u1_s]; rfl
  have p42 : P2 42 = 0 := by rw [hP2, q_u1_n _ _ (by decide), q_u1_n _ _ (by decide), q_u1_n _ _ (by decide), hP1, q_u1_n _ _ (by decide), q_u1_n _ _ (by decide), q_u1_s]
  have hT2 : q_TM B l zt P2 Q1 S := q_TM_P hT (gP 13 (by decide) (by decide) (by decide) (by decide) (by decide)) (a2 28 (by decide)) (a2 30 (by decide)) (a2 31 (by decide)) (a2 32 (by decide))
  obtain ⟨P3, Q3, r1, r2⟩ := q_mlines_15 (κ := κ) (b := b) (C := C) (O := O) (m := m) (z := z) hz hn hK (l.length + 2) q_fu 0 P2 Q1 [] hT2 p15 (by rw [gP 21 (by decide) (by decide) (by decide) (by decide) (by decide), h21]) p52 (fun i hi => absurd hi (Nat.not_lt_zero _)) ⟨p43, fun k hk => absurd hk (Nat.not_lt_zero _), fun k hk => absurd hk (Nat.not_lt_zero _)⟩ ⟨fun i j _ hj => absurd hj (Nat.not_lt_zero _), fun k hk => absurd hk (Nat.not_lt_zero _)⟩ (Nat.zero_le _) (Nat.le_refl _) (by omega) (by unfold q_fu; omega)
  have gP3 : ∀ j, j ≠ 15 → j ≠ 42 → j ≠ 43 → j ≠ 44 → j ≠ 52 → P3 j = P j := fun j j1 j2 j3 j4 j5 => by rw [r1.1 j j1 j3 j5, gP j j1 j2 j3 j4 j5]
  have gQ3 : ∀ j, j < 54 → Q3 j = Q j := fun j hj => by rw [r1.2 j (Or.inl (by omega)), a2 j (by omega)]
  have road : F_X13_assembled κ (some (b + 26)) (q_H b C (P, Q, S) O D, n, m) = q_ca (F_X13_lines_15 κ q_fu (some (b + 26))) (fun _ => F_X13_assembled_10 κ q_fu (some (b + 26)) 0) (q_H b C (P2, Q1, S) O D, n, m) := by
    have cl : F_X13_clear κ (some (b + 26)) (q_H b C (P, Q, S) O D, n, m) = some (.inl (), (q_H b C (P1, Q1, S) O D, n, m)) := a1
    rw [hP2]
    simp (disch := first | rfl | omega | decide | exact Nat.le_of_ble_eq_true rfl) only [↓q_br, q_rt, q_rz, q_gd, q_ca, ↓reduceIte, F_X13_assembled, F_X13_lines, ↓q_is_26, ↓q_pI_26_15, ↓q_pI_26_43, ↓q_pI_26_52, ↓q_is_26, cl]
  rw [road]
  cases hln : q_lns B l z (l.length + 2) 0 [] with
  | inl e =>
    rw [hln] at r2
    obtain ⟨k, p⟩ := e
    have ea : q_as B l z L Js la0 wo0 = .inl (k, p) := by unfold q_as; rw [hln]
    rw [ea]
    refine ⟨P3, Q3, S, ⟨gP3, gQ3⟩, ?_⟩
    simp only at r2 ⊢
    simp only [q_ca, r2]
  | inr FL =>
    rw [hln] at r2
    obtain ⟨s1, s2, s3, s4, s5⟩ := r2
    obtain ⟨lp1, lp2⟩ := q_lns_p (B := B) (l := l) (z := z) hwf4 (l.length + 2) 0 [] FL hln (fun x hx => by cases hx) List.Pairwise.nil (Nat.zero_le _)
    have lc := q_lns_c (B := B) (l := l) (z := z) hwf4 (l.length + 2) 0 [] (by omega) (by omega)
    rw [hln] at lc
    simp only [List.filter_nil] at lc
    obtain ⟨g1, g2, g3⟩ := q_lnc_p (B := B) (l := l) (z := z) hwf4 (l.length + 2) 0 [] _ lc ⟨fun i j _ hj => absurd hj (Nat.not_lt_zero _), fun k hk => absurd hk (Nat.not_lt_zero _)⟩ (fun x hx => by cases hx) (Nat.zero_le _) (by omega)
    have hLTl : (q_LT (FL.filter q_rea)).length ≤ (FL.filter q_rea).length := by
      unfold q_LT
      rw [List.length_map]
      exact List.length_filter_le _ _
    rw [q_LT_f] at g1 hLTl
    have hKl : (q_LT FL).length ≤ 6000 := by omega
    have hFL : FL.length ≤ 6001 := by omega
    have hM3 : q_ME B l zt N top L z Js FL P3 Q3 S := by
      refine ⟨q_TM_P hT (gP3 13 (by decide) (by decide) (by decide) (by decide) (by decide)) (gQ3 28 (by decide)) (gQ3 30 (by decide)) (gQ3 31 (by decide)) (gQ3 32 (by decide)), q_PL_P hPL (gP3 19 (by decide) (by decide) (by decide) (by decide) (by decide)) (gP3 20 (by decide) (by decide) (by decide) (by decide) (by decide)) (gQ3 34 (by decide)) (gQ3 35 (by decide)) (gQ3 36 (by decide)), fun i J hi => q_MIn_Q (hMI i J hi) (List.prefix_refl _) (Nat.le_refl _) (fun j j1 j2 => gQ3 j (by omega)), q_MMk_Q hMM (List.prefix_refl _) (gP3 22 (by decide) (by decide) (by decide) (by decide) (by decide)) (fun j j1 j2 => gQ3 j (by omega)), by rw [gP3 23 (by decide) (by decide) (by decide) (by decide) (by decide), h23], by rw [gP3 21 (by decide) (by decide) (by decide) (by decide) (by decide), h21], s2, s3, s4⟩
    have hW : ∀ fo, ∀ x ∈ FL, q_wds Js fo x ≤ 6100 := fun fo x hx => q_wds_le hwf4 (by omega) (lp1 x hx) (fun i J hi => (hMI i J hi).2.2.2.2.2.2.2.2.2)
    obtain ⟨Q4, S4, t1, t2, t3, t4⟩ := q_asm10 (κ := κ) (b := b) (C := C) (O := O) (D := D) (m := m) hn hJ h96 lp1 lp2 g1 hKl hFL FL.length q_fu 0 (fun _ => 0) Q3 S (by omega) (by unfold q_fu; omega) hM3 (fun j hj => by omega)
    rw [List.drop_zero, nI_0] at t4
    have rd2 : ∀ σ, q_ca (F_X13_lines_15 κ q_fu (some (b + 26))) (fun _ => F_X13_assembled_10 κ q_fu (some (b + 26)) 0) (q_H b C (P2, Q1, S) O D, n, m) = σ ↔ F_X13_assembled_10 κ q_fu (some (b + 26)) 0 (q_H b C (P3, Q3, S) O D, n, m) = σ := by
      intro σ
      simp only [q_ca, s1]
    have gQ4 : ∀ j, j < 54 → Q4 j = Q j := fun j hj => by rw [t2 j (by omega) (by omega), gQ3 j hj]
    cases hff : q_ff (q_nfx B l (q_LT FL) L Js) FL (fun _ => 0) with
    | inl e =>
      rw [hff] at t4
      obtain ⟨k, p⟩ := e
      have ea : q_as B l z L Js la0 wo0 = .inl (k, p) := by
        unfold q_as q_as2
        simp only [hln, hff]
      rw [ea]
      refine ⟨P3, Q4, S4, ⟨gP3, gQ4⟩, ?_⟩
      exact (rd2 _).mpr t4
    | inr fo =>
      rw [hff] at t4
      obtain ⟨u1, u2⟩ := t4
      have hFO : q_FO B l (q_LT FL) L Js FL fo := fun x hx hs => by
        obtain ⟨-, w2, w3⟩ := q_nf_s ((q_ff_FO FL _ fo hff lp2).2 x hx hs) (Nat.zero_le _)
        exact ⟨w2, w3⟩
      obtain ⟨P5, Q5, S5, v1, v2, v3, v4, v5⟩ := q_m76 (κ := κ) (b := b) (C := C) (O := O) (D := D) (m := m) hn hJ h96 lp1 lp2 g1 hKl hFL hW 600000 q_fu 0 fo (fun _ => 0) P3 Q4 S4 (by
        have := q_pot_b (N := Js.length) (fo := fo) FL
        have h9 : Js.length * FL.length ≤ 96 * 6001 := Nat.mul_le_mul h96 hFL
        omega) (by unfold q_fu; omega) (q_ME_u hM3 t1) (by rw [r1.1 44 (by decide) (by decide) (by decide), p44]) u2 hFO
      have gP5 : ∀ j, j ≠ 15 → j ≠ 42 → j ≠ 43 → j ≠ 44 → j ≠ 52 → P5 j = P j := fun j j1 j2 j3 j4 j5 => by rw [v2 j j4, gP3 j j1 j2 j3 j4 j5]
      have gQ5 : ∀ j, j < 54 → Q5 j = Q j := fun j hj => by rw [v3 j (by omega) (by omega) (by omega), gQ4 j hj]
      have e01 : 0 + 1 = 1 := rfl
      rw [e01] at v5
      cases hst : q_set l Js (q_fit B l (q_LT FL) L Js) (q_nfx B l (q_LT FL) L Js) FL 600000 1 fo (fun _ => 0) with
      | inl e =>
        rw [hst] at v5
        obtain ⟨k, p⟩ := e
        have ea : q_as B l z L Js la0 wo0 = .inl (k, p) := by
          unfold q_as q_as2
          simp only [hln, hff, hst]
        rw [ea]
        refine ⟨P5, Q5, S5, ⟨gP5, gQ5⟩, ?_⟩
        exact (rd2 _).mpr (u1.trans v5)
      | inr y =>
        rw [hst] at v5
        obtain ⟨fo2, ad2, rd⟩ := y
        obtain ⟨w1, w2, w3, w4, w5⟩ := v5
        have hB := q_set_b (Js := Js) (fit := q_fit B l (q_LT FL) L Js) (nf := q_nfx B l (q_LT FL) L Js) lp2 (fun x hx hs => by
          have h9 := q_XP_3 hwfx (lp1 x hx) hs
          obtain ⟨LT9, t9, ht9, hx9⟩ := lp1 x hx
          exact ⟨by omega, (q_ln1_b hwf4 hx9 ht9).2.2.2.2.2.2.2.2.2.2.2 (by omega)⟩) 600000 1 fo (fun _ => 0) fo2 ad2 rd hst
        have mm0 : q_MMm P5 Q5 S5 la0 wo0 := by
          refine ⟨?_, fun i hi => ⟨?_, fun h9 => absurd (hla0 i hi) h9⟩⟩
          · rw [v2 42 (by decide), r1.1 42 (by decide) (by decide) (by decide), p42, q_lc_0 4096 hla0]
            rfl
          · rw [v3 54 (by decide) (by decide) (by decide), t2 54 (by decide) (by decide), r1.2 54 (Or.inl (by decide)), a3 i hi, hla0 i hi]
        obtain ⟨P6, Q6, S6, x1, x2⟩ := q_m205 (κ := κ) (b := b) (C := C) (O := O) (D := D) (m := m) hn hz h96 hFL lp1 g1 hKl hJ hcl hleg hkL hB w4 FL.length q_fu 0 P5 Q5 S5 la0 wo0 (by omega) (by unfold q_fu; omega) (q_ME_u (q_ME_u hM3 t1) v1) w3 w5 mm0
        rw [List.drop_zero, nI_0] at x2
        have gP6 : ∀ j, j ≠ 15 → j ≠ 42 → j ≠ 43 → j ≠ 44 → j ≠ 52 → P6 j = P j := fun j j1 j2 j3 j4 j5 => by rw [x1.1 j j2, gP5 j j1 j2 j3 j4 j5]
        have gQ6 : ∀ j, j < 54 → Q6 j = Q j := fun j hj => by rw [x1.2.1 j (by omega) (by omega), gQ5 j hj]
        refine ⟨P6, Q6, S6, ⟨gP6, gQ6⟩, ?_⟩
        cases hly : q_lay (q_wds Js fo2) ad2 (fun x w => lN (q_wv B l (q_LT FL) L Js fo2 ad2 x w)) FL la0 wo0 with
        | inl e =>
          rw [hly] at x2
          obtain ⟨k, p⟩ := e
          have ea : q_as B l z L Js la0 wo0 = .inl (k, p) := by
            unfold q_as q_as2
            simp only [hln, hff, hst, hly]
          rw [ea]
          exact (rd2 _).mpr (u1.trans (w1.trans x2))
        | inr w =>
          rw [hly] at x2
          obtain ⟨la, wo⟩ := w
          obtain ⟨x2, x3⟩ := x2
          have ea : q_as B l z L Js la0 wo0 = .inr (FL, rd, la, wo) := by
            unfold q_as q_as2
            simp only [hln, hff, hst, hly]
          rw [ea]
          exact ⟨(rd2 _).mpr (u1.trans (w1.trans x2)), by rw [x1.1 43 (by decide), v2 43 (by decide)]; exact s4.1, by rw [x1.1 44 (by decide), w2], x3⟩
end QWC
