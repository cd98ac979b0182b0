theorem q_m2 (a x : Int32) : a - 1 - (-1 - x) = a + x := by
  rw [Int32.sub_eq_add_neg, Int32.neg_sub, Int32.sub_eq_add_neg a 1, Int32.sub_eq_add_neg x, Int32.add_assoc, ← Int32.add_assoc (-1) x, Int32.add_comm (-1) x, Int32.add_assoc x, show (-1 : Int32) + -(-1) = 0 from by decide, Int32.add_zero]
theorem q_lN_shr {v B : Nat} (hB : 1 ≤ B) (hB2 : B ≤ 32) (hv : v < 2 ^ B) : (lg_cmp (lN v >>> ((nI (B - 1)).toInt64 &&& 63)) 1 = 0) = (2 ^ (B - 1) ≤ v) := by
  have p2 : 2 ^ B ≤ 2 ^ 32 := Nat.pow_le_pow_right (by decide) hB2
  have pp : 2 ^ B = 2 * 2 ^ (B - 1) := by
    rw [← Nat.pow_succ']
    congr 1
    omega
  have p0 : 0 < 2 ^ (B - 1) := Nat.pos_of_ne_zero (by simp)
  have lt : v / 2 ^ (B - 1) < 2 := Nat.div_lt_of_lt_mul (by rw [Nat.mul_comm, ← pp]; exact hv)
  rw [q_sshr (by omega) (by omega), lg_cmp_eq]
  apply propext
  have e : (lN (v / 2 ^ (B - 1)) = 1) ↔ v / 2 ^ (B - 1) = 1 := q_lN_eq (b := 1) (by omega) (by decide)
  rw [e]
  constructor
  · intro h
    have := (Nat.le_div_iff_mul_le p0).mp (by omega : 1 ≤ v / 2 ^ (B - 1))
    omega
  · intro h
    have := (Nat.le_div_iff_mul_le p0).mpr (by omega : 1 * 2 ^ (B - 1) ≤ v)
    omega
theorem q_fv_kb {kb : Nat → Nat} {no z o : Nat} {W : List (List Int32)} {g : Nat → Nat} (hleg : q_leg kb no W.flatten) (hno : no ≤ 5) (hkb : ∀ o, kb o ≤ 32) (ho : o < 5) (lW : ∀ w ∈ W, w.length = z) : q_fv z W g o < 2 ^ kb o := by
  apply Nat.lt_pow_two_of_testBit
  intro k hk
  by_cases h32 : k < 32
  · rw [← Bool.not_eq_true]
    intro h
    have h9 : ∃ w j, q_hit z W g o k w j = true := by
      unfold q_fv at h
      rw [q_ofb_t, decide_eq_true h32, Bool.true_and, List.any_eq_true] at h
      obtain ⟨w, -, h1⟩ := h
      rw [List.any_eq_true] at h1
      obtain ⟨j, -, h2⟩ := h1
      exact ⟨w, j, h2⟩
    obtain ⟨w, j, h1⟩ := h9
    have hz := q_hit_z h1
    obtain ⟨c, hc⟩ : ∃ c, W[w]? = some c := ⟨_, List.getElem?_eq_getElem hz.2⟩
    rw [q_hit_i hc] at h1
    have cl := lW c (List.mem_of_getElem? hc)
    obtain ⟨o', k', o1, k1, e⟩ := q_leg_at (z := z) hleg hc (by omega : z - 1 - j < c.length) (by rw [h1.2.1]; exact nI_pos (by omega))
    rw [h1.2.1] at e
    have k32 := hkb o'
    have := (q_oki ho h32 (by omega) (by omega)).mp e
    obtain ⟨rfl, rfl⟩ := this
    omega
  · exact Nat.testBit_lt_two_pow (Nat.lt_of_lt_of_le q_fv_lt (Nat.pow_le_pow_right (by decide) (by omega)))
section QPI
variable {κ : Nat → Nat} {b : Nat} {R : Nat → Nat → Option Nat} {Y : Nat → Nat → Int64} {Z : Nat → Nat → Option Nat} {M : q_MT} {C : q_CT} {S : Nat → Nat → Int64} {O : Nat → Int64} {D : q_Mem} {s : Nat × Nat}
/-- the reference writes an operand -/
theorem q_mOp {r : Option Nat → Int32 → Int32 → Int32 → q_X Unit} {N : List q_Nam} {top kk v A i ix : Nat} {K : q_Knd} {P : Nat → Int32} {Q : Nat → Nat → Int32} {txt : List Int32} {x : Int64} (hk40 : kk < 40) (hWK : q_WK K) (hMK : q_MKd N Q kk K) (hPL : q_PL N top P Q) (hv : v < 2 ^ q_kB K) (hx : x.toInt = if 2 ^ (q_kB K - 1) ≤ v then (v : Int) - ((2 ^ q_kB K : Nat) : Int) else (v : Int)) (hA : A < 5000) (hh : q_hs K v = true) (hN20 : ∀ nm ∈ N, nm.length ≤ 20) (hT : q_LM txt P Q) (hl : txt.length + 32 ≤ 200) : ∃ P' Q', F_X13_lists_242 κ r (some (b + 26)) (nI A) (nI i) (nI ix) (nI kk) (lN v) x (q_H b C (P, Q, S) O D, s) = r (some (b + 26)) (nI A) (nI i) (nI (ix + 1)) (q_H b C (P', Q', S) O D, s) ∧ q_LM (txt ++ q_otx K v A) P' Q' ∧ q_PF P P' Q Q' := by
  have hs4 := hWK.1
  have p2 : 2 ^ q_kB K ≤ 2 ^ 32 := Nat.pow_le_pow_right (by decide) hWK.2.2.1
  have s0 : (nI (q_kS K) = (0 : Int32)) = (q_kS K = 0) := propext (nI_eq (b := 0) (by omega) (by decide))
  have s1 : (nI (q_kS K) = (1 : Int32)) = (q_kS K = 1) := propext (nI_eq (b := 1) (by omega) (by decide))
  have s2 : (nI (q_kS K) = (2 : Int32)) = (q_kS K = 2) := propext (nI_eq (b := 2) (by omega) (by decide))
  have s4 : (nI (q_kS K) = (4 : Int32)) = (q_kS K = 4) := propext (nI_eq (b := 4) (by omega) (by decide))
  have lA : (nI A).toInt64 = lN A := nI_l (by omega)
  obtain ⟨m1, m2, m3, m4, m5, m6⟩ := hMK
  have nbb := q_nb_b (K := K) (v := v) (A := A) hWK.2.2.1 (by omega) hA
  have xb : x.toInt.natAbs ≤ 2 ^ 32 := by
    rw [hx]
    generalize 2 ^ q_kB K = p at *
    split <;> omega
  unfold q_otx
  by_cases c4 : q_kS K = 4
  · rw [if_pos c4]
    have t0 : (q_kS K = 0) = False := eq_false (by omega)
    have t4 : (q_kS K = 4) = True := eq_true c4
    have hvz : v < q_kZ K := by
      unfold q_hs at hh
      rw [decide_eq_false (by omega), Bool.false_or, decide_eq_true_eq] at hh
      exact hh
    obtain ⟨z1, z2⟩ := hWK.2.2.2.2.1 c4
    have hvm : v < (q_kM K).length := by omega
    obtain ⟨w, y1, y2⟩ := m6 c4 v _ (List.getElem?_eq_getElem hvm)
    have ge : (q_kM K).getD v [] = (q_kM K)[v] := by rw [List.getD_eq_getElem?_getD, List.getElem?_eq_getElem hvm]; rfl
    rw [ge]
    have h20 := hN20 _ (List.mem_of_getElem? y2)
    obtain ⟨P1, Q1, r1, r2, r3⟩ := q_mName (κ := κ) (b := b) (C := C) (S := S) (O := O) (D := D) (s := s) hPL y2 hT (by omega)
    refine ⟨P1, Q1, ?_, r2, r3⟩
    have ix2 : (32 : Int32) * nI kk + nI v = nI (32 * kk + v) := by
      rw [show (32 : Int32) * nI kk = nI (32 * kk) from (Int32.ofNat_mul 32 kk).symm, nI_add]
    have ixl : 32 * kk + v < 1280 := by omega
    simp (disch := first | rfl | omega | decide | exact Nat.le_of_ble_eq_true rfl) only [↓q_br, q_rt, q_rz, q_gd, q_ca, ↓reduceIte, F_X13_lists_242, F_X13_lists_347, ↓q_gA_26_25, ↓q_gA_26_26, ↓q_gA_26_29, ↓q_is_26, ↓q_lI_38, ↓q_lI_39, ↓q_lI_42, m1, s0, t0, not_false_eq_true, s4, t4, not_true_eq_false, lN_i, ix2, y1, ↓q_is_26, r1, nI_1]
  · rw [if_neg c4]
    have t4 : (q_kS K = 4) = False := eq_false c4
    by_cases c0 : q_kS K = 0
    · rw [if_pos c0]
      have t0 : (q_kS K = 0) = True := eq_true c0
      obtain ⟨w, y1, y2⟩ := m3 c0
      have h20 := hN20 _ (List.mem_of_getElem? y2)
      obtain ⟨P1, Q1, r1, r2, r3⟩ := q_mName (κ := κ) (b := b) (C := C) (S := S) (O := O) (D := D) (s := s) hPL y2 hT (by omega)
      have nbv : q_nb K v A = (v : Int) := by
        unfold q_nb q_vo
        rw [if_neg (by omega), if_neg (by omega), Int.zero_add]
      obtain ⟨P2, Q2, u1, u2, u3⟩ := q_mItx (κ := κ) (b := b) (C := C) (S := S) (O := O) (D := D) (s := s) (x := lN v) (t := q_nb K v A) (by rw [nbv, q_lN_i (by omega)]) (by omega) r2 (by simp; omega)
      refine ⟨P2, Q2, ?_, by simpa using u2, q_PF_t r3 u3⟩
      simp (disch := first | rfl | omega | decide | exact Nat.le_of_ble_eq_true rfl) only [↓q_br, q_rt, q_rz, q_gd, q_ca, ↓reduceIte, F_X13_lists_242, F_X13_lists_347, ↓q_gA_26_25, ↓q_gA_26_26, ↓q_gA_26_29, ↓q_is_26, ↓q_lI_38, ↓q_lI_39, ↓q_lI_42, m1, s0, t0, not_true_eq_false, y1, ↓q_is_26, r1, u1, nI_1]
    · rw [if_neg c0, List.nil_append]
      have t0 : (q_kS K = 0) = False := eq_false c0
      by_cases c1 : q_kS K = 1
      · have t1 : (q_kS K = 1) = True := eq_true c1
        have nbv : q_nb K v A = (v : Int) := by
          unfold q_nb q_vo
          rw [if_neg (by omega), if_neg (by omega), Int.zero_add]
        obtain ⟨P2, Q2, u1, u2, u3⟩ := q_mItx (κ := κ) (b := b) (C := C) (S := S) (O := O) (D := D) (s := s) (x := lN v) (t := q_nb K v A) (by rw [nbv, q_lN_i (by omega)]) (by omega) hT (by omega)
        refine ⟨P2, Q2, ?_, u2, u3⟩
        simp (disch := first | rfl | omega | decide | exact Nat.le_of_ble_eq_true rfl) only [↓q_br, q_rt, q_rz, q_gd, q_ca, ↓reduceIte, F_X13_lists_242, F_X13_lists_344, F_X13_lists_347, ↓q_gA_26_25, ↓q_gA_26_26, ↓q_gA_26_29, ↓q_is_26, ↓q_lI_38, ↓q_lI_39, ↓q_lI_42, m1, s0, t0, not_false_eq_true, s4, t4, s1, t1, not_true_eq_false, ↓q_is_26, u1, nI_1]
      · have t1 : (q_kS K = 1) = False := eq_false c1
        have vo : q_vo K v = x.toInt := by
          rw [hx]
          unfold q_vo
          by_cases hc : 2 ^ (q_kB K - 1) ≤ v
          · rw [if_pos hc, if_pos ⟨by omega, hc⟩]
          · rw [if_neg hc, if_neg (fun h => hc h.2)]
        by_cases c2 : q_kS K = 2
        · have t2 : (q_kS K = 2) = True := eq_true c2
          obtain ⟨P2, Q2, u1, u2, u3⟩ := q_mItx (κ := κ) (b := b) (C := C) (S := S) (O := O) (D := D) (s := s) (x := x) (t := q_nb K v A) (by
            unfold q_nb
            rw [if_neg (by omega), Int.zero_add, vo]) (by omega) hT (by omega)
          refine ⟨P2, Q2, ?_, u2, u3⟩
          simp (disch := first | rfl | omega | decide | exact Nat.le_of_ble_eq_true rfl) only [↓q_br, q_rt, q_rz, q_gd, q_ca, ↓reduceIte, F_X13_lists_242, F_X13_lists_344, F_X13_lists_347, ↓q_gA_26_25, ↓q_gA_26_26, ↓q_gA_26_29, ↓q_is_26, ↓q_lI_38, ↓q_lI_39, ↓q_lI_42, m1, s0, t0, not_false_eq_true, s4, t4, s1, t1, s2, t2, not_true_eq_false, ↓q_is_26, u1, nI_1]
        · have t2 : (q_kS K = 2) = False := eq_false c2
          have c3 : q_kS K = 3 := by omega
          obtain ⟨P2, Q2, u1, u2, u3⟩ := q_mItx (κ := κ) (b := b) (C := C) (S := S) (O := O) (D := D) (s := s) (x := lN A + x) (t := q_nb K v A) (by
            rw [q_lN_addI (by omega) (by omega)]
            unfold q_nb
            rw [if_pos c3, vo]) (by omega) hT (by omega)
          refine ⟨P2, Q2, ?_, u2, u3⟩
          simp (disch := first | rfl | omega | decide | exact Nat.le_of_ble_eq_true rfl) only [↓q_br, q_rt, q_rz, q_gd, q_ca, ↓reduceIte, F_X13_lists_242, F_X13_lists_344, F_X13_lists_347, ↓q_gA_26_25, ↓q_gA_26_26, ↓q_gA_26_29, ↓q_is_26, ↓q_lI_38, ↓q_lI_39, ↓q_lI_42, m1, s0, t0, not_false_eq_true, s4, t4, s1, t1, s2, t2, lA, ↓q_is_26, u1, nI_1]
/-- how long the texts of parts may be -/
theorem q_otx_len {K : q_Knd} {v A : Nat} (hB : q_kB K ≤ 32) (hv : v < 2 ^ 32) (hA : A < 5000) (hW : (q_kW K).length ≤ 20) (hM : ∀ nm ∈ q_kM K, nm.length ≤ 20) : (q_otx K v A).length ≤ 32 := by
  have h1 := q_itx_len (t := q_nb K v A) (by have := q_nb_b (K := K) (A := A) hB hv hA; omega)
  unfold q_otx
  split
  · rw [List.length_map, List.getD_eq_getElem?_getD]
    cases h : (q_kM K)[v]? with
    | none => exact Nat.zero_le _
    | some nm =>
      have := hM nm (List.mem_of_getElem? h)
      show nm.length ≤ 32
      omega
  · rw [List.length_append]
    split
    · rw [List.length_map]; omega
    · simp; omega
theorem q_neg_drop {ps : List Int32} {k : Nat} (hk : k < ps.length) : (ps.drop k).countP (fun v => decide (v < 0)) = (if ps.getD k 0 < 0 then 1 else 0) + (ps.drop (k + 1)).countP (fun v => decide (v < 0)) := by
  rw [q_drop_s (d := 0) hk, List.countP_cons]
  by_cases h : ps.getD k 0 < 0 <;> simp [h] <;> omega
theorem q_ps_at {ps : List Int32} {k : Nat} (hk : k < ps.length) : ps.getD k 0 ∈ ps := by
  rw [List.getD_eq_getElem?_getD, List.getElem?_eq_getElem hk]
  exact List.getElem_mem hk
/-- the class writes the parts -/
theorem q_lParts {n z a A : Nat} {L : List q_Knd} {J : q_Ins} {F : Nat → Nat} (hC : q_CIn b n D Z L z a J) {I0 : Nat → Nat → Int32} (hk : q_CMk b n D I0 Z L) (hJ : q_Jok J) (hA : A < 5000) (hF : ∀ o, o < 5 → Y 16 o = lN (F o) ∧ F o < 2 ^ 32) (hh : ∀ o, o < J.2.2.1.length → q_hs (q_ok L J.2.2.1 o) (F o) = true) : ∀ d fuel k (I X : Nat → Nat → Int32) (txt : List Int32), k + d = J.2.1.length → d < fuel → q_LC txt I X → txt.length + 30 * (J.2.1.drop k).countP (fun v => decide (v < 0)) + 2 * d ≤ 200 → ∃ I' X', F_X4_show_91 κ fuel (some (b + 15)) (nI A) (some a) (nI k) (q_H b (I, R, X, Y, Z) M O D, s) = some (.inl (nI J.2.2.2.length), (q_H b (I', R, X', Y, Z) M O D, s)) ∧ q_LC (txt ++ (J.2.1.drop k).flatMap (q_ptx L J.2.2.1 F A)) I' X' ∧ q_IF I I' X X' ∧ (txt ++ (J.2.1.drop k).flatMap (q_ptx L J.2.2.1 F A)).length ≤ 200 := by
  obtain ⟨fm, fd, fs, g1, -⟩ := q_CIn_o hC
  obtain ⟨fk, j1, j2⟩ := q_okd g1 hk
  obtain ⟨-, f1, f2, f3, f4, f5, f6⟩ := hC
  obtain ⟨k1, k2, k3, k4, k5, k6, k7, fp, fo, fk', k8, k9, k10, k11, k12⟩ := g1
  have e3 : b + 66 < a ∧ D a = some (.inr (.inl (4, [.ref (a + 1), .ref (a + 3), .ref (a + 4), .ref (a + 5), .ref (a + 6), .ref (a + 7), .ref (a + 8), .int (nI J.2.1.length), .int (nI J.2.2.1.length), .int (nI J.2.2.2.length), .int (nI (q_negs J.2.2.2))]))) := ⟨k1, k3⟩
  have ep : b + 66 < a + 3 ∧ D (a + 3) = some (.inl (1, 12, .inl fp)) := ⟨by omega, k8⟩
  have ek : b + 66 < a + 5 ∧ D (a + 5) = some (.inl (5, 5, .inr (.inr (.inr (.inr fk))))) := ⟨by omega, j1⟩
  intro d
  induction d with
  | zero =>
    intro fuel k I X txt h1 h2 h3 h4
    obtain ⟨f, rfl⟩ : ∃ f, fuel = f + 1 := ⟨fuel - 1, by omega⟩
    have h5 : J.2.1.length ≤ k := by omega
    refine ⟨I, X, ?_, ?_, q_IF_r I X, ?_⟩
    · rw [F_X4_show_91]
      simp (disch := first | rfl | omega | decide | exact Nat.le_of_ble_eq_true rfl) only [↓q_br, q_rt, q_rz, q_gd, q_ca, ↓reduceIte, F_X4_show_91B, ↓q_is_15, qd_I e3 (k := 7) (v := nI J.2.1.length) rfl, nI_leI, h5, qd_I e3 (k := 9) (v := nI J.2.2.2.length) rfl]
    · rw [List.drop_eq_nil_of_le h5]
      simpa using h3
    · rw [List.drop_eq_nil_of_le h5]
      simp
      omega
  | succ d ih =>
    intro fuel k I X txt h1 h2 h3 h4
    obtain ⟨f, rfl⟩ : ∃ f, fuel = f + 1 := ⟨fuel - 1, by omega⟩
    have h5 : ¬ J.2.1.length ≤ k := by omega
    have h6 : k < J.2.1.length := by omega
    have hk12 : k < 12 := by omega
    have pe : fp k = J.2.1.getD k 0 := by
      rw [k11 k _ (List.getElem?_eq_getElem h6), List.getD_eq_getElem?_getD, List.getElem?_eq_getElem h6]
      rfl
    rw [q_neg_drop h6] at h4
    rw [q_drop_s (d := 0) h6, List.flatMap_cons]
    obtain ⟨p, hp⟩ : ∃ p, p = J.2.1.getD k 0 := ⟨_, rfl⟩
    have pm := q_ps_at h6
    rw [← hp] at pe pm h4 ⊢
    have go : ∀ (I1 X1 : Nat → Nat → Int32) (t : List Int32), F_X4_addPart κ (some (b + 15)) (some a) p (nI A) (q_H b (I, R, X, Y, Z) M O D, s) = some (.inl (), (q_H b (I1, R, X1, Y, Z) M O D, s)) → q_LC (txt ++ t) I1 X1 → q_IF I I1 X X1 → t = q_ptx L J.2.2.1 F A p → t.length ≤ (if p < 0 then 30 else 0) + 2 → ∃ I' X', F_X4_show_91 κ (f + 1) (some (b + 15)) (nI A) (some a) (nI k) (q_H b (I, R, X, Y, Z) M O D, s) = some (.inl (nI J.2.2.2.length), (q_H b (I', R, X', Y, Z) M O D, s)) ∧ q_LC (txt ++ (q_ptx L J.2.2.1 F A p ++ (J.2.1.drop (k + 1)).flatMap (q_ptx L J.2.2.1 F A))) I' X' ∧ q_IF I I' X X' ∧ (txt ++ (q_ptx L J.2.2.1 F A p ++ (J.2.1.drop (k + 1)).flatMap (q_ptx L J.2.2.1 F A))).length ≤ 200 := by
      intro I1 X1 t u1 u2 u3 u4 u5
      obtain ⟨I2, X2, y1, y2, y3, y4⟩ := ih f (k + 1) I1 X1 (txt ++ t) (by omega) (by omega) u2 (by
        rw [List.length_append]
        by_cases hn : p < 0
        · rw [if_pos hn] at h4 u5
          omega
        · rw [if_neg hn] at h4 u5
          omega)
      rw [List.append_assoc, u4] at y2 y4
      refine ⟨I2, X2, ?_, y2, q_IF_t u3 y3, y4⟩
      rw [F_X4_show_91]
      simp (disch := first | rfl | omega | decide | exact Nat.le_of_ble_eq_true rfl) only [↓q_br, q_rt, q_rz, q_gd, q_ca, ↓reduceIte, F_X4_show_91B, ↓q_is_15, qd_I e3 (k := 7) (v := nI J.2.1.length) rfl, nI_leI, h5, qd_A e3 (k := 1) (r := some (a + 3)) rfl, qd_aI ep hk12 (by decide), pe, ↓q_is_15, u1, nI_1, y1]
    rcases hJ.1.2.1 p pm with ⟨o, o1, o2⟩ | hsg
    · have o5 : o < 5 := by have := hJ.1.1; omega
      have np : ¬ (0 : Int32) ≤ p := by rw [o2]; exact q_m1n o5
      have np2 : p < 0 := Int32.not_le.mp np
      have eo : -1 - p = nI o := by rw [o2, q_m1]
      have te : q_ptx L J.2.2.1 F A p = q_otx (q_ok L J.2.2.1 o) (F o) A := by
        unfold q_ptx
        rw [if_neg np, eo, nI_clamp (by omega)]
      obtain ⟨ka, c1, c2⟩ := j2 o o1
      obtain ⟨v1, v2⟩ := hF o o5
      rw [if_pos np2] at h4
      obtain ⟨I1, X1, r1, r2, r3⟩ := q_lOp (κ := κ) (b := b) (R := R) (Y := Y) (Z := Z) (M := M) (O := O) (s := s) c2 v2 hA (hh o o1) h3 (by omega)
      refine go I1 X1 _ ?_ r2 r3 te.symm ?_
      · have np' : (0 ≤ p) = False := eq_false np
        simp (disch := first | rfl | omega | decide | exact Nat.le_of_ble_eq_true rfl) only [↓q_br, q_rt, q_rz, q_gd, q_ca, ↓reduceIte, F_X4_addPart, ↓q_gA_15_2, ↓q_is_15, ↓q_lL_16, np', qd_A e3 (k := 3) (r := some (a + 5)) rfl, eo, qd_aA ek o5 (by decide), c1, v1, ↓q_is_15, r1]
      · rw [if_pos np2]
        obtain ⟨wk, a1, a2, a3, f9, -, -, -, n1, n2, -, -, -, n3⟩ := c2
        refine q_otx_len wk.2.2.1 v2 hA ?_ (fun nm hm => ?_)
        · obtain ⟨_, _, _, _, _, _, _, _, n7, _⟩ := n2
          exact n7
        · obtain ⟨i, hi, he⟩ := List.getElem_of_mem hm
          obtain ⟨x, -, y2⟩ := n3 i nm (by rw [List.getElem?_eq_getElem hi, he])
          obtain ⟨_, _, _, _, _, _, _, _, n7, _⟩ := y2
          exact n7
    · have np : ¬ p < 0 := q_t10_p p hsg
      have np2 : (0 : Int32) ≤ p := Int32.not_lt.mp np
      have np' : (0 ≤ p) = True := eq_true np2
      rw [if_neg np] at h4
      obtain ⟨I1, X1, r1, r2, r3, -⟩ := q_lAdd (κ := κ) (b := b) (R := R) (Y := Y) (Z := Z) (M := M) (O := O) (D := D) (s := s) (v := p) h3 (by omega)
      by_cases h44 : p = 44
      · obtain ⟨I2, X2, y1, y2, y3, -⟩ := q_lAdd (κ := κ) (b := b) (R := R) (Y := Y) (Z := Z) (M := M) (O := O) (D := D) (s := s) (v := 32) r2 (by simp; omega)
        have t44 : (p = 44) = True := eq_true h44
        refine go I2 X2 [q_cv p, q_cv 32] ?_ (by simpa using y2) (q_IF_t r3 y3) ?_ (by rw [if_neg np]; simp)
        · simp (disch := first | rfl | omega | decide | exact Nat.le_of_ble_eq_true rfl) only [↓q_br, q_rt, q_rz, q_gd, q_ca, ↓reduceIte, F_X4_addPart, F_X4_addPart_46, ↓q_gA_15_2, ↓q_is_15, ↓q_lL_16, np', ↓q_is_15, r1, t44, not_true_eq_false, y1]
        · unfold q_ptx
          rw [if_pos np2, if_pos h44]
          rfl
      · have t44 : (p = 44) = False := eq_false h44
        refine go I1 X1 [q_cv p] ?_ r2 r3 ?_ (by rw [if_neg np]; simp)
        · simp (disch := first | rfl | omega | decide | exact Nat.le_of_ble_eq_true rfl) only [↓q_br, q_rt, q_rz, q_gd, q_ca, ↓reduceIte, F_X4_addPart, F_X4_addPart_46, ↓q_gA_15_2, ↓q_is_15, ↓q_lL_16, np', ↓q_is_15, r1, t44, not_false_eq_true]
        · unfold q_ptx
          rw [if_pos np2, if_neg h44]
          rfl
end QPI
