section QLK
variable {κ : Nat → Nat} {b : Nat}
theorem q_tx17 : 17 < q_tx.length ∧ (q_tt 17).length = 6 := by decide +kernel
theorem q_LC_0 {I X : Nat → Nat → Int32} (h : I 15 5 = 0) : q_LC [] I X := ⟨by rw [h]; rfl, fun i v hv => by simp at hv⟩
theorem q_LM_0 {P : Nat → Int32} {Q : Nat → Nat → Int32} (h : P 4 = 0) : q_LM [] P Q := ⟨by rw [h]; rfl, fun i v hv => by simp at hv⟩
theorem q_step_list (x : Int32) : q_Step κ b (F_L_list κ (some (b + 1)) x (some (b + 66))) (F_X13_list κ (some (b + 26)) x) (fun v => v.toInt64) := by
  rintro ⟨I, R, X, Y, Z⟩ ⟨P, Q, S⟩ O D n m c22 c23 hV
  have hV0 := hV
  obtain ⟨hK, hb, ⟨zt, t1, t2, t3, t4⟩, hk, hp, hlb, hrd, ⟨z, L, Js, hD, m1, m2, m3⟩, ⟨l1, k, l2, l3, l4, l5⟩, hA⟩ := hV
  have hD0 := hD
  obtain ⟨h1, h2, h3, h4, h5, h6, h7, h8, ⟨N, top, h9, h10, h11⟩, h12⟩ := hD
  have hz32 : z ≤ 32 := by rcases h1 with ⟨h, -, -⟩ | h | h | h <;> omega
  have hw := q_wx (x := x) (X := X) (Q := Q) (fun i hi => (m3 i hi).1)
  have a1 := q_hasW (κ := κ) (b := b) (I := I) (R := R) (X := X) (Y := Y) (Z := Z) (M := (P, Q, S)) (O := O) (D := D) (s := (n, m)) (x := x)
  have a2 := fun C O1 s1 => q_misLaid (κ := κ) (b := b) (C := C) (P := P) (Q := Q) (S := S) (O := O1) (D := D) (s := s1) (x := x)
  by_cases hx : ¬ x < 0 ∧ ¬ (4096 : Int32) ≤ x ∧ ¬ X 13 x.toNatClampNeg = 0
  · have hx2 := hw.mpr hx
    rw [decide_eq_true hx] at a1
    simp only [decide_eq_true hx2, if_pos hx2] at a2
    obtain ⟨A, A1, rfl⟩ := nI_of hx.1
    have hA4 : A < 4096 := by
      have := mt (fun h => nI_le (a := 4096) (b := A) h A1) hx.2.1
      omega
    have hA5 : A < 5000 := by omega
    have hX0 : ¬ X 13 A = 0 := by
      have := hx.2.2
      rw [nI_clamp A1] at this
      exact this
    have hLw : q_Lw z X Y := fun a ha => by
      unfold q_ld at ha
      rw [Bool.and_eq_true, decide_eq_true_eq, Bool.not_eq_true', decide_eq_false_iff_not] at ha
      obtain ⟨e1, e2, e3⟩ := m3 a ha.1
      exact (e3 (e2.resolve_left ha.2)).2
    have hMw : q_Mw X Y Q S := fun a ha => by
      obtain ⟨e1, e2, e3⟩ := m3 a ha
      exact ⟨e1, fun h => (e3 (e2.resolve_left h)).1⟩
    have hldA : q_ld X (A + 0) = true := by
      unfold q_ld
      rw [Nat.add_zero, decide_eq_true hA4, decide_eq_false hX0]
      rfl
    obtain ⟨v1, v2, -⟩ := q_gv_e hz32 hLw hldA
    rw [Nat.add_zero] at v1
    have pz : 2 ^ z ≤ 2 ^ 32 := Nat.pow_le_pow_right (by decide) hz32
    have kbL := q_kbL h4
    have hN20 : ∀ nm ∈ N, nm.length ≤ 20 := fun nm hm => by
      obtain ⟨w, hw, he⟩ := List.getElem_of_mem hm
      exact (h9.2.2.2.2.2 w nm (by rw [List.getElem?_eq_getElem hw, he])).1
    obtain ⟨bst, hbst⟩ : ∃ bst, bst = q_bst (fun i => q_st z L (q_jg Js i) X (q_gv Y A) A) (fun i => q_negs (q_jg Js i).2.2.2) Js.length 0 none := ⟨_, rfl⟩
    obtain ⟨Y1, b1, b2⟩ := q_best_7 (κ := κ) (b := b) (R := R) (X := X) (M := (P, Q, S)) (O := O) (s := (n, m)) hz32 h4 h5 h6 h7 hLw hA5 Js.length q_fu 0 none Y (by omega) (by unfold q_fu; omega) (fun _ _ => rfl) (fun j hj => by cases hj)
    rw [← hbst, nI_0] at b1
    have b1' : F_X4_bestFor κ (some (b + 15)) (nI A) (q_H b (I, R, X, Y, Z) (P, Q, S) O D, n, m) = some (.inl (q_mv bst), (q_H b (I, R, X, Y1, Z) (P, Q, S) O D, n, m)) := b1
    have lst := fun C O1 s1 => q_mlists_4 (κ := κ) (b := b) (C := C) (P := q_u1 P 7 0) (Q := Q) (S := S) (O := O1) (D := D) (s := s1) (n := 0) (Y0 := Y) (by rw [q_u1_n _ _ (by decide), h3]) hz32 (q_MMk_Q h10 (List.prefix_refl _) (q_u1_n _ _ (by decide)) (fun j _ _ => rfl)) h11 (fun i hi => by
      obtain ⟨a, ea, hCi⟩ := h5 i _ (q_jg_e hi)
      exact ⟨hCi.2.2.2.2.2.1, (h12 _ (List.mem_of_getElem? (q_jg_e hi))).2, hCi.2.2.2.2.2.2⟩) kbL (by rw [q_u1_n _ _ (by decide), h8]) h7 hLw hMw hA5 Js.length q_fu 0 none (by omega) (by unfold q_fu; omega) (fun j hj => by cases hj)
    rw [← hbst, nI_0] at lst
    have mn1 : q_mv none = -1 := rfl
    rw [mn1] at lst
    obtain ⟨I1, hI1⟩ : ∃ I1, I1 = q_u2 (q_u2 I 15 5 0) 15 6 (q_mv bst) := ⟨_, rfl⟩
    have fI1 : ∀ j, j ≠ 15 → I1 j = I j := fun j hj => by rw [hI1, q_u2_n _ _ _ hj, q_u2_n _ _ _ hj]
    have i5 : I1 15 5 = 0 := by rw [hI1, q_u2_s, q_u1_n _ _ (by decide), q_u2_s, q_u1_s]
    have i6 : I1 15 6 = q_mv bst := by rw [hI1, q_u2_s, q_u1_s]
    obtain ⟨P1, hP1⟩ : ∃ P1, P1 = q_u1 (q_u1 (q_u1 P 7 0) 4 0) 8 (q_mv bst) := ⟨_, rfl⟩
    have fP1 : ∀ j, j ≠ 4 → j ≠ 7 → j ≠ 8 → P1 j = P j := fun j j1 j2 j3 => by rw [hP1, q_u1_n _ _ j3, q_u1_n _ _ j1, q_u1_n _ _ j2]
    have p4 : P1 4 = 0 := by rw [hP1, q_u1_n _ _ (by decide), q_u1_s]
    have p7 : P1 7 = 0 := by rw [hP1, q_u1_n _ _ (by decide), q_u1_n _ _ (by decide), q_u1_s]
    have p8 : P1 8 = q_mv bst := by rw [hP1, q_u1_s]
    -- what is to be shown of both
    have fin : ∀ (txt : List Int32) (ret : Int32) (I2 X2 : Nat → Nat → Int32) (Y2 : Nat → Nat → Int64), txt.length ≤ 200 → F_X4_show κ (some (b + 15)) (nI A) (q_H b (I, R, X, Y, Z) (P, Q, S) O D, n, m) = some (.inl ret, (q_H b (I2, R, X2, Y2, Z) (P, Q, S) O D, n, m)) → q_LC txt I2 X2 → q_IF I1 I2 X X2 → (∀ j, j ≠ 16 → Y2 j = Y j) → (∀ C O1, ∃ P2 Q2, F_X13_list κ (some (b + 26)) (nI A) (q_H b C (P, Q, S) O1 D, n, m) = some (.inl ret, (q_H b C (P2, Q2, S) O1 D, n, m)) ∧ q_LM txt P2 Q2 ∧ q_PF P1 P2 Q Q2) → ∃ (k : Int32) (v : Int32) (C1 : q_CT) (O1 : Nat → Int64) (D1 : q_Mem) (n1 m1 : Nat) (P2 : Nat → Int32) (Q2 : Nat → Nat → Int32) (S2 : Nat → Nat → Int64) (D2 : q_Mem) (n2 m2 d22 d23 : Nat), F_L_list κ (some (b + 1)) (nI A) (some (b + 66)) (q_H b (I, R, X, Y, Z) (P, Q, S) O D, n, m) = some (.inl k, (q_H b C1 (P, Q, S) O1 D1, n1, m1)) ∧ F_X13_list κ (some (b + 26)) (nI A) (q_H b C1 (P, Q, S) O1 D1, n1, m1) = some (.inl v, (q_H b C1 (P2, Q2, S2) O1 D2, n2, m2)) ∧ P2 7 = k ∧ (k = 0 → O1 0 = v.toInt64) ∧ q_VI κ b C1 (P2, Q2, S2) D2 n2 d22 d23 ∧ n ≤ n2 ∧ m ≤ m2 ∧ n2 + c22 + c23 ≤ n + 8000 + d22 + d23 ∧ m2 + 4 * (c22 + c23) ≤ m + 90000 + 4 * (d22 + d23) := by
      intro txt ret I2 X2 Y2 hlen u1 u2 u3 u4 u5
      obtain ⟨P2, Q2, w1, w2, w3⟩ := u5 (I2, R, X2, Y2, Z) (q_u1 O 0 ret.toInt64)
      have gI : ∀ j, j ≠ 15 → I2 j = I j := fun j hj => by rw [u3.1 j hj, fI1 j hj]
      have gP : ∀ j, j ≠ 4 → j ≠ 7 → j ≠ 8 → P2 j = P j := fun j j1 j2 j3 => by rw [w3.1 j j1, fP1 j j1 j2 j3]
      refine ⟨0, ret, (I2, R, X2, Y2, Z), q_u1 O 0 ret.toInt64, D, n, m, P2, Q2, S, D, n, m, c22, c23, ?_, w1, by rw [w3.1 7 (by decide), p7], fun _ => q_u1_s _ _ _, ⟨hK, hb, ⟨zt, t1, by rw [gI 2 (by decide), t2], by rw [gP 3 (by decide) (by decide) (by decide), t3], fun i hi => by rw [w3.2 27 (by decide), u3.2.2 3 (by decide) (by decide)]; exact t4 i hi⟩, by rw [gI 14 (by decide), gP 5 (by decide) (by decide) (by decide), hk], by rw [gI 14 (by decide), gP 6 (by decide) (by decide) (by decide), hp], by rw [gI 23 (by decide), gP 43 (by decide) (by decide) (by decide), hlb], by rw [gI 21 (by decide), gP 44 (by decide) (by decide) (by decide), hrd], ⟨z, L, Js, q_VD_P hD0 (Nat.le_refl _) (fun _ _ _ _ => rfl) (gI 8 (by decide)) (fun j j1 j2 => gP j (by omega) (by omega) (by omega)) (fun j j1 j2 => w3.2 j (by omega)), ?_, ?_, ?_⟩, ⟨by rw [u3.2.1, i6, w3.1 8 (by decide), p8], txt.length, hlen, u2.1, w2.1, fun i hi => ?_⟩, q_VA_mo hA (Nat.le_refl _) (fun _ _ => rfl) (by rw [gI 22 (by decide)]) (by rw [gI 23 (by decide)]) rfl rfl⟩, Nat.le_refl _, Nat.le_refl _, by omega, by omega⟩
      · simp (disch := first | rfl | omega | decide | exact Nat.le_of_ble_eq_true rfl) only [F_L_list, ↓q_is_1, q_cc, ↓q_br, q_rt, q_rz, q_gd, q_ca, ↓reduceIte, F_X11_list, ↓q_gA_1_3, ↓q_gA_1_6, ↓q_is_11, ↓q_is_15, ↓q_is_11, ↓q_is_15, a1, q_b_0, Bool.true_eq_false, not_false_eq_true, u1, ↓q_sO]
      · rw [gI 11 (by decide), u3.2.2 13 (by decide) (by decide), m1]
      · rw [gP 42 (by decide) (by decide) (by decide), u3.2.2 13 (by decide) (by decide), m2]
      · rw [u3.2.2 13 (by decide) (by decide), w3.2 54 (by decide), u4 12 (by decide)]
        exact m3
      · have he := List.getElem?_eq_getElem hi
        obtain ⟨e1, e2⟩ := u2.2 i _ he
        rw [e1, w2.2 i _ he]
        exact ⟨rfl, e2⟩
    obtain ⟨x17, x17'⟩ := q_tx17
    have q7' : ∀ v, q_u1 P 7 v 7 = v := fun v => q_u1_s _ _ _
    have leJ : (nI Js.length ≤ nI Js.length) = True := eq_true (nI_le (Nat.le_refl _) (by omega))
    have v23 : q_u1 P 7 0 23 = nI Js.length := by rw [q_u1_n _ _ (by decide), h8]
    cases hbe : bst with
    | none =>
      have bmv : q_mv bst = -1 := by rw [hbe]; rfl
      rw [bmv] at b1' lst hI1 hP1 i6 p8
      have ng : ((0 : Int32) ≤ -1) = False := eq_false (by decide)
      have vb : ((q_gv Y A 0 : Nat) : Int).natAbs < 10 ^ 11 := by
        have : q_gv Y A 0 < 2 ^ 32 := by omega
        omega
      obtain ⟨I2, X2, c1, c2, c3⟩ := q_lText (κ := κ) (b := b) (R := R) (Y := Y1) (Z := Z) (M := (P, Q, S)) (O := O) (s := (n, m)) hK x17 (q_tt 17).length q_fu 0 I1 X [] (by omega) (by unfold q_fu; omega) (q_LC_0 i5) (by rw [x17']; decide)
      rw [nI_0, List.drop_zero, List.nil_append] at *
      obtain ⟨I3, X3, d1, d2, d3⟩ := q_lItx (κ := κ) (b := b) (R := R) (Y := Y1) (Z := Z) (M := (P, Q, S)) (O := O) (D := D) (s := (n, m)) (x := lN (q_gv Y A 0)) (t := (q_gv Y A 0 : Nat)) (q_lN_i (by omega)) vb c2 (by rw [List.length_map]; omega)
      have tl := q_itx_len vb
      refine fin _ 1 I3 X3 Y1 (by rw [List.length_append, List.length_map]; omega) ?_ d2 (q_IF_t c3 d3) b2 (fun C O1 => ?_)
      · have y12 : Y1 12 A = lN (q_gv Y A 0) := by rw [b2 12 (by decide), v1]
        simp (disch := first | rfl | omega | decide | exact Nat.le_of_ble_eq_true rfl) only [↓q_br, q_rt, q_rz, q_gd, q_ca, ↓reduceIte, F_X4_show, ↓q_gA_11_0, ↓q_gA_15_0, ↓q_gA_15_1, ↓q_gA_15_2, ↓q_gA_8_1, ↓q_is_15, ↓q_lA_10, ↓q_lL_12, ↓q_lL_16, ↓q_pI_15_5, ↓q_pI_15_6, ↓q_is_15, b1', ng, ← hI1, F_X4_addText, c1, y12, d1]
      · obtain ⟨P2, Q2, e1, e2, e3⟩ := q_mText (κ := κ) (b := b) (C := C) (S := S) (O := O1) (D := D) (s := (n, m)) (A := A) (x := lN (q_gv Y A 0)) (t := (q_gv Y A 0 : Nat)) hK x17 hA4 (by rw [(hMw A hA4).2 hX0, v1]) (q_lN_i (by omega)) vb (q_tt 17).length q_fu 0 P1 Q [] (by omega) (by unfold q_fu; omega) (q_LM_0 p4) (by rw [x17']; decide)
        rw [nI_0] at e1
        rw [List.drop_zero, List.nil_append] at e2
        refine ⟨P2, Q2, ?_, e2, e3⟩
        have p28 : P2 8 = -1 := by rw [e3.1 8 (by decide), p8]
        have ll := lst C O1 (n, m)
        simp (disch := first | rfl | omega | decide | exact Nat.le_of_ble_eq_true rfl) only [↓q_br, q_rt, q_rz, q_gd, q_ca, ↓reduceIte, F_X13_list, F_X13_list_35, ↓q_gA_26_33, ↓q_gI_26_8, ↓q_is_26, ↓q_lI_46, ↓q_is_26, a2, q_b_0, Bool.true_eq_false, not_false_eq_true, F_X13_lists, ll, F_X13_lists_4B, ↓q_gI_26_23, v23, leJ, ↓q_pI_26_4, ↓q_pI_26_8, ng, ← hP1, e1, p28]
    | some i =>
      have bmv : q_mv bst = nI i := by rw [hbe]; rfl
      rw [bmv] at b1' lst hI1 hP1 i6 p8
      have hp := q_bst_p (st := fun i => q_st z L (q_jg Js i) X (q_gv Y A) A) (dc := fun i => q_negs (q_jg Js i).2.2.2) Js.length 0 none (fun j hj => by cases hj) i (by rw [← hbst]; exact hbe)
      have hil : i < Js.length := by omega
      have hi96 : i < 96 := by omega
      have hst : q_st z L (q_jg Js i) X (q_gv Y A) A = true := hp.2
      obtain ⟨a, ea, hCi⟩ := h5 i _ (q_jg_e hil)
      have hMi := h11 i _ (q_jg_e hil)
      have hJi := h12 _ (List.mem_of_getElem? (q_jg_e hil))
      obtain ⟨J, hJe⟩ : ∃ J, J = q_jg Js i := ⟨_, rfl⟩
      rw [← hJe] at hCi hMi hJi hst
      unfold q_st at hst
      rw [Bool.and_eq_true] at hst
      have hld := q_sw_l hst.1
      have hh : ∀ o, o < J.2.2.1.length → q_hs (q_ok L J.2.2.1 o) (q_fv z J.2.2.2 (q_gv Y A) o) = true := fun o ho => by
        have := hst.2
        unfold q_hso at this
        rw [q_al_i] at this
        exact this o (by omega) (by omega)
      have kbJ := q_kb_le kbL J.2.2.1
      have aok : ∀ w, w < J.2.2.2.length → A + w < 4096 := fun w hw => (q_gv_e hz32 hLw (hld w hw)).2.2
      obtain ⟨Y2, d1, d2, d3⟩ := q_decode (κ := κ) (b := b) (I := I1) (R := R) (X := X) (Y := Y1) (M := (P, Q, S)) (O := O) (s := (n, m)) (g := q_gv Y A) hCi hz32 kbJ aok (fun w hw => ⟨by rw [b2 12 (by decide)]; exact (q_gv_e hz32 hLw (hld w hw)).1, by have := (q_gv_e hz32 hLw (hld w hw)).2.1; omega⟩)
      have ng : ((0 : Int32) ≤ nI i) = True := eq_true (nI_pos' (by omega))
      obtain ⟨fm, fd, fs, g1, -⟩ := q_CIn_o hCi
      have e3 : b + 66 < a ∧ D a = some (.inr (.inl (4, [.ref (a + 1), .ref (a + 3), .ref (a + 4), .ref (a + 5), .ref (a + 6), .ref (a + 7), .ref (a + 8), .int (nI J.2.1.length), .int (nI J.2.2.1.length), .int (nI J.2.2.2.length), .int (nI (q_negs J.2.2.2))]))) := ⟨g1.1, g1.2.2.1⟩
      have nm20 : J.1.length ≤ 20 := by
        obtain ⟨_, _, _, _, _, _, _, _, n7, _⟩ := g1.2.2.2.1
        exact n7
      obtain ⟨I2, X2, c1, c2, c3⟩ := q_lName (κ := κ) (b := b) (R := R) (Y := Y2) (Z := Z) (M := (P, Q, S)) (O := O) (s := (n, m)) g1.2.2.2.1 (q_LC_0 (X := X) i5) (by simp; omega)
      rw [List.nil_append] at c2
      have fvl : ∀ o, o < 5 → Y2 16 o = lN (q_fv z J.2.2.2 (q_gv Y A) o) ∧ q_fv z J.2.2.2 (q_gv Y A) o < 2 ^ 32 := fun o ho => ⟨d3 o ho, q_fv_lt⟩
      have cn5 : J.2.1.countP (fun v => decide (v < 0)) ≤ 5 := Nat.le_trans hJi.1.2.2.1 hJi.1.1
      have pl12 := hCi.2.1
      obtain ⟨w1, w2, w3, w4, w5, w6, w7, w8, w9, w10⟩ := hMi
      have hMi0 : q_MIn N Q L.length z i J := ⟨w1, w2, w3, w4, w5, w6, w7, w8, w9, w10⟩
      have hPL1 : q_PL N top P1 Q := q_PL_P h9 (fP1 19 (by decide) (by decide) (by decide)) (fP1 20 (by decide) (by decide) (by decide)) rfl rfl rfl
      have hMk1 : q_MMk N P1 Q L := q_MMk_Q h10 (List.prefix_refl _) (fP1 22 (by decide) (by decide) (by decide)) (fun j _ _ => rfl)
      obtain ⟨wn, wn1, wn2⟩ := w1
      have hS : ∀ w, w < J.2.2.2.length → S 53 (A + w) = lN (q_gv Y A w) ∧ q_gv Y A w < 2 ^ 32 := fun w hw => by
        have h9 := hld w hw
        obtain ⟨y1, y2, y3⟩ := q_gv_e hz32 hLw h9
        refine ⟨?_, by omega⟩
        rw [(hMw _ y3).2 ?_, y1]
        unfold q_ld at h9
        rw [Bool.and_eq_true, Bool.not_eq_true', decide_eq_false_iff_not] at h9
        exact h9.2
      have hff : ∀ (C : q_CT) (O1 : Nat → Int64) (P' : Nat → Int32) (Q' : Nat → Nat → Int32), q_PF P1 P' Q Q' → ∀ o, o < J.2.2.1.length → F_X13_field κ (some (b + 26)) (nI A) (nI i) (nI o) (q_H b C (P', Q', S) O1 D, n, m) = some (.inl (lN (q_fv z J.2.2.2 (q_gv Y A) o)), (q_H b C (P', Q', S) O1 D, n, m)) := fun C O1 P' Q' hpf o ho => q_mfield (by rw [hpf.1 21 (by decide), fP1 21 (by decide) (by decide) (by decide), h3]) hz32 hi96 (by rw [hpf.2 46 (by decide), w4]) w10 hCi.2.2.2.2.2.1 (fun w x hw k s hk hx => by rw [hpf.2 51 (by decide)]; exact w7 w x hw k s hk hx) hCi.2.2.2.2.2.2 w9 kbJ (by omega) aok hS
      obtain ⟨fk, j1, j2⟩ := q_okd g1 h4
      have hWL : ∀ o, o < J.2.2.1.length → ∀ v, v < 2 ^ 32 → (q_otx (q_ok L J.2.2.1 o) v A).length ≤ 32 := fun o ho v hv => by
        obtain ⟨ka, -, c2⟩ := j2 o ho
        obtain ⟨wk, a1, a2, a3, f9, -, -, -, n1, n2, -, -, -, n3⟩ := c2
        refine q_otx_len wk.2.2.1 hv hA5 ?_ (fun nm hm => ?_)
        · obtain ⟨_, _, _, _, _, _, _, _, n7, _⟩ := n2
          exact n7
        · obtain ⟨i, hi, he⟩ := List.getElem_of_mem hm
          obtain ⟨x, -, y2⟩ := n3 i nm (by rw [List.getElem?_eq_getElem hi, he])
          obtain ⟨_, _, _, _, _, _, _, _, n7, _⟩ := y2
          exact n7
      have hFk : ∀ o, o < J.2.2.1.length → q_fv z J.2.2.2 (q_gv Y A) o < 2 ^ q_kb L J.2.2.1 o := fun o ho => q_fv_kb hCi.2.2.2.2.2.2 w9 kbJ (by omega) hCi.2.2.2.2.2.1
      have nm0 : ∀ C O1, ∃ P2 Q2, F_X13_sayName κ (some (b + 26)) (nI wn) (q_H b C (P1, Q, S) O1 D, n, m) = some (.inl (), (q_H b C (P2, Q2, S) O1 D, n, m)) ∧ q_LM (J.1.map q_cv) P2 Q2 ∧ q_PF P1 P2 Q Q2 := fun C O1 => by
        have := q_mName (κ := κ) (b := b) (C := C) (S := S) (O := O1) (D := D) (s := (n, m)) hPL1 wn2 (q_LM_0 (Q := Q) p4) (by simp; omega)
        rw [List.nil_append] at this
        exact this
      have ent : ∀ (I' X' : Nat → Nat → Int32) (ret : Int32), (if J.2.1.length = 0 then F_X4_show_88 κ (some (b + 15)) (nI A) (some a) (q_H b (I2, R, X2, Y2, Z) (P, Q, S) O D, n, m) else q_ca (F_X4_addByte κ (some (b + 15)) 32) (fun _ => F_X4_show_88 κ (some (b + 15)) (nI A) (some a)) (q_H b (I2, R, X2, Y2, Z) (P, Q, S) O D, n, m)) = some (.inl ret, (q_H b (I', R, X', Y2, Z) (P, Q, S) O D, n, m)) → F_X4_show κ (some (b + 15)) (nI A) (q_H b (I, R, X, Y, Z) (P, Q, S) O D, n, m) = some (.inl ret, (q_H b (I', R, X', Y2, Z) (P, Q, S) O D, n, m)) := by
        intro I' X' ret hr
        by_cases h0 : J.2.1.length = 0
        · have le0 : (nI J.2.1.length ≤ 0) = True := eq_true (by rw [h0]; decide)
          rw [if_pos h0] at hr
          simp (disch := first | rfl | omega | decide | exact Nat.le_of_ble_eq_true rfl) only [↓q_br, q_rt, q_rz, q_gd, q_ca, ↓reduceIte, F_X4_show, ↓q_gA_11_0, ↓q_gA_15_0, ↓q_gA_15_1, ↓q_gA_15_2, ↓q_gA_8_1, ↓q_is_15, ↓q_lA_10, ↓q_lL_12, ↓q_lL_16, ↓q_pI_15_5, ↓q_pI_15_6, ↓q_is_15, b1', ng, ← hI1, ea, qd_S e3, d1, qd_A e3 (k := 0) (r := some (a + 1)) rfl, c1, qd_I e3 (k := 7) (v := nI J.2.1.length) rfl, le0, hr]
        · have le0 : (nI J.2.1.length ≤ 0) = False := eq_false (nI_nle (by omega) (by omega))
          rw [if_neg h0] at hr
          simp only [q_ca] at hr
          simp (disch := first | rfl | omega | decide | exact Nat.le_of_ble_eq_true rfl) only [↓q_br, q_rt, q_rz, q_gd, q_ca, ↓reduceIte, F_X4_show, ↓q_gA_11_0, ↓q_gA_15_0, ↓q_gA_15_1, ↓q_gA_15_2, ↓q_gA_8_1, ↓q_is_15, ↓q_lA_10, ↓q_lL_12, ↓q_lL_16, ↓q_pI_15_5, ↓q_pI_15_6, ↓q_is_15, b1', ng, ← hI1, ea, qd_S e3, d1, qd_A e3 (k := 0) (r := some (a + 1)) rfl, c1, qd_I e3 (k := 7) (v := nI J.2.1.length) rfl, le0, hr]
      have entm : ∀ (C : q_CT) (O1 : Nat → Int64) (P2 P3 : Nat → Int32) (Q2 Q3 : Nat → Nat → Int32), F_X13_sayName κ (some (b + 26)) (nI wn) (q_H b C (P1, Q, S) O1 D, n, m) = some (.inl (), (q_H b C (P2, Q2, S) O1 D, n, m)) → q_PF P1 P2 Q Q2 → q_PF P1 P3 Q Q3 → (if J.2.1.length = 0 then F_X13_lists_130 κ (some (b + 26)) (nI A) (nI i) (q_H b C (P2, Q2, S) O1 D, n, m) else q_ca (F_X13_say κ (some (b + 26)) 32) (fun _ => F_X13_lists_130 κ (some (b + 26)) (nI A) (nI i)) (q_H b C (P2, Q2, S) O1 D, n, m)) = some (.inl (), (q_H b C (P3, Q3, S) O1 D, n, m)) → F_X13_list κ (some (b + 26)) (nI A) (q_H b C (P, Q, S) O1 D, n, m) = some (.inl (nI J.2.2.2.length), (q_H b C (P3, Q3, S) O1 D, n, m)) := by
        intro C O1 P2 P3 Q2 Q3 s1 s2 s3 hr
        have ll := lst C O1 (n, m)
        have p38 : P3 8 = nI i := by rw [s3.1 8 (by decide), p8]
        have q46 : Q3 46 i = nI J.2.2.2.length := by rw [s3.2 46 (by decide), w4]
        have q44 : Q2 44 i = nI J.2.1.length := by rw [s2.2 44 (by decide), w2]
        by_cases h0 : J.2.1.length = 0
        · have le0 : (nI J.2.1.length ≤ 0) = True := eq_true (by rw [h0]; decide)
          rw [if_pos h0] at hr
          simp (disch := first | rfl | omega | decide | exact Nat.le_of_ble_eq_true rfl) only [↓q_br, q_rt, q_rz, q_gd, q_ca, ↓reduceIte, F_X13_list, F_X13_list_35, ↓q_gA_26_33, ↓q_gI_26_8, ↓q_is_26, ↓q_lI_46, ↓q_is_26, a2, q_b_0, Bool.true_eq_false, not_false_eq_true, F_X13_lists, ll, F_X13_lists_4B, ↓q_gI_26_23, v23, leJ, ↓q_pI_26_4, ↓q_pI_26_8, ng, ← hP1, ↓q_gA_26_30, ↓q_lI_43, wn1, s1, ↓q_gA_26_31, ↓q_lI_44, q44, le0, hr, p38, q46]
        · have le0 : (nI J.2.1.length ≤ 0) = False := eq_false (nI_nle (by omega) (by omega))
          rw [if_neg h0] at hr
          simp only [q_ca] at hr
          simp (disch := first | rfl | omega | decide | exact Nat.le_of_ble_eq_true rfl) only [↓q_br, q_rt, q_rz, q_gd, q_ca, ↓reduceIte, F_X13_list, F_X13_list_35, ↓q_gA_26_33, ↓q_gI_26_8, ↓q_is_26, ↓q_lI_46, ↓q_is_26, a2, q_b_0, Bool.true_eq_false, not_false_eq_true, F_X13_lists, ll, F_X13_lists_4B, ↓q_gI_26_23, v23, leJ, ↓q_pI_26_4, ↓q_pI_26_8, ng, ← hP1, ↓q_gA_26_30, ↓q_lI_43, wn1, s1, ↓q_gA_26_31, ↓q_lI_44, q44, le0, hr, p38, q46]
      have b12 : ∀ j, j ≠ 16 → Y2 j = Y j := fun j hj => by rw [d2 j hj, b2 j hj]
      by_cases h0 : J.2.1.length = 0
      · obtain ⟨I3, X3, r1, r2, r3, r4⟩ := q_lParts (κ := κ) (b := b) (R := R) (Y := Y2) (M := (P, Q, S)) (O := O) (s := (n, m)) hCi h4 hJi hA5 fvl hh J.2.1.length q_fu 0 I2 X2 _ (by omega) (by unfold q_fu; omega) c2 (by rw [List.drop_zero, List.length_map]; omega)
        rw [nI_0] at r1
        rw [List.drop_zero] at r2 r4
        refine fin _ (nI J.2.2.2.length) I3 X3 Y2 r4 (ent I3 X3 _ (by rw [if_pos h0]; exact r1)) r2 (q_IF_t c3 r3) b12 (fun C O1 => ?_)
        obtain ⟨P2, Q2, s1, s2, s3⟩ := nm0 C O1
        obtain ⟨P3, Q3, u1, u2, u3⟩ := q_mParts (κ := κ) (b := b) (C := C) (S := S) (O := O1) (D := D) (s := (n, m)) hi96 hPL1 hMi0 hMk1 hJi hA5 hFk (hff C O1) hh hN20 hWL J.2.1.length q_fu 0 P2 Q2 _ (by omega) (by unfold q_fu; omega) s3 s2 (by rw [List.drop_zero, List.length_map]; omega)
        rw [nI_0] at u1
        rw [List.drop_zero] at u2
        exact ⟨P3, Q3, entm C O1 P2 P3 Q2 Q3 s1 s3 u3 (by rw [if_pos h0]; exact u1), u2, u3⟩
      · obtain ⟨I2', X2', v1', v2', v3', -⟩ := q_lAdd (κ := κ) (b := b) (R := R) (Y := Y2) (Z := Z) (M := (P, Q, S)) (O := O) (D := D) (s := (n, m)) (v := 32) c2 (by rw [List.length_map]; omega)
        obtain ⟨I3, X3, r1, r2, r3, r4⟩ := q_lParts (κ := κ) (b := b) (R := R) (Y := Y2) (M := (P, Q, S)) (O := O) (s := (n, m)) hCi h4 hJi hA5 fvl hh J.2.1.length q_fu 0 I2' X2' _ (by omega) (by unfold q_fu; omega) v2' (by rw [List.drop_zero, List.length_append, List.length_map, List.length_singleton]; omega)
        rw [nI_0] at r1
        rw [List.drop_zero] at r2 r4
        refine fin _ (nI J.2.2.2.length) I3 X3 Y2 r4 (ent I3 X3 _ (by rw [if_neg h0]; simp only [q_ca, v1']; exact r1)) r2 (q_IF_t c3 (q_IF_t v3' r3)) b12 (fun C O1 => ?_)
        obtain ⟨P2, Q2, s1, s2, s3⟩ := nm0 C O1
        obtain ⟨P2', Q2', y1, y2, y3⟩ := q_mSay (κ := κ) (b := b) (C := C) (S := S) (O := O1) (D := D) (s := (n, m)) (v := 32) s2 (by rw [List.length_map]; omega)
        obtain ⟨P3, Q3, u1, u2, u3⟩ := q_mParts (κ := κ) (b := b) (C := C) (S := S) (O := O1) (D := D) (s := (n, m)) hi96 hPL1 hMi0 hMk1 hJi hA5 hFk (hff C O1) hh hN20 hWL J.2.1.length q_fu 0 P2' Q2' _ (by omega) (by unfold q_fu; omega) (q_PF_t s3 y3) y2 (by rw [List.drop_zero, List.length_append, List.length_map, List.length_singleton]; omega)
        rw [nI_0] at u1
        rw [List.drop_zero] at u2
        exact ⟨P3, Q3, entm C O1 P2 P3 Q2 Q3 s1 s3 u3 (by rw [if_neg h0]; simp only [q_ca, y1]; exact u1), u2, u3⟩
  · have hx2 : ¬ (¬ x < 0 ∧ ¬ (4096 : Int32) ≤ x ∧ ¬ Q 54 x.toNatClampNeg = 0) := fun h => hx (hw.mp h)
    rw [decide_eq_false hx] at a1
    simp only [decide_eq_false hx2, if_neg hx2] at a2
    refine ⟨1, 0, (I, R, X, Y, Z), O, D, n + 1, m + 6, q_u1 P 7 1, Q, S, D, n + 1, m + 6, c22, c23, ?_, ?_, q_u1_s _ _ _, fun h9 => absurd h9 (by decide), q_VI_7 hV0 (by omega) (fun j hj => q_u1_n _ _ hj), by omega, by omega, by omega, by omega⟩
    · simp (disch := first | rfl | omega | decide | exact Nat.le_of_ble_eq_true rfl) only [F_L_list, ↓q_is_1, q_cc, ↓q_br, q_rt, q_rz, q_gd, q_ca, ↓reduceIte, F_X11_list, ↓q_gA_1_3, ↓q_gA_1_6, ↓q_is_11, ↓q_is_15, ↓q_is_11, a1, q_b_0, not_true_eq_false, q_th]
    · simp (disch := first | rfl | omega | decide | exact Nat.le_of_ble_eq_true rfl) only [↓q_br, q_rt, q_rz, q_gd, q_ca, ↓reduceIte, F_X13_list, ↓q_gA_26_33, ↓q_gI_26_8, ↓q_is_26, ↓q_lI_46, ↓q_is_26, a2, q_b_0, not_true_eq_false]
end QLK
