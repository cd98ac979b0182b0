section QLE
variable {κ : Nat → Nat} {b : Nat} {B : Nat → Int32} {l : List q_Tok} {zt : Nat} {R : Nat → Nat → Option Nat} {Z : Nat → Nat → Option Nat} {M : q_MT} {O : Nat → Int64} {D : q_Mem} {s : Nat × Nat}
theorem q_layI_15 {I X : Nat → Nat → Int32} {n n' ja z c23 a sf hd en : Nat} {L : List q_Knd} {J : q_Ins} {LT : List Nat} {la9 : Nat → Nat} {ad : Nat → Nat} {ps : Nat → Nat} {f : Nat → Int32} {v0 v1 v2 v3 v5 v6 : Value} {v : Nat → Int64} {la : Nat → Int32} {wo : Nat → Int64} (hJ : q_CIn b n D Z L z ja J) (hCM : q_CMk b n D I Z L) (hkL : ∀ K ∈ L, q_kB K ≤ 32) (hz : z ≤ 32) (hE : q_LE l hd en) (hLT : LT.length ≤ 6100) (hAL : q_AL κ b n' D I R 23 c23 LT.length la9) (hA : ∀ k, k < LT.length → ∃ v0 v1 v2 v3 v4 v5 v6, b + 66 < la9 k ∧ D (la9 k) = some (.inr (.inl (6, [v0, v1, v2, v3, v4, v5, v6, .int (q_av LT ad k)])))) (ha : b + 66 < a) (h1 : D a = some (.inr (.inl (6, [v0, v1, v2, v3, .ref (a + 1), v5, v6, .int (nI (ad sf))])))) (h2 : D (a + 1) = some (.inl (1, 5, .inl f))) (hf : ∀ o, o < J.2.2.1.length → f o = nI (ps o)) (hp : ∀ o, o < J.2.2.1.length → hd < ps o ∧ ps o < en ∧ ∃ x, q_opd B l LT (q_ok L J.2.2.1 o) (ps o) = some x) (hA4 : ad sf + J.2.2.2.length ≤ 4096) (hv : ∀ w c, J.2.2.2[w]? = some c → v w = lN (q_dw (q_pb9 (q_held B l LT L J.2.2.1 ad sf ps)) 0 c)) (hM : q_CMm I X) (hX : X 13 = la) : ∀ d fuel o (Y : Nat → Nat → Int64), o + d = J.2.2.1.length → d < fuel → q_TC B l zt I X Y → (∀ t, hd < t → t < en → (q_tok l t).1 = 1 → Y 7 t = (q_mv (q_lk B l LT t)).toInt64) → Y 12 = wo → (∀ u, u < o → Y 25 u = q_held B l LT L J.2.2.1 ad sf ps u) → ∃ I' X' Y', F_X8_layInstruction_15 κ fuel (some (b + 21)) (some a) (some ja) (nI o) (q_H b (I, R, X, Y, Z) M O D, s) = some (.inl (), (q_H b (I', R, X', Y', Z) M O D, s)) ∧ q_CQ I I' X X' Y Y' (q_pL (ad sf) J.2.2.2.length la) (q_pW (ad sf) J.2.2.2.length v wo) := by
  obtain ⟨fm, fd, fs, hCo, -⟩ := q_CIn_o hJ
  have n5 := hJ.2.2.1
  have n4 := hJ.2.2.2.1
  obtain ⟨fk, y1, y2⟩ := q_okd hCo hCM
  obtain ⟨k1, k2, k3, -⟩ := hCo
  have e3 := And.intro k1 k3
  have e5 : b + 66 < ja + 5 ∧ D (ja + 5) = some (.inl (5, 5, .inr (.inr (.inr (.inr fk))))) := ⟨by omega, y1⟩
  have ea := And.intro ha h1
  intro d
  induction d with
  | zero =>
    intro fuel o Y g1 g2 hT hY7 hY hlo
    obtain ⟨g, rfl⟩ : ∃ g, fuel = g + 1 := ⟨fuel - 1, by omega⟩
    have h3 : J.2.2.1.length ≤ o := by omega
    obtain ⟨I', X', Y', r1, r2⟩ := q_layI_49 (κ := κ) (R := R) (M := M) (O := O) (s := s) (v := v) (la := la) (wo := wo) ea hJ hkL hz hA4 hv J.2.2.2.length q_fu 0 I X Y (by omega) (by unfold q_fu; omega) hM (by rw [q_pL_0, hX]) (by rw [q_pW_0, hY]) (fun o ho => hlo o (by omega))
    rw [nI_0] at r1
    refine ⟨I', X', Y', ?_, r2⟩
    rw [F_X8_layInstruction_15]
    simp (disch := first | rfl | omega | decide | exact Nat.le_of_ble_eq_true rfl) only [↓q_br, q_rt, q_rz, q_gd, q_ca, ↓reduceIte, F_X8_layInstruction_15B, ↓q_gA_21_7, ↓q_is_21, ↓q_sL_25, qd_I e3 (k := 8) (v := nI J.2.2.1.length) rfl, nI_leI, h3, r1]
  | succ d ih =>
    intro fuel o Y g1 g2 hT hY7 hY hlo
    obtain ⟨g, rfl⟩ : ∃ g, fuel = g + 1 := ⟨fuel - 1, by omega⟩
    have h3 : ¬ J.2.2.1.length ≤ o := by omega
    have ho : o < J.2.2.1.length := by omega
    have o5 : o < 5 := by omega
    obtain ⟨ka, z1, z2⟩ := y2 o ho
    have hv9 := q_heldValue (κ := κ) (Z := Z) (M := M) (O := O) (s := s) hT z2 hE hY7 hLT hAL hA ha h1 h2 o5 (hf o ho) (hp o ho)
    obtain ⟨Y1, hY1⟩ : ∃ Y1, Y1 = q_u2 Y 25 o (q_held B l LT L J.2.2.1 ad sf ps o) := ⟨_, rfl⟩
    have gY : ∀ j, j ≠ 25 → Y1 j = Y j := fun j hj => by rw [hY1, q_u2_n _ _ _ hj]
    obtain ⟨I', X', Y', r1, r2, r3, r4, r5⟩ := ih g (o + 1) Y1 (by omega) (by omega) (q_TC_Y hT rfl (gY 7 (by decide))) (by rw [gY 7 (by decide)]; exact hY7) (by rw [gY 12 (by decide), hY]) (fun u hu => by
      rw [hY1, q_u2_s]
      by_cases huo : u = o
      · rw [huo, q_u1_s]
      · rw [q_u1_n _ _ huo]
        exact hlo u (by omega))
    refine ⟨I', X', Y', ?_, r2, r3, fun j j1 j2 => by rw [r4 j j1 j2, gY j j2], r5⟩
    rw [F_X8_layInstruction_15]
    simp (disch := first | rfl | omega | decide | exact Nat.le_of_ble_eq_true rfl) only [↓q_br, q_rt, q_rz, q_gd, q_ca, ↓reduceIte, F_X8_layInstruction_15B, ↓q_gA_21_7, ↓q_is_21, ↓q_sL_25, qd_I e3 (k := 8) (v := nI J.2.2.1.length) rfl, nI_leI, h3, qd_A e3 (k := 3) (r := some (ja + 5)) rfl, qd_aA e5 o5 (by decide), z1, ↓q_is_21, hv9, ← hY1, nI_1, r1]
theorem q_layD_2 {D0 : q_Mem} {n0 n z c22 c23 : Nat} {L : List q_Knd} {Js : List q_Ins} {Ls : List q_Lin} {aa : Nat → Nat} {xx : Nat → q_Lx} {fo ad : Nat → Nat} (hn0 : b + 66 < n0) (hz : z ≤ 32) (hXP : ∀ x ∈ Ls, q_XP B l z x) (hK : (q_LT Ls).length ≤ 6000) (hLs : Ls.length ≤ 6100) (hS : q_S8 n0 D0 D) (hF : ∀ j, j < Ls.length → q_CF B l (q_LT Ls) L Js fo (xx j)) (hA : ∀ j, j < Ls.length → q_xa (xx j) = nI (ad (q_sF (q_lg Ls j)))) (hB : ∀ x ∈ Ls, ad (q_sF x) + q_wds Js fo x ≤ 4096) : ∀ d fuel i (I X : Nat → Nat → Int32) (Y : Nat → Nat → Int64) (la : Nat → Int32) (wo : Nat → Int64), i + d = Ls.length → d < fuel → q_Env b n0 D0 Z I L z Js → q_PR κ b n0 n D I R X B l Ls aa xx c22 c23 → q_TC B l zt I X Y → (∀ j, j < Ls.length → q_sS (q_lg Ls j) = 1 → q_YL B l (q_LT Ls) Y (q_lg Ls j)) → q_CMm I X → X 13 = la → Y 12 = wo →
    ∃ I' X' Y', (∀ j, j ≠ 11 → j ≠ 14 → I' j = I j) ∧ (∀ j, j ≠ 13 → X' j = X j) ∧ (∀ j, j ≠ 12 → j ≠ 25 → Y' j = Y j) ∧ q_CMm I' X' ∧ (match q_lay (q_wds Js fo) ad (fun x w => lN (q_wv B l (q_LT Ls) L Js fo ad x w)) (Ls.drop i) la wo with
      | .inl (k, p) => F_X8_layDown_2 κ fuel (some (b + 21)) (nI i) (q_H b (I, R, X, Y, Z) M O D, s) = some (.inl 0, (q_H b (I', R, X', Y', Z) M O D, s)) ∧ I' 14 2 = nI k ∧ I' 14 3 = nI p
      | .inr (la', wo') => F_X8_layDown_2 κ fuel (some (b + 21)) (nI i) (q_H b (I, R, X, Y, Z) M O D, s) = some (.inl 1, (q_H b (I', R, X', Y', Z) M O D, s)) ∧ I' 14 = I 14 ∧ X' 13 = la' ∧ Y' 12 = wo') := by
  intro d
  induction d with
  | zero =>
    intro fuel i I X Y la wo h1 h2 hEn hP hT hYL hM hX hY
    obtain ⟨g, rfl⟩ : ∃ g, fuel = g + 1 := ⟨fuel - 1, by omega⟩
    have h3 : Ls.length ≤ i := by omega
    have sz := q_size22 (κ := κ) (b := b) (R := R) (X := X) (Y := Y) (Z := Z) (M := M) (O := O) (D := D) (s := s) hP.1.1
    have le : (nI Ls.length ≤ nI i) = True := eq_true (nI_le h3 (by omega))
    refine ⟨I, X, Y, fun _ _ _ => rfl, fun _ _ => rfl, fun _ _ _ => rfl, hM, ?_⟩
    rw [List.drop_eq_nil_of_le h3, q_lay]
    refine ⟨?_, rfl, hX, hY⟩
    rw [F_X8_layDown_2]
    simp (disch := first | rfl | omega | decide | exact Nat.le_of_ble_eq_true rfl) only [↓q_br, q_rt, q_rz, q_gd, q_ca, ↓reduceIte, F_X8_layDown_2B, ↓q_gA_21_0, ↓q_gA_21_4, ↓q_is_14, ↓q_is_21, ↓q_is_22, ↓q_is_23, ↓q_is_22, sz, le, or_true]
  | succ d ih =>
    intro fuel i I X Y la wo h1 h2 hEn hP hT hYL hM hX hY
    obtain ⟨g, rfl⟩ : ∃ g, fuel = g + 1 := ⟨fuel - 1, by omega⟩
    have hi9 : i < Ls.length := by omega
    have hzt := hT.2.2.1
    have hl := hT.2.1
    have hwf : ∀ i, i < l.length → (q_tok l i).1 ≤ 4 := fun i hi => (hT.2.2.2.2.1 i _ (q_tok_s hi)).1
    have hEn0 := hEn
    obtain ⟨hC, hCM, h84, h96, hJk⟩ := hEn0
    have sz := q_size22 (κ := κ) (b := b) (R := R) (X := X) (Y := Y) (Z := Z) (M := M) (O := O) (D := D) (s := s) hP.1.1
    have gt := q_get22 (κ := κ) (b := b) (X := X) (Y := Y) (Z := Z) (M := M) (O := O) (s := s) hP.1 hi9
    have le : (nI Ls.length ≤ nI i) = False := eq_false (nI_ge hi9 (by omega))
    obtain ⟨⟨o1, o2, o3, o4⟩, -⟩ := hP.2.2.1 i hi9
    have ex : (xx i).1 = q_lg Ls i := hP.2.2.2.1 i hi9
    have xm := q_lg_m hi9
    have xa := hA i hi9
    have xw : q_xw (xx i) = nI (q_wds Js fo (q_lg Ls i)) := by rw [q_CF_w (hF i hi9), ex]
    have hb4 := hB _ xm
    obtain ⟨x, hx⟩ : ∃ x, x = q_lg Ls i := ⟨_, rfl⟩
    have eo : b + 66 < aa i ∧ D (aa i) = some (.inr (.inl (6, [.int (nI (q_sS x)), .int (nI (q_sF x)), .int (nI (q_sH x)), .int (q_xo (xx i)), .ref (aa i + 1), .int (q_xf (xx i)), .int (nI (q_wds Js fo x)), .int (nI (ad (q_sF x)))]))) := ⟨by omega, by rw [hx, ← xa, ← xw, ← ex]; exact o3⟩
    rw [q_lg_d hi9, q_lay, ← hx]
    rw [← hx] at hb4 xm
    have b8 : q_sS x ≤ 3 := by
      obtain ⟨LT, t, ht, hx9⟩ := hXP _ xm
      exact (q_ln1_b hwf hx9 ht).2.2.2.2.2.2.2.1
    have fr := q_isFree_2 (κ := κ) (R := R) (Z := Z) (M := M) (O := O) (s := s) (I := I) (X := X) (Y := Y) eo hb4 (q_wds Js fo x) q_fu 0 (by omega) (by unfold q_fu; omega)
    rw [nI_0, hX] at fr
    have fre : F_X8_isFree κ (some (b + 21)) (some (aa i)) (q_H b (I, R, X, Y, Z) M O D, s) = some (.inl (q_b (q_free la (ad (q_sF x)) (q_wds Js fo x) 0)), (q_H b (I, R, X, Y, Z) M O D, s)) := fr
    have n1 : (nI (q_sS x) = (1 : Int32)) = (q_sS x = 1) := propext (nI_eq (b := 1) (by omega) (by decide))
    have n2 : (nI (q_sS x) = (2 : Int32)) = (q_sS x = 2) := propext (nI_eq (b := 2) (by omega) (by decide))
    cases hfr : q_free la (ad (q_sF x)) (q_wds Js fo x) 0 with
    | false =>
      rw [hfr] at fre
      rw [if_neg (by decide)]
      obtain ⟨I2, hI2⟩ : ∃ I2, I2 = q_ft I 8 (nI (q_sF x)) := ⟨_, rfl⟩
      have ia : q_IA I I2 := by rw [hI2]; exact q_IA_f
      obtain ⟨z1, z2⟩ := q_ft_2 (I := I) (k := 8) (p := nI (q_sF x))
      rw [← hI2] at z1 z2
      have fa := q_failAt (κ := κ) (b := b) (I := I) (R := R) (X := X) (Y := Y) (Z := Z) (M := M) (O := O) (D := D) (s := s) (k := 8) (p := nI (q_sF x))
      rw [← hI2] at fa
      refine ⟨I2, X, Y, fun j _ j2 => ia j j2, fun _ _ => rfl, fun _ _ _ => rfl, ⟨by rw [ia 11 (by decide)]; exact hM.1, hM.2⟩, ?_, z1, z2⟩
      rw [F_X8_layDown_2]
      simp (disch := first | rfl | omega | decide | exact Nat.le_of_ble_eq_true rfl) only [↓q_br, q_rt, q_rz, q_gd, q_ca, ↓reduceIte, F_X8_layDown_2B, ↓q_gA_21_0, ↓q_gA_21_4, ↓q_is_14, ↓q_is_21, ↓q_is_22, ↓q_is_23, ↓q_is_22, ↓q_is_21, ↓q_is_14, sz, le, gt, qd_S eo, fre, q_b_0, not_true_eq_false, qd_I eo (k := 1) (v := nI (q_sF x)) rfl, fa, true_or]
    | true =>
      rw [hfr] at fre
      rw [if_pos rfl]
      -- the words of the line, then the rest
      have go : ∀ (I1 X1 : Nat → Nat → Int32) (Y1 : Nat → Nat → Int64), F_X8_layDown_2 κ (g + 1) (some (b + 21)) (nI i) (q_H b (I, R, X, Y, Z) M O D, s) = F_X8_layDown_2 κ g (some (b + 21)) (nI (i + 1)) (q_H b (I1, R, X1, Y1, Z) M O D, s) → q_CQ I I1 X X1 Y Y1 (q_pL (ad (q_sF x)) (q_wds Js fo x) la) (q_pW (ad (q_sF x)) (q_wds Js fo x) (fun w => lN (q_wv B l (q_LT Ls) L Js fo ad x w)) wo) → ∃ I' X' Y', (∀ j, j ≠ 11 → j ≠ 14 → I' j = I j) ∧ (∀ j, j ≠ 13 → X' j = X j) ∧ (∀ j, j ≠ 12 → j ≠ 25 → Y' j = Y j) ∧ q_CMm I' X' ∧ (match q_lay (q_wds Js fo) ad (fun x w => lN (q_wv B l (q_LT Ls) L Js fo ad x w)) (Ls.drop (i + 1)) (q_pL (ad (q_sF x)) (q_wds Js fo x) la) (q_pW (ad (q_sF x)) (q_wds Js fo x) (fun w => lN (q_wv B l (q_LT Ls) L Js fo ad x w)) wo) with
          | .inl (k, p) => F_X8_layDown_2 κ (g + 1) (some (b + 21)) (nI i) (q_H b (I, R, X, Y, Z) M O D, s) = some (.inl 0, (q_H b (I', R, X', Y', Z) M O D, s)) ∧ I' 14 2 = nI k ∧ I' 14 3 = nI p
          | .inr (la', wo') => F_X8_layDown_2 κ (g + 1) (some (b + 21)) (nI i) (q_H b (I, R, X, Y, Z) M O D, s) = some (.inl 1, (q_H b (I', R, X', Y', Z) M O D, s)) ∧ I' 14 = I 14 ∧ X' 13 = la' ∧ Y' 12 = wo') := by
        intro I1 X1 Y1 st cq
        obtain ⟨c1, c2, c3, c4, c5, c6⟩ := cq
        have hP1 : q_PR κ b n0 n D I1 R X1 B l Ls aa xx c22 c23 := by
          obtain ⟨p1, p2, p3, p4, p5, p6, p7⟩ := hP
          refine ⟨?_, ?_, p3, p4, p5, by rw [c2 24 (by decide)]; exact p6, p7⟩
          · unfold q_AL at p1 ⊢
            rw [c1 22 (by decide)]
            exact p1
          · unfold q_AL at p2 ⊢
            rw [c1 23 (by decide)]
            exact p2
        have hT1 : q_TC B l zt I1 X1 Y1 := by
          obtain ⟨q1, q2, q3, q4, q5, q6, q7⟩ := hT
          refine ⟨by rw [c1 2 (by decide), q1], q2, q3, ?_, q5, by rw [c2 3 (by decide)]; exact q6, q7⟩
          unfold q_CK at q4 ⊢
          rw [c2 4 (by decide), c2 5 (by decide), c2 6 (by decide), c3 7 (by decide) (by decide)]
          exact q4
        have hEn1 : q_Env b n0 D0 Z I1 L z Js := ⟨hC, by unfold q_CMk at hCM ⊢; rw [c1 8 (by decide)]; exact hCM, by rw [c1 8 (by decide)]; exact h84, h96, hJk⟩
        obtain ⟨I', X', Y', r1, r2, r3, r4, r5⟩ := ih g (i + 1) I1 X1 Y1 _ _ (by omega) (by omega) hEn1 hP1 hT1 (fun j hj hs => by unfold q_YL; rw [c3 7 (by decide) (by decide)]; exact hYL j hj hs) c6 c4 c5
        refine ⟨I', X', Y', fun j j1 j2 => by rw [r1 j j1 j2, c1 j j1], fun j j1 => by rw [r2 j j1, c2 j j1], fun j j1 j2 => by rw [r3 j j1 j2, c3 j j1 j2], r4, ?_⟩
        rw [st]
        rw [c1 14 (by decide)] at r5
        exact r5
      by_cases d1 : q_sS x = 1
      · have t1 : (q_sS x = 1) = True := eq_true d1
        obtain ⟨hE, hy1⟩ := q_XP_E hwf (hXP _ xm) d1
        have hy := hYL i hi9 (by rw [← hx]; exact d1)
        rw [← hx] at hy ex
        obtain ⟨F1, F2, F3, ps, F4, F5⟩ := (hF i hi9).1 (by rw [ex]; exact d1)
        rw [ex] at F1 F2 F3 F4 F5
        have jm : q_jg Js (fo (q_sF x)) ∈ Js := List.mem_of_getElem? (q_jg_e F1)
        have ew : q_wds Js fo x = (q_jg Js (fo (q_sF x))).2.2.2.length := by unfold q_wds; rw [if_pos d1]
        have la5 : D (aa i + 1) = some (.inl (1, 5, .inl (q_xp (xx i)))) := by
          rw [o4]
          unfold q_La
          rw [if_pos (by rw [ex]; exact d1)]
        have hDD : ∀ x, b < x → x < n0 → q_t7 (D0 x) = false → D x = D0 x := fun x _ hx h7 => hS x hx h7
        obtain ⟨ja, j1, j2⟩ := q_CIs_m7 hC (Z' := Z) (Nat.le_refl _) hDD rfl rfl _ _ (q_jg_e F1)
        have f96 : fo (q_sF x) < 96 := by omega
        have hCM' := q_CMk_m7 hCM (I' := I) (Z' := Z) (Nat.le_refl _) hDD rfl rfl
        obtain ⟨I1, X1, Y1, w1, w2⟩ := q_layI_15 (κ := κ) (R := R) (M := M) (O := O) (s := s) (sf := q_sF x) (ad := ad) (ps := ps) (X := X) (la := la) (wo := wo) (v := fun w => lN (q_wv B l (q_LT Ls) L Js fo ad x w)) j2 hCM' (q_kbL hCM') hz hE (by omega) hP.2.1 (q_PR_A hP hn0 hA) eo.1 eo.2 la5 F5 (q_isf_g hE (hJk _ jm) F4).2.2 (by rw [← ew]; exact hb4) (fun w c hc => by
          unfold q_wv
          rw [if_pos d1, F4, List.getD_eq_getElem?_getD, hc]
          rfl) hM hX (q_jg Js (fo (q_sF x))).2.2.1.length q_fu 0 Y (by omega) (by have := j2.2.2.1; unfold q_fu; omega) hT hy hY (fun u hu => by omega)
        rw [nI_0] at w1
        rw [← ew] at w2
        have li : F_X8_layInstruction κ (some (b + 21)) (some (aa i)) (q_H b (I, R, X, Y, Z) M O D, s) = some (.inl (), (q_H b (I1, R, X1, Y1, Z) M O D, s)) := by
          rw [← w1]
          simp (disch := first | rfl | omega | decide | exact Nat.le_of_ble_eq_true rfl) only [↓q_br, q_rt, q_rz, q_gd, q_ca, ↓reduceIte, F_X8_layInstruction, ↓q_gA_21_2, ↓q_gA_8_1, ↓q_lA_10, qd_I eo (k := 5) (v := nI (fo (q_sF x))) (by rw [← F2]; rfl), j1]
        refine go I1 X1 Y1 ?_ w2
        rw [F_X8_layDown_2]
        simp (disch := first | rfl | omega | decide | exact Nat.le_of_ble_eq_true rfl) only [↓q_br, q_rt, q_rz, q_gd, q_ca, ↓reduceIte, F_X8_layDown_2B, F_X8_layDown_77, ↓q_gA_21_0, ↓q_gA_21_4, ↓q_is_14, ↓q_is_21, ↓q_is_22, ↓q_is_23, ↓q_is_22, ↓q_is_21, sz, le, gt, qd_S eo, fre, q_b_0, Bool.true_eq_false, not_false_eq_true, qd_I eo (k := 0) (v := nI (q_sS x)) rfl, n1, t1, not_true_eq_false, li, nI_1]
      · have t1 : (q_sS x = 1) = False := eq_false d1
        have ew : q_wds Js fo x = q_sW x := by unfold q_wds; rw [if_neg d1]
        by_cases d2 : q_sS x = 2
        · have t2 : (q_sS x = 2) = True := eq_true d2
          have nums := q_XP_2 hT.2.2.2.2.1 hz (hXP _ xm) d2
          obtain ⟨LT9, t9, ht9, hx9⟩ := hXP _ xm
          have bb := q_ln1_b hwf hx9 ht9
          have be := (bb.2.2.2.2.2.2.2.2.2.1 d2).1
          have bl := bb.2.2.2.2.1
          obtain ⟨I1, X1, Y1, w1, w2⟩ := q_layN_9 (κ := κ) (R := R) (Z := Z) (M := M) (O := O) (s := s) (hd := q_sH x) (la := la) (wo := wo) (v := fun w => lN (q_wv B l (q_LT Ls) L Js fo ad x w)) eo hb4 (by rw [ew]; omega) (q_wds Js fo x) q_fu 0 I X Y (by omega) (by unfold q_fu; omega) hM (by rw [q_pL_0, hX]) (by rw [q_pW_0, hY]) (fun u hu => by
            rw [ew] at hu
            obtain ⟨m1, m2, m3⟩ := nums u hu
            rw [q_TC_wo hT (q_tok_lt (by omega)) (Or.inl m1)]
            unfold q_wv
            rw [if_neg d1]
            exact m2)
          rw [nI_0] at w1
          have ad2 : nI (q_sH x) + (2 : Int32) = nI (q_sH x + 2) := nI_add _ 2
          have li : F_X8_layNumbers κ (some (b + 21)) (some (aa i)) (q_H b (I, R, X, Y, Z) M O D, s) = some (.inl (), (q_H b (I1, R, X1, Y1, Z) M O D, s)) := by
            rw [← w1]
            simp (disch := first | rfl | omega | decide | exact Nat.le_of_ble_eq_true rfl) only [↓q_br, q_rt, q_rz, q_gd, q_ca, ↓reduceIte, F_X8_layNumbers, qd_I eo (k := 2) (v := nI (q_sH x)) rfl, ad2]
          refine go I1 X1 Y1 ?_ w2
          rw [F_X8_layDown_2]
          simp (disch := first | rfl | omega | decide | exact Nat.le_of_ble_eq_true rfl) only [↓q_br, q_rt, q_rz, q_gd, q_ca, ↓reduceIte, F_X8_layDown_2B, F_X8_layDown_77, ↓q_gA_21_0, ↓q_gA_21_4, ↓q_is_14, ↓q_is_21, ↓q_is_22, ↓q_is_23, ↓q_is_22, ↓q_is_21, sz, le, gt, qd_S eo, fre, q_b_0, Bool.true_eq_false, not_false_eq_true, qd_I eo (k := 0) (v := nI (q_sS x)) rfl, n1, t1, n2, t2, not_true_eq_false, li, nI_1]
        · have t2 : (q_sS x = 2) = False := eq_false d2
          have w0 : q_wds Js fo x = 0 := by
            rw [ew]
            obtain ⟨LT9, t9, ht9, hx9⟩ := hXP _ xm
            exact (q_ln1_b hwf hx9 ht9).2.2.2.2.2.2.2.2.2.2.2 d2
          refine go I X Y ?_ ⟨fun _ _ => rfl, fun _ _ => rfl, fun _ _ _ => rfl, by rw [w0, q_pL_0, hX], by rw [w0, q_pW_0, hY], hM⟩
          rw [F_X8_layDown_2]
          simp (disch := first | rfl | omega | decide | exact Nat.le_of_ble_eq_true rfl) only [↓q_br, q_rt, q_rz, q_gd, q_ca, ↓reduceIte, F_X8_layDown_2B, F_X8_layDown_77, ↓q_gA_21_0, ↓q_gA_21_4, ↓q_is_14, ↓q_is_21, ↓q_is_22, ↓q_is_23, ↓q_is_22, ↓q_is_21, sz, le, gt, qd_S eo, fre, q_b_0, Bool.true_eq_false, not_false_eq_true, qd_I eo (k := 0) (v := nI (q_sS x)) rfl, n1, t1, n2, t2, nI_1]
end QLE
