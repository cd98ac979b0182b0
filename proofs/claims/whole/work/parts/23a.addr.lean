def q_wds (Js : List q_Ins) (fo : Nat → Nat) (x : q_Lin) : Nat := if q_sS x = 1 then (q_jg Js (fo (q_sF x))).2.2.2.length else q_sW x
def q_aup (ad : Nat → Nat) (x : q_Lin) (A : Nat) : Nat → Nat := if q_rea x = true then q_u1 ad (q_sF x) A else ad
/-- the addresses of the lines -/
def q_ad (l : List q_Tok) (wd : q_Lin → Nat) : List q_Lin → Nat → (Nat → Nat) → q_Out (Nat → Nat)
  | [], _, ad => .inr ad
  | x :: r, A, ad => if q_sS x = 3 then q_ad l wd r (q_vn l (q_sH x + 2)) (q_aup ad x A) else if A + wd x ≤ 4096 then q_ad l wd r (A + wd x) (q_aup ad x A) else .inl (3, q_sH x)
theorem q_ad_f {l : List q_Tok} {wd : q_Lin → Nat} : ∀ (Ls : List q_Lin) (A : Nat) (ad : Nat → Nat), A ≤ 4096 → (∀ x ∈ Ls, q_sS x = 3 → q_vn l (q_sH x + 2) ≤ 4096) → (∀ x ∈ Ls, ¬ q_rea x = true → wd x = 0) → q_ad l wd (Ls.filter q_rea) A ad = q_ad l wd Ls A ad := by
  intro Ls
  induction Ls with
  | nil => intro A ad _ _ _; rfl
  | cons x r ih =>
    intro A ad hA h3 h0
    have h3' := fun y hy => h3 y (List.mem_cons_of_mem _ hy)
    have h0' := fun y hy => h0 y (List.mem_cons_of_mem _ hy)
    by_cases hr : q_rea x = true
    · rw [List.filter_cons_of_pos hr, q_ad, q_ad]
      split
      · rename_i c3
        exact ih _ _ (h3 x List.mem_cons_self c3) h3' h0'
      · split
        · rename_i c4
          exact ih _ _ c4 h3' h0'
        · rfl
    · rw [List.filter_cons_of_neg hr, q_ad, if_neg (by rw [q_rea_0 hr]; decide), h0 x List.mem_cons_self hr, if_pos (by omega)]
      unfold q_aup
      rw [if_neg hr]
      exact ih _ _ hA h3' h0'
/-- a line that goes on elsewhere -/
theorem q_XP_3 {B : Nat → Int32} {l : List q_Tok} {z zt : Nat} {x : q_Lin} (hwf : q_WF B zt l) (h : q_XP B l z x) (h1 : q_sS x = 3) : (q_tok l (q_sH x + 2)).1 = 2 ∧ q_nv l (q_sH x + 2) = lN (q_vn l (q_sH x + 2)) ∧ q_vn l (q_sH x + 2) ≤ 4095 := by
  obtain ⟨LT, t, ht, hx⟩ := h
  have key : ∀ u, q_num1 l u 4095 = .inr (q_vn l u) → (q_tok l u).1 = 2 ∧ q_nv l u = lN (q_vn l u) ∧ q_vn l u ≤ 4095 := by
    intro u hu
    rcases q_num1_c (l := l) (t := u) (hi := 4095) with ⟨k, hk, -⟩ | ⟨-, e1, e2, e3⟩
    · rw [hk] at hu; cases hu
    · obtain ⟨v, v1, v2⟩ := (hwf u _ (q_tok_s (q_tok_lt (by omega)))).2.2.2.2.1 e1
      have e : q_nv l u = lN v := v2
      have ev : q_vn l u = v := by
        unfold q_vn
        rw [e, q_lN_i (by omega)]
        omega
      rw [ev]
      rw [e, q_lN_le (by omega) (by decide)] at e3
      exact ⟨e1, e, e3⟩
  unfold q_ln1 at hx
  split at hx
  · cases hx
  · cases hs : q_st1 B l z (q_hd l t) with
    | inl e => rw [hs] at hx; cases hx
    | inr y =>
      rw [hs] at hx
      simp only at hx
      split at hx
      · cases hx
        show (q_tok l (q_hd l t + 2)).1 = 2 ∧ q_nv l (q_hd l t + 2) = lN (q_vn l (q_hd l t + 2)) ∧ q_vn l (q_hd l t + 2) ≤ 4095
        unfold q_st1 at hs
        split at hs
        · cases hs; cases h1
        · split at hs
          · split at hs
            · cases hn : q_nms l (2 ^ z - 1) (l.length + 1) (q_hd l t + 2) 0 with
              | inl e => rw [hn] at hs; cases hs
              | inr w => rw [hn] at hs; cases hs; cases h1
            · split at hs
              · cases hn : q_num1 l (q_hd l t + 2) 4095 with
                | inl e => rw [hn] at hs; cases hs
                | inr w =>
                  rcases q_num1_c (l := l) (t := q_hd l t + 2) (hi := 4095) with ⟨k, hk, -⟩ | ⟨hk, -⟩
                  · rw [hk] at hn; cases hn
                  · exact key _ hk
              · cases hs
          · cases hs
            cases h1
      · cases hx
theorem q_CF_w {B : Nat → Int32} {l : List q_Tok} {LT : List Nat} {L : List q_Knd} {Js : List q_Ins} {fo : Nat → Nat} {x : q_Lx} (h : q_CF B l LT L Js fo x) : q_xw x = nI (q_wds Js fo x.1) := by
  unfold q_wds
  by_cases c : q_sS x.1 = 1
  · rw [if_pos c]; exact (h.1 c).2.2.1
  · rw [if_neg c]; exact h.2 c
theorem q_vn32 {v : Nat} (h : v < 2 ^ 31) : (lN v).toInt32 = nI v := by
  rw [← nI_l h]
  exact Int32.toInt32_toInt64 _
section QGA
variable {κ : Nat → Nat} {b : Nat} {B : Nat → Int32} {l : List q_Tok} {zt : Nat} {I : Nat → Nat → Int32} {R : Nat → Nat → Option Nat} {X : Nat → Nat → Int32} {Y : Nat → Nat → Int64} {Z : Nat → Nat → Option Nat} {M : q_MT} {O : Nat → Int64} {s : Nat × Nat}
theorem q_give_4 {D0 : q_Mem} {n0 n z c22 c23 : Nat} {L : List q_Knd} {Js : List q_Ins} {Ls : List q_Lin} {LT : List Nat} {aa : Nat → Nat} {fo : Nat → Nat} (hn0 : b + 66 < n0) (hXP : ∀ x ∈ Ls, q_XP B l z x) (hre : ∀ x ∈ Ls, q_rea x = true) (hIN : q_INC Ls) (hLs : Ls.length ≤ 6100) (hW : ∀ x ∈ Ls, q_wds Js fo x ≤ 6100) (hT : q_TC B l zt I X Y) : ∀ d fuel i A (ad : Nat → Nat) (D : q_Mem) (xx : Nat → q_Lx), i + d = Ls.length → d < fuel → A ≤ 4096 → q_PR κ b n0 n D I R X B l Ls aa xx c22 c23 → q_S8 n0 D0 D → (∀ j, j < Ls.length → q_CF B l LT L Js fo (xx j)) → (∀ j, j < i → q_xa (xx j) = nI (ad (q_sF (q_lg Ls j)))) →
    ∃ I' D' xx', q_IA I I' ∧ q_PR κ b n0 n D' I' R X B l Ls aa xx' c22 c23 ∧ q_S8 n0 D0 D' ∧ (∀ j, j < Ls.length → q_CF B l LT L Js fo (xx' j)) ∧ F_X8_giveAddresses_4 κ fuel (some (b + 21)) (nI A) (nI i) (q_H b (I, R, X, Y, Z) M O D, s) = some (.inl (), (q_H b (I', R, X, Y, Z) M O D', s)) ∧ (match q_ad l (q_wds Js fo) (Ls.drop i) A ad with
      | .inl (k, p) => I' 14 2 = nI k ∧ I' 14 3 = nI p
      | .inr ad' => I' = I ∧ ∀ j, j < Ls.length → q_xa (xx' j) = nI (ad' (q_sF (q_lg Ls j)))) := by
  have hzt := hT.2.2.1
  have hl := hT.2.1
  have hwf : ∀ i, i < l.length → (q_tok l i).1 ≤ 4 := fun i hi => (hT.2.2.2.2.1 i _ (q_tok_s hi)).1
  intro d
  induction d with
  | zero =>
    intro fuel i A ad D xx h1 h2 hA hP hS hC hlo
    obtain ⟨g, rfl⟩ : ∃ g, fuel = g + 1 := ⟨fuel - 1, by omega⟩
    have h3 : Ls.length ≤ i := by omega
    have sz := q_size22 (κ := κ) (b := b) (R := R) (X := X) (Y := Y) (Z := Z) (M := M) (O := O) (D := D) (s := s) hP.1.1
    have le : (nI Ls.length ≤ nI i) = True := eq_true (nI_le h3 (by omega))
    refine ⟨I, D, xx, fun _ _ => rfl, hP, hS, hC, ?_, ?_⟩
    · rw [F_X8_giveAddresses_4]
      simp (disch := first | rfl | omega | decide | exact Nat.le_of_ble_eq_true rfl) only [↓q_br, q_rt, q_rz, q_gd, q_ca, ↓reduceIte, F_X8_giveAddresses_4B, ↓q_gA_21_1, ↓q_gA_21_4, ↓q_gA_2_4, ↓q_is_22, ↓q_is_23, ↓q_lL_7, ↓q_is_22, sz, le]
    · rw [List.drop_eq_nil_of_le h3, q_ad]
      exact ⟨rfl, fun j hj => hlo j (by omega)⟩
  | succ d ih =>
    intro fuel i A ad D xx h1 h2 hA hP hS hC hlo
    obtain ⟨g, rfl⟩ : ∃ g, fuel = g + 1 := ⟨fuel - 1, by omega⟩
    have hi9 : i < Ls.length := by omega
    have sz := q_size22 (κ := κ) (b := b) (R := R) (X := X) (Y := Y) (Z := Z) (M := M) (O := O) (D := D) (s := s) hP.1.1
    have gt := q_get22 (κ := κ) (b := b) (X := X) (Y := Y) (Z := Z) (M := M) (O := O) (s := s) hP.1 hi9
    have le : (nI Ls.length ≤ nI i) = False := eq_false (nI_ge hi9 (by omega))
    obtain ⟨⟨o1, o2, o3, o4⟩, -⟩ := hP.2.2.1 i hi9
    have ex : (xx i).1 = q_lg Ls i := hP.2.2.2.1 i hi9
    have eo : b + 66 < aa i ∧ D (aa i) = some (.inr (.inl (6, [.int (nI (q_sS (xx i).1)), .int (nI (q_sF (xx i).1)), .int (nI (q_sH (xx i).1)), .int (q_xo (xx i)), .ref (aa i + 1), .int (q_xf (xx i)), .int (q_xw (xx i)), .int (q_xa (xx i))]))) := ⟨by omega, o3⟩
    have st7 : ([.int (nI (q_sS (xx i).1)), .int (nI (q_sF (xx i).1)), .int (nI (q_sH (xx i).1)), .int (q_xo (xx i)), .ref (aa i + 1), .int (q_xf (xx i)), .int (q_xw (xx i)), .int (q_xa (xx i))] : List Value).set 7 (.int (nI A)) = [.int (nI (q_sS (xx i).1)), .int (nI (q_sF (xx i).1)), .int (nI (q_sH (xx i).1)), .int (q_xo (xx i)), .ref (aa i + 1), .int (q_xf (xx i)), .int (q_xw (xx i)), .int (nI A)] := rfl
    obtain ⟨D1, hD1⟩ : ∃ D1, D1 = q_up D (aa i) (.inr (.inl (6, [.int (nI (q_sS (xx i).1)), .int (nI (q_sF (xx i).1)), .int (nI (q_sH (xx i).1)), .int (q_xo (xx i)), .ref (aa i + 1), .int (q_xf (xx i)), .int (q_xw (xx i)), .int (nI A)]))) := ⟨_, rfl⟩
    obtain ⟨x', hx'⟩ : ∃ x' : q_Lx, x' = ((xx i).1, (q_xo (xx i), q_xf (xx i), q_xw (xx i), nI A), q_xp (xx i)) := ⟨_, rfl⟩
    have up := q_PR_u (x := x') hP hi9 (by rw [hx']) (by rw [hx'])
    have e1 : q_up D (aa i + 1) (q_La x') = D := q_up_id (by rw [o4, hx']; rfl)
    have e2 : q_Lc (aa i) x' = .inr (.inl (6, [.int (nI (q_sS (xx i).1)), .int (nI (q_sF (xx i).1)), .int (nI (q_sH (xx i).1)), .int (q_xo (xx i)), .ref (aa i + 1), .int (q_xf (xx i)), .int (q_xw (xx i)), .int (nI A)])) := by rw [hx']; rfl
    rw [e1, e2, ← hD1] at up
    have s8 : q_S8 n0 D0 D1 := by rw [hD1]; exact q_S8_up hS o1
    have eo1 : b + 66 < aa i ∧ D1 (aa i) = some (.inr (.inl (6, [.int (nI (q_sS (xx i).1)), .int (nI (q_sF (xx i).1)), .int (nI (q_sH (xx i).1)), .int (q_xo (xx i)), .ref (aa i + 1), .int (q_xf (xx i)), .int (q_xw (xx i)), .int (nI A)]))) := ⟨by omega, by rw [hD1, q_up_s]⟩
    have hC1 : ∀ j, j < Ls.length → q_CF B l LT L Js fo (q_u1 xx i x' j) := fun j hj => by
      by_cases hji : j = i
      · rw [hji, q_u1_s, hx']
        exact hC i hi9
      · rw [q_u1_n _ _ hji]
        exact hC j hj
    have hlo1 : ∀ j, j < i + 1 → q_xa (q_u1 xx i x' j) = nI (q_aup ad (q_lg Ls i) A (q_sF (q_lg Ls j))) := fun j hj => by
      unfold q_aup
      rw [if_pos (hre _ (q_lg_m hi9))]
      by_cases hji : j = i
      · rw [hji, q_u1_s, q_u1_s, hx']
      · rw [q_u1_n _ _ hji, q_u1_n _ _ (q_INC_n hIN (by omega) hi9 hji)]
        exact hlo j (by omega)
    have xw : q_xw (xx i) = nI (q_wds Js fo (q_lg Ls i)) := by rw [q_CF_w (hC i hi9), ex]
    have hw := hW _ (q_lg_m hi9)
    have b8 : q_sS (q_lg Ls i) ≤ 3 := by
      obtain ⟨LT, t, ht, hx⟩ := hXP _ (q_lg_m hi9)
      exact (q_ln1_b hwf hx ht).2.2.2.2.2.2.2.1
    have n2 : (nI (q_sS (xx i).1) = (3 : Int32)) = (q_sS (q_lg Ls i) = 3) := by rw [ex]; exact propext (nI_eq (b := 3) (by omega) (by decide))
    rw [q_lg_d hi9, q_ad]
    by_cases c3 : q_sS (q_lg Ls i) = 3
    · have t3 : (q_sS (q_lg Ls i) = 3) = True := eq_true c3
      obtain ⟨y1, y2, y3⟩ := q_XP_3 hT.2.2.2.2.1 (hXP _ (q_lg_m hi9)) c3
      have tl : q_sH (q_lg Ls i) + 2 < l.length := q_tok_lt (by omega)
      have wo : Y 7 (q_sH (q_lg Ls i) + 2) = lN (q_vn l (q_sH (q_lg Ls i) + 2)) := by rw [q_TC_wo hT tl (Or.inl y1)]; exact y2
      have ad2 : nI (q_sH (q_lg Ls i)) + (2 : Int32) = nI (q_sH (q_lg Ls i) + 2) := nI_add _ 2
      have l6 : q_sH (q_lg Ls i) + 2 < 6003 := by omega
      have v32 : (lN (q_vn l (q_sH (q_lg Ls i) + 2))).toInt32 = nI (q_vn l (q_sH (q_lg Ls i) + 2)) := q_vn32 (by omega)
      have w0 : q_wds Js fo (q_lg Ls i) = 0 := by
        unfold q_wds
        rw [if_neg (by omega)]
        obtain ⟨LT, t, ht, hx⟩ := hXP _ (q_lg_m hi9)
        exact (q_ln1_b hwf hx ht).2.2.2.2.2.2.2.2.2.2.2 (by omega)
      have xw0 : q_xw (xx i) = 0 := by rw [xw, w0]; rfl
      have z0 : ((0 : Int32) ≤ 0) = True := eq_true (by decide)
      rw [if_pos c3]
      obtain ⟨I', D', xx', r1, r2, r3, r4, r5, r6⟩ := ih g (i + 1) (q_vn l (q_sH (q_lg Ls i) + 2)) (q_aup ad (q_lg Ls i) A) D1 (q_u1 xx i x') (by omega) (by omega) (by omega) up s8 hC1 hlo1
      refine ⟨I', D', xx', r1, r2, r3, r4, ?_, r6⟩
      rw [F_X8_giveAddresses_4]
      simp (disch := first | rfl | omega | decide | exact Nat.le_of_ble_eq_true rfl) only [↓q_br, q_rt, q_rz, q_gd, q_ca, ↓reduceIte, F_X8_giveAddresses_4B, F_X8_giveAddresses_56, F_X8_giveAddresses_90, ↓q_gA_21_0, ↓q_gA_21_1, ↓q_gA_21_4, ↓q_gA_2_4, ↓q_is_14, ↓q_is_22, ↓q_is_23, ↓q_lL_7, ↓q_is_22, sz, le, gt, qd_S eo, qd_W eo (k := 7) (v := .int (nI A)) (by decide : 7 < 8), st7, ← hD1, qd_I eo1 (k := 0) (v := nI (q_sS (xx i).1)) rfl, n2, t3, not_true_eq_false, qd_I eo1 (k := 2) (v := nI (q_sH (q_lg Ls i))) (by rw [← ex]; rfl), qd_I eo1 (k := 6) (v := (0 : Int32)) (by rw [← xw0]; rfl), ad2, wo, v32, z0, Int32.add_zero, nI_1, r5]
    · have t3 : (q_sS (q_lg Ls i) = 3) = False := eq_false c3
      have n2x : (nI (q_sS (q_lg Ls i)) = (3 : Int32)) = False := eq_false (fun h9 => c3 ((nI_eq (b := 3) (by omega) (by decide)).mp h9))
      rw [if_neg c3]
      have sm : nI A + q_xw (xx i) = nI (A + q_wds Js fo (q_lg Ls i)) := by rw [xw, nI_add]
      by_cases c4 : A + q_wds Js fo (q_lg Ls i) ≤ 4096
      · have le4 : (nI (A + q_wds Js fo (q_lg Ls i)) ≤ (4096 : Int32)) = True := eq_true (nI_le (b := 4096) c4 (by decide))
        rw [if_pos c4]
        obtain ⟨I', D', xx', r1, r2, r3, r4, r5, r6⟩ := ih g (i + 1) (A + q_wds Js fo (q_lg Ls i)) (q_aup ad (q_lg Ls i) A) D1 (q_u1 xx i x') (by omega) (by omega) (by omega) up s8 hC1 hlo1
        refine ⟨I', D', xx', r1, r2, r3, r4, ?_, r6⟩
        rw [F_X8_giveAddresses_4]
        simp (disch := first | rfl | omega | decide | exact Nat.le_of_ble_eq_true rfl) only [↓q_br, q_rt, q_rz, q_gd, q_ca, ↓reduceIte, F_X8_giveAddresses_4B, F_X8_giveAddresses_56, F_X8_giveAddresses_90, ↓q_gA_21_0, ↓q_gA_21_1, ↓q_gA_21_4, ↓q_gA_2_4, ↓q_is_14, ↓q_is_22, ↓q_is_23, ↓q_lL_7, ↓q_is_22, sz, le, gt, qd_S eo, qd_W eo (k := 7) (v := .int (nI A)) (by decide : 7 < 8), st7, ← hD1, qd_I eo1 (k := 0) (v := nI (q_sS (xx i).1)) rfl, n2, t3, not_false_eq_true, qd_I eo1 (k := 6) (v := q_xw (xx i)) rfl, sm, le4, nI_1, r5, ite_self]
      · have le4 : (nI (A + q_wds Js fo (q_lg Ls i)) ≤ (4096 : Int32)) = False := eq_false (nI_ge (a := 4096) (by omega) (by omega))
        have pz : (q_xw (xx i) ≤ 0) = False := eq_false (by rw [xw]; exact nI_ge (a := 0) (by omega) (by omega))
        rw [if_neg c4]
        obtain ⟨I2, hI2⟩ : ∃ I2, I2 = q_ft I 3 (nI (q_sH (q_lg Ls i))) := ⟨_, rfl⟩
        have ia : q_IA I I2 := by rw [hI2]; exact q_IA_f
        obtain ⟨z1, z2⟩ := q_ft_2 (I := I) (k := 3) (p := nI (q_sH (q_lg Ls i)))
        rw [← hI2] at z1 z2
        have up2 : q_PR κ b n0 n D1 I2 R X B l Ls aa (q_u1 xx i x') c22 c23 := by
          obtain ⟨p1, p2, p3⟩ := up
          refine ⟨?_, ?_, p3⟩
          · unfold q_AL at p1 ⊢
            rw [ia 22 (by decide)]
            exact p1
          · unfold q_AL at p2 ⊢
            rw [ia 23 (by decide)]
            exact p2
        have fa := q_failAt (κ := κ) (b := b) (I := I) (R := R) (X := X) (Y := Y) (Z := Z) (M := M) (O := O) (D := D1) (s := s) (k := 3) (p := nI (q_sH (q_lg Ls i)))
        rw [← hI2] at fa
        refine ⟨I2, D1, q_u1 xx i x', ia, up2, s8, hC1, ?_, z1, z2⟩
        rw [F_X8_giveAddresses_4]
        simp (disch := first | rfl | omega | decide | exact Nat.le_of_ble_eq_true rfl) only [↓q_br, q_rt, q_rz, q_gd, q_ca, ↓reduceIte, F_X8_giveAddresses_4B, F_X8_giveAddresses_56, F_X8_giveAddresses_90, ↓q_gA_21_0, ↓q_gA_21_1, ↓q_gA_21_4, ↓q_gA_2_4, ↓q_is_14, ↓q_is_22, ↓q_is_23, ↓q_lL_7, ↓q_is_22, ↓q_is_14, sz, le, gt, qd_S eo, qd_W eo (k := 7) (v := .int (nI A)) (by decide : 7 < 8), st7, ← hD1, qd_I eo1 (k := 0) (v := nI (q_sS (xx i).1)) rfl, n2, t3, not_false_eq_true, qd_I eo1 (k := 6) (v := q_xw (xx i)) rfl, sm, pz, le4, qd_I eo1 (k := 2) (v := nI (q_sH (q_lg Ls i))) (by rw [← ex]; rfl), fa]
end QGA
