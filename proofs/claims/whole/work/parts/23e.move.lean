def q_fit (B : Nat → Int32) (l : List q_Tok) (LT : List Nat) (L : List q_Knd) (Js : List q_Ins) (ad : Nat → Nat) (x : q_Lin) (j : Nat) : Bool := match q_isf B l LT L (q_jg Js j) (q_sH x) (q_sE x) with
  | none => true
  | some ps => q_fts B l LT L (q_jg Js j).2.2.1 ad (q_sF x) ps (q_jg Js j).2.2.1.length 0
/-- the lines that do not fit get their next form -/
def q_mm (fit : q_Lin → Nat → Bool) (nf : q_Lin → Nat → Option Nat) : List q_Lin → (Nat → Nat) → Bool → q_Out ((Nat → Nat) × Bool)
  | [], fo, mv => .inr (fo, mv)
  | x :: r, fo, mv => if q_sS x = 1 ∧ fit x (fo (q_sF x)) = false then (match nf x (fo (q_sF x) + 1) with
      | none => .inl (7, q_sH x)
      | some j => q_mm fit nf r (q_u1 fo (q_sF x) j) true) else q_mm fit nf r fo mv
theorem q_mm_f {fit : q_Lin → Nat → Bool} {nf : q_Lin → Nat → Option Nat} : ∀ (Ls : List q_Lin) (fo : Nat → Nat) (mv : Bool), q_mm fit nf (Ls.filter q_rea) fo mv = q_mm fit nf Ls fo mv := by
  intro Ls
  induction Ls with
  | nil => intro fo mv; rfl
  | cons x r ih =>
    intro fo mv
    by_cases hr : q_rea x = true
    · rw [List.filter_cons_of_pos hr, q_mm, q_mm]
      split
      · split
        · rfl
        · exact ih _ _
      · exact ih _ _
    · rw [List.filter_cons_of_neg hr, q_mm, if_neg (fun h => by have := q_rea_0 hr; omega), ih]
theorem q_PR_A {κ : Nat → Nat} {b n0 n : Nat} {D : q_Mem} {I : Nat → Nat → Int32} {R : Nat → Nat → Option Nat} {X : Nat → Nat → Int32} {B : Nat → Int32} {l : List q_Tok} {Ls : List q_Lin} {aa : Nat → Nat} {xx : Nat → q_Lx} {c22 c23 : Nat} {ad : Nat → Nat} (h : q_PR κ b n0 n D I R X B l Ls aa xx c22 c23) (hn0 : b + 66 < n0) (hA : ∀ j, j < Ls.length → q_xa (xx j) = nI (ad (q_sF (q_lg Ls j)))) : ∀ k, k < (q_LT Ls).length → ∃ v0 v1 v2 v3 v4 v5 v6, b + 66 < aa ((q_lbs Ls).getD k 0) ∧ D (aa ((q_lbs Ls).getD k 0)) = some (.inr (.inl (6, [v0, v1, v2, v3, v4, v5, v6, .int (q_av (q_LT Ls) ad k)]))) := by
  intro k hk
  obtain ⟨g1, g2⟩ := q_lbs_g hk
  obtain ⟨⟨a1, a2, a3, a4⟩, -⟩ := h.2.2.1 _ g1
  have e : q_xa (xx ((q_lbs Ls).getD k 0)) = q_av (q_LT Ls) ad k := by
    rw [hA _ g1]
    unfold q_av
    rw [← g2]
    rfl
  obtain ⟨y, hy⟩ : ∃ y, y = xx ((q_lbs Ls).getD k 0) := ⟨_, rfl⟩
  rw [← hy] at a3 e
  refine ⟨.int (nI (q_sS y.1)), .int (nI (q_sF y.1)), .int (nI (q_sH y.1)), .int (q_xo y), .ref (aa ((q_lbs Ls).getD k 0) + 1), .int (q_xf y), .int (q_xw y), by omega, ?_⟩
  rw [a3, ← e]
  rfl
section QMM
variable {κ : Nat → Nat} {b : Nat} {B : Nat → Int32} {l : List q_Tok} {zt : Nat} {I : Nat → Nat → Int32} {R : Nat → Nat → Option Nat} {X : Nat → Nat → Int32} {Y : Nat → Nat → Int64} {Z : Nat → Nat → Option Nat} {M : q_MT} {O : Nat → Int64} {s : Nat × Nat}
theorem q_move_4 {D0 : q_Mem} {n0 n z c22 c23 : Nat} {L : List q_Knd} {Js : List q_Ins} {Ls : List q_Lin} {aa : Nat → Nat} {ad : Nat → Nat} (hEn : q_Env b n0 D0 Z I L z Js) (hn0 : b + 66 < n0) (hXP : ∀ x ∈ Ls, q_XP B l z x) (hIN : q_INC Ls) (hG : q_LG B l (q_LT Ls)) (hK : (q_LT Ls).length ≤ 6000) (hLs : Ls.length ≤ 6100) (hT : q_TC B l zt I X Y) (hYL : ∀ j, j < Ls.length → q_sS (q_lg Ls j) = 1 → q_YL B l (q_LT Ls) Y (q_lg Ls j)) : ∀ d fuel i (fo : Nat → Nat) (mv : Bool) (D : q_Mem) (xx : Nat → q_Lx), i + d = Ls.length → d < fuel → q_PR κ b n0 n D I R X B l Ls aa xx c22 c23 → q_S8 n0 D0 D → (∀ j, j < Ls.length → q_CF B l (q_LT Ls) L Js fo (xx j)) → (∀ j, j < Ls.length → q_xa (xx j) = nI (ad (q_sF (q_lg Ls j)))) →
    ∃ I' D' xx', q_IA I I' ∧ q_PR κ b n0 n D' I' R X B l Ls aa xx' c22 c23 ∧ q_S8 n0 D0 D' ∧ (match q_mm (q_fit B l (q_LT Ls) L Js ad) (q_nfx B l (q_LT Ls) L Js) (Ls.drop i) fo mv with
      | .inl (k, p) => F_X8_moveMisfits_4 κ fuel (some (b + 21)) (q_b mv) (nI i) (q_H b (I, R, X, Y, Z) M O D, s) = some (.inl 1, (q_H b (I', R, X, Y, Z) M O D', s)) ∧ I' 14 2 = nI k ∧ I' 14 3 = nI p
      | .inr (fo', mv') => F_X8_moveMisfits_4 κ fuel (some (b + 21)) (q_b mv) (nI i) (q_H b (I, R, X, Y, Z) M O D, s) = some (.inl (q_b mv'), (q_H b (I', R, X, Y, Z) M O D', s)) ∧ I' = I ∧ (∀ j, j < Ls.length → q_CF B l (q_LT Ls) L Js fo' (xx' j)) ∧ ∀ j, j < Ls.length → q_xa (xx' j) = nI (ad (q_sF (q_lg Ls j)))) := by
  obtain ⟨hC, hCM, h84, h96, hJk⟩ := hEn
  have hzt := hT.2.2.1
  have hl := hT.2.1
  have hwf : ∀ i, i < l.length → (q_tok l i).1 ≤ 4 := fun i hi => (hT.2.2.2.2.1 i _ (q_tok_s hi)).1
  intro d
  induction d with
  | zero =>
    intro fuel i fo mv D xx h1 h2 hP hS hF hA
    obtain ⟨g, rfl⟩ : ∃ g, fuel = g + 1 := ⟨fuel - 1, by omega⟩
    have h3 : Ls.length ≤ i := by omega
    have sz := q_size22 (κ := κ) (b := b) (R := R) (X := X) (Y := Y) (Z := Z) (M := M) (O := O) (D := D) (s := s) hP.1.1
    have le : (nI Ls.length ≤ nI i) = True := eq_true (nI_le h3 (by omega))
    refine ⟨I, D, xx, fun _ _ => rfl, hP, hS, ?_⟩
    rw [List.drop_eq_nil_of_le h3, q_mm]
    refine ⟨?_, rfl, hF, hA⟩
    rw [F_X8_moveMisfits_4]
    simp (disch := first | rfl | omega | decide | exact Nat.le_of_ble_eq_true rfl) only [↓q_br, q_rt, q_rz, q_gd, q_ca, ↓reduceIte, F_X8_moveMisfits_4B, ↓q_gA_21_0, ↓q_gA_21_4, ↓q_is_14, ↓q_is_21, ↓q_is_22, ↓q_is_23, ↓q_is_22, sz, le, q_b_1]
  | succ d ih =>
    intro fuel i fo mv D xx h1 h2 hP hS hF hA
    obtain ⟨g, rfl⟩ : ∃ g, fuel = g + 1 := ⟨fuel - 1, by omega⟩
    have hi9 : i < Ls.length := by omega
    have sz := q_size22 (κ := κ) (b := b) (R := R) (X := X) (Y := Y) (Z := Z) (M := M) (O := O) (D := D) (s := s) hP.1.1
    have gt := q_get22 (κ := κ) (b := b) (X := X) (Y := Y) (Z := Z) (M := M) (O := O) (s := s) hP.1 hi9
    have le : (nI Ls.length ≤ nI i) = False := eq_false (nI_ge hi9 (by omega))
    obtain ⟨⟨o1, o2, o3, o4⟩, -⟩ := hP.2.2.1 i hi9
    have ex : (xx i).1 = q_lg Ls i := hP.2.2.2.1 i hi9
    have eo : b + 66 < aa i ∧ D (aa i) = some (.inr (.inl (6, [.int (nI (q_sS (q_lg Ls i))), .int (nI (q_sF (q_lg Ls i))), .int (nI (q_sH (q_lg Ls i))), .int (q_xo (xx i)), .ref (aa i + 1), .int (q_xf (xx i)), .int (q_xw (xx i)), .int (q_xa (xx i))]))) := ⟨by omega, by rw [← ex]; exact o3⟩
    have xm := q_lg_m hi9
    rw [q_lg_d hi9, q_mm]
    by_cases c1 : q_sS (q_lg Ls i) = 1
    · have t1 : (nI (q_sS (q_lg Ls i)) = (1 : Int32)) = True := eq_true (by rw [c1]; rfl)
      obtain ⟨hE, hy1⟩ := q_XP_E hwf (hXP _ xm) c1
      have hy := hYL i hi9 c1
      obtain ⟨F1, F2, F3, ps, F4, F5⟩ := (hF i hi9).1 (by rw [ex]; exact c1)
      rw [ex] at F1 F2 F3 F4 F5
      obtain ⟨fi, hfi⟩ : ∃ fi, fi = fo (q_sF (q_lg Ls i)) := ⟨_, rfl⟩
      rw [← hfi] at F1 F2 F3 F4 F5 ⊢
      have jm : q_jg Js fi ∈ Js := List.mem_of_getElem? (q_jg_e F1)
      have la5 : D (aa i + 1) = some (.inl (1, 5, .inl (q_xp (xx i)))) := by
        rw [o4]
        unfold q_La
        rw [if_pos (by rw [ex]; exact c1)]
      have hDD : ∀ x, b < x → x < n0 → q_t7 (D0 x) = false → D x = D0 x := fun x _ hx h7 => hS x hx h7
      obtain ⟨ja, j1, j2⟩ := q_CIs_m7 hC (Z' := Z) (Nat.le_refl _) hDD rfl rfl fi _ (q_jg_e F1)
      have fi96 : fi < 96 := by omega
      have xa := hA i hi9
      have ft := q_fits_15 (κ := κ) (M := M) (O := O) (s := s) (sf := q_sF (q_lg Ls i)) (ad := ad) (ps := ps) hT j2 (q_CMk_m7 hCM (I' := I) (Z' := Z) (Nat.le_refl _) hDD rfl rfl) hE hy (by omega) hP.2.1 (q_PR_A hP hn0 hA) eo.1 (by rw [← xa]; exact eo.2) la5 F5 (q_isf_g hE (hJk _ jm) F4).2.2 (q_jg Js fi).2.2.1.length q_fu 0 (by omega) (by have := j2.2.2.1; unfold q_fu; omega)
      rw [nI_0] at ft
      have efit : q_fit B l (q_LT Ls) L Js ad (q_lg Ls i) fi = q_fts B l (q_LT Ls) L (q_jg Js fi).2.2.1 ad (q_sF (q_lg Ls i)) ps (q_jg Js fi).2.2.1.length 0 := by
        unfold q_fit
        rw [F4]
      rw [← efit] at ft
      have fts : F_X8_fits κ (some (b + 21)) (some (aa i)) (q_H b (I, R, X, Y, Z) M O D, s) = some (.inl (q_b (q_fit B l (q_LT Ls) L Js ad (q_lg Ls i) fi)), (q_H b (I, R, X, Y, Z) M O D, s)) := by
        rw [← ft]
        simp (disch := first | rfl | omega | decide | exact Nat.le_of_ble_eq_true rfl) only [↓q_br, q_rt, q_rz, q_gd, q_ca, ↓reduceIte, F_X8_fits, ↓q_gA_21_2, ↓q_gA_8_1, ↓q_lA_10, qd_I eo (k := 5) (v := nI fi) (by rw [← F2]; rfl), j1]
      cases hft : q_fit B l (q_LT Ls) L Js ad (q_lg Ls i) fi with
      | true =>
        rw [hft] at fts
        rw [if_neg (fun h => by cases h.2)]
        obtain ⟨I', D', xx', r1, r2, r3, r4⟩ := ih g (i + 1) fo mv D xx (by omega) (by omega) hP hS hF hA
        refine ⟨I', D', xx', r1, r2, r3, ?_⟩
        have st : F_X8_moveMisfits_4 κ (g + 1) (some (b + 21)) (q_b mv) (nI i) (q_H b (I, R, X, Y, Z) M O D, s) = F_X8_moveMisfits_4 κ g (some (b + 21)) (q_b mv) (nI (i + 1)) (q_H b (I, R, X, Y, Z) M O D, s) := by
          rw [F_X8_moveMisfits_4]
          simp (disch := first | rfl | omega | decide | exact Nat.le_of_ble_eq_true rfl) only [↓q_br, q_rt, q_rz, q_gd, q_ca, ↓reduceIte, F_X8_moveMisfits_4B, F_X8_moveMisfits_68, ↓q_gA_21_0, ↓q_gA_21_4, ↓q_is_14, ↓q_is_21, ↓q_is_22, ↓q_is_23, ↓q_is_22, ↓q_is_21, sz, le, gt, qd_S eo, qd_I eo (k := 0) (v := nI (q_sS (q_lg Ls i))) rfl, t1, not_true_eq_false, fts, q_b_0, Bool.true_eq_false, not_false_eq_true, nI_1]
        rw [st]
        exact r4
      | false =>
        rw [hft] at fts
        rw [if_pos ⟨c1, rfl⟩]
        obtain ⟨f', w⟩ := q_take_7 (κ := κ) (R := R) (M := M) (O := O) (s := s) (v0 := .int (nI (q_sS (q_lg Ls i)))) (v1 := .int (nI (q_sF (q_lg Ls i)))) (v3 := .int (q_xo (xx i))) (v5 := .int (q_xf (xx i))) (v6 := .int (q_xw (xx i))) (v7 := .int (q_xa (xx i))) (a := aa i) hT hE hy1 hy (by omega) hC hCM h84 h96 hJk o1 hn0 (Js.length - (fi + 1)) q_fu (fi + 1) (q_xp (xx i)) D (by omega) (by unfold q_fu; omega) hS eo.2 la5
        have enf : q_nfx B l (q_LT Ls) L Js (q_lg Ls i) (fi + 1) = q_fi (fun i_1 => (q_isf B l (q_LT Ls) L (q_jg Js i_1) (q_sH (q_lg Ls i)) (q_sE (q_lg Ls i))).isSome) (Js.length - (fi + 1)) (fi + 1) := rfl
        have tk : F_X8_takeNextForm κ (some (b + 21)) (some (aa i)) (q_H b (I, R, X, Y, Z) M O D, s) = F_X8_takeNextForm_7 κ q_fu (some (b + 21)) (some (aa i)) (nI (fi + 1)) (q_H b (I, R, X, Y, Z) M O D, s) := by
          simp (disch := first | rfl | omega | decide | exact Nat.le_of_ble_eq_true rfl) only [↓q_br, q_rt, q_rz, q_gd, q_ca, ↓reduceIte, F_X8_takeNextForm, qd_I eo (k := 5) (v := nI fi) (by rw [← F2]; rfl), nI_1]
        rw [enf]
        cases hnf : q_fi (fun i_1 => (q_isf B l (q_LT Ls) L (q_jg Js i_1) (q_sH (q_lg Ls i)) (q_sE (q_lg Ls i))).isSome) (Js.length - (fi + 1)) (fi + 1) with
        | none =>
          rw [hnf] at w
          simp only at w
          rw [w] at tk
          have up := q_PR_u (x := ((xx i).1, (xx i).2.1, f')) hP hi9 rfl rfl
          have ela : q_La ((xx i).1, (xx i).2.1, f') = .inl (1, 5, .inl f') := by
            unfold q_La
            rw [if_pos (by show q_sS (xx i).1 = 1; rw [ex]; exact c1)]
          have elc : q_up (q_up D (aa i + 1) (q_La ((xx i).1, (xx i).2.1, f'))) (aa i) (q_Lc (aa i) ((xx i).1, (xx i).2.1, f')) = q_up D (aa i + 1) (.inl (1, 5, .inl f')) := by
            rw [ela]
            exact q_up_id (by rw [q_up_n _ _ (by omega)]; exact o3)
          rw [elc] at up
          obtain ⟨I2, hI2⟩ : ∃ I2, I2 = q_ft I 7 (nI (q_sH (q_lg Ls i))) := ⟨_, rfl⟩
          have ia : q_IA I I2 := by rw [hI2]; exact q_IA_f
          obtain ⟨z1, z2⟩ := q_ft_2 (I := I) (k := 7) (p := nI (q_sH (q_lg Ls i)))
          rw [← hI2] at z1 z2
          have up2 : q_PR κ b n0 n (q_up D (aa i + 1) (.inl (1, 5, .inl f'))) I2 R X B l Ls aa (q_u1 xx i ((xx i).1, (xx i).2.1, f')) c22 c23 := by
            obtain ⟨p1, p2, p3⟩ := up
            refine ⟨?_, ?_, p3⟩
            · unfold q_AL at p1 ⊢
              rw [ia 22 (by decide)]
              exact p1
            · unfold q_AL at p2 ⊢
              rw [ia 23 (by decide)]
              exact p2
          refine ⟨I2, _, _, ia, up2, q_S8_up hS (by omega), ?_, z1, z2⟩
          have fa := q_failAt (κ := κ) (b := b) (I := I) (R := R) (X := X) (Y := Y) (Z := Z) (M := M) (O := O) (D := q_up D (aa i + 1) (.inl (1, 5, .inl f'))) (s := s) (k := 7) (p := nI (q_sH (q_lg Ls i)))
          rw [← hI2] at fa
          have eo2 : b + 66 < aa i ∧ q_up D (aa i + 1) (.inl (1, 5, .inl f')) (aa i) = some (.inr (.inl (6, [.int (nI (q_sS (q_lg Ls i))), .int (nI (q_sF (q_lg Ls i))), .int (nI (q_sH (q_lg Ls i))), .int (q_xo (xx i)), .ref (aa i + 1), .int (q_xf (xx i)), .int (q_xw (xx i)), .int (q_xa (xx i))]))) := ⟨by omega, by rw [q_up_n _ _ (by omega)]; exact eo.2⟩
          rw [F_X8_moveMisfits_4]
          simp (disch := first | rfl | omega | decide | exact Nat.le_of_ble_eq_true rfl) only [↓q_br, q_rt, q_rz, q_gd, q_ca, ↓reduceIte, F_X8_moveMisfits_4B, F_X8_moveMisfits_68, ↓q_gA_21_0, ↓q_gA_21_4, ↓q_is_14, ↓q_is_21, ↓q_is_22, ↓q_is_23, ↓q_is_22, ↓q_is_21, ↓q_is_14, sz, le, gt, qd_S eo, qd_I eo (k := 0) (v := nI (q_sS (q_lg Ls i))) rfl, t1, not_true_eq_false, fts, q_b_0, tk, qd_I eo2 (k := 2) (v := nI (q_sH (q_lg Ls i))) rfl, fa, or_true]
        | some j =>
          rw [hnf] at w
          obtain ⟨w, w2⟩ := w
          rw [w] at tk
          obtain ⟨k1, k2, ps', k3⟩ := q_nf_s (i := fi + 1) (hd := q_sH (q_lg Ls i)) (en := q_sE (q_lg Ls i)) (L := L) (Js := Js) (LT := q_LT Ls) (B := B) (l := l) hnf (by omega)
          obtain ⟨x', hx'⟩ : ∃ x' : q_Lx, x' = ((xx i).1, (q_xo (xx i), nI j, nI (q_jg Js j).2.2.2.length, q_xa (xx i)), f') := ⟨_, rfl⟩
          have up := q_PR_u (x := x') hP hi9 (by rw [hx']) (by rw [hx'])
          have ela : q_La x' = .inl (1, 5, .inl f') := by
            rw [hx']
            unfold q_La
            rw [if_pos (by show q_sS (xx i).1 = 1; rw [ex]; exact c1)]
          have elc : q_Lc (aa i) x' = .inr (.inl (6, [.int (nI (q_sS (q_lg Ls i))), .int (nI (q_sF (q_lg Ls i))), .int (nI (q_sH (q_lg Ls i))), .int (q_xo (xx i)), .ref (aa i + 1), .int (nI j), .int (nI (q_jg Js j).2.2.2.length), .int (q_xa (xx i))])) := by
            rw [hx', ← ex]
            rfl
          rw [ela, elc] at up
          have s8 := q_S8_up (c := .inr (.inl (6, [.int (nI (q_sS (q_lg Ls i))), .int (nI (q_sF (q_lg Ls i))), .int (nI (q_sH (q_lg Ls i))), .int (q_xo (xx i)), .ref (aa i + 1), .int (nI j), .int (nI (q_jg Js j).2.2.2.length), .int (q_xa (xx i))]))) (q_S8_up (a := aa i + 1) (c := .inl (1, 5, .inl f')) hS (by omega)) o1
          have sF : ∀ u, u < Ls.length → q_sF (xx u).1 = q_sF (q_lg Ls u) := fun u hu => by rw [hP.2.2.2.1 u hu]; rfl
          obtain ⟨I', D', xx', r1, r2, r3, r4⟩ := ih g (i + 1) (q_u1 fo (q_sF (q_lg Ls i)) j) true _ _ (by omega) (by omega) up s8 (fun u hu => by
            by_cases hui : u = i
            · rw [hui, q_u1_s]
              refine ⟨fun _ => ?_, fun h9 => ?_⟩
              · have e1 : x'.1 = q_lg Ls i := by rw [hx']; exact ex
                rw [e1, q_u1_s, hx']
                exact ⟨k2, rfl, rfl, ps', k3, fun o ho => w2 ps' k3 o ho⟩
              · exact absurd (by rw [hx']; show q_sS (xx i).1 = 1; rw [ex]; exact c1) h9
            · rw [q_u1_n _ _ hui]
              refine q_CF_k (hF u hu) ?_
              rw [sF u hu, q_u1_n _ _ (q_INC_n hIN hu hi9 hui)]) (fun u hu => by
            by_cases hui : u = i
            · rw [hui, q_u1_s, hx']
              exact xa
            · rw [q_u1_n _ _ hui]
              exact hA u hu)
          refine ⟨I', D', xx', r1, r2, r3, ?_⟩
          have st : F_X8_moveMisfits_4 κ (g + 1) (some (b + 21)) (q_b mv) (nI i) (q_H b (I, R, X, Y, Z) M O D, s) = F_X8_moveMisfits_4 κ g (some (b + 21)) (q_b true) (nI (i + 1)) (q_H b (I, R, X, Y, Z) M O (q_up (q_up D (aa i + 1) (.inl (1, 5, .inl f'))) (aa i) (.inr (.inl (6, [.int (nI (q_sS (q_lg Ls i))), .int (nI (q_sF (q_lg Ls i))), .int (nI (q_sH (q_lg Ls i))), .int (q_xo (xx i)), .ref (aa i + 1), .int (nI j), .int (nI (q_jg Js j).2.2.2.length), .int (q_xa (xx i))])))), s) := by
            have z1 : (¬ (1 : Int32) = 0) = True := eq_true (by decide)
            rw [F_X8_moveMisfits_4]
            simp (disch := first | rfl | omega | decide | exact Nat.le_of_ble_eq_true rfl) only [↓q_br, q_rt, q_rz, q_gd, q_ca, ↓reduceIte, F_X8_moveMisfits_4B, F_X8_moveMisfits_68, ↓q_gA_21_0, ↓q_gA_21_4, ↓q_is_14, ↓q_is_21, ↓q_is_22, ↓q_is_23, ↓q_is_22, ↓q_is_21, sz, le, gt, qd_S eo, qd_I eo (k := 0) (v := nI (q_sS (q_lg Ls i))) rfl, t1, not_true_eq_false, fts, q_b_0, tk, z1, nI_1]
            rfl
          rw [st]
          exact r4
    · have t1 : (nI (q_sS (q_lg Ls i)) = (1 : Int32)) = False := eq_false (fun h9 => c1 (by
        obtain ⟨LT, t, ht, hx⟩ := hXP _ xm
        have b8 := (q_ln1_b hwf hx ht).2.2.2.2.2.2.2.1
        exact (nI_eq (b := 1) (by omega) (by decide)).mp h9))
      rw [if_neg (fun h => c1 h.1)]
      obtain ⟨I', D', xx', r1, r2, r3, r4⟩ := ih g (i + 1) fo mv D xx (by omega) (by omega) hP hS hF hA
      refine ⟨I', D', xx', r1, r2, r3, ?_⟩
      have st : F_X8_moveMisfits_4 κ (g + 1) (some (b + 21)) (q_b mv) (nI i) (q_H b (I, R, X, Y, Z) M O D, s) = F_X8_moveMisfits_4 κ g (some (b + 21)) (q_b mv) (nI (i + 1)) (q_H b (I, R, X, Y, Z) M O D, s) := by
        rw [F_X8_moveMisfits_4]
        simp (disch := first | rfl | omega | decide | exact Nat.le_of_ble_eq_true rfl) only [↓q_br, q_rt, q_rz, q_gd, q_ca, ↓reduceIte, F_X8_moveMisfits_4B, F_X8_moveMisfits_68, ↓q_gA_21_0, ↓q_gA_21_4, ↓q_is_14, ↓q_is_21, ↓q_is_22, ↓q_is_23, ↓q_is_22, ↓q_is_21, sz, le, gt, qd_S eo, qd_I eo (k := 0) (v := nI (q_sS (q_lg Ls i))) rfl, t1, not_false_eq_true, nI_1]
      rw [st]
      exact r4
end QMM
