theorem q_opd_lb {B : Nat → Int32} {l : List q_Tok} {LT : List Nat} {K : q_Knd} {t k : Nat} {x : q_Opd} (hx : q_opd B l LT K t = some x) (hk : x.2.1 = some k) : k < LT.length := by
  unfold q_opd at hx
  split at hx
  · cases hr : q_rgn B K (q_tok l t) with
    | none => rw [hr] at hx; cases hx
    | some v => rw [hr] at hx; cases hx; cases hk
  · split at hx
    · cases hr : q_mem1 B K (q_tok l t) with
      | none => rw [hr] at hx; cases hx
      | some v => rw [hr] at hx; cases hx; cases hk
    · split at hx
      · cases hx; cases hk
      · split at hx
        · split at hx
          · cases hx; cases hk
          · cases hx
        · split at hx
          · cases hr : q_lk B l LT t with
            | none => rw [hr] at hx; cases hx
            | some i =>
              rw [hr] at hx
              have hi9 : i < LT.length := by
                have := (q_fi_s _ _ _ hr).2.1
                omega
              simp only at hx
              split at hx
              · cases hx; cases hk; exact hi9
              · cases hx; cases hk; exact hi9
          · cases hx
theorem q_lbs_r {Ls : List q_Lin} {k : Nat} (hk : k < (q_LT Ls).length) : q_rea (q_lg Ls ((q_lbs Ls).getD k 0)) = true := by
  have hk2 : k < (q_lbs Ls).length := by rw [(q_lbs_l Ls).1]; exact hk
  have hm : (q_lbs Ls).getD k 0 ∈ q_lbs Ls := by
    rw [List.getD_eq_getElem?_getD, List.getElem?_eq_getElem hk2]
    exact List.getElem_mem hk2
  have h9 : q_lab (q_lg Ls ((q_lbs Ls).getD k 0)) = true := (List.mem_filter.mp hm).2
  unfold q_rea
  rw [h9]
  rfl
/-- the addresses, in the reference -/
def q_M59 (Q : Nat → Nat → Int32) (FL : List q_Lin) (ad : Nat → Nat) : Prop := ∀ j, j < FL.length → q_rea (q_lg FL j) = true → Q 59 j = nI (ad (q_sF (q_lg FL j)))
section QMV
variable {κ : Nat → Nat} {b : Nat} {B : Nat → Int32} {l : List q_Tok} {zt : Nat} {C : q_CT} {P : Nat → Int32} {Q : Nat → Nat → Int32} {S : Nat → Nat → Int64} {O : Nat → Int64} {D : q_Mem} {s : Nat × Nat}
theorem q_mvalue {N : List q_Nam} {top z lx i o : Nat} {L : List q_Knd} {Js : List q_Ins} {FL : List q_Lin} {ad : Nat → Nat} {ps : Nat → Nat} (hM : q_ME B l zt N top L z Js FL P Q S) (h96 : Js.length ≤ 96) (hFL : FL.length ≤ 6001) (hi9 : i < Js.length) (hlx : lx < FL.length) (hre : q_rea (q_lg FL lx) = true) (h59 : q_M59 Q FL ad) (hK : (q_LT FL).length ≤ 6000) (ho : o < (q_jg Js i).2.2.1.length) (hv : q_MV B l (q_LT FL) L (q_jg Js i).2.2.1 Q S ps o) : F_X13_value κ (some (b + 26)) (nI lx) (nI i) (nI o) (q_H b C (P, Q, S) O D, s) = some (.inl (q_held B l (q_LT FL) L (q_jg Js i).2.2.1 ad (q_sF (q_lg FL lx)) ps o), (q_H b C (P, Q, S) O D, s)) := by
  obtain ⟨hT, hPL, hMI, hMM, h23, h21, h52, hML, hMB⟩ := hM
  have hm := hMI i _ (q_jg_e hi9)
  have o5 : o < 5 := by have := hm.2.2.2.2.2.2.2.2.1; omega
  have hl40 := hMM.2.1
  obtain ⟨kk, c1, c2, c3, c4, c5⟩ := q_mok (nk := 0) hm.2.2.2.2.2.1 hMM ho
  obtain ⟨x, x1, x2, x3⟩ := hv
  have ix5 : (5 : Int32) * nI i + nI o = nI (5 * i + o) := by rw [show (5 : Int32) * nI i = nI (5 * i) from (Int32.ofNat_mul 5 i).symm, nI_add]
  have ix5l : 5 * i + o < 480 := by omega
  have kk40 : kk < 40 := by omega
  have s4 := c3.1
  have q38 : Q 38 kk = nI (q_kS (q_ok L (q_jg Js i).2.2.1 o)) := c4.1
  have n3 : (nI (q_kS (q_ok L (q_jg Js i).2.2.1 o)) = (3 : Int32)) = (q_kS (q_ok L (q_jg Js i).2.2.1 o) = 3) := propext (nI_eq (b := 3) (by omega) (by decide))
  have own := h59 lx hlx hre
  have lx6 : lx < 6002 := by omega
  have to47 : ∃ v, q_ova (q_av (q_LT FL) ad) x = x.2.2 + v.toInt64 ∧ F_X13_value κ (some (b + 26)) (nI lx) (nI i) (nI o) (q_H b C (P, Q, S) O D, s) = F_X13_value_47 κ (some (b + 26)) (nI lx) (nI kk) x.2.2 v (q_H b C (P, Q, S) O D, s) := by
    cases hk : x.2.1 with
    | none =>
      rw [hk] at x2
      have n0 : ((0 : Int32) ≤ q_mv none) = False := eq_false (by decide)
      refine ⟨0, ?_, ?_⟩
      · unfold q_ova
        rw [hk, show (0 : Int32).toInt64 = 0 from by decide, Int64.add_zero]
      · simp (disch := first | rfl | omega | decide | exact Nat.le_of_ble_eq_true rfl) only [↓q_br, q_rt, q_rz, q_gd, q_ca, ↓reduceIte, F_X13_value, ↓q_gA_26_37, ↓q_gA_26_49, ↓q_gA_26_54, ↓q_gA_26_55, ↓q_gA_26_56, ↓q_lI_50, ↓q_lI_59, ↓q_lI_63, ↓q_lI_64, ↓q_lL_65, ix5, c2, x3, x2, n0]
    | some k =>
      rw [hk] at x2
      have kl := q_opd_lb x1 hk
      have n0 : ((0 : Int32) ≤ nI k) = True := eq_true (nI_pos' (by omega))
      have mvk : q_mv (some k) = nI k := rfl
      obtain ⟨g1, g2⟩ := q_lbs_g kl
      have q63 := hMB.2.2 k kl
      have q59 : Q 59 ((q_lbs FL).getD k 0) = q_av (q_LT FL) ad k := by
        rw [h59 _ g1 (q_lbs_r kl)]
        unfold q_av
        rw [← g2]
        rfl
      have k6 : k < 6002 := by omega
      have l6 : (q_lbs FL).getD k 0 < 6002 := by omega
      refine ⟨q_av (q_LT FL) ad k, ?_, ?_⟩
      · unfold q_ova
        rw [hk]
        exact Int64.add_comm _ _
      · simp (disch := first | rfl | omega | decide | exact Nat.le_of_ble_eq_true rfl) only [↓q_br, q_rt, q_rz, q_gd, q_ca, ↓reduceIte, F_X13_value, ↓q_gA_26_37, ↓q_gA_26_49, ↓q_gA_26_54, ↓q_gA_26_55, ↓q_gA_26_56, ↓q_lI_50, ↓q_lI_59, ↓q_lI_63, ↓q_lI_64, ↓q_lL_65, ix5, c2, x3, x2, n0, mvk, q63, q59]
  obtain ⟨v, v1, v2⟩ := to47
  rw [v2]
  unfold q_held
  rw [x1]
  by_cases c : q_kS (q_ok L (q_jg Js i).2.2.1 o) = 3
  · have t3 : (q_kS (q_ok L (q_jg Js i).2.2.1 o) = 3) = True := eq_true c
    simp (disch := first | rfl | omega | decide | exact Nat.le_of_ble_eq_true rfl) only [↓q_br, q_rt, q_rz, q_gd, q_ca, ↓reduceIte, F_X13_value_47, F_X13_value_77, ↓q_gA_26_25, ↓q_gA_26_49, ↓q_lI_38, ↓q_lI_59, q38, n3, t3, not_true_eq_false, own, v1]
  · have t3 : (q_kS (q_ok L (q_jg Js i).2.2.1 o) = 3) = False := eq_false c
    simp (disch := first | rfl | omega | decide | exact Nat.le_of_ble_eq_true rfl) only [↓q_br, q_rt, q_rz, q_gd, q_ca, ↓reduceIte, F_X13_value_47, F_X13_value_77, ↓q_gA_26_25, ↓q_gA_26_49, ↓q_lI_38, ↓q_lI_59, q38, n3, t3, not_false_eq_true, v1]
theorem q_mfit_2 {N : List q_Nam} {top z lx i : Nat} {L : List q_Knd} {Js : List q_Ins} {FL : List q_Lin} {ad : Nat → Nat} {ps : Nat → Nat} (hM : q_ME B l zt N top L z Js FL P Q S) (h96 : Js.length ≤ 96) (hFL : FL.length ≤ 6001) (hi9 : i < Js.length) (hlx : lx < FL.length) (hre : q_rea (q_lg FL lx) = true) (h59 : q_M59 Q FL ad) (hK : (q_LT FL).length ≤ 6000) (hv : ∀ o, o < (q_jg Js i).2.2.1.length → q_MV B l (q_LT FL) L (q_jg Js i).2.2.1 Q S ps o) : ∀ d fuel o, o + d = (q_jg Js i).2.2.1.length → d < fuel → F_X13_isFitting_2 κ fuel (some (b + 26)) (nI lx) (nI i) (nI o) (q_H b C (P, Q, S) O D, s) = some (.inl (q_b (q_fts B l (q_LT FL) L (q_jg Js i).2.2.1 ad (q_sF (q_lg FL lx)) ps d o)), (q_H b C (P, Q, S) O D, s)) := by
  have hM0 := hM
  obtain ⟨hT, hPL, hMI, hMM, h23, h21, h52, hML, hMB⟩ := hM0
  have hm := hMI i _ (q_jg_e hi9)
  have n5 := hm.2.2.2.2.2.2.2.2.1
  have q45 : Q 45 i = nI (q_jg Js i).2.2.1.length := hm.2.2.1
  have hl40 := hMM.2.1
  intro d
  induction d with
  | zero =>
    intro fuel o g1 g2
    obtain ⟨g, rfl⟩ : ∃ g, fuel = g + 1 := ⟨fuel - 1, by omega⟩
    have h3 : (q_jg Js i).2.2.1.length ≤ o := by omega
    rw [F_X13_isFitting_2]
    simp (disch := first | rfl | omega | decide | exact Nat.le_of_ble_eq_true rfl) only [↓q_br, q_rt, q_rz, q_gd, q_ca, ↓reduceIte, F_X13_isFitting_2B, ↓q_gA_26_25, ↓q_gA_26_28, ↓q_gA_26_32, ↓q_gA_26_37, ↓q_is_26, ↓q_lI_38, ↓q_lI_41, ↓q_lI_45, ↓q_lI_50, q45, nI_leI, h3, or_true]
    rfl
  | succ d ih =>
    intro fuel o g1 g2
    obtain ⟨g, rfl⟩ : ∃ g, fuel = g + 1 := ⟨fuel - 1, by omega⟩
    have h3 : ¬ (q_jg Js i).2.2.1.length ≤ o := by omega
    have ho : o < (q_jg Js i).2.2.1.length := by omega
    have o5 : o < 5 := by omega
    obtain ⟨kk, c1, c2, c3, c4, c5⟩ := q_mok (nk := 0) hm.2.2.2.2.2.1 hMM ho
    have ix5 : (5 : Int32) * nI i + nI o = nI (5 * i + o) := by rw [show (5 : Int32) * nI i = nI (5 * i) from (Int32.ofNat_mul 5 i).symm, nI_add]
    have ix5l : 5 * i + o < 480 := by omega
    have kk40 : kk < 40 := by omega
    have val := q_mvalue (κ := κ) (b := b) (C := C) (O := O) (D := D) (s := s) hM h96 hFL hi9 hlx hre h59 hK ho (hv o ho)
    have ihk := ih g (o + 1) (by omega) (by omega)
    have ef : q_fts B l (q_LT FL) L (q_jg Js i).2.2.1 ad (q_sF (q_lg FL lx)) ps (d + 1) o = (q_hld (q_ok L (q_jg Js i).2.2.1 o) (q_held B l (q_LT FL) L (q_jg Js i).2.2.1 ad (q_sF (q_lg FL lx)) ps o) && q_fts B l (q_LT FL) L (q_jg Js i).2.2.1 ad (q_sF (q_lg FL lx)) ps d (o + 1)) := rfl
    rw [F_X13_isFitting_2, ef]
    obtain ⟨K, hKK⟩ : ∃ K, K = q_ok L (q_jg Js i).2.2.1 o := ⟨_, rfl⟩
    obtain ⟨v, hvv⟩ : ∃ v, v = q_held B l (q_LT FL) L (q_jg Js i).2.2.1 ad (q_sF (q_lg FL lx)) ps o := ⟨_, rfl⟩
    rw [← hKK] at c3 c4 ⊢
    rw [← hvv] at val ⊢
    have s4 := c3.1
    have w1 := c3.2.1
    have w2 := c3.2.2.1
    have q38 : Q 38 kk = nI (q_kS K) := c4.1
    have q41 : Q 41 kk = nI (q_kB K) := c4.2.2.2.2.1
    have n1 : (nI (q_kS K) = (1 : Int32)) = (q_kS K = 1) := propext (nI_eq (b := 1) (by omega) (by decide))
    have n2 : (nI (q_kS K) = (2 : Int32)) = (q_kS K = 2) := propext (nI_eq (b := 2) (by omega) (by decide))
    have n3 : (nI (q_kS K) = (3 : Int32)) = (q_kS K = 3) := propext (nI_eq (b := 3) (by omega) (by decide))
    have sh := q_shl1 (q_kB K) (by omega)
    have sh1 := q_shl1 (q_kB K - 1) (by omega)
    have sb : nI (q_kB K) - 1 = nI (q_kB K - 1) := nI_sub (b := 1) w1
    unfold q_hld
    by_cases d1 : q_kS K = 1
    · have t1 : (q_kS K = 1) = True := eq_true d1
      have t2 : (q_kS K = 2) = False := eq_false (by omega)
      have t3 : (q_kS K = 3) = False := eq_false (by omega)
      rw [if_pos d1]
      by_cases e1 : v < 0
      · have u1 : (lg_cmp v 0 < 0) = True := eq_true ((lg_cmp_lt _ _).mpr e1)
        rw [decide_eq_true e1]
        simp (disch := first | rfl | omega | decide | exact Nat.le_of_ble_eq_true rfl) only [↓q_br, q_rt, q_rz, q_gd, q_ca, ↓reduceIte, F_X13_isFitting_2B, F_X13_isFitting_70, ↓q_gA_26_25, ↓q_gA_26_28, ↓q_gA_26_32, ↓q_gA_26_37, ↓q_is_26, ↓q_lI_38, ↓q_lI_41, ↓q_lI_45, ↓q_lI_50, q45, nI_leI, h3, ix5, c2, q41, ↓q_is_26, val, q38, n1, t1, not_true_eq_false, u1, true_or]
        rfl
      · have u1 : (lg_cmp v 0 < 0) = False := eq_false (fun h => e1 ((lg_cmp_lt _ _).mp h))
        rw [decide_eq_false e1]
        by_cases e2 : v < lN (2 ^ q_kB K)
        · have u2 : (lg_cmp v (lN (2 ^ q_kB K)) < 0) = True := eq_true ((lg_cmp_lt _ _).mpr e2)
          rw [decide_eq_true e2]
          simp (disch := first | rfl | omega | decide | exact Nat.le_of_ble_eq_true rfl) only [↓q_br, q_rt, q_rz, q_gd, q_ca, ↓reduceIte, F_X13_isFitting_2B, F_X13_isFitting_72, F_X13_isFitting_121, ↓q_gA_26_25, ↓q_gA_26_28, ↓q_gA_26_32, ↓q_gA_26_37, ↓q_is_26, ↓q_lI_38, ↓q_lI_41, ↓q_lI_45, ↓q_lI_50, q45, nI_leI, h3, ix5, c2, q41, ↓q_is_26, val, q38, n1, t1, not_true_eq_false, u1, sh, u2, n2, t2, n3, t3, not_false_eq_true, nI_1, ihk]
          rfl
        · have u2 : (lg_cmp v (lN (2 ^ q_kB K)) < 0) = False := eq_false (fun h => e2 ((lg_cmp_lt _ _).mp h))
          rw [decide_eq_false e2]
          simp (disch := first | rfl | omega | decide | exact Nat.le_of_ble_eq_true rfl) only [↓q_br, q_rt, q_rz, q_gd, q_ca, ↓reduceIte, F_X13_isFitting_2B, F_X13_isFitting_70, ↓q_gA_26_25, ↓q_gA_26_28, ↓q_gA_26_32, ↓q_gA_26_37, ↓q_is_26, ↓q_lI_38, ↓q_lI_41, ↓q_lI_45, ↓q_lI_50, q45, nI_leI, h3, ix5, c2, q41, ↓q_is_26, val, q38, n1, t1, not_true_eq_false, u1, sh, u2, true_or]
          rfl
    · have t1 : (q_kS K = 1) = False := eq_false d1
      rw [if_neg d1]
      have to72 : F_X13_isFitting_2B κ (F_X13_isFitting_2 κ g) (some (b + 26)) (nI lx) (nI i) (nI o) (q_H b C (P, Q, S) O D, s) = F_X13_isFitting_72 κ (F_X13_isFitting_2 κ g) (some (b + 26)) (nI lx) (nI i) (nI o) (nI kk) (nI (q_kB K)) v (q_H b C (P, Q, S) O D, s) := by
        simp (disch := first | rfl | omega | decide | exact Nat.le_of_ble_eq_true rfl) only [↓q_br, q_rt, q_rz, q_gd, q_ca, ↓reduceIte, F_X13_isFitting_2B, ↓q_gA_26_25, ↓q_gA_26_28, ↓q_gA_26_32, ↓q_gA_26_37, ↓q_is_26, ↓q_lI_38, ↓q_lI_41, ↓q_lI_45, ↓q_lI_50, q45, nI_leI, h3, ix5, c2, q41, ↓q_is_26, val, q38, n1, t1, not_false_eq_true]
      rw [to72]
      by_cases d23 : q_kS K = 2 ∨ q_kS K = 3
      · rw [if_pos d23]
        have to94 : F_X13_isFitting_72 κ (F_X13_isFitting_2 κ g) (some (b + 26)) (nI lx) (nI i) (nI o) (nI kk) (nI (q_kB K)) v (q_H b C (P, Q, S) O D, s) = F_X13_isFitting_94 κ (F_X13_isFitting_2 κ g) (some (b + 26)) (nI lx) (nI i) (nI o) (nI (q_kB K)) v (q_H b C (P, Q, S) O D, s) := by
          rcases d23 with d2 | d3
          · have t2 : (q_kS K = 2) = True := eq_true d2
            simp (disch := first | rfl | omega | decide | exact Nat.le_of_ble_eq_true rfl) only [↓q_br, q_rt, q_rz, q_gd, q_ca, ↓reduceIte, F_X13_isFitting_72, ↓q_gA_26_25, ↓q_lI_38, q38, n2, t2]
          · have t2 : (q_kS K = 2) = False := eq_false (by omega)
            have t3 : (q_kS K = 3) = True := eq_true d3
            simp (disch := first | rfl | omega | decide | exact Nat.le_of_ble_eq_true rfl) only [↓q_br, q_rt, q_rz, q_gd, q_ca, ↓reduceIte, F_X13_isFitting_72, ↓q_gA_26_25, ↓q_lI_38, q38, n2, t2, n3, t3, not_true_eq_false]
        rw [to94]
        by_cases e1 : v < - lN (2 ^ (q_kB K - 1))
        · have u1 : (lg_cmp v (- lN (2 ^ (q_kB K - 1))) < 0) = True := eq_true ((lg_cmp_lt _ _).mpr e1)
          rw [decide_eq_true e1]
          simp (disch := first | rfl | omega | decide | exact Nat.le_of_ble_eq_true rfl) only [↓q_br, q_rt, q_rz, q_gd, q_ca, ↓reduceIte, F_X13_isFitting_94, F_X13_isFitting_119, sb, sh1, u1, true_or]
          rfl
        · have u1 : (lg_cmp v (- lN (2 ^ (q_kB K - 1))) < 0) = False := eq_false (fun h => e1 ((lg_cmp_lt _ _).mp h))
          rw [decide_eq_false e1]
          by_cases e2 : v < lN (2 ^ (q_kB K - 1))
          · have u2 : (lg_cmp v (lN (2 ^ (q_kB K - 1))) < 0) = True := eq_true ((lg_cmp_lt _ _).mpr e2)
            rw [decide_eq_true e2]
            simp (disch := first | rfl | omega | decide | exact Nat.le_of_ble_eq_true rfl) only [↓q_br, q_rt, q_rz, q_gd, q_ca, ↓reduceIte, F_X13_isFitting_94, F_X13_isFitting_121, sb, sh1, u1, u2, nI_1, ihk]
            rfl
          · have u2 : (lg_cmp v (lN (2 ^ (q_kB K - 1))) < 0) = False := eq_false (fun h => e2 ((lg_cmp_lt _ _).mp h))
            rw [decide_eq_false e2]
            simp (disch := first | rfl | omega | decide | exact Nat.le_of_ble_eq_true rfl) only [↓q_br, q_rt, q_rz, q_gd, q_ca, ↓reduceIte, F_X13_isFitting_94, F_X13_isFitting_119, sb, sh1, u1, u2, true_or]
            rfl
      · rw [if_neg d23, Bool.true_and]
        have t2 : (q_kS K = 2) = False := eq_false (by omega)
        have t3 : (q_kS K = 3) = False := eq_false (by omega)
        simp (disch := first | rfl | omega | decide | exact Nat.le_of_ble_eq_true rfl) only [↓q_br, q_rt, q_rz, q_gd, q_ca, ↓reduceIte, F_X13_isFitting_72, F_X13_isFitting_121, ↓q_gA_26_25, ↓q_lI_38, q38, n2, t2, n3, t3, not_false_eq_true, nI_1, ihk]
end QMV
