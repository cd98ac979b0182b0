section QMN
variable {κ : Nat → Nat} {b : Nat} {B : Nat → Int32} {l : List q_Tok} {zt : Nat} {C : q_CT} {O : Nat → Int64} {D : q_Mem} {n m : Nat}
theorem q_MG_r {P : Nat → Int32} {Q : Nat → Nat → Int32} {S : Nat → Nat → Int64} : q_MG P P Q Q S S := ⟨fun _ _ => rfl, fun _ _ _ => rfl, fun _ _ _ => rfl⟩
theorem q_mlay_94 {N : List q_Nam} {top z lx i A : Nat} {L : List q_Knd} {Js : List q_Ins} {FL : List q_Lin} {ad : Nat → Nat} {ps : Nat → Nat} {v : Nat → Int64} {la : Nat → Int32} {wo : Nat → Int64} (hn : b + 66 < n) (hz : z ≤ 32) (h96 : Js.length ≤ 96) (hFL : FL.length ≤ 6001) (hi9 : i < Js.length) (hlx : lx < FL.length) (hre : q_rea (q_lg FL lx) = true) (hK : (q_LT FL).length ≤ 6000) (hJ : q_Jok (q_jg Js i)) (hcl : ∀ c ∈ (q_jg Js i).2.2.2, c.length = z) (hleg : q_leg (q_kb L (q_jg Js i).2.2.1) (q_jg Js i).2.2.1.length (q_jg Js i).2.2.2.flatten) (hkL : ∀ K ∈ L, q_kB K ≤ 32) (hA : A + (q_jg Js i).2.2.2.length ≤ 4096) (hv9 : ∀ w c, (q_jg Js i).2.2.2[w]? = some c → v w = lN (q_dw (q_pb9 (q_held B l (q_LT FL) L (q_jg Js i).2.2.1 ad (q_sF (q_lg FL lx)) ps)) 0 c)) : ∀ d fuel w (P : Nat → Int32) (Q : Nat → Nat → Int32) (S : Nat → Nat → Int64), w + d = (q_jg Js i).2.2.2.length → d < fuel → q_ME B l zt N top L z Js FL P Q S → q_M59 Q FL ad → (∀ o, o < (q_jg Js i).2.2.1.length → q_MV B l (q_LT FL) L (q_jg Js i).2.2.1 Q S ps o) → q_MMm P Q S (q_pL A w la) (q_pW A w v wo) → ∃ P' Q' S', q_MG P P' Q Q' S S' ∧ (if q_free la A d w = true then F_X13_lay_94 κ fuel (some (b + 26)) (nI lx) (nI A) (nI i) (nI w) (q_H b C (P, Q, S) O D, n, m) = some (.inl (), (q_H b C (P', Q', S') O D, n, m)) ∧ q_MMm P' Q' S' (q_pL A (q_jg Js i).2.2.2.length la) (q_pW A (q_jg Js i).2.2.2.length v wo) else F_X13_lay_94 κ fuel (some (b + 26)) (nI lx) (nI A) (nI i) (nI w) (q_H b C (P, Q, S) O D, n, m) = q_thr Unit b C (P', Q', S') O D n m (nI 8) (nI (q_sF (q_lg FL lx)))) := by
  intro d
  induction d with
  | zero =>
    intro fuel w P Q S h1 h2 hM h59 hv hMm
    obtain ⟨g, rfl⟩ : ∃ g, fuel = g + 1 := ⟨fuel - 1, by omega⟩
    have ew : w = (q_jg Js i).2.2.2.length := by omega
    have le : (nI (q_jg Js i).2.2.2.length ≤ nI w) = True := eq_true (nI_le (by omega) (by omega))
    have q46 : Q 46 i = nI (q_jg Js i).2.2.2.length := (hM.2.2.1 i _ (q_jg_e hi9)).2.2.2.1
    refine ⟨P, Q, S, q_MG_r, ?_⟩
    rw [if_pos (show q_free la A 0 w = true from rfl)]
    refine ⟨?_, by rw [← ew]; exact hMm⟩
    rw [F_X13_lay_94]
    simp (disch := first | rfl | omega | decide | exact Nat.le_of_ble_eq_true rfl) only [↓q_br, q_rt, q_rz, q_gd, q_ca, ↓reduceIte, F_X13_lay_94B, F_X13_lay_207, ↓q_gA_26_33, ↓q_lI_46, q46, le]
  | succ d ih =>
    intro fuel w P Q S h1 h2 hM h59 hv hMm
    obtain ⟨g, rfl⟩ : ∃ g, fuel = g + 1 := ⟨fuel - 1, by omega⟩
    have wl : w < (q_jg Js i).2.2.2.length := by omega
    have le : (nI (q_jg Js i).2.2.2.length ≤ nI w) = False := eq_false (nI_ge (by omega) (by omega))
    have q46 : Q 46 i = nI (q_jg Js i).2.2.2.length := (hM.2.2.1 i _ (q_jg_e hi9)).2.2.2.1
    have il : A + w < 4096 := by omega
    have hc := List.getElem?_eq_getElem wl
    obtain ⟨c, hcc⟩ : ∃ c, c = (q_jg Js i).2.2.2[w] := ⟨_, rfl⟩
    rw [← hcc] at hc
    have cl : c.length = z := hcl c (List.mem_of_getElem? hc)
    have lp := q_mlay_111 (κ := κ) (b := b) (C := C) (O := O) (D := D) (n := n) (m := m) (r := F_X13_lay_94 κ g) (A := A) hM hz h96 hFL hi9 hlx hre h59 hK hv hJ hc cl hleg hkL z q_fu 0 0 (by omega) (by unfold q_fu; omega) (by decide)
    rw [nI_0, List.drop_zero, ← hv9 w c hc] at lp
    have z64 : lN 0 = 0 := rfl
    rw [z64] at lp
    have road : F_X13_lay_94 κ (g + 1) (some (b + 26)) (nI lx) (nI A) (nI i) (nI w) (q_H b C (P, Q, S) O D, n, m) = q_ca (F_X13_put κ (some (b + 26)) (nI lx) (nI (A + w)) (v w)) (fun _ => F_X13_lay_94 κ g (some (b + 26)) (nI lx) (nI A) (nI i) (nI (w + 1))) (q_H b C (P, Q, S) O D, n, m) := by
      rw [← lp, F_X13_lay_94]
      simp (disch := first | rfl | omega | decide | exact Nat.le_of_ble_eq_true rfl) only [↓q_br, q_rt, q_rz, q_gd, q_ca, ↓reduceIte, F_X13_lay_94B, ↓q_gA_26_33, ↓q_lI_46, q46, le]
    have ef : q_free la A (d + 1) w = (decide (la (A + w) = 0) && q_free la A d (w + 1)) := rfl
    have elw : q_pL A w la (A + w) = la (A + w) := by unfold q_pL; rw [if_neg (by omega)]
    by_cases c0 : la (A + w) = 0
    · rw [ef, decide_eq_true c0, Bool.true_and]
      obtain ⟨P1, Q1, S1, p1, p2, p3, p4, p5⟩ := q_mput (κ := κ) (b := b) (C := C) (O := O) (D := D) (n := n) (m := m) (lx := lx) (v := v w) hMm il (by rw [elw]; exact c0)
      rw [q_pL_s, q_pW_s] at p2
      have mg : q_MG P P1 Q Q1 S S1 := ⟨p3, fun i i1 _ => p4 i i1, fun i i1 _ => p5 i i1⟩
      obtain ⟨P', Q', S', r1, r2⟩ := ih g (w + 1) P1 Q1 S1 (by omega) (by omega) (q_ME_u hM (q_MG_F mg)) (fun j hj hr => by rw [p4 59 (by decide)]; exact h59 j hj hr) (fun o ho => by
        obtain ⟨x, x1, x2, x3⟩ := hv o ho
        exact ⟨x, x1, by rw [p4 64 (by decide), x2], by rw [p5 65 (by decide), x3]⟩) p2
      refine ⟨P', Q', S', q_MG_t mg r1, ?_⟩
      rw [road]
      simp only [q_ca, p1]
      exact r2
    · rw [ef, decide_eq_false c0, Bool.false_and]
      have h55 : Q 55 lx = nI (q_sF (q_lg FL lx)) := (hM.2.2.2.2.2.2.2.1 lx hlx).1
      have pf := q_mput_f (κ := κ) (C := C) (O := O) (D := D) (m := m) (v := v w) hn hMm il (by rw [elw]; exact c0) (by omega) h55
      refine ⟨P, Q, S, q_MG_r, ?_⟩
      rw [if_neg (by decide), road]
      simp only [q_ca, pf]
theorem q_mlay {N : List q_Nam} {top z lx : Nat} {L : List q_Knd} {Js : List q_Ins} {FL : List q_Lin} {fo ad : Nat → Nat} {P : Nat → Int32} {Q : Nat → Nat → Int32} {S : Nat → Nat → Int64} {la : Nat → Int32} {wo : Nat → Int64} (hn : b + 66 < n) (hz : z ≤ 32) (h96 : Js.length ≤ 96) (hFL : FL.length ≤ 6001) (hlx : lx < FL.length) (hXP : ∀ x ∈ FL, q_XP B l z x) (hG : q_LG B l (q_LT FL)) (hK : (q_LT FL).length ≤ 6000) (hJ : ∀ J ∈ Js, q_Jok J) (hcl : ∀ J ∈ Js, ∀ c ∈ J.2.2.2, c.length = z) (hleg : ∀ J ∈ Js, q_leg (q_kb L J.2.2.1) J.2.2.1.length J.2.2.2.flatten) (hkL : ∀ K ∈ L, q_kB K ≤ 32) (hB : ∀ x ∈ FL, q_rea x = true → ad (q_sF x) + q_wds Js fo x ≤ 4096) (hM : q_ME B l zt N top L z Js FL P Q S) (h58 : ∀ j, j < FL.length → q_sS (q_lg FL j) = 1 → Q 58 j = nI (fo (q_sF (q_lg FL j)))) (hFO : q_FO B l (q_LT FL) L Js FL fo) (h59 : q_M59 Q FL ad) (hMm : q_MMm P Q S la wo) : ∃ P' Q' S', q_MG P P' Q Q' S S' ∧ (if q_free la (ad (q_sF (q_lg FL lx))) (q_wds Js fo (q_lg FL lx)) 0 = true then F_X13_lay κ (some (b + 26)) (nI lx) (q_H b C (P, Q, S) O D, n, m) = some (.inl (), (q_H b C (P', Q', S') O D, n, m)) ∧ q_MMm P' Q' S' (q_pL (ad (q_sF (q_lg FL lx))) (q_wds Js fo (q_lg FL lx)) la) (q_pW (ad (q_sF (q_lg FL lx))) (q_wds Js fo (q_lg FL lx)) (fun w => lN (q_wv B l (q_LT FL) L Js fo ad (q_lg FL lx) w)) wo) else F_X13_lay κ (some (b + 26)) (nI lx) (q_H b C (P, Q, S) O D, n, m) = q_thr Unit b C (P', Q', S') O D n m (nI 8) (nI (q_sF (q_lg FL lx)))) := by
  have hM0 := hM
  obtain ⟨hT, hPL, hMI, hMM, h23, h21, h52, hML, hMB⟩ := hM0
  have hzt := hT.2.2.1
  have hl := hT.2.1
  have hwf : ∀ i, i < l.length → (q_tok l i).1 ≤ 4 := fun i hi => (hT.2.2.2.2.1 i _ (q_tok_s hi)).1
  obtain ⟨a1, a2, a3, a4, a5⟩ := hML lx hlx
  have lx6 : lx < 6002 := by omega
  have xm := q_lg_m hlx
  have q58 := h58 lx hlx
  have q59 := h59 lx hlx
  obtain ⟨x, hx⟩ : ∃ x, x = q_lg FL lx := ⟨_, rfl⟩
  obtain ⟨LT9, t9, ht9, hx9⟩ := hXP _ xm
  have bb := q_ln1_b hwf hx9 ht9
  have b8 := bb.2.2.2.2.2.2.2.1
  have n1 : (nI (q_sS (q_lg FL lx)) = (1 : Int32)) = (q_sS (q_lg FL lx) = 1) := propext (nI_eq (b := 1) (by omega) (by decide))
  have n2 : (nI (q_sS (q_lg FL lx)) = (2 : Int32)) = (q_sS (q_lg FL lx) = 2) := propext (nI_eq (b := 2) (by omega) (by decide))
  by_cases d1 : q_sS (q_lg FL lx) = 1
  · have t1 : (q_sS (q_lg FL lx) = 1) = True := eq_true d1
    have t2 : (q_sS (q_lg FL lx) = 2) = False := eq_false (by omega)
    have hre : q_rea (q_lg FL lx) = true := by
      unfold q_rea
      rw [decide_eq_false (by omega : ¬ q_sS (q_lg FL lx) = 0)]
      exact Bool.or_true _
    obtain ⟨hE, hy1⟩ := q_XP_E hwf (hXP _ xm) d1
    obtain ⟨F1, ps, F4⟩ := hFO _ xm d1
    have q58' := q58 d1
    have q59' := q59 hre
    have hb := hB _ xm hre
    have ew : q_wds Js fo (q_lg FL lx) = (q_jg Js (fo (q_sF (q_lg FL lx)))).2.2.2.length := by unfold q_wds; rw [if_pos d1]
    rw [ew] at hb ⊢
    have jm : q_jg Js (fo (q_sF (q_lg FL lx))) ∈ Js := List.mem_of_getElem? (q_jg_e F1)
    obtain ⟨Q1, S1, m0, m1, m2⟩ := q_mform (κ := κ) (b := b) (C := C) (O := O) (D := D) (s := (n, m)) (i := fo (q_sF (q_lg FL lx))) hT hE (by omega) lx6 a2 a5 hPL (hMI _ _ (q_jg_e F1)) hMM (hJ _ jm) hMB.1 hMB.2.1 hG.2 hK
    have mg1 : q_MG P P Q Q1 S S1 := ⟨fun _ _ => rfl, fun i _ i2 => m0.1 i i2, fun i _ i2 => m0.2 i i2⟩
    obtain ⟨P', Q', S', r1, r2⟩ := q_mlay_94 (κ := κ) (b := b) (C := C) (O := O) (D := D) (m := m) (ad := ad) (ps := ps) (A := ad (q_sF (q_lg FL lx))) (v := fun w => lN (q_wv B l (q_LT FL) L Js fo ad (q_lg FL lx) w)) (la := la) (wo := wo) hn hz h96 hFL F1 hlx hre hK (hJ _ jm) (hcl _ jm) (hleg _ jm) hkL hb (fun w c hc => by
      unfold q_wv
      rw [if_pos d1, F4, List.getD_eq_getElem?_getD, hc]
      rfl) (q_jg Js (fo (q_sF (q_lg FL lx)))).2.2.2.length q_fu 0 P Q1 S1 (by omega) (by unfold q_fu; omega) (q_ME_u hM (q_MG_F mg1)) (fun j hj hr => by rw [m0.1 59 (by decide)]; exact h59 j hj hr) (m2 ps F4) (by
      rw [q_pL_0, q_pW_0]
      exact ⟨hMm.1, fun i hi => by rw [m0.1 54 (by decide), m0.2 53 (by decide)]; exact hMm.2 i hi⟩)
    rw [nI_0] at r2
    refine ⟨P', Q', S', q_MG_t mg1 r1, ?_⟩
    have road : F_X13_lay κ (some (b + 26)) (nI lx) (q_H b C (P, Q, S) O D, n, m) = F_X13_lay_94 κ q_fu (some (b + 26)) (nI lx) (nI (ad (q_sF (q_lg FL lx)))) (nI (fo (q_sF (q_lg FL lx)))) 0 (q_H b C (P, Q1, S1) O D, n, m) := by
      simp (disch := first | rfl | omega | decide | exact Nat.le_of_ble_eq_true rfl) only [↓q_br, q_rt, q_rz, q_gd, q_ca, ↓reduceIte, F_X13_lay, ↓q_gA_26_47, ↓q_gA_26_48, ↓q_gA_26_49, ↓q_is_26, ↓q_lI_57, ↓q_lI_58, ↓q_lI_59, q59', q58', a3, n2, t2, not_false_eq_true, n1, t1, not_true_eq_false, ↓q_is_26, m1]
    rw [road]
    exact r2
  · have t1 : (q_sS (q_lg FL lx) = 1) = False := eq_false d1
    have ew : q_wds Js fo (q_lg FL lx) = q_sW (q_lg FL lx) := by unfold q_wds; rw [if_neg d1]
    by_cases d2 : q_sS (q_lg FL lx) = 2
    · have t2 : (q_sS (q_lg FL lx) = 2) = True := eq_true d2
      have hre : q_rea (q_lg FL lx) = true := by
        unfold q_rea
        rw [decide_eq_false (by omega : ¬ q_sS (q_lg FL lx) = 0)]
        exact Bool.or_true _
      have q59' := q59 hre
      have hb := hB _ xm hre
      rw [ew] at hb ⊢
      have nums := q_XP_2 hT.2.2.2.2.1 hz (hXP _ xm) d2
      have be := (bb.2.2.2.2.2.2.2.2.2.1 d2).1
      have bl := bb.2.2.2.2.1
      obtain ⟨P', Q', S', r1, r2⟩ := q_mlay_27 (κ := κ) (b := b) (C := C) (O := O) (D := D) (m := m) (hd := q_sH (q_lg FL lx)) (sf := q_sF (q_lg FL lx)) (v := fun w => lN (q_wv B l (q_LT FL) L Js fo ad (q_lg FL lx) w)) (la := la) (wo := wo) hn lx6 hb (by omega) (q_sW (q_lg FL lx)) q_fu 0 P Q S (by omega) (by unfold q_fu; omega) (by rw [q_pL_0, q_pW_0]; exact hMm) a4 a2 a1 (fun u hu => by
        obtain ⟨m1, m2, m3⟩ := nums u hu
        rw [q_TM_wo hT (q_tok_lt (by omega)) (Or.inl m1)]
        unfold q_wv
        rw [if_neg d1]
        exact m2)
      rw [nI_0] at r2
      refine ⟨P', Q', S', r1, ?_⟩
      have road : F_X13_lay κ (some (b + 26)) (nI lx) (q_H b C (P, Q, S) O D, n, m) = F_X13_lay_27 κ q_fu (some (b + 26)) (nI lx) (nI (ad (q_sF (q_lg FL lx)))) 0 (q_H b C (P, Q, S) O D, n, m) := by
        simp (disch := first | rfl | omega | decide | exact Nat.le_of_ble_eq_true rfl) only [↓q_br, q_rt, q_rz, q_gd, q_ca, ↓reduceIte, F_X13_lay, ↓q_gA_26_47, ↓q_gA_26_48, ↓q_gA_26_49, ↓q_is_26, ↓q_lI_57, ↓q_lI_58, ↓q_lI_59, q59', a3, n2, t2, not_true_eq_false]
      rw [road]
      exact r2
    · have t2 : (q_sS (q_lg FL lx) = 2) = False := eq_false d2
      have w0 : q_wds Js fo (q_lg FL lx) = 0 := by
        rw [ew]
        exact bb.2.2.2.2.2.2.2.2.2.2.2 d2
      rw [w0]
      refine ⟨P, Q, S, q_MG_r, ?_⟩
      rw [if_pos (show q_free la (ad (q_sF (q_lg FL lx))) 0 0 = true from rfl), q_pL_0, q_pW_0]
      refine ⟨?_, hMm⟩
      simp (disch := first | rfl | omega | decide | exact Nat.le_of_ble_eq_true rfl) only [↓q_br, q_rt, q_rz, q_gd, q_ca, ↓reduceIte, F_X13_lay, F_X13_lay_207, ↓q_gA_26_47, ↓q_gA_26_48, ↓q_gA_26_49, ↓q_is_26, ↓q_lI_57, ↓q_lI_58, ↓q_lI_59, a3, n2, t2, not_false_eq_true, n1, t1]
theorem q_m205 {N : List q_Nam} {top z : Nat} {L : List q_Knd} {Js : List q_Ins} {FL : List q_Lin} {fo ad : Nat → Nat} (hn : b + 66 < n) (hz : z ≤ 32) (h96 : Js.length ≤ 96) (hFL : FL.length ≤ 6001) (hXP : ∀ x ∈ FL, q_XP B l z x) (hG : q_LG B l (q_LT FL)) (hK : (q_LT FL).length ≤ 6000) (hJ : ∀ J ∈ Js, q_Jok J) (hcl : ∀ J ∈ Js, ∀ c ∈ J.2.2.2, c.length = z) (hleg : ∀ J ∈ Js, q_leg (q_kb L J.2.2.1) J.2.2.1.length J.2.2.2.flatten) (hkL : ∀ K ∈ L, q_kB K ≤ 32) (hB : ∀ x ∈ FL, q_rea x = true → ad (q_sF x) + q_wds Js fo x ≤ 4096) (hFO : q_FO B l (q_LT FL) L Js FL fo) : ∀ d fuel i (P : Nat → Int32) (Q : Nat → Nat → Int32) (S : Nat → Nat → Int64) (la : Nat → Int32) (wo : Nat → Int64), i + d = FL.length → d < fuel → q_ME B l zt N top L z Js FL P Q S → (∀ j, j < FL.length → q_sS (q_lg FL j) = 1 → Q 58 j = nI (fo (q_sF (q_lg FL j)))) → q_M59 Q FL ad → q_MMm P Q S la wo →
    ∃ P' Q' S', q_MG P P' Q Q' S S' ∧ (match q_lay (q_wds Js fo) ad (fun x w => lN (q_wv B l (q_LT FL) L Js fo ad x w)) (FL.drop i) la wo with
      | .inl (k, p) => F_X13_assembled_205 κ fuel (some (b + 26)) (nI i) (q_H b C (P, Q, S) O D, n, m) = q_thr Unit b C (P', Q', S') O D n m (nI k) (nI p)
      | .inr (la', wo') => F_X13_assembled_205 κ fuel (some (b + 26)) (nI i) (q_H b C (P, Q, S) O D, n, m) = some (.inl (), (q_H b C (P', Q', S') O D, n, m)) ∧ q_MMm P' Q' S' la' wo') := by
  intro d
  induction d with
  | zero =>
    intro fuel i P Q S la wo h1 h2 hM h58 h59 hMm
    obtain ⟨g, rfl⟩ : ∃ g, fuel = g + 1 := ⟨fuel - 1, by omega⟩
    have h3 : FL.length ≤ i := by omega
    have h52 := hM.2.2.2.2.2.2.1
    have le : (nI FL.length ≤ nI i) = True := eq_true (nI_le h3 (by omega))
    refine ⟨P, Q, S, q_MG_r, ?_⟩
    rw [List.drop_eq_nil_of_le h3, q_lay]
    refine ⟨?_, hMm⟩
    rw [F_X13_assembled_205]
    simp (disch := first | rfl | omega | decide | exact Nat.le_of_ble_eq_true rfl) only [↓q_br, q_rt, q_rz, q_gd, q_ca, ↓reduceIte, F_X13_assembled_205B, ↓q_gI_26_52, ↓q_is_26, h52, le]
  | succ d ih =>
    intro fuel i P Q S la wo h1 h2 hM h58 h59 hMm
    obtain ⟨g, rfl⟩ : ∃ g, fuel = g + 1 := ⟨fuel - 1, by omega⟩
    have hi9 : i < FL.length := by omega
    have h52 := hM.2.2.2.2.2.2.1
    have le : (nI FL.length ≤ nI i) = False := eq_false (nI_ge hi9 (by omega))
    obtain ⟨P1, Q1, S1, r1, r2⟩ := q_mlay (κ := κ) (b := b) (C := C) (O := O) (D := D) (m := m) hn hz h96 hFL hi9 hXP hG hK hJ hcl hleg hkL hB hM h58 hFO h59 hMm
    rw [q_lg_d hi9, q_lay]
    cases hfr : q_free la (ad (q_sF (q_lg FL i))) (q_wds Js fo (q_lg FL i)) 0 with
    | true =>
      rw [hfr, if_pos rfl] at r2
      obtain ⟨r2, r3⟩ := r2
      rw [if_pos rfl]
      obtain ⟨P', Q', S', w1, w2⟩ := ih g (i + 1) P1 Q1 S1 _ _ (by omega) (by omega) (q_ME_u hM (q_MG_F r1)) (fun j hj hs => by rw [r1.2.1 58 (by decide) (by decide)]; exact h58 j hj hs) (fun j hj hr => by rw [r1.2.1 59 (by decide) (by decide)]; exact h59 j hj hr) r3
      refine ⟨P', Q', S', q_MG_t r1 w1, ?_⟩
      have st : F_X13_assembled_205 κ (g + 1) (some (b + 26)) (nI i) (q_H b C (P, Q, S) O D, n, m) = F_X13_assembled_205 κ g (some (b + 26)) (nI (i + 1)) (q_H b C (P1, Q1, S1) O D, n, m) := by
        rw [F_X13_assembled_205]
        simp (disch := first | rfl | omega | decide | exact Nat.le_of_ble_eq_true rfl) only [↓q_br, q_rt, q_rz, q_gd, q_ca, ↓reduceIte, F_X13_assembled_205B, ↓q_gI_26_52, ↓q_is_26, h52, le, ↓q_is_26, r2, nI_1]
      rw [st]
      exact w2
    | false =>
      rw [hfr, if_neg (by decide)] at r2
      rw [if_neg (by decide)]
      refine ⟨P1, Q1, S1, r1, ?_⟩
      show F_X13_assembled_205 κ (g + 1) (some (b + 26)) (nI i) (q_H b C (P, Q, S) O D, n, m) = q_thr Unit b C (P1, Q1, S1) O D n m (nI 8) (nI (q_sF (q_lg FL i)))
      rw [F_X13_assembled_205]
      simp (disch := first | rfl | omega | decide | exact Nat.le_of_ble_eq_true rfl) only [↓q_br, q_rt, q_rz, q_gd, q_ca, ↓reduceIte, F_X13_assembled_205B, ↓q_gI_26_52, ↓q_is_26, h52, le, ↓q_is_26, r2]
end QMN
