/-- the reference's memory -/
def q_MMm (P : Nat → Int32) (Q : Nat → Nat → Int32) (S : Nat → Nat → Int64) (la : Nat → Int32) (wo : Nat → Int64) : Prop := P 42 = nI (q_lc la 4096) ∧ ∀ i, i < 4096 → Q 54 i = la i ∧ (¬ la i = 0 → S 53 i = wo i)
section QML
variable {κ : Nat → Nat} {b : Nat} {B : Nat → Int32} {l : List q_Tok} {zt : Nat} {C : q_CT} {O : Nat → Int64} {D : q_Mem} {n m : Nat}
theorem q_mput {P : Nat → Int32} {Q : Nat → Nat → Int32} {S : Nat → Nat → Int64} {la : Nat → Int32} {wo : Nat → Int64} {j lx : Nat} {v : Int64} (hM : q_MMm P Q S la wo) (hj : j < 4096) (h0 : la j = 0) : ∃ P' Q' S', F_X13_put κ (some (b + 26)) (nI lx) (nI j) v (q_H b C (P, Q, S) O D, n, m) = some (.inl (), (q_H b C (P', Q', S') O D, n, m)) ∧ q_MMm P' Q' S' (q_u1 la j 1) (q_u1 wo j v) ∧ (∀ i, i ≠ 42 → P' i = P i) ∧ (∀ i, i ≠ 54 → Q' i = Q i) ∧ ∀ i, i ≠ 53 → S' i = S i := by
  have q0 : Q 54 j = 0 := by rw [(hM.2 j hj).1, h0]
  have vn : vp_nar .boolean (1 : Int32) = 1 := by decide
  have h42 := hM.1
  refine ⟨q_u1 P 42 (nI (q_lc la 4096 + 1)), q_u2 Q 54 j 1, q_u2 S 53 j v, ?_, ⟨by rw [q_u1_s, q_lc_in 4096 hj h0], fun i hi => ?_⟩, fun i hi => q_u1_n _ _ hi, fun i hi => q_u2_n _ _ _ hi, fun i hi => q_u2_n _ _ _ hi⟩
  · simp (disch := first | rfl | omega | decide | exact Nat.le_of_ble_eq_true rfl) only [↓q_br, q_rt, q_rz, q_gd, q_ca, ↓reduceIte, F_X13_put, ↓q_gA_26_40, ↓q_gA_26_41, ↓q_gA_26_45, ↓q_gI_26_42, ↓q_lI_54, ↓q_lI_55, ↓q_pI_26_42, ↓q_sI_54, ↓q_sI_55, ↓q_sL_53, q0, vn, h42, nI_1]
  · rw [q_u2_s, q_u2_s]
    by_cases e : i = j
    · rw [e, q_u1_s, q_u1_s, q_u1_s, q_u1_s]
      exact ⟨rfl, fun _ => rfl⟩
    · rw [q_u1_n _ _ e, q_u1_n _ _ e, q_u1_n _ _ e, q_u1_n _ _ e]
      exact hM.2 i hi
theorem q_mput_f {P : Nat → Int32} {Q : Nat → Nat → Int32} {S : Nat → Nat → Int64} {la : Nat → Int32} {wo : Nat → Int64} {j lx sf : Nat} {v : Int64} (hn : b + 66 < n) (hM : q_MMm P Q S la wo) (hj : j < 4096) (h0 : ¬ la j = 0) (hlx : lx < 6002) (h55 : Q 55 lx = nI sf) : F_X13_put κ (some (b + 26)) (nI lx) (nI j) v (q_H b C (P, Q, S) O D, n, m) = q_thr Unit b C (P, Q, S) O D n m (nI 8) (nI sf) := by
  have q0 : (Q 54 j = 0) = False := eq_false (by rw [(hM.2 j hj).1]; exact h0)
  simp (disch := first | rfl | omega | decide | exact Nat.le_of_ble_eq_true rfl) only [↓q_br, q_rt, q_rz, q_gd, q_ca, ↓reduceIte, F_X13_put, ↓q_gA_26_40, ↓q_gA_26_41, ↓q_gA_26_45, ↓q_gI_26_42, ↓q_lI_54, ↓q_lI_55, ↓q_pI_26_42, ↓q_sI_54, ↓q_sI_55, ↓q_sL_53, q0, h55, q_mk_H, reduceCtorEq, not_false_eq_true, q_fault, qd_Su, q_tr]
  rfl
def q_MG (P P' : Nat → Int32) (Q Q' : Nat → Nat → Int32) (S S' : Nat → Nat → Int64) : Prop := (∀ i, i ≠ 42 → P' i = P i) ∧ (∀ i, i ≠ 54 → i ≠ 64 → Q' i = Q i) ∧ ∀ i, i ≠ 53 → i ≠ 65 → S' i = S i
theorem q_MG_F {P P' : Nat → Int32} {Q Q' : Nat → Nat → Int32} {S S' : Nat → Nat → Int64} (h : q_MG P P' Q Q' S S') : q_MF P P' Q Q' S S' := ⟨fun j h1 _ => h.1 j h1, fun j h1 _ _ h4 => h.2.1 j h1 h4, h.2.2⟩
theorem q_MG_t {P P' P2 : Nat → Int32} {Q Q' Q2 : Nat → Nat → Int32} {S S' S2 : Nat → Nat → Int64} (h : q_MG P P' Q Q' S S') (h' : q_MG P' P2 Q' Q2 S' S2) : q_MG P P2 Q Q2 S S2 := ⟨fun j j1 => by rw [h'.1 j j1, h.1 j j1], fun j j1 j2 => by rw [h'.2.1 j j1 j2, h.2.1 j j1 j2], fun j j1 j2 => by rw [h'.2.2 j j1 j2, h.2.2 j j1 j2]⟩
theorem q_mlay_27 {lx A wd hd sf : Nat} {v : Nat → Int64} {la : Nat → Int32} {wo : Nat → Int64} (hn : b + 66 < n) (hlx : lx < 6002) (hA : A + wd ≤ 4096) (hh : hd + 2 + 2 * wd ≤ 6001) : ∀ d fuel w (P : Nat → Int32) (Q : Nat → Nat → Int32) (S : Nat → Nat → Int64), w + d = wd → d < fuel → q_MMm P Q S (q_pL A w la) (q_pW A w v wo) → Q 60 lx = nI wd → Q 56 lx = nI hd → Q 55 lx = nI sf → (∀ u, u < wd → S 33 (hd + 2 + 2 * u) = v u) → ∃ P' Q' S', q_MG P P' Q Q' S S' ∧ (if q_free la A d w = true then F_X13_lay_27 κ fuel (some (b + 26)) (nI lx) (nI A) (nI w) (q_H b C (P, Q, S) O D, n, m) = some (.inl (), (q_H b C (P', Q', S') O D, n, m)) ∧ q_MMm P' Q' S' (q_pL A wd la) (q_pW A wd v wo) else F_X13_lay_27 κ fuel (some (b + 26)) (nI lx) (nI A) (nI w) (q_H b C (P, Q, S) O D, n, m) = q_thr Unit b C (P', Q', S') O D n m (nI 8) (nI sf)) := by
  intro d
  induction d with
  | zero =>
    intro fuel w P Q S h1 h2 hM h60 h56 h55 h33
    obtain ⟨g, rfl⟩ : ∃ g, fuel = g + 1 := ⟨fuel - 1, by omega⟩
    have ew : w = wd := by omega
    have le : (nI wd ≤ nI w) = True := eq_true (nI_le (by omega) (by omega))
    refine ⟨P, Q, S, ⟨fun _ _ => rfl, fun _ _ _ => rfl, fun _ _ _ => rfl⟩, ?_⟩
    rw [if_pos (show q_free la A 0 w = true from rfl)]
    refine ⟨?_, by rw [← ew]; exact hM⟩
    rw [F_X13_lay_27]
    simp (disch := first | rfl | omega | decide | exact Nat.le_of_ble_eq_true rfl) only [↓q_br, q_rt, q_rz, q_gd, q_ca, ↓reduceIte, F_X13_lay_27B, F_X13_lay_207, ↓q_gA_26_12, ↓q_gA_26_46, ↓q_gA_26_50, ↓q_is_26, ↓q_lI_56, ↓q_lI_60, ↓q_lL_33, h60, le]
  | succ d ih =>
    intro fuel w P Q S h1 h2 hM h60 h56 h55 h33
    obtain ⟨g, rfl⟩ : ∃ g, fuel = g + 1 := ⟨fuel - 1, by omega⟩
    have le : (nI wd ≤ nI w) = False := eq_false (nI_ge (by omega) (by omega))
    have ix : nI A + nI w = nI (A + w) := nI_add _ _
    have il : A + w < 4096 := by omega
    have iy : nI hd + (2 : Int32) + (2 : Int32) * nI w = nI (hd + 2 + 2 * w) := by rw [show (2 : Int32) * nI w = nI (2 * w) from (Int32.ofNat_mul 2 w).symm, show nI hd + (2 : Int32) = nI (hd + 2) from nI_add hd 2, nI_add]
    have iyl : hd + 2 + 2 * w < 6002 := by omega
    have y7 := h33 w (by omega)
    have ef : q_free la A (d + 1) w = (decide (la (A + w) = 0) && q_free la A d (w + 1)) := rfl
    have elw : q_pL A w la (A + w) = la (A + w) := by unfold q_pL; rw [if_neg (by omega)]
    by_cases c : la (A + w) = 0
    · rw [ef, decide_eq_true c, Bool.true_and]
      obtain ⟨P1, Q1, S1, p1, p2, p3, p4, p5⟩ := q_mput (κ := κ) (b := b) (C := C) (O := O) (D := D) (n := n) (m := m) (lx := lx) (v := v w) hM il (by rw [elw]; exact c)
      rw [q_pL_s, q_pW_s] at p2
      obtain ⟨P', Q', S', r1, r2⟩ := ih g (w + 1) P1 Q1 S1 (by omega) (by omega) p2 (by rw [p4 60 (by decide), h60]) (by rw [p4 56 (by decide), h56]) (by rw [p4 55 (by decide), h55]) (fun u hu => by rw [p5 33 (by decide)]; exact h33 u hu)
      refine ⟨P', Q', S', q_MG_t ⟨p3, fun i i1 _ => p4 i i1, fun i i1 _ => p5 i i1⟩ r1, ?_⟩
      have st : F_X13_lay_27 κ (g + 1) (some (b + 26)) (nI lx) (nI A) (nI w) (q_H b C (P, Q, S) O D, n, m) = F_X13_lay_27 κ g (some (b + 26)) (nI lx) (nI A) (nI (w + 1)) (q_H b C (P1, Q1, S1) O D, n, m) := by
        rw [F_X13_lay_27]
        simp (disch := first | rfl | omega | decide | exact Nat.le_of_ble_eq_true rfl) only [↓q_br, q_rt, q_rz, q_gd, q_ca, ↓reduceIte, F_X13_lay_27B, ↓q_gA_26_12, ↓q_gA_26_46, ↓q_gA_26_50, ↓q_is_26, ↓q_lI_56, ↓q_lI_60, ↓q_lL_33, h60, le, h56, iy, y7, ↓q_is_26, ix, p1, nI_1]
      rw [st]
      exact r2
    · rw [ef, decide_eq_false c, Bool.false_and]
      have pf := q_mput_f (κ := κ) (C := C) (O := O) (D := D) (m := m) (v := v w) hn hM il (by rw [elw]; exact c) hlx h55
      refine ⟨P, Q, S, ⟨fun _ _ => rfl, fun _ _ _ => rfl, fun _ _ _ => rfl⟩, ?_⟩
      rw [if_neg (by decide), F_X13_lay_27]
      simp (disch := first | rfl | omega | decide | exact Nat.le_of_ble_eq_true rfl) only [↓q_br, q_rt, q_rz, q_gd, q_ca, ↓reduceIte, F_X13_lay_27B, ↓q_gA_26_12, ↓q_gA_26_46, ↓q_gA_26_50, ↓q_is_26, ↓q_lI_56, ↓q_lI_60, ↓q_lL_33, h60, le, h56, iy, y7, ↓q_is_26, ix, pf]
theorem q_2lN (a : Nat) (t : Bool) : (2 : Int64) * lN a + lN (if t = true then 1 else 0) = lN (2 * a + (if t = true then 1 else 0)) := by
  have e1 : (2 : Int64) * lN a = lN (2 * a) := (Int64.ofNat_mul 2 a).symm
  have e2 : ∀ c, lN (2 * a) + lN c = lN (2 * a + c) := fun c => (Int64.ofNat_add (2 * a) c).symm
  rw [e1, e2]
theorem q_mlay_111 {r : Option Nat → Int32 → Int32 → Int32 → Int32 → q_X Unit} {N : List q_Nam} {top z lx i w A : Nat} {L : List q_Knd} {Js : List q_Ins} {FL : List q_Lin} {ad : Nat → Nat} {ps : Nat → Nat} {c : List Int32} {P : Nat → Int32} {Q : Nat → Nat → Int32} {S : Nat → Nat → Int64} (hM : q_ME B l zt N top L z Js FL P Q S) (hz : z ≤ 32) (h96 : Js.length ≤ 96) (hFL : FL.length ≤ 6001) (hi9 : i < Js.length) (hlx : lx < FL.length) (hre : q_rea (q_lg FL lx) = true) (h59 : q_M59 Q FL ad) (hK : (q_LT FL).length ≤ 6000) (hv : ∀ o, o < (q_jg Js i).2.2.1.length → q_MV B l (q_LT FL) L (q_jg Js i).2.2.1 Q S ps o) (hJ : q_Jok (q_jg Js i)) (hc : (q_jg Js i).2.2.2[w]? = some c) (cl : c.length = z) (hleg : q_leg (q_kb L (q_jg Js i).2.2.1) (q_jg Js i).2.2.1.length (q_jg Js i).2.2.2.flatten) (hkL : ∀ K ∈ L, q_kB K ≤ 32) : ∀ d fuel u a, u + d = z → d < fuel → a < 2 ^ u → F_X13_lay_111 κ r fuel (some (b + 26)) (nI lx) (nI A) (nI i) (nI w) (lN a) (nI u) (q_H b C (P, Q, S) O D, n, m) = q_ca (F_X13_put κ (some (b + 26)) (nI lx) (nI (A + w)) (lN (q_dw (q_pb9 (q_held B l (q_LT FL) L (q_jg Js i).2.2.1 ad (q_sF (q_lg FL lx)) ps)) a (c.drop u)))) (fun _ => r (some (b + 26)) (nI lx) (nI A) (nI i) (nI (w + 1))) (q_H b C (P, Q, S) O D, n, m) := by
  have hM0 := hM
  obtain ⟨hT, hPL, hMI, hMM, h23, h21, h52, hML, hMB⟩ := hM0
  have hm := hMI i _ (q_jg_e hi9)
  have n5 := hm.2.2.2.2.2.2.2.2.1
  have n4 := hm.2.2.2.2.2.2.2.2.2
  have wl : w < (q_jg Js i).2.2.2.length := (List.getElem?_eq_some_iff.mp hc).1
  have ix : nI A + nI w = nI (A + w) := nI_add _ _
  have n32 : (¬ (32 : Int32) = 0) = True := eq_true (by decide)
  intro d
  induction d with
  | zero =>
    intro fuel u a h1 h2 h3
    obtain ⟨g, rfl⟩ : ∃ g, fuel = g + 1 := ⟨fuel - 1, by omega⟩
    have le : (nI z ≤ nI u) = True := eq_true (nI_le (by omega) (by omega))
    rw [F_X13_lay_111, List.drop_eq_nil_of_le (by omega), q_dw]
    simp (disch := first | rfl | omega | decide | exact Nat.le_of_ble_eq_true rfl) only [↓q_br, q_rt, q_rz, q_gd, q_ca, ↓reduceIte, F_X13_lay_111B, ↓q_gA_26_38, ↓q_gI_26_21, ↓q_is_26, ↓q_lI_51, h21, le, ↓q_is_26, ix, nI_1]
  | succ d ih =>
    intro fuel u a h1 h2 h3
    obtain ⟨g, rfl⟩ : ∃ g, fuel = g + 1 := ⟨fuel - 1, by omega⟩
    have uc : u < c.length := by omega
    have le : (nI z ≤ nI u) = False := eq_false (nI_ge (by omega) (by omega))
    have wz : w * z ≤ 3 * 32 := Nat.mul_le_mul (by omega) hz
    have iq : (160 : Int32) * nI i + nI w * nI z + nI u = nI (160 * i + w * z + u) := by
      rw [show (160 : Int32) * nI i = nI (160 * i) from (Int32.ofNat_mul 160 i).symm, q_nImul, nI_add, nI_add]
    have iql : 160 * i + w * z + u < 15360 := by omega
    have q51 := q_MW_at hm.2.2.2.2.2.2.1 hc cl (by omega : u < z)
    have b32 : 2 ^ (u + 1) = 2 * 2 ^ u := by rw [Nat.pow_succ, Nat.mul_comm]
    rw [q_drop_s (d := 0) uc, q_dw]
    obtain ⟨v, hv9⟩ : ∃ v, v = c.getD u 0 := ⟨_, rfl⟩
    have vm : v ∈ c := by rw [hv9]; exact q_ps_at uc
    rw [← hv9] at q51 ⊢
    rw [F_X13_lay_111]
    by_cases hneg : v < 0
    · have ng : ((0 : Int32) ≤ v) = False := eq_false (Int32.not_le.mpr hneg)
      have dok := hJ.2 c (List.mem_of_getElem? hc) v vm hneg
      have eb : (-1 - v).toInt64 = lN (if q_pb9 (q_held B l (q_LT FL) L (q_jg Js i).2.2.1 ad (q_sF (q_lg FL lx)) ps) v = true then 1 else 0) := by
        unfold q_pb9
        rw [if_pos hneg]
        rcases dok with e | e
        · rw [e]; decide
        · rw [e]; decide
      have ihk := ih g (u + 1) (2 * a + (if q_pb9 (q_held B l (q_LT FL) L (q_jg Js i).2.2.1 ad (q_sF (q_lg FL lx)) ps) v = true then 1 else 0)) (by omega) (by omega) (by split <;> omega)
      simp (disch := first | rfl | omega | decide | exact Nat.le_of_ble_eq_true rfl) only [↓q_br, q_rt, q_rz, q_gd, q_ca, ↓reduceIte, F_X13_lay_111B, F_X13_lay_181, ↓q_gA_26_38, ↓q_gI_26_21, ↓q_is_26, ↓q_lI_51, h21, le, iq, q51, ng, eb, q_2lN, nI_1, ihk]
    · have ng : ((0 : Int32) ≤ v) = True := eq_true (Int32.not_lt.mp hneg)
      obtain ⟨o, k, o1, k1, ok⟩ := q_leg_at (z := z) hleg hc uc (by rw [← hv9]; exact hneg)
      rw [← hv9] at ok
      have k32 : k < 32 := Nat.lt_of_lt_of_le k1 (q_kb_le hkL _ o)
      have o5 : o < 5 := by omega
      have d2 : v / (32 : Int32) = nI o := by
        rw [ok, show (32 : Int32) = nI 32 from rfl, pk_div (by omega) (by decide) (by decide), show (32 * o + k) / 32 = o from by omega]
      have r2 : v - nI o * (32 : Int32) = nI k := by
        rw [← d2, ok, show (32 : Int32) = nI 32 from rfl, pk_rem (by omega) (by decide) (by decide), show (32 * o + k) % 32 = k from by omega]
      have val := q_mvalue (κ := κ) (b := b) (C := C) (O := O) (D := D) (s := (n, m)) hM h96 hFL hi9 hlx hre h59 hK o1 (hv o o1)
      have eb : q_pb9 (q_held B l (q_LT FL) L (q_jg Js i).2.2.1 ad (q_sF (q_lg FL lx)) ps) v = q_bv (q_held B l (q_LT FL) L (q_jg Js i).2.2.1 ad (q_sF (q_lg FL lx)) ps o) k := by rw [ok, q_pb9_o o5 k32]
      have bt := q_bv_e (q_held B l (q_LT FL) L (q_jg Js i).2.2.1 ad (q_sF (q_lg FL lx)) ps o) k
      rw [← eb] at bt
      have ihk := ih g (u + 1) (2 * a + (if q_pb9 (q_held B l (q_LT FL) L (q_jg Js i).2.2.1 ad (q_sF (q_lg FL lx)) ps) v = true then 1 else 0)) (by omega) (by omega) (by split <;> omega)
      simp (disch := first | rfl | omega | decide | exact Nat.le_of_ble_eq_true rfl) only [↓q_br, q_rt, q_rz, q_gd, q_ca, ↓reduceIte, F_X13_lay_111B, F_X13_lay_181, ↓q_gA_26_38, ↓q_gI_26_21, ↓q_is_26, ↓q_lI_51, h21, le, iq, q51, ng, n32, d2, ↓q_is_26, val, r2, bt, q_2lN, nI_1, ihk]
end QML
