/-- every line of code has a form -/
def q_FO (B : Nat → Int32) (l : List q_Tok) (LT : List Nat) (L : List q_Knd) (Js : List q_Ins) (FL : List q_Lin) (fo : Nat → Nat) : Prop := ∀ x ∈ FL, q_sS x = 1 → fo (q_sF x) < Js.length ∧ ∃ ps, q_isf B l LT L (q_jg Js (fo (q_sF x))) (q_sH x) (q_sE x) = some ps
theorem q_INC_e {Ls : List q_Lin} {x y : q_Lin} (h : q_INC Ls) (hx : x ∈ Ls) (hy : y ∈ Ls) (he : q_sF x = q_sF y) : x = y := by
  obtain ⟨i, hi, e1⟩ := List.getElem_of_mem hx
  obtain ⟨j, hj, e2⟩ := List.getElem_of_mem hy
  by_cases hij : i = j
  · subst hij
    rw [← e1, ← e2]
  · have := q_INC_n h hi hj hij
    rw [q_lg_g hi, q_lg_g hj, e1, e2] at this
    exact absurd he this
theorem q_FO_u {B : Nat → Int32} {l : List q_Tok} {LT : List Nat} {L : List q_Knd} {Js : List q_Ins} {FL : List q_Lin} {fo : Nat → Nat} {x : q_Lin} {j : Nat} {ps : Nat → Nat} (h : q_FO B l LT L Js FL fo) (hI : q_INC FL) (hx : x ∈ FL) (hj : j < Js.length) (hp : q_isf B l LT L (q_jg Js j) (q_sH x) (q_sE x) = some ps) : q_FO B l LT L Js FL (q_u1 fo (q_sF x) j) := by
  intro y hy hs
  by_cases he : q_sF y = q_sF x
  · have e : y = x := q_INC_e hI hy hx he
    rw [e, q_u1_s]
    exact ⟨hj, ps, hp⟩
  · rw [q_u1_n _ _ he]
    exact h y hy hs
section QM9
variable {κ : Nat → Nat} {b : Nat} {B : Nat → Int32} {l : List q_Tok} {zt : Nat} {C : q_CT} {P : Nat → Int32} {O : Nat → Int64} {D : q_Mem} {n m : Nat}
theorem q_m98 {N : List q_Nam} {top z : Nat} {L : List q_Knd} {Js : List q_Ins} {FL : List q_Lin} {ad : Nat → Nat} {r76 : Option Nat → Int32 → q_X Unit} (hn : b + 66 < n) (hJ : ∀ J ∈ Js, q_Jok J) (h96 : Js.length ≤ 96) (hXP : ∀ x ∈ FL, q_XP B l z x) (hIN : q_INC FL) (hG : q_LG B l (q_LT FL)) (hK : (q_LT FL).length ≤ 6000) (hFL : FL.length ≤ 6001) : ∀ d fuel i (fo : Nat → Nat) (mv : Bool) (Q : Nat → Nat → Int32) (S : Nat → Nat → Int64), i + d = FL.length → d < fuel → q_ME B l zt N top L z Js FL P Q S → (∀ j, j < FL.length → q_sS (q_lg FL j) = 1 → Q 58 j = nI (fo (q_sF (q_lg FL j)))) → q_FO B l (q_LT FL) L Js FL fo → q_M59 Q FL ad →
    ∃ Q' S', q_MF P P Q Q' S S' ∧ (∀ j, j ≠ 58 → j ≠ 64 → Q' j = Q j) ∧ (∀ j, j ≠ 65 → S' j = S j) ∧ (match q_mm (q_fit B l (q_LT FL) L Js ad) (q_nfx B l (q_LT FL) L Js) (FL.drop i) fo mv with
      | .inl (k, p) => F_X13_assembled_98 κ r76 fuel (some (b + 26)) (q_b (!mv)) (nI i) (q_H b C (P, Q, S) O D, n, m) = q_thr Unit b C (P, Q', S') O D n m (nI k) (nI p)
      | .inr (fo', mv') => F_X13_assembled_98 κ r76 fuel (some (b + 26)) (q_b (!mv)) (nI i) (q_H b C (P, Q, S) O D, n, m) = r76 (some (b + 26)) (q_b (!mv')) (q_H b C (P, Q', S') O D, n, m) ∧ (∀ j, j < FL.length → q_sS (q_lg FL j) = 1 → Q' 58 j = nI (fo' (q_sF (q_lg FL j)))) ∧ q_FO B l (q_LT FL) L Js FL fo') := by
  intro d
  induction d with
  | zero =>
    intro fuel i fo mv Q S h1 h2 hM h58 hFO h59
    obtain ⟨g, rfl⟩ : ∃ g, fuel = g + 1 := ⟨fuel - 1, by omega⟩
    have h3 : FL.length ≤ i := by omega
    have h52 := hM.2.2.2.2.2.2.1
    have le : (nI FL.length ≤ nI i) = True := eq_true (nI_le h3 (by omega))
    refine ⟨Q, S, q_MF_r, fun _ _ _ => rfl, fun _ _ => rfl, ?_⟩
    rw [List.drop_eq_nil_of_le h3, q_mm]
    refine ⟨?_, h58, hFO⟩
    rw [F_X13_assembled_98]
    simp (disch := first | rfl | omega | decide | exact Nat.le_of_ble_eq_true rfl) only [↓q_br, q_rt, q_rz, q_gd, q_ca, ↓reduceIte, F_X13_assembled_98B, ↓q_gA_26_46, ↓q_gA_26_47, ↓q_gA_26_48, ↓q_gI_26_52, ↓q_is_26, ↓q_lI_56, ↓q_lI_57, ↓q_lI_58, ↓q_sI_56, ↓q_sI_57, ↓q_sI_58, h52, le]
  | succ d ih =>
    intro fuel i fo mv Q S h1 h2 hM h58 hFO h59
    obtain ⟨g, rfl⟩ : ∃ g, fuel = g + 1 := ⟨fuel - 1, by omega⟩
    have hi9 : i < FL.length := by omega
    have i6 : i < 6002 := by omega
    have hM0 := hM
    obtain ⟨hT, hPL, hMI, hMM, h23, h21, h52, hML, hMB⟩ := hM0
    have hwf : ∀ i, i < l.length → (q_tok l i).1 ≤ 4 := fun i hi => (hT.2.2.2.2.1 i _ (q_tok_s hi)).1
    obtain ⟨a1, a2, a3, a4, a5⟩ := hML i hi9
    have xm := q_lg_m hi9
    have le : (nI FL.length ≤ nI i) = False := eq_false (nI_ge hi9 (by omega))
    rw [q_lg_d hi9, q_mm]
    by_cases c1 : q_sS (q_lg FL i) = 1
    · have t1 : (nI (q_sS (q_lg FL i)) = (1 : Int32)) = True := eq_true (by rw [c1]; rfl)
      have hre : q_rea (q_lg FL i) = true := by
        unfold q_rea
        rw [decide_eq_false (by omega : ¬ q_sS (q_lg FL i) = 0)]
        exact Bool.or_true _
      obtain ⟨hE, hy1⟩ := q_XP_E hwf (hXP _ xm) c1
      obtain ⟨F1, ps, F4⟩ := hFO _ xm c1
      have q58 := h58 i hi9 c1
      obtain ⟨fi, hfi⟩ : ∃ fi, fi = fo (q_sF (q_lg FL i)) := ⟨_, rfl⟩
      rw [← hfi] at F1 F4 q58 ⊢
      have jm : q_jg Js fi ∈ Js := List.mem_of_getElem? (q_jg_e F1)
      obtain ⟨Q1, S1, m0, m1, m2⟩ := q_mform (κ := κ) (b := b) (C := C) (O := O) (D := D) (s := (n, m)) (i := fi) hT hE (by omega) i6 a2 a5 hPL (hMI fi _ (q_jg_e F1)) hMM (hJ _ jm) hMB.1 hMB.2.1 hG.2 hK
      have f1 : q_MF P P Q Q1 S S1 := q_MF_q m0
      have hM1 := q_ME_u hM f1
      have h59' : q_M59 Q1 FL ad := fun j hj hr => by rw [m0.1 59 (by decide)]; exact h59 j hj hr
      have q58' : Q1 58 i = nI fi := by rw [m0.1 58 (by decide), q58]
      have ft := q_mfit_2 (κ := κ) (b := b) (C := C) (O := O) (D := D) (s := (n, m)) hM1 h96 hFL F1 hi9 hre h59' hK (m2 ps F4) (q_jg Js fi).2.2.1.length q_fu 0 (by omega) (by have := (hJ _ jm).1.1; unfold q_fu; omega)
      rw [nI_0] at ft
      have efit : q_fit B l (q_LT FL) L Js ad (q_lg FL i) fi = q_fts B l (q_LT FL) L (q_jg Js fi).2.2.1 ad (q_sF (q_lg FL i)) ps (q_jg Js fi).2.2.1.length 0 := by
        unfold q_fit
        rw [F4]
      rw [← efit] at ft
      have fts : F_X13_isFitting κ (some (b + 26)) (nI i) (nI fi) (q_H b C (P, Q1, S1) O D, n, m) = some (.inl (q_b (q_fit B l (q_LT FL) L Js ad (q_lg FL i) fi)), (q_H b C (P, Q1, S1) O D, n, m)) := ft
      cases hft : q_fit B l (q_LT FL) L Js ad (q_lg FL i) fi with
      | true =>
        rw [hft] at fts
        rw [if_neg (fun h => by cases h.2)]
        obtain ⟨Q', S', r1, r2, r3, r4⟩ := ih g (i + 1) fo mv Q1 S1 (by omega) (by omega) hM1 (fun j hj hs => by rw [m0.1 58 (by decide)]; exact h58 j hj hs) hFO h59'
        refine ⟨Q', S', q_MF_t f1 r1, fun j j1 j2 => by rw [r2 j j1 j2, m0.1 j j2], fun j j1 => by rw [r3 j j1, m0.2 j j1], ?_⟩
        have st : F_X13_assembled_98 κ r76 (g + 1) (some (b + 26)) (q_b (!mv)) (nI i) (q_H b C (P, Q, S) O D, n, m) = F_X13_assembled_98 κ r76 g (some (b + 26)) (q_b (!mv)) (nI (i + 1)) (q_H b C (P, Q1, S1) O D, n, m) := by
          rw [F_X13_assembled_98]
          simp (disch := first | rfl | omega | decide | exact Nat.le_of_ble_eq_true rfl) only [↓q_br, q_rt, q_rz, q_gd, q_ca, ↓reduceIte, F_X13_assembled_98B, F_X13_assembled_194, ↓q_gA_26_46, ↓q_gA_26_47, ↓q_gA_26_48, ↓q_gI_26_52, ↓q_is_26, ↓q_lI_56, ↓q_lI_57, ↓q_lI_58, ↓q_sI_56, ↓q_sI_57, ↓q_sI_58, h52, le, a3, t1, q58, ↓q_is_26, m1, q58', fts, q_b_0, Bool.true_eq_false, nI_1]
        rw [st]
        exact r4
      | false =>
        rw [hft] at fts
        rw [if_pos ⟨c1, rfl⟩]
        obtain ⟨hT1, hPL1, hMI1, hMM1, h231, h211, h521, hML1, hMB1⟩ := hM1
        obtain ⟨b1, b2, b3, b4, b5⟩ := hML1 i hi9
        obtain ⟨Q2, S2, k0, k1⟩ := q_mnext (κ := κ) (b := b) (C := C) (O := O) (D := D) (s := (n, m)) (i := fi + 1) hT1 hE h96 h231 i6 b2 b5 hPL1 hMI1 hMM1 hJ hMB1.1 hMB1.2.1 hG.2 hK (by omega)
        have enf : q_nfx B l (q_LT FL) L Js (q_lg FL i) (fi + 1) = q_nf B l (q_LT FL) L Js (q_sH (q_lg FL i)) (q_sE (q_lg FL i)) (fi + 1) := rfl
        rw [enf]
        obtain ⟨r, hr⟩ : ∃ r, r = q_nf B l (q_LT FL) L Js (q_sH (q_lg FL i)) (q_sE (q_lg FL i)) (fi + 1) := ⟨_, rfl⟩
        rw [← hr] at k1 ⊢
        obtain ⟨Q3, hQ3⟩ : ∃ Q3, Q3 = q_u2 Q2 58 i (q_mv r) := ⟨_, rfl⟩
        have p58 : Q3 58 i = q_mv r := by rw [hQ3, q_u2_s, q_u1_s]
        have f3 : q_MF P P Q Q3 S S2 := q_MF_t f1 (q_MF_t (q_MF_q k0) (by rw [hQ3]; exact q_MF_58))
        have g3 : ∀ j, j ≠ 58 → j ≠ 64 → Q3 j = Q j := fun j j1 j2 => by rw [hQ3, q_u2_n _ _ _ j1, k0.1 j j2, m0.1 j j2]
        have s3 : ∀ j, j ≠ 65 → S2 j = S j := fun j j1 => by rw [k0.2 j j1, m0.2 j j1]
        have p56 : Q3 56 i = nI (q_sH (q_lg FL i)) := by rw [g3 56 (by decide) (by decide), a2]
        cases hrc : r with
        | none =>
          rw [hrc] at p58 k1 hQ3
          have n0 : ((0 : Int32) ≤ q_mv none) = False := eq_false (by decide)
          refine ⟨Q3, S2, f3, g3, s3, ?_⟩
          show F_X13_assembled_98 κ r76 (g + 1) (some (b + 26)) (q_b (!mv)) (nI i) (q_H b C (P, Q, S) O D, n, m) = q_thr Unit b C (P, Q3, S2) O D n m (nI 7) (nI (q_sH (q_lg FL i)))
          rw [F_X13_assembled_98]
          simp (disch := first | rfl | omega | decide | exact Nat.le_of_ble_eq_true rfl) only [↓q_br, q_rt, q_rz, q_gd, q_ca, ↓reduceIte, F_X13_assembled_98B, ↓q_gA_26_46, ↓q_gA_26_47, ↓q_gA_26_48, ↓q_gI_26_52, ↓q_is_26, ↓q_lI_56, ↓q_lI_57, ↓q_lI_58, ↓q_sI_56, ↓q_sI_57, ↓q_sI_58, h52, le, a3, t1, q58, ↓q_is_26, m1, q58', fts, q_b_0, nI_1, k1, ← hQ3, p58, n0, p56, q_mk_H, reduceCtorEq, not_false_eq_true, q_fault, qd_Su, q_tr]
          rfl
        | some j =>
          rw [hrc] at p58 k1 hr hQ3
          obtain ⟨j1, j2, ps', j3⟩ := q_nf_s hr.symm (by omega)
          have n0 : ((0 : Int32) ≤ q_mv (some j)) = True := eq_true (nI_pos' (by omega))
          obtain ⟨Q', S', w1, w2, w3, w4⟩ := ih g (i + 1) (q_u1 fo (q_sF (q_lg FL i)) j) true Q3 S2 (by omega) (by omega) (q_ME_u hM f3) (fun u hu hs => by
            by_cases hui : u = i
            · rw [hui, p58, q_u1_s]
              rfl
            · rw [q_u1_n _ _ (q_INC_n hIN hu hi9 hui), hQ3, q_u2_s, q_u1_n _ _ hui, k0.1 58 (by decide), m0.1 58 (by decide)]
              exact h58 u hu hs) (q_FO_u hFO hIN xm j2 j3) (fun u hu hr => by rw [g3 59 (by decide) (by decide)]; exact h59 u hu hr)
          refine ⟨Q', S', q_MF_t f3 w1, fun j j1 j2 => by rw [w2 j j1 j2, g3 j j1 j2], fun j j1 => by rw [w3 j j1, s3 j j1], ?_⟩
          have st : F_X13_assembled_98 κ r76 (g + 1) (some (b + 26)) (q_b (!mv)) (nI i) (q_H b C (P, Q, S) O D, n, m) = F_X13_assembled_98 κ r76 g (some (b + 26)) (q_b (!true)) (nI (i + 1)) (q_H b C (P, Q3, S2) O D, n, m) := by
            rw [F_X13_assembled_98]
            simp (disch := first | rfl | omega | decide | exact Nat.le_of_ble_eq_true rfl) only [↓q_br, q_rt, q_rz, q_gd, q_ca, ↓reduceIte, F_X13_assembled_98B, F_X13_assembled_194, ↓q_gA_26_46, ↓q_gA_26_47, ↓q_gA_26_48, ↓q_gI_26_52, ↓q_is_26, ↓q_lI_56, ↓q_lI_57, ↓q_lI_58, ↓q_sI_56, ↓q_sI_57, ↓q_sI_58, h52, le, a3, t1, q58, ↓q_is_26, m1, q58', fts, q_b_0, nI_1, k1, ← hQ3, p58, n0]
            rfl
          rw [st]
          exact w4
    · have t1 : (nI (q_sS (q_lg FL i)) = (1 : Int32)) = False := eq_false (fun h9 => c1 (by
        obtain ⟨LT, t, ht, hx⟩ := hXP _ xm
        have b8 := (q_ln1_b hwf hx ht).2.2.2.2.2.2.2.1
        exact (nI_eq (b := 1) (by omega) (by decide)).mp h9))
      rw [if_neg (fun h => c1 h.1)]
      obtain ⟨Q', S', w1, w2, w3, w4⟩ := ih g (i + 1) fo mv Q S (by omega) (by omega) hM h58 hFO h59
      refine ⟨Q', S', w1, w2, w3, ?_⟩
      have st : F_X13_assembled_98 κ r76 (g + 1) (some (b + 26)) (q_b (!mv)) (nI i) (q_H b C (P, Q, S) O D, n, m) = F_X13_assembled_98 κ r76 g (some (b + 26)) (q_b (!mv)) (nI (i + 1)) (q_H b C (P, Q, S) O D, n, m) := by
        rw [F_X13_assembled_98]
        simp (disch := first | rfl | omega | decide | exact Nat.le_of_ble_eq_true rfl) only [↓q_br, q_rt, q_rz, q_gd, q_ca, ↓reduceIte, F_X13_assembled_98B, F_X13_assembled_194, ↓q_gA_26_46, ↓q_gA_26_47, ↓q_gA_26_48, ↓q_gI_26_52, ↓q_is_26, ↓q_lI_56, ↓q_lI_57, ↓q_lI_58, ↓q_sI_56, ↓q_sI_57, ↓q_sI_58, h52, le, a3, t1, nI_1]
      rw [st]
      exact w4
end QM9
