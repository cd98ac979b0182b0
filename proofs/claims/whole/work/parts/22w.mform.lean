def q_QS (Q Q' : Nat → Nat → Int32) (S S' : Nat → Nat → Int64) : Prop := (∀ j, j ≠ 64 → Q' j = Q j) ∧ ∀ j, j ≠ 65 → S' j = S j
theorem q_QS_r {Q : Nat → Nat → Int32} {S : Nat → Nat → Int64} : q_QS Q Q S S := ⟨fun _ _ => rfl, fun _ _ => rfl⟩
theorem q_QS_t {Q Q' Q2 : Nat → Nat → Int32} {S S' S2 : Nat → Nat → Int64} (h : q_QS Q Q' S S') (h' : q_QS Q' Q2 S' S2) : q_QS Q Q2 S S2 := ⟨fun j hj => by rw [h'.1 j hj, h.1 j hj], fun j hj => by rw [h'.2 j hj, h.2 j hj]⟩
theorem q_QS_o {o : Nat} {Q Q' : Nat → Nat → Int32} {S S' : Nat → Nat → Int64} (h : q_QO o Q Q' S S') : q_QS Q Q' S S' := ⟨h.1, h.2.2.1⟩
theorem q_TM_S {B : Nat → Int32} {l : List q_Tok} {zt : Nat} {P P' : Nat → Int32} {Q Q' : Nat → Nat → Int32} {S S' : Nat → Nat → Int64} (h : q_TM B l zt P Q S) (hP : P' 13 = P 13) (hq : q_QS Q Q' S S') : q_TM B l zt P' Q' S' := by
  have h9 := q_TM_P h hP (hq.1 28 (by decide)) (hq.1 30 (by decide)) (hq.1 31 (by decide)) (hq.1 32 (by decide))
  unfold q_TM q_MK at h9 ⊢
  rw [hq.2 33 (by decide)]
  exact h9
theorem q_MKd_Q {N : List q_Nam} {k : Nat} {K : q_Knd} {Q Q' : Nat → Nat → Int32} {S S' : Nat → Nat → Int64} (h : q_MKd N Q k K) (hq : q_QS Q Q' S S') : q_MKd N Q' k K := by
  unfold q_MKd at h ⊢
  rw [hq.1 38 (by decide), hq.1 37 (by decide), hq.1 39 (by decide), hq.1 40 (by decide), hq.1 41 (by decide), hq.1 42 (by decide)]
  exact h
/-- what the reference holds of a form's operands -/
def q_MV (B : Nat → Int32) (l : List q_Tok) (LT : List Nat) (L : List q_Knd) (os : q_Ops) (Q : Nat → Nat → Int32) (S : Nat → Nat → Int64) (ps : Nat → Nat) (o : Nat) : Prop := ∃ x, q_opd B l LT (q_ok L os o) (ps o) = some x ∧ Q 64 o = q_mv x.2.1 ∧ S 65 o = x.2.2
section QMF
variable {κ : Nat → Nat} {b : Nat} {B : Nat → Int32} {l : List q_Tok} {zt : Nat} {C : q_CT} {P : Nat → Int32} {Q0 : Nat → Nat → Int32} {S0 : Nat → Nat → Int64} {O : Nat → Int64} {D : q_Mem} {s : Nat × Nat}
theorem q_mform_29 {N : List q_Nam} {top i z hd en lx : Nat} {L : List q_Knd} {J : q_Ins} {LT : List Nat} (hT : q_TM B l zt P Q0 S0) (hE : q_LE l hd en) (hi9 : i < 96) (hlx : lx < 6002) (h61 : Q0 61 lx = nI en) (hPL : q_PL N top P Q0) (hM : q_MIn N Q0 L.length z i J) (hk : q_MMk N P Q0 L) (hJ : q_Jok J) (h43 : P 43 = nI LT.length) (hQL : ∀ k, k < LT.length → Q0 62 k = nI (LT.getD k 0)) (hLT : ∀ k, k < LT.length → LT.getD k 0 < l.length) (hKl : LT.length ≤ 6000) : ∀ d fuel k t (ps : Nat → Nat) (Q : Nat → Nat → Int32) (S : Nat → Nat → Int64), k + d = J.2.1.length → d < fuel → q_QS Q0 Q S0 S → hd < t → t ≤ en → (∀ o, o < J.2.2.1.length → -1 - nI o ∉ J.2.1.drop k → q_MV B l LT L J.2.2.1 Q S ps o) → ∃ Q' S', q_QS Q0 Q' S0 S' ∧ F_X13_isForm_29 κ fuel (some (b + 26)) (nI lx) (nI i) (nI t) (nI k) (q_H b C (P, Q, S) O D, s) = some (.inl (q_b (q_fin1 en (q_fw B l LT L J.2.2.1 (J.2.1.drop k) t ps))), (q_H b C (P, Q', S') O D, s)) ∧ ∀ y, q_fw B l LT L J.2.2.1 (J.2.1.drop k) t ps = some y → ∀ o, o < J.2.2.1.length → q_MV B l LT L J.2.2.1 Q' S' y.2 o := by
  obtain ⟨w1, w2, w3, w4, w5, w6, w7, w8, w9, w10⟩ := hM
  have hzt := hT.2.2.1
  have hl := hT.2.1
  have hl40 := hk.2.1
  have hno := hJ.1.1
  have en6 : en ≤ 6000 := by have := hE.2.1; omega
  intro d
  induction d with
  | zero =>
    intro fuel k t ps Q S h1 h2 hq ht1 ht2 hf
    obtain ⟨g, rfl⟩ : ∃ g, fuel = g + 1 := ⟨fuel - 1, by omega⟩
    have h3 : J.2.1.length ≤ k := by omega
    have q44 : Q 44 i = nI J.2.1.length := by rw [hq.1 44 (by decide), w2]
    have q61 : Q 61 lx = nI en := by rw [hq.1 61 (by decide), h61]
    have ne : (nI t = nI en) = (t = en) := propext (nI_eq (by omega) (by omega))
    have c0 : ((0 : Int32) = 0 ∨ (0 : Int32) = 1) = True := eq_true (Or.inl rfl)
    have c1 : ((1 : Int32) = 0 ∨ (1 : Int32) = 1) = True := eq_true (Or.inr rfl)
    refine ⟨Q, S, hq, ?_, ?_⟩
    · rw [List.drop_eq_nil_of_le h3, F_X13_isForm_29]
      by_cases c : t = en
      · have tc : (t = en) = True := eq_true c
        have e : q_fin1 en (q_fw B l LT L J.2.2.1 [] t ps) = true := decide_eq_true c
        rw [e]
        simp (disch := first | rfl | omega | decide | exact Nat.le_of_ble_eq_true rfl) only [↓q_br, q_rt, q_rz, q_gd, q_ca, ↓reduceIte, F_X13_isForm_29B, F_X13_isForm_127, ↓q_gA_26_31, ↓q_gA_26_35, ↓q_gA_26_37, ↓q_gA_26_51, ↓q_is_26, ↓q_lI_44, ↓q_lI_48, ↓q_lI_50, ↓q_lI_61, q44, nI_leI, h3, q61, ne, tc, not_true_eq_false, c1]
        rfl
      · have tc : (t = en) = False := eq_false c
        have e : q_fin1 en (q_fw B l LT L J.2.2.1 [] t ps) = false := decide_eq_false c
        rw [e]
        simp (disch := first | rfl | omega | decide | exact Nat.le_of_ble_eq_true rfl) only [↓q_br, q_rt, q_rz, q_gd, q_ca, ↓reduceIte, F_X13_isForm_29B, F_X13_isForm_127, ↓q_gA_26_31, ↓q_gA_26_35, ↓q_gA_26_37, ↓q_gA_26_51, ↓q_is_26, ↓q_lI_44, ↓q_lI_48, ↓q_lI_50, ↓q_lI_61, q44, nI_leI, h3, q61, ne, tc, not_false_eq_true, c0]
        rfl
    · intro y hy
      rw [List.drop_eq_nil_of_le h3] at hy hf
      cases hy
      exact fun o ho => hf o ho (fun h9 => by cases h9)
  | succ d ih =>
    intro fuel k t ps Q S h1 h2 hq ht1 ht2 hf
    obtain ⟨g, rfl⟩ : ∃ g, fuel = g + 1 := ⟨fuel - 1, by omega⟩
    have h3 : ¬ J.2.1.length ≤ k := by omega
    have h6 : k < J.2.1.length := by omega
    have hk12 : k < 12 := by omega
    have q44 : Q 44 i = nI J.2.1.length := by rw [hq.1 44 (by decide), w2]
    have ixp : (12 : Int32) * nI i + nI k = nI (12 * i + k) := by
      rw [show (12 : Int32) * nI i = nI (12 * i) from (Int32.ofNat_mul 12 i).symm, nI_add]
    have ixl : 12 * i + k < 1152 := by omega
    have pe : Q 48 (12 * i + k) = J.2.1.getD k 0 := by
      rw [hq.1 48 (by decide), w6.1 k _ (List.getElem?_eq_getElem h6), List.getD_eq_getElem?_getD, List.getElem?_eq_getElem h6]
      rfl
    have c0 : ((0 : Int32) = 0 ∨ (0 : Int32) = 1) = True := eq_true (Or.inl rfl)
    have hT' : q_TM B l zt P Q S := q_TM_S hT rfl hq
    have dr := q_drop_s (d := 0) h6
    rw [dr] at hf ⊢
    obtain ⟨p, hp⟩ : ∃ p, p = J.2.1.getD k 0 := ⟨_, rfl⟩
    have pm := q_ps_at h6
    rw [← hp] at pe pm hf ⊢
    rw [F_X13_isForm_29]
    rcases hJ.1.2.1 p pm with ⟨o, o1, o2⟩ | hsg
    · have o5 : o < 5 := by omega
      have np2 : p < 0 := by rw [o2]; exact Int32.not_le.mp (q_m1n o5)
      have eo : -1 - p = nI o := by rw [o2, q_m1]
      have on : q_opn p = o := by rw [o2, q_opn_o o5]
      obtain ⟨kk, c1, c2, c3, c4, c5⟩ := q_mok (nk := 0) w6 hk o1
      have q50 : Q 50 (5 * i + o) = nI kk := by rw [hq.1 50 (by decide), c2]
      have hPL' : q_PL N top P Q := q_PL_P hPL rfl rfl (hq.1 34 (by decide)) (hq.1 35 (by decide)) (hq.1 36 (by decide))
      have ix5 : (5 : Int32) * nI i - 1 - p = nI (5 * i + o) := by
        rw [o2, q_m2, show (5 : Int32) * nI i = nI (5 * i) from (Int32.ofNat_mul 5 i).symm, nI_add]
      have ix5l : 5 * i + o < 480 := by omega
      obtain ⟨Q1, S1, m1, m2, m3⟩ := q_mopd (κ := κ) (b := b) (C := C) (O := O) (D := D) (s := s) (t := t) (o := o) (LT := LT) hT' (by have := hE.2.1; omega) (by omega) o5 hPL' c3 (q_MKd_Q c4 hq) h43 (fun k hk => by rw [hq.1 62 (by decide), hQL k hk]) hLT hKl
      have hq1 : q_QS Q0 Q1 S0 S1 := q_QS_t hq (q_QS_o m1)
      have e4 : q_fw B l LT L J.2.2.1 (p :: J.2.1.drop (k + 1)) t ps = (match q_opd B l LT (q_ok L J.2.2.1 o) t with
        | none => none
        | some x => q_fw B l LT L J.2.2.1 (J.2.1.drop (k + 1)) x.1 (q_u1 ps o t)) := by
        rw [q_fw, if_pos np2, on]
        rfl
      rw [e4]
      cases hx : q_opd B l LT (q_ok L J.2.2.1 o) t with
      | none =>
        rw [hx] at m2
        have mv : q_mv (Option.map (fun x => x.1) (none : Option q_Opd)) = -1 := rfl
        have n0' : ((0 : Int32) ≤ -1) = False := eq_false (by decide)
        rw [mv] at m2
        refine ⟨Q1, S1, hq1, ?_, fun y hy => by cases hy⟩
        simp (disch := first | rfl | omega | decide | exact Nat.le_of_ble_eq_true rfl) only [↓q_br, q_rt, q_rz, q_gd, q_ca, ↓reduceIte, F_X13_isForm_29B, ↓q_gA_26_31, ↓q_gA_26_35, ↓q_gA_26_37, ↓q_gA_26_51, ↓q_is_26, ↓q_lI_44, ↓q_lI_48, ↓q_lI_50, ↓q_lI_61, q44, nI_leI, h3, ixp, pe, np2, ix5, q50, ↓q_is_26, eo, m2, n0', c0]
        rfl
      | some x =>
        rw [hx] at m2
        obtain ⟨g1, g2, g3⟩ := q_opd_en hE (by omega) ht2 hx
        have mv : q_mv (Option.map (fun x => x.1) (some x)) = nI x.1 := rfl
        have p0 : ((0 : Int32) ≤ nI x.1) = True := eq_true (nI_pos' (by omega))
        rw [mv] at m2
        obtain ⟨Q', S', r0, r1, r2⟩ := ih g (k + 1) x.1 (q_u1 ps o t) Q1 S1 (by omega) (by omega) hq1 (by omega) g3 (fun u hu hm => by
          by_cases hou : u = o
          · rw [hou]
            exact ⟨x, by rw [q_u1_s]; exact hx, m3 x hx⟩
          · obtain ⟨x', v1, v2, v3⟩ := hf u hu (fun h9 => by
              rcases List.mem_cons.mp h9 with h8 | h8
              · exact hou (q_opn_i (by omega) o5 (by rw [h8, o2]))
              · exact hm h8)
            exact ⟨x', by rw [q_u1_n _ _ hou]; exact v1, by rw [m1.2.1 u hou, v2], by rw [m1.2.2.2 u hou, v3]⟩)
        refine ⟨Q', S', r0, ?_, r2⟩
        simp (disch := first | rfl | omega | decide | exact Nat.le_of_ble_eq_true rfl) only [↓q_br, q_rt, q_rz, q_gd, q_ca, ↓reduceIte, F_X13_isForm_29B, F_X13_isForm_106, ↓q_gA_26_31, ↓q_gA_26_35, ↓q_gA_26_37, ↓q_gA_26_51, ↓q_is_26, ↓q_lI_44, ↓q_lI_48, ↓q_lI_50, ↓q_lI_61, q44, nI_leI, h3, ixp, pe, np2, ix5, q50, ↓q_is_26, eo, m2, p0, nI_1, r1]
    · have np : ¬ p < 0 := q_t10_p p hsg
      have sg := q_msign (κ := κ) (b := b) (C := C) (O := O) (D := D) (s := s) (t := t) (c := p) hT' (by have := hE.2.1; omega)
      have e4 : q_fw B l LT L J.2.2.1 (p :: J.2.1.drop (k + 1)) t ps = (if q_sgn l t p = true then q_fw B l LT L J.2.2.1 (J.2.1.drop (k + 1)) (t + 1) ps else none) := by
        rw [q_fw, if_neg np]
      rw [e4]
      cases cs : q_sgn l t p with
      | false =>
        rw [cs] at sg
        rw [if_neg (by decide)]
        refine ⟨Q, S, hq, ?_, fun y hy => by cases hy⟩
        simp (disch := first | rfl | omega | decide | exact Nat.le_of_ble_eq_true rfl) only [↓q_br, q_rt, q_rz, q_gd, q_ca, ↓reduceIte, F_X13_isForm_29B, ↓q_gA_26_31, ↓q_gA_26_35, ↓q_gA_26_37, ↓q_gA_26_51, ↓q_is_26, ↓q_lI_44, ↓q_lI_48, ↓q_lI_50, ↓q_lI_61, q44, nI_leI, h3, ixp, pe, np, ↓q_is_26, sg, q_b_0, not_true_eq_false, c0]
        rfl
      | true =>
        rw [cs] at sg
        rw [if_pos rfl]
        have k9 : t < en := by
          rcases Nat.lt_or_ge t en with h9 | h9
          · exact h9
          · have h7 : t = en := by omega
            have c3 := q_sgn_3 cs
            have := hE.2.2.2
            rw [← h7] at this
            omega
        obtain ⟨Q', S', r0, r1, r2⟩ := ih g (k + 1) (t + 1) ps Q S (by omega) (by omega) hq (by omega) k9 (fun u hu hm => by
          refine hf u hu (fun h9 => ?_)
          rcases List.mem_cons.mp h9 with h8 | h8
          · exact np (by rw [← h8]; exact Int32.not_le.mp (q_m1n (by omega)))
          · exact hm h8)
        refine ⟨Q', S', r0, ?_, r2⟩
        simp (disch := first | rfl | omega | decide | exact Nat.le_of_ble_eq_true rfl) only [↓q_br, q_rt, q_rz, q_gd, q_ca, ↓reduceIte, F_X13_isForm_29B, F_X13_isForm_106, ↓q_gA_26_31, ↓q_gA_26_35, ↓q_gA_26_37, ↓q_gA_26_51, ↓q_is_26, ↓q_lI_44, ↓q_lI_48, ↓q_lI_50, ↓q_lI_61, q44, nI_leI, h3, ixp, pe, np, ↓q_is_26, sg, q_b_0, Bool.true_eq_false, not_false_eq_true, nI_1, r1]
theorem q_mform {N : List q_Nam} {top i z hd en lx : Nat} {L : List q_Knd} {J : q_Ins} {LT : List Nat} (hT : q_TM B l zt P Q0 S0) (hE : q_LE l hd en) (hi9 : i < 96) (hlx : lx < 6002) (h56 : Q0 56 lx = nI hd) (h61 : Q0 61 lx = nI en) (hPL : q_PL N top P Q0) (hM : q_MIn N Q0 L.length z i J) (hk : q_MMk N P Q0 L) (hJ : q_Jok J) (h43 : P 43 = nI LT.length) (hQL : ∀ k, k < LT.length → Q0 62 k = nI (LT.getD k 0)) (hLT : ∀ k, k < LT.length → LT.getD k 0 < l.length) (hKl : LT.length ≤ 6000) : ∃ Q' S', q_QS Q0 Q' S0 S' ∧ F_X13_isForm κ (some (b + 26)) (nI lx) (nI i) (q_H b C (P, Q0, S0) O D, s) = some (.inl (q_b (q_isf B l LT L J hd en).isSome), (q_H b C (P, Q', S') O D, s)) ∧ ∀ ps, q_isf B l LT L J hd en = some ps → ∀ o, o < J.2.2.1.length → q_MV B l LT L J.2.2.1 Q' S' ps o := by
  have hM0 := hM
  obtain ⟨⟨w, w1, w1'⟩, -⟩ := hM0
  have tl : hd < l.length := by have := hE.1; have := hE.2.1; omega
  have wl : w < N.length := (List.getElem?_eq_some_iff.mp w1').1
  have w8 : w < 8000 := by have := hPL.2.2.1; omega
  have nm := q_isName (κ := κ) (b := b) (C := C) (O := O) (D := D) (s := s) hT tl w8 hPL.2.2.2.1 (hPL.2.2.2.2.2 w _ w1')
  by_cases hm : q_tB B (q_tok l hd) = J.1
  · rw [decide_eq_true hm] at nm
    obtain ⟨Q', S', r0, r1, r2⟩ := q_mform_29 (κ := κ) (b := b) (C := C) (O := O) (D := D) (s := s) hT hE hi9 hlx h61 hPL hM hk hJ h43 hQL hLT hKl J.2.1.length q_fu 0 (hd + 1) (fun _ => 0) Q0 S0 (by omega) (by have := hM.2.2.2.2.2.2.2.1; unfold q_fu; omega) q_QS_r (by omega) (by have := hE.1; omega) (fun o ho hm => absurd (hJ.1.2.2.2 o ho) (by rw [List.drop_zero] at hm; exact hm))
    rw [List.drop_zero] at r1 r2
    rw [nI_0] at r1
    refine ⟨Q', S', r0, ?_, fun ps hp => r2 _ (q_isf_g hE hJ hp).2.1⟩
    have e : (q_isf B l LT L J hd en).isSome = q_fin1 en (q_fw B l LT L J.2.2.1 J.2.1 (hd + 1) (fun _ => 0)) := by
      unfold q_isf
      rw [if_pos hm]
      cases q_fw B l LT L J.2.2.1 J.2.1 (hd + 1) (fun _ => 0) with
      | none => rfl
      | some y =>
        show (if y.1 = en then some y.2 else none).isSome = decide (y.1 = en)
        by_cases c : y.1 = en
        · rw [if_pos c, decide_eq_true c]; rfl
        · rw [if_neg c, decide_eq_false c]; rfl
    rw [e, ← r1]
    simp (disch := first | rfl | omega | decide | exact Nat.le_of_ble_eq_true rfl) only [↓q_br, q_rt, q_rz, q_gd, q_ca, ↓reduceIte, F_X13_isForm, ↓q_gA_26_30, ↓q_gA_26_46, ↓q_is_26, ↓q_lI_43, ↓q_lI_56, h56, w1, ↓q_is_26, nm, q_b_0, Bool.true_eq_false, not_false_eq_true, nI_1]
  · rw [decide_eq_false hm] at nm
    have c0 : ((0 : Int32) = 0 ∨ (0 : Int32) = 1) = True := eq_true (Or.inl rfl)
    have e : q_isf B l LT L J hd en = none := by unfold q_isf; rw [if_neg hm]
    rw [e]
    refine ⟨Q0, S0, q_QS_r, ?_, fun ps hp => by cases hp⟩
    simp (disch := first | rfl | omega | decide | exact Nat.le_of_ble_eq_true rfl) only [↓q_br, q_rt, q_rz, q_gd, q_ca, ↓reduceIte, F_X13_isForm, ↓q_gA_26_30, ↓q_gA_26_46, ↓q_is_26, ↓q_lI_43, ↓q_lI_56, h56, w1, ↓q_is_26, nm, q_b_0, not_true_eq_false, c0]
    rfl
theorem q_mnext_2 {N : List q_Nam} {top z hd en lx : Nat} {L : List q_Knd} {Js : List q_Ins} {LT : List Nat} (hT : q_TM B l zt P Q0 S0) (hE : q_LE l hd en) (h96 : Js.length ≤ 96) (h23 : P 23 = nI Js.length) (hlx : lx < 6002) (h56 : Q0 56 lx = nI hd) (h61 : Q0 61 lx = nI en) (hPL : q_PL N top P Q0) (hM : q_MIs N Q0 L.length z Js) (hk : q_MMk N P Q0 L) (hJ : ∀ J ∈ Js, q_Jok J) (h43 : P 43 = nI LT.length) (hQL : ∀ k, k < LT.length → Q0 62 k = nI (LT.getD k 0)) (hLT : ∀ k, k < LT.length → LT.getD k 0 < l.length) (hKl : LT.length ≤ 6000) : ∀ d fuel i (Q : Nat → Nat → Int32) (S : Nat → Nat → Int64), i + d = Js.length → d < fuel → q_QS Q0 Q S0 S → ∃ Q' S', q_QS Q0 Q' S0 S' ∧ F_X13_nextForm_2 κ fuel (some (b + 26)) (nI lx) (nI i) (q_H b C (P, Q, S) O D, s) = some (.inl (q_mv (q_fi (fun i => (q_isf B l LT L (q_jg Js i) hd en).isSome) d i)), (q_H b C (P, Q', S') O D, s)) := by
  intro d
  induction d with
  | zero =>
    intro fuel i Q S h1 h2 hq
    obtain ⟨g, rfl⟩ : ∃ g, fuel = g + 1 := ⟨fuel - 1, by omega⟩
    have h3 : Js.length ≤ i := by omega
    refine ⟨Q, S, hq, ?_⟩
    rw [F_X13_nextForm_2]
    simp (disch := first | rfl | omega | decide | exact Nat.le_of_ble_eq_true rfl) only [↓q_br, q_rt, q_rz, q_gd, q_ca, ↓reduceIte, F_X13_nextForm_2B, ↓q_gI_26_23, ↓q_is_26, h23, nI_leI, h3]
    rfl
  | succ d ih =>
    intro fuel i Q S h1 h2 hq
    obtain ⟨g, rfl⟩ : ∃ g, fuel = g + 1 := ⟨fuel - 1, by omega⟩
    have h3 : ¬ Js.length ≤ i := by omega
    have hi9 : i < Js.length := by omega
    have jm : q_jg Js i ∈ Js := List.mem_of_getElem? (q_jg_e hi9)
    have hMi : q_MIn N Q L.length z i (q_jg Js i) := by
      have h9 := hM i _ (q_jg_e hi9)
      unfold q_MIn q_MIo q_MW at h9 ⊢
      rw [hq.1 43 (by decide), hq.1 44 (by decide), hq.1 45 (by decide), hq.1 46 (by decide), hq.1 47 (by decide), hq.1 48 (by decide), hq.1 49 (by decide), hq.1 50 (by decide), hq.1 51 (by decide)]
      exact h9
    have hk' : q_MMk N P Q L := ⟨hk.1, hk.2.1, fun k K hK => ⟨(hk.2.2 k K hK).1, q_MKd_Q (hk.2.2 k K hK).2 hq⟩⟩
    have hPL' : q_PL N top P Q := q_PL_P hPL rfl rfl (hq.1 34 (by decide)) (hq.1 35 (by decide)) (hq.1 36 (by decide))
    obtain ⟨Q1, S1, m1, m2, -⟩ := q_mform (κ := κ) (b := b) (C := C) (O := O) (D := D) (s := s) (LT := LT) (q_TM_S hT rfl hq) hE (by omega) hlx (by rw [hq.1 56 (by decide), h56]) (by rw [hq.1 61 (by decide), h61]) hPL' hMi hk' (hJ _ jm) h43 (fun k hk => by rw [hq.1 62 (by decide), hQL k hk]) hLT hKl
    have hq1 := q_QS_t hq m1
    rw [F_X13_nextForm_2, q_fi]
    cases hc : (q_isf B l LT L (q_jg Js i) hd en).isSome with
    | true =>
      rw [hc] at m2
      rw [if_pos rfl]
      refine ⟨Q1, S1, hq1, ?_⟩
      simp (disch := first | rfl | omega | decide | exact Nat.le_of_ble_eq_true rfl) only [↓q_br, q_rt, q_rz, q_gd, q_ca, ↓reduceIte, F_X13_nextForm_2B, ↓q_gI_26_23, ↓q_is_26, h23, nI_leI, h3, ↓q_is_26, m2, q_b_0, Bool.true_eq_false]
      rfl
    | false =>
      rw [hc] at m2
      rw [if_neg (by decide)]
      obtain ⟨Q', S', r0, r1⟩ := ih g (i + 1) Q1 S1 (by omega) (by omega) hq1
      refine ⟨Q', S', r0, ?_⟩
      simp (disch := first | rfl | omega | decide | exact Nat.le_of_ble_eq_true rfl) only [↓q_br, q_rt, q_rz, q_gd, q_ca, ↓reduceIte, F_X13_nextForm_2B, ↓q_gI_26_23, ↓q_is_26, h23, nI_leI, h3, ↓q_is_26, m2, q_b_0, nI_1, r1]
theorem q_mnext {N : List q_Nam} {top z hd en lx i : Nat} {L : List q_Knd} {Js : List q_Ins} {LT : List Nat} (hT : q_TM B l zt P Q0 S0) (hE : q_LE l hd en) (h96 : Js.length ≤ 96) (h23 : P 23 = nI Js.length) (hlx : lx < 6002) (h56 : Q0 56 lx = nI hd) (h61 : Q0 61 lx = nI en) (hPL : q_PL N top P Q0) (hM : q_MIs N Q0 L.length z Js) (hk : q_MMk N P Q0 L) (hJ : ∀ J ∈ Js, q_Jok J) (h43 : P 43 = nI LT.length) (hQL : ∀ k, k < LT.length → Q0 62 k = nI (LT.getD k 0)) (hLT : ∀ k, k < LT.length → LT.getD k 0 < l.length) (hKl : LT.length ≤ 6000) (hi9 : i ≤ Js.length) : ∃ Q' S', q_QS Q0 Q' S0 S' ∧ F_X13_nextForm κ (some (b + 26)) (nI lx) (nI i) (q_H b C (P, Q0, S0) O D, s) = some (.inl (q_mv (q_nf B l LT L Js hd en i)), (q_H b C (P, Q', S') O D, s)) := by
  unfold F_X13_nextForm q_nf
  exact q_mnext_2 hT hE h96 h23 hlx h56 h61 hPL hM hk hJ h43 hQL hLT hKl (Js.length - i) q_fu i Q0 S0 (by omega) (by unfold q_fu; omega) q_QS_r
end QMF
