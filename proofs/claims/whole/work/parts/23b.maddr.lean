section QMA
variable {κ : Nat → Nat} {b : Nat} {B : Nat → Int32} {l : List q_Tok} {zt : Nat} {C : q_CT} {P : Nat → Int32} {S : Nat → Nat → Int64} {O : Nat → Int64} {D : q_Mem} {n m : Nat}
theorem q_addr_4 {N : List q_Nam} {top z : Nat} {L : List q_Knd} {Js : List q_Ins} {FL : List q_Lin} {fo : Nat → Nat} (hn : b + 66 < n) (h96 : Js.length ≤ 96) (hXP : ∀ x ∈ FL, q_XP B l z x) (hIN : q_INC FL) (hFL : FL.length ≤ 6001) (hW : ∀ x ∈ FL, q_wds Js fo x ≤ 6100) (hfo : ∀ x ∈ FL, q_sS x = 1 → fo (q_sF x) < Js.length) : ∀ d fuel i A (ad : Nat → Nat) (Q : Nat → Nat → Int32), i + d = FL.length → d < fuel → A ≤ 4096 → q_ME B l zt N top L z Js FL P Q S → (∀ j, j < FL.length → q_sS (q_lg FL j) = 1 → Q 58 j = nI (fo (q_sF (q_lg FL j)))) → (∀ j, j < i → q_rea (q_lg FL j) = true → Q 59 j = nI (ad (q_sF (q_lg FL j)))) →
    ∃ Q', (∀ j, j ≠ 59 → Q' j = Q j) ∧ (match q_ad l (q_wds Js fo) (FL.drop i) A ad with
      | .inl (k, p) => F_X13_addresses_4 κ fuel (some (b + 26)) (nI A) (nI i) (q_H b C (P, Q, S) O D, n, m) = q_thr Unit b C (P, Q', S) O D n m (nI k) (nI p)
      | .inr ad' => F_X13_addresses_4 κ fuel (some (b + 26)) (nI A) (nI i) (q_H b C (P, Q, S) O D, n, m) = some (.inl (), (q_H b C (P, Q', S) O D, n, m)) ∧ ∀ j, j < FL.length → q_rea (q_lg FL j) = true → Q' 59 j = nI (ad' (q_sF (q_lg FL j)))) := by
  intro d
  induction d with
  | zero =>
    intro fuel i A ad Q h1 h2 hA hM h58 hlo
    obtain ⟨g, rfl⟩ : ∃ g, fuel = g + 1 := ⟨fuel - 1, by omega⟩
    have h3 : FL.length ≤ i := by omega
    have h52 := hM.2.2.2.2.2.2.1
    have le : (nI FL.length ≤ nI i) = True := eq_true (nI_le h3 (by omega))
    refine ⟨Q, fun _ _ => rfl, ?_⟩
    rw [List.drop_eq_nil_of_le h3, q_ad]
    refine ⟨?_, fun j hj => hlo j (by omega)⟩
    rw [F_X13_addresses_4]
    simp (disch := first | rfl | omega | decide | exact Nat.le_of_ble_eq_true rfl) only [↓q_br, q_rt, q_rz, q_gd, q_ca, ↓reduceIte, F_X13_addresses_4B, ↓q_gA_26_12, ↓q_gA_26_33, ↓q_gA_26_46, ↓q_gA_26_47, ↓q_gA_26_48, ↓q_gA_26_49, ↓q_gA_26_50, ↓q_gI_26_52, ↓q_lI_46, ↓q_lI_56, ↓q_lI_57, ↓q_lI_58, ↓q_lI_59, ↓q_lI_60, ↓q_lL_33, ↓q_sI_46, ↓q_sI_56, ↓q_sI_57, ↓q_sI_58, ↓q_sI_59, ↓q_sI_60, h52, le]
  | succ d ih =>
    intro fuel i A ad Q h1 h2 hA hM h58 hlo
    obtain ⟨g, rfl⟩ : ∃ g, fuel = g + 1 := ⟨fuel - 1, by omega⟩
    have hi9 : i < FL.length := by omega
    have i6 : i < 6002 := by omega
    have hM0 := hM
    obtain ⟨hT, hPL, hMI, hMM, h23, h21, h52, hML, hMB⟩ := hM0
    have hzt := hT.2.2.1
    have hl := hT.2.1
    have hwf : ∀ i, i < l.length → (q_tok l i).1 ≤ 4 := fun i hi => (hT.2.2.2.2.1 i _ (q_tok_s hi)).1
    have xm := q_lg_m hi9
    have b8 : q_sS (q_lg FL i) ≤ 3 := by
      obtain ⟨LT, t, ht, hx⟩ := hXP _ xm
      exact (q_ln1_b hwf hx ht).2.2.2.2.2.2.2.1
    have le : (nI FL.length ≤ nI i) = False := eq_false (nI_ge hi9 (by omega))
    obtain ⟨Q1, hQ1⟩ : ∃ Q1, Q1 = q_u2 Q 59 i (nI A) := ⟨_, rfl⟩
    have g1 : ∀ j, j ≠ 59 → Q1 j = Q j := fun j hj => by rw [hQ1, q_u2_n _ _ _ hj]
    have f1 : q_MF P P Q Q1 S S := by rw [hQ1]; exact q_MF_59
    have hM1 := q_ME_u hM f1
    obtain ⟨a1, a2, a3, a4, a5⟩ := hM1.2.2.2.2.2.2.2.1 i hi9
    have h58' : ∀ j, j < FL.length → q_sS (q_lg FL j) = 1 → Q1 58 j = nI (fo (q_sF (q_lg FL j))) := fun j hj hs => by rw [g1 58 (by decide)]; exact h58 j hj hs
    have hlo1 : ∀ j, j < i + 1 → q_rea (q_lg FL j) = true → Q1 59 j = nI (q_aup ad (q_lg FL i) A (q_sF (q_lg FL j))) := fun j hj hr => by
      by_cases hji : j = i
      · rw [hji] at hr ⊢
        unfold q_aup
        rw [if_pos hr, q_u1_s, hQ1, q_u2_s, q_u1_s]
      · have e : q_aup ad (q_lg FL i) A (q_sF (q_lg FL j)) = ad (q_sF (q_lg FL j)) := by
          unfold q_aup
          split
          · rw [q_u1_n _ _ (q_INC_n hIN (by omega) hi9 hji)]
          · rfl
        rw [e, hQ1, q_u2_s, q_u1_n _ _ hji]
        exact hlo j (by omega) hr
    have n3 : (nI (q_sS (q_lg FL i)) = (3 : Int32)) = (q_sS (q_lg FL i) = 3) := propext (nI_eq (b := 3) (by omega) (by decide))
    have n1 : (nI (q_sS (q_lg FL i)) = (1 : Int32)) = (q_sS (q_lg FL i) = 1) := propext (nI_eq (b := 1) (by omega) (by decide))
    rw [q_lg_d hi9, q_ad]
    by_cases c3 : q_sS (q_lg FL i) = 3
    · have t3 : (q_sS (q_lg FL i) = 3) = True := eq_true c3
      obtain ⟨y1, y2, y3⟩ := q_XP_3 hT.2.2.2.2.1 (hXP _ xm) c3
      have tl : q_sH (q_lg FL i) + 2 < l.length := q_tok_lt (by omega)
      have wo : S 33 (q_sH (q_lg FL i) + 2) = lN (q_vn l (q_sH (q_lg FL i) + 2)) := by rw [q_TM_wo hT tl (Or.inl y1)]; exact y2
      have ad2 : nI (q_sH (q_lg FL i)) + (2 : Int32) = nI (q_sH (q_lg FL i) + 2) := nI_add _ 2
      have l6 : q_sH (q_lg FL i) + 2 < 6002 := by omega
      have v32 : (lN (q_vn l (q_sH (q_lg FL i) + 2))).toInt32 = nI (q_vn l (q_sH (q_lg FL i) + 2)) := q_vn32 (by omega)
      rw [if_pos c3]
      obtain ⟨Q', r1, r2⟩ := ih g (i + 1) (q_vn l (q_sH (q_lg FL i) + 2)) (q_aup ad (q_lg FL i) A) Q1 (by omega) (by omega) (by omega) hM1 h58' hlo1
      refine ⟨Q', fun j hj => by rw [r1 j hj, g1 j hj], ?_⟩
      have st : F_X13_addresses_4 κ (g + 1) (some (b + 26)) (nI A) (nI i) (q_H b C (P, Q, S) O D, n, m) = F_X13_addresses_4 κ g (some (b + 26)) (nI (q_vn l (q_sH (q_lg FL i) + 2))) (nI (i + 1)) (q_H b C (P, Q1, S) O D, n, m) := by
        rw [F_X13_addresses_4]
        simp (disch := first | rfl | omega | decide | exact Nat.le_of_ble_eq_true rfl) only [↓q_br, q_rt, q_rz, q_gd, q_ca, ↓reduceIte, F_X13_addresses_4B, F_X13_addresses_106, ↓q_gA_26_12, ↓q_gA_26_33, ↓q_gA_26_46, ↓q_gA_26_47, ↓q_gA_26_48, ↓q_gA_26_49, ↓q_gA_26_50, ↓q_gI_26_52, ↓q_lI_46, ↓q_lI_56, ↓q_lI_57, ↓q_lI_58, ↓q_lI_59, ↓q_lI_60, ↓q_lL_33, ↓q_sI_46, ↓q_sI_56, ↓q_sI_57, ↓q_sI_58, ↓q_sI_59, ↓q_sI_60, h52, le, ← hQ1, a3, n3, t3, not_true_eq_false, a2, ad2, wo, v32, nI_1]
      rw [st]
      exact r2
    · have t3 : (q_sS (q_lg FL i) = 3) = False := eq_false c3
      rw [if_neg c3]
      have hw := hW _ xm
      have to77 : F_X13_addresses_4 κ (g + 1) (some (b + 26)) (nI A) (nI i) (q_H b C (P, Q, S) O D, n, m) = F_X13_addresses_77 κ (F_X13_addresses_4 κ g) (some (b + 26)) (nI A) (nI i) (nI (q_wds Js fo (q_lg FL i))) (q_H b C (P, Q1, S) O D, n, m) := by
        rw [F_X13_addresses_4]
        by_cases c1 : q_sS (q_lg FL i) = 1
        · have t1 : (q_sS (q_lg FL i) = 1) = True := eq_true c1
          have ew : q_wds Js fo (q_lg FL i) = (q_jg Js (fo (q_sF (q_lg FL i)))).2.2.2.length := by unfold q_wds; rw [if_pos c1]
          have fl := hfo _ xm c1
          have q46 : Q1 46 (fo (q_sF (q_lg FL i))) = nI (q_jg Js (fo (q_sF (q_lg FL i)))).2.2.2.length := (hM1.2.2.1 _ _ (q_jg_e fl)).2.2.2.1
          have q58 := h58' i hi9 c1
          have f96 : fo (q_sF (q_lg FL i)) < 96 := by omega
          rw [ew]
          simp (disch := first | rfl | omega | decide | exact Nat.le_of_ble_eq_true rfl) only [↓q_br, q_rt, q_rz, q_gd, q_ca, ↓reduceIte, F_X13_addresses_4B, ↓q_gA_26_12, ↓q_gA_26_33, ↓q_gA_26_46, ↓q_gA_26_47, ↓q_gA_26_48, ↓q_gA_26_49, ↓q_gA_26_50, ↓q_gI_26_52, ↓q_lI_46, ↓q_lI_56, ↓q_lI_57, ↓q_lI_58, ↓q_lI_59, ↓q_lI_60, ↓q_lL_33, ↓q_sI_46, ↓q_sI_56, ↓q_sI_57, ↓q_sI_58, ↓q_sI_59, ↓q_sI_60, h52, le, ← hQ1, a3, n3, t3, not_false_eq_true, n1, t1, not_true_eq_false, q58, q46]
        · have t1 : (q_sS (q_lg FL i) = 1) = False := eq_false c1
          have ew : q_wds Js fo (q_lg FL i) = q_sW (q_lg FL i) := by unfold q_wds; rw [if_neg c1]
          rw [ew]
          simp (disch := first | rfl | omega | decide | exact Nat.le_of_ble_eq_true rfl) only [↓q_br, q_rt, q_rz, q_gd, q_ca, ↓reduceIte, F_X13_addresses_4B, ↓q_gA_26_12, ↓q_gA_26_33, ↓q_gA_26_46, ↓q_gA_26_47, ↓q_gA_26_48, ↓q_gA_26_49, ↓q_gA_26_50, ↓q_gI_26_52, ↓q_lI_46, ↓q_lI_56, ↓q_lI_57, ↓q_lI_58, ↓q_lI_59, ↓q_lI_60, ↓q_lL_33, ↓q_sI_46, ↓q_sI_56, ↓q_sI_57, ↓q_sI_58, ↓q_sI_59, ↓q_sI_60, h52, le, ← hQ1, a3, n3, t3, not_false_eq_true, n1, t1, a4]
      have sm : nI A + nI (q_wds Js fo (q_lg FL i)) = nI (A + q_wds Js fo (q_lg FL i)) := nI_add _ _
      by_cases c4 : A + q_wds Js fo (q_lg FL i) ≤ 4096
      · have le4 : (nI (A + q_wds Js fo (q_lg FL i)) ≤ (4096 : Int32)) = True := eq_true (nI_le (b := 4096) c4 (by decide))
        rw [if_pos c4]
        obtain ⟨Q', r1, r2⟩ := ih g (i + 1) (A + q_wds Js fo (q_lg FL i)) (q_aup ad (q_lg FL i) A) Q1 (by omega) (by omega) (by omega) hM1 h58' hlo1
        refine ⟨Q', fun j hj => by rw [r1 j hj, g1 j hj], ?_⟩
        have st : F_X13_addresses_77 κ (F_X13_addresses_4 κ g) (some (b + 26)) (nI A) (nI i) (nI (q_wds Js fo (q_lg FL i))) (q_H b C (P, Q1, S) O D, n, m) = F_X13_addresses_4 κ g (some (b + 26)) (nI (A + q_wds Js fo (q_lg FL i))) (nI (i + 1)) (q_H b C (P, Q1, S) O D, n, m) := by
          simp (disch := first | rfl | omega | decide | exact Nat.le_of_ble_eq_true rfl) only [↓q_br, q_rt, q_rz, q_gd, q_ca, ↓reduceIte, F_X13_addresses_77, F_X13_addresses_106, ↓q_gA_26_46, ↓q_lI_56, sm, le4, nI_1]
        rw [to77, st]
        exact r2
      · have le4 : (nI (A + q_wds Js fo (q_lg FL i)) ≤ (4096 : Int32)) = False := eq_false (nI_ge (a := 4096) (by omega) (by omega))
        rw [if_neg c4]
        refine ⟨Q1, g1, ?_⟩
        show F_X13_addresses_4 κ (g + 1) (some (b + 26)) (nI A) (nI i) (q_H b C (P, Q, S) O D, n, m) = q_thr Unit b C (P, Q1, S) O D n m (nI 3) (nI (q_sH (q_lg FL i)))
        rw [to77]
        simp (disch := first | rfl | omega | decide | exact Nat.le_of_ble_eq_true rfl) only [↓q_br, q_rt, q_rz, q_gd, q_ca, ↓reduceIte, F_X13_addresses_77, ↓q_gA_26_46, ↓q_lI_56, sm, le4, a2, q_mk_H, reduceCtorEq, not_false_eq_true, q_fault, qd_Su, q_tr]
        rfl
end QMA
