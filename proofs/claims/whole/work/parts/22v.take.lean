/-- a form that a line has: where its operands begin -/
def q_isf (B : Nat → Int32) (l : List q_Tok) (LT : List Nat) (L : List q_Knd) (J : q_Ins) (hd en : Nat) : Option (Nat → Nat) := if q_tB B (q_tok l hd) = J.1 then (match q_fw B l LT L J.2.2.1 J.2.1 (hd + 1) (fun _ => 0) with
    | none => none
    | some y => if y.1 = en then some y.2 else none) else none
def q_nf (B : Nat → Int32) (l : List q_Tok) (LT : List Nat) (L : List q_Knd) (Js : List q_Ins) (hd en : Nat) (i : Nat) : Option Nat := q_fi (fun i => (q_isf B l LT L (q_jg Js i) hd en).isSome) (Js.length - i) i
theorem q_isf_g {B : Nat → Int32} {l : List q_Tok} {LT : List Nat} {L : List q_Knd} {J : q_Ins} {hd en : Nat} {ps : Nat → Nat} (hE : q_LE l hd en) (hJ : q_Jok J) (h : q_isf B l LT L J hd en = some ps) : q_tB B (q_tok l hd) = J.1 ∧ q_fw B l LT L J.2.2.1 J.2.1 (hd + 1) (fun _ => 0) = some (en, ps) ∧ ∀ o, o < J.2.2.1.length → hd < ps o ∧ ps o < en ∧ ∃ x, q_opd B l LT (q_ok L J.2.2.1 o) (ps o) = some x := by
  unfold q_isf at h
  split at h
  · rename_i c1
    cases hy : q_fw B l LT L J.2.2.1 J.2.1 (hd + 1) (fun _ => 0) with
    | none => rw [hy] at h; cases h
    | some y =>
      rw [hy] at h
      simp only at h
      split at h
      · rename_i c2
        cases h
        refine ⟨c1, by rw [← c2], ?_⟩
        exact (q_fw_g hE hJ.1.1 J.2.1 (hd + 1) (fun _ => 0) y hJ.1.2.1 hy (by omega) (by have := hE.1; omega) (fun o ho hm => absurd (hJ.1.2.2.2 o ho) hm)).2
      · cases h
  · cases h
section QTK
variable {κ : Nat → Nat} {b : Nat} {B : Nat → Int32} {l : List q_Tok} {zt : Nat} {I : Nat → Nat → Int32} {R : Nat → Nat → Option Nat} {X : Nat → Nat → Int32} {Y : Nat → Nat → Int64} {Z : Nat → Nat → Option Nat} {M : q_MT} {O : Nat → Int64} {s : Nat × Nat}
theorem q_isWritten {D0 D : q_Mem} {n0 z ja a hd en : Nat} {L : List q_Knd} {J : q_Ins} {LT : List Nat} {v0 v1 v3 v5 v6 v7 : Value} {f : Nat → Int32} (hT : q_TC B l zt I X Y) (hE : q_LE l hd en) (hY : ∀ t, hd < t → t < en → (q_tok l t).1 = 1 → Y 7 t = (q_mv (q_lk B l LT t)).toInt64) (hLT : LT.length ≤ 6100) (hJ : q_CIn b n0 D0 Z L z ja J) (hCM : q_CMk b n0 D0 I Z L) (hJk : q_Jok J) (ha : n0 ≤ a) (hn0 : b + 66 < n0) (hS : q_S8 n0 D0 D) (hA1 : D a = some (.inr (.inl (6, [v0, v1, .int (nI hd), v3, .ref (a + 1), v5, v6, v7])))) (hA2 : D (a + 1) = some (.inl (1, 5, .inl f))) (hm : q_tB B (q_tok l hd) = J.1) : ∃ f', F_X8_isWrittenAs κ (some (b + 21)) (some a) (some ja) (q_H b (I, R, X, Y, Z) M O D, s) = some (.inl (q_b (q_isf B l LT L J hd en).isSome), (q_H b (I, R, X, Y, Z) M O (q_up D (a + 1) (.inl (1, 5, .inl f'))), s)) ∧ ∀ ps, q_isf B l LT L J hd en = some ps → ∀ o, o < J.2.2.1.length → f' o = nI (ps o) := by
  obtain ⟨f', r1, r2⟩ := q_isW_10 (κ := κ) (R := R) (M := M) (O := O) (s := s) (v0 := v0) (v1 := v1) (v2 := .int (nI hd)) (v3 := v3) (v5 := v5) (v6 := v6) (v7 := v7) hT hE hY hLT hJ hCM hJk ha hn0 J.2.1.length q_fu 0 (hd + 1) (fun _ => 0) f D (by omega) (by have := hJ.2.1; unfold q_fu; omega) hS hA1 hA2 (by omega) (by have := hE.1; omega) (fun o ho hm => absurd (hJk.1.2.2.2 o ho) (by rw [List.drop_zero] at hm; exact hm))
  rw [List.drop_zero] at r1 r2
  rw [nI_0] at r1
  have ea : b + 66 < a ∧ D a = some (.inr (.inl (6, [v0, v1, .int (nI hd), v3, .ref (a + 1), v5, v6, v7]))) := ⟨by omega, hA1⟩
  refine ⟨f', ?_, ?_⟩
  · have e : (q_isf B l LT L J hd en).isSome = q_fin1 en (q_fw B l LT L J.2.2.1 J.2.1 (hd + 1) (fun _ => 0)) := by
      unfold q_isf
      rw [if_pos hm]
      cases q_fw B l LT L J.2.2.1 J.2.1 (hd + 1) (fun _ => 0) with
      | none => rfl
      | some y =>
        show (if y.1 = en then some y.2 else none).isSome = decide (y.1 = en)
        by_cases c : y.1 = en
        · rw [if_pos c, decide_eq_true c]; rfl
        · rw [if_neg c, decide_eq_false c]; rfl
    rw [e, ← r1]
    simp (disch := first | rfl | omega | decide | exact Nat.le_of_ble_eq_true rfl) only [↓q_br, q_rt, q_rz, q_gd, q_ca, ↓reduceIte, F_X8_isWrittenAs, qd_I ea (k := 2) (v := nI hd) rfl, nI_1]
  · intro ps hp
    exact r2 _ (q_isf_g hE hJk hp).2.1
theorem q_take_7 {D0 : q_Mem} {n0 z a hd en : Nat} {L : List q_Knd} {Js : List q_Ins} {LT : List Nat} {v0 v1 v3 v5 v6 v7 : Value} (hT : q_TC B l zt I X Y) (hE : q_LE l hd en) (h1 : (q_tok l hd).1 = 1) (hY : ∀ t, hd < t → t < en → (q_tok l t).1 = 1 → Y 7 t = (q_mv (q_lk B l LT t)).toInt64) (hLT : LT.length ≤ 6100) (hC : q_CIs b n0 D0 Z L z Js) (hCM : q_CMk b n0 D0 I Z L) (h4 : I 8 4 = nI Js.length) (h96 : Js.length ≤ 96) (hJk : ∀ J ∈ Js, q_Jok J) (ha : n0 ≤ a) (hn0 : b + 66 < n0) : ∀ d fuel i (f : Nat → Int32) (D : q_Mem), i + d = Js.length → d < fuel → q_S8 n0 D0 D → D a = some (.inr (.inl (6, [v0, v1, .int (nI hd), v3, .ref (a + 1), v5, v6, v7]))) → D (a + 1) = some (.inl (1, 5, .inl f)) → ∃ f', (match q_fi (fun i => (q_isf B l LT L (q_jg Js i) hd en).isSome) d i with
    | none => F_X8_takeNextForm_7 κ fuel (some (b + 21)) (some a) (nI i) (q_H b (I, R, X, Y, Z) M O D, s) = some (.inl 0, (q_H b (I, R, X, Y, Z) M O (q_up D (a + 1) (.inl (1, 5, .inl f'))), s))
    | some j => F_X8_takeNextForm_7 κ fuel (some (b + 21)) (some a) (nI i) (q_H b (I, R, X, Y, Z) M O D, s) = some (.inl 1, (q_H b (I, R, X, Y, Z) M O (q_up (q_up D (a + 1) (.inl (1, 5, .inl f'))) a (.inr (.inl (6, [v0, v1, .int (nI hd), v3, .ref (a + 1), .int (nI j), .int (nI (q_jg Js j).2.2.2.length), v7])))), s)) ∧ ∀ ps, q_isf B l LT L (q_jg Js j) hd en = some ps → ∀ o, o < (q_jg Js j).2.2.1.length → f' o = nI (ps o)) := by
  have hzt := hT.2.2.1
  have hl := hT.2.1
  intro d
  induction d with
  | zero =>
    intro fuel i f D g1 g2 hS hA1 hA2
    obtain ⟨g, rfl⟩ : ∃ g, fuel = g + 1 := ⟨fuel - 1, by omega⟩
    have h3 : Js.length ≤ i := by omega
    refine ⟨f, ?_⟩
    rw [q_fi, q_up_id hA2, F_X8_takeNextForm_7]
    simp (disch := first | rfl | omega | decide | exact Nat.le_of_ble_eq_true rfl) only [↓q_br, q_rt, q_rz, q_gd, q_ca, ↓reduceIte, F_X8_takeNextForm_7B, ↓q_gA_21_1, ↓q_gA_21_2, ↓q_gA_8_1, ↓q_gI_8_4, ↓q_is_21, ↓q_lA_10, h4, nI_leI, h3, true_or]
  | succ d ih =>
    intro fuel i f D g1 g2 hS hA1 hA2
    obtain ⟨g, rfl⟩ : ∃ g, fuel = g + 1 := ⟨fuel - 1, by omega⟩
    have h3 : ¬ Js.length ≤ i := by omega
    have hi9 : i < Js.length := by omega
    have i96 : i < 96 := by omega
    obtain ⟨ja, j1, j2⟩ := hC i _ (q_jg_e hi9)
    have jm : q_jg Js i ∈ Js := List.mem_of_getElem? (q_jg_e hi9)
    obtain ⟨fm, fd, fs, hCo, -⟩ := q_CIn_o j2
    have hDD : ∀ x, b < x → x < n0 → q_t7 (D0 x) = false → D x = D0 x := fun x _ hx h7 => hS x hx h7
    obtain ⟨k1, k2, k3, k4, -⟩ := q_CIo_m7 hCo (Nat.le_refl _) hDD
    have e3 := And.intro k1 k3
    obtain ⟨la, e7⟩ := q_CN_o k4
    have ea : b + 66 < a ∧ D a = some (.inr (.inl (6, [v0, v1, .int (nI hd), v3, .ref (a + 1), v5, v6, v7]))) := ⟨by omega, hA1⟩
    have bb := q_bytesBehind (κ := κ) (R := R) (Z := Z) (M := M) (O := O) (s := s) (t := hd) hT k4 (by have := hE.1; have := hE.2.1; omega)
    have b9 : q_bb B (q_tok l hd) (q_jg Js i).1 = 0 ↔ q_tB B (q_tok l hd) = (q_jg Js i).1 := by
      rw [q_bb_0 (q_tok_e31 hT)]
      exact ⟨fun h => h.2, fun h => ⟨h1, h⟩⟩
    rw [q_fi]
    by_cases hm : q_tB B (q_tok l hd) = (q_jg Js i).1
    · have b0 : (q_bb B (q_tok l hd) (q_jg Js i).1 = 0) = True := eq_true (b9.mpr hm)
      obtain ⟨f1, r1, r2⟩ := q_isWritten (κ := κ) (R := R) (M := M) (O := O) (s := s) hT hE hY hLT j2 hCM (hJk _ jm) ha hn0 hS hA1 hA2 hm
      cases hc : (q_isf B l LT L (q_jg Js i) hd en).isSome with
      | true =>
        rw [hc] at r1
        rw [if_pos rfl]
        refine ⟨f1, ?_, r2⟩
        have ea1 : b + 66 < a ∧ q_up D (a + 1) (.inl (1, 5, .inl f1)) a = some (.inr (.inl (6, [v0, v1, .int (nI hd), v3, .ref (a + 1), v5, v6, v7]))) := ⟨by omega, by rw [q_up_n _ _ (by omega)]; exact hA1⟩
        have ea2 : b + 66 < a ∧ q_up (q_up D (a + 1) (.inl (1, 5, .inl f1))) a (.inr (.inl (6, [v0, v1, .int (nI hd), v3, .ref (a + 1), .int (nI i), v6, v7]))) a = some (.inr (.inl (6, [v0, v1, .int (nI hd), v3, .ref (a + 1), .int (nI i), v6, v7]))) := ⟨by omega, q_up_s _ _ _⟩
        have e32 : b + 66 < ja ∧ q_up (q_up D (a + 1) (.inl (1, 5, .inl f1))) a (.inr (.inl (6, [v0, v1, .int (nI hd), v3, .ref (a + 1), .int (nI i), v6, v7]))) ja = some _ := ⟨by omega, by rw [q_up_n _ _ (by omega), q_up_n _ _ (by omega)]; exact k3⟩
        have st5 : ([v0, v1, .int (nI hd), v3, .ref (a + 1), v5, v6, v7] : List Value).set 5 (.int (nI i)) = [v0, v1, .int (nI hd), v3, .ref (a + 1), .int (nI i), v6, v7] := rfl
        have st6 : ([v0, v1, .int (nI hd), v3, .ref (a + 1), .int (nI i), v6, v7] : List Value).set 6 (.int (nI (q_jg Js i).2.2.2.length)) = [v0, v1, .int (nI hd), v3, .ref (a + 1), .int (nI i), .int (nI (q_jg Js i).2.2.2.length), v7] := rfl
        rw [F_X8_takeNextForm_7]
        simp (disch := first | rfl | omega | decide | exact Nat.le_of_ble_eq_true rfl) only [↓q_br, q_rt, q_rz, q_gd, q_ca, ↓reduceIte, F_X8_takeNextForm_7B, ↓q_gA_21_1, ↓q_gA_21_2, ↓q_gA_8_1, ↓q_gI_8_4, ↓q_is_21, ↓q_lA_10, h4, nI_leI, h3, j1, qd_A e3 (k := 0) (r := some (ja + 1)) rfl, qd_I ea (k := 2) (v := nI hd) rfl, qd_S e7, bb, b0, not_true_eq_false, r1, q_b_0, Bool.true_eq_false, qd_W ea1 (k := 5) (v := .int (nI i)) (by decide : 5 < 8), st5, qd_I e32 (k := 9) (v := nI (q_jg Js i).2.2.2.length) rfl, qd_W ea2 (k := 6) (v := .int (nI (q_jg Js i).2.2.2.length)) (by decide : 6 < 8), st6, q_up_up, or_true]
      | false =>
        rw [hc] at r1
        rw [if_neg (by decide)]
        obtain ⟨f', w⟩ := ih g (i + 1) f1 (q_up D (a + 1) (.inl (1, 5, .inl f1))) (by omega) (by omega) (q_S8_up hS (by omega)) (by rw [q_up_n _ _ (by omega)]; exact hA1) (q_up_s _ _ _)
        refine ⟨f', ?_⟩
        rw [q_up_up] at w
        have st : F_X8_takeNextForm_7 κ (g + 1) (some (b + 21)) (some a) (nI i) (q_H b (I, R, X, Y, Z) M O D, s) = F_X8_takeNextForm_7 κ g (some (b + 21)) (some a) (nI (i + 1)) (q_H b (I, R, X, Y, Z) M O (q_up D (a + 1) (.inl (1, 5, .inl f1))), s) := by
          rw [F_X8_takeNextForm_7]
          simp (disch := first | rfl | omega | decide | exact Nat.le_of_ble_eq_true rfl) only [↓q_br, q_rt, q_rz, q_gd, q_ca, ↓reduceIte, F_X8_takeNextForm_7B, F_X8_takeNextForm_70, ↓q_gA_21_1, ↓q_gA_21_2, ↓q_gA_8_1, ↓q_gI_8_4, ↓q_is_21, ↓q_lA_10, h4, nI_leI, h3, j1, qd_A e3 (k := 0) (r := some (ja + 1)) rfl, qd_I ea (k := 2) (v := nI hd) rfl, qd_S e7, bb, b0, not_true_eq_false, r1, q_b_0, nI_1]
        rw [st]
        exact w
    · have b0 : (q_bb B (q_tok l hd) (q_jg Js i).1 = 0) = False := eq_false (fun h9 => hm (b9.mp h9))
      have hc : (q_isf B l LT L (q_jg Js i) hd en).isSome = false := by
        unfold q_isf
        rw [if_neg hm]
        rfl
      rw [hc, if_neg (by decide)]
      obtain ⟨f', w⟩ := ih g (i + 1) f D (by omega) (by omega) hS hA1 hA2
      refine ⟨f', ?_⟩
      have st : F_X8_takeNextForm_7 κ (g + 1) (some (b + 21)) (some a) (nI i) (q_H b (I, R, X, Y, Z) M O D, s) = F_X8_takeNextForm_7 κ g (some (b + 21)) (some a) (nI (i + 1)) (q_H b (I, R, X, Y, Z) M O D, s) := by
        rw [F_X8_takeNextForm_7]
        simp (disch := first | rfl | omega | decide | exact Nat.le_of_ble_eq_true rfl) only [↓q_br, q_rt, q_rz, q_gd, q_ca, ↓reduceIte, F_X8_takeNextForm_7B, F_X8_takeNextForm_70, ↓q_gA_21_1, ↓q_gA_21_2, ↓q_gA_8_1, ↓q_gI_8_4, ↓q_is_21, ↓q_lA_10, h4, nI_leI, h3, j1, qd_A e3 (k := 0) (r := some (ja + 1)) rfl, qd_I ea (k := 2) (v := nI hd) rfl, qd_S e7, bb, b0, not_false_eq_true, nI_1]
      rw [st]
      exact w
end QTK
