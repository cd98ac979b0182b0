/-! ===== bytes and numbers of a listing ===== -/
def q_cv (v : Int32) : Int32 := v.toInt8.toInt32
theorem q_cv_B (v : Int32) : q_By (q_cv v) := q_by_B v
theorem q_cv_cv (v : Int32) : q_cv (q_cv v) = q_cv v := q_By_m (q_by_B v)
def q_LC (txt : List Int32) (I X : Nat → Nat → Int32) : Prop := I 15 5 = nI txt.length ∧ ∀ i v, txt[i]? = some v → X 18 i = v ∧ q_By v
def q_LM (txt : List Int32) (P : Nat → Int32) (Q : Nat → Nat → Int32) : Prop := P 4 = nI txt.length ∧ ∀ i v, txt[i]? = some v → Q 29 i = v
def q_IF (I I' X X' : Nat → Nat → Int32) : Prop := (∀ j, j ≠ 15 → I' j = I j) ∧ I' 15 6 = I 15 6 ∧ (∀ j, j ≠ 17 → j ≠ 18 → X' j = X j)
theorem q_IF_r (I X : Nat → Nat → Int32) : q_IF I I X X := ⟨fun _ _ => rfl, rfl, fun _ _ _ => rfl⟩
theorem q_IF_t {I I' I'' X X' X'' : Nat → Nat → Int32} (h : q_IF I I' X X') (h' : q_IF I' I'' X' X'') : q_IF I I'' X X'' := ⟨fun j hj => by rw [h'.1 j hj, h.1 j hj], by rw [h'.2.1, h.2.1], fun j j1 j2 => by rw [h'.2.2 j j1 j2, h.2.2 j j1 j2]⟩
def q_PF (P P' : Nat → Int32) (Q Q' : Nat → Nat → Int32) : Prop := (∀ j, j ≠ 4 → P' j = P j) ∧ (∀ j, j ≠ 29 → Q' j = Q j)
theorem q_PF_r (P : Nat → Int32) (Q : Nat → Nat → Int32) : q_PF P P Q Q := ⟨fun _ _ => rfl, fun _ _ => rfl⟩
theorem q_PF_t {P P' P'' : Nat → Int32} {Q Q' Q'' : Nat → Nat → Int32} (h : q_PF P P' Q Q') (h' : q_PF P' P'' Q' Q'') : q_PF P P'' Q Q'' := ⟨fun j hj => by rw [h'.1 j hj, h.1 j hj], fun j hj => by rw [h'.2 j hj, h.2 j hj]⟩
theorem q_get_app {txt : List Int32} {w v : Int32} {i : Nat} (h : (txt ++ [w])[i]? = some v) : (i < txt.length ∧ txt[i]? = some v) ∨ (i = txt.length ∧ v = w) := by
  by_cases hi : i < txt.length
  · rw [List.getElem?_append_left hi] at h
    exact Or.inl ⟨hi, h⟩
  · rw [List.getElem?_append_right (by omega)] at h
    by_cases h0 : i - txt.length = 0
    · rw [h0] at h
      simp at h
      exact Or.inr ⟨by omega, h.symm⟩
    · rw [List.getElem?_eq_none (by simp; omega)] at h
      cases h
section QSA
variable {κ : Nat → Nat} {b : Nat} {R : Nat → Nat → Option Nat} {Y : Nat → Nat → Int64} {Z : Nat → Nat → Option Nat} {M : q_MT} {C : q_CT} {S : Nat → Nat → Int64} {O : Nat → Int64} {D : q_Mem} {s : Nat × Nat}
theorem q_lAdd {I X : Nat → Nat → Int32} {txt : List Int32} {v : Int32} (h : q_LC txt I X) (hl : txt.length < 200) : ∃ I' X', F_X4_addByte κ (some (b + 15)) v (q_H b (I, R, X, Y, Z) M O D, s) = some (.inl (), (q_H b (I', R, X', Y, Z) M O D, s)) ∧ q_LC (txt ++ [q_cv v]) I' X' ∧ q_IF I I' X X' ∧ X' 17 = X 17 := by
  obtain ⟨h1, h2⟩ := h
  have h3 : ¬ (200 : Int32) ≤ nI txt.length := nI_ge (b := 200) hl (by decide)
  refine ⟨q_u2 I 15 5 (nI (txt.length + 1)), q_u2 X 18 txt.length (q_cv v), ?_, ⟨by rw [q_u2_s, q_u1_s, List.length_append]; rfl, fun i w hw => ?_⟩, ⟨fun j hj => q_u2_n _ _ _ hj, by rw [q_u2_s, q_u1_n _ _ (by decide)], fun j _ j2 => q_u2_n _ _ _ j2⟩, q_u2_n _ _ _ (by decide)⟩
  · simp (disch := first | rfl | omega | decide | exact Nat.le_of_ble_eq_true rfl) only [↓q_br, q_rt, q_rz, q_gd, q_ca, ↓reduceIte, F_X4_addByte, F_X4_addByte_31, ↓q_gA_15_4, ↓q_gI_15_5, ↓q_pI_15_5, ↓q_sI_18, h1, h3, pk_vb, nI_1]
    rfl
  · rw [q_u2_s]
    rcases q_get_app hw with ⟨i1, i2⟩ | ⟨rfl, rfl⟩
    · rw [q_u1_n _ _ (by omega)]
      exact h2 i w i2
    · exact ⟨q_u1_s _ _ _, q_cv_B v⟩
theorem q_mSay {P : Nat → Int32} {Q : Nat → Nat → Int32} {txt : List Int32} {v : Int32} (h : q_LM txt P Q) (hl : txt.length < 400) : ∃ P' Q', F_X13_say κ (some (b + 26)) v (q_H b C (P, Q, S) O D, s) = some (.inl (), (q_H b C (P', Q', S) O D, s)) ∧ q_LM (txt ++ [q_cv v]) P' Q' ∧ q_PF P P' Q Q' := by
  obtain ⟨h1, h2⟩ := h
  refine ⟨q_u1 P 4 (nI (txt.length + 1)), q_u2 Q 29 txt.length (q_cv v), ?_, ⟨by rw [q_u1_s, List.length_append]; rfl, fun i w hw => ?_⟩, ⟨fun j hj => q_u1_n _ _ hj, fun j hj => q_u2_n _ _ _ hj⟩⟩
  · simp (disch := first | rfl | omega | decide | exact Nat.le_of_ble_eq_true rfl) only [↓q_br, q_rt, q_rz, q_gd, q_ca, ↓reduceIte, F_X13_say, ↓q_gA_26_2, ↓q_gI_26_4, ↓q_pI_26_4, ↓q_sI_29, h1, pk_vb, nI_1]
    rfl
  · rw [q_u2_s]
    rcases q_get_app hw with ⟨i1, i2⟩ | ⟨rfl, rfl⟩
    · rw [q_u1_n _ _ (by omega)]
      exact h2 i w i2
    · exact q_u1_s _ _ _
theorem q_drop_s {α : Type} {l : List α} {k : Nat} {d : α} (hk : k < l.length) : l.drop k = l.getD k d :: l.drop (k + 1) := by
  rw [List.drop_eq_getElem_cons hk, List.getD_eq_getElem?_getD, List.getElem?_eq_getElem hk]
  rfl
/-- a name -/
theorem q_lName_2 {n a : Nat} {nm : q_Nam} (hN : q_CN b n D a nm) : ∀ d fuel k (I X : Nat → Nat → Int32) (txt : List Int32), k + d = nm.length → d < fuel → q_LC txt I X → txt.length + d ≤ 200 → ∃ I' X', F_X4_addName_2 κ fuel (some (b + 15)) (some a) (nI k) (q_H b (I, R, X, Y, Z) M O D, s) = some (.inl (), (q_H b (I', R, X', Y, Z) M O D, s)) ∧ q_LC (txt ++ (nm.drop k).map q_cv) I' X' ∧ q_IF I I' X X' := by
  obtain ⟨l, f, n1, n2, n3, n4, n5, n6, n7, n8⟩ := hN
  have e1 : b + 66 < a ∧ D a = some (.inr (.inl (10, [.ref l]))) := ⟨n1, n5⟩
  have e2 : b + 66 < l ∧ D l = some (.inl (0, nm.length, .inl f)) := ⟨n3, n6⟩
  intro d
  induction d with
  | zero =>
    intro fuel k I X txt h1 h2 h3 h4
    obtain ⟨g, rfl⟩ : ∃ g, fuel = g + 1 := ⟨fuel - 1, by omega⟩
    have h5 : nm.length ≤ k := by omega
    refine ⟨I, X, ?_, ?_, q_IF_r I X⟩
    · rw [F_X4_addName_2]
      simp (disch := first | rfl | omega | decide | exact Nat.le_of_ble_eq_true rfl) only [↓q_br, q_rt, q_rz, q_gd, q_ca, ↓reduceIte, F_X4_addName_2B, ↓q_is_15, qd_A e1 (k := 0) (r := some l) rfl, qd_N e2, nI_leI, h5]
    · rw [List.drop_eq_nil_of_le h5]
      simpa using h3
  | succ d ih =>
    intro fuel k I X txt h1 h2 h3 h4
    obtain ⟨g, rfl⟩ : ∃ g, fuel = g + 1 := ⟨fuel - 1, by omega⟩
    have h5 : ¬ nm.length ≤ k := by omega
    have h6 : k < nm.length := by omega
    obtain ⟨I1, X1, r1, r2, r3, r4⟩ := q_lAdd (κ := κ) (b := b) (R := R) (Y := Y) (Z := Z) (M := M) (O := O) (D := D) (s := s) (v := f k) h3 (by omega)
    obtain ⟨I2, X2, y1, y2, y3⟩ := ih g (k + 1) I1 X1 (txt ++ [q_cv (f k)]) (by omega) (by omega) r2 (by simp; omega)
    refine ⟨I2, X2, ?_, ?_, q_IF_t r3 y3⟩
    · rw [F_X4_addName_2]
      simp (disch := first | rfl | omega | decide | exact Nat.le_of_ble_eq_true rfl) only [↓q_br, q_rt, q_rz, q_gd, q_ca, ↓reduceIte, F_X4_addName_2B, ↓q_is_15, qd_A e1 (k := 0) (r := some l) rfl, qd_N e2, nI_leI, h5, qd_aI e2 h6 (by omega), ↓q_is_15, r1, nI_1, y1]
    · rw [q_drop_s (d := 0) h6, List.map_cons, ← n8 k h6]
      simpa using y2
theorem q_lName {n a : Nat} {nm : q_Nam} {I X : Nat → Nat → Int32} {txt : List Int32} (hN : q_CN b n D a nm) (h : q_LC txt I X) (hl : txt.length + nm.length ≤ 200) : ∃ I' X', F_X4_addName κ (some (b + 15)) (some a) (q_H b (I, R, X, Y, Z) M O D, s) = some (.inl (), (q_H b (I', R, X', Y, Z) M O D, s)) ∧ q_LC (txt ++ nm.map q_cv) I' X' ∧ q_IF I I' X X' := by
  have hn := hN
  obtain ⟨_, _, _, _, _, _, _, _, n7, _⟩ := hn
  have := q_lName_2 (κ := κ) (b := b) (R := R) (Y := Y) (Z := Z) (M := M) (O := O) (s := s) hN nm.length q_fu 0 I X txt (by omega) (by unfold q_fu; omega) h hl
  rw [nI_0, List.drop_zero] at this
  exact this
theorem q_mName_2 {N : List q_Nam} {top w : Nat} {nm : q_Nam} (hw : w < 8000) (htop : top ≤ 6000) : ∀ d fuel k (P : Nat → Int32) (Q : Nat → Nat → Int32) (txt : List Int32), q_PN Q top w nm → k + d = nm.length → d < fuel → q_LM txt P Q → txt.length + d ≤ 200 → ∃ P' Q', F_X13_sayName_2 κ fuel (some (b + 26)) (nI w) (nI k) (q_H b C (P, Q, S) O D, s) = some (.inl (), (q_H b C (P', Q', S) O D, s)) ∧ q_LM (txt ++ (nm.drop k).map q_cv) P' Q' ∧ q_PF P P' Q Q' := by
  intro d
  induction d with
  | zero =>
    intro fuel k P Q txt hN h1 h2 h3 h4
    obtain ⟨n1, n2, o, n3, n4, n5⟩ := hN
    obtain ⟨g, rfl⟩ : ∃ g, fuel = g + 1 := ⟨fuel - 1, by omega⟩
    have h5 : nm.length ≤ k := by omega
    refine ⟨P, Q, ?_, ?_, q_PF_r P Q⟩
    · rw [F_X13_sayName_2]
      simp (disch := first | rfl | omega | decide | exact Nat.le_of_ble_eq_true rfl) only [↓q_br, q_rt, q_rz, q_gd, q_ca, ↓reduceIte, F_X13_sayName_2B, ↓q_gA_26_16, ↓q_gA_26_17, ↓q_gA_26_18, ↓q_is_26, ↓q_lI_34, ↓q_lI_35, ↓q_lI_36, n2, nI_leI, h5]
    · rw [List.drop_eq_nil_of_le h5]
      simpa using h3
  | succ d ih =>
    intro fuel k P Q txt hN h1 h2 h3 h4
    have hN0 := hN
    obtain ⟨n1, n2, o, n3, n4, n5⟩ := hN
    obtain ⟨g, rfl⟩ : ∃ g, fuel = g + 1 := ⟨fuel - 1, by omega⟩
    have h5 : ¬ nm.length ≤ k := by omega
    have h6 : k < nm.length := by omega
    have h7 : o + k < 60000 := by omega
    obtain ⟨P1, Q1, r1, r2, r3⟩ := q_mSay (κ := κ) (b := b) (C := C) (S := S) (O := O) (D := D) (s := s) (v := Q 34 (o + k)) h3 (by omega)
    obtain ⟨P2, Q2, y1, y2, y3⟩ := ih g (k + 1) P1 Q1 (txt ++ [q_cv (Q 34 (o + k))]) ⟨n1, by rw [r3.2 36 (by decide), n2], o, by rw [r3.2 35 (by decide), n3], n4, fun i hi => by rw [r3.2 34 (by decide), n5 i hi]⟩ (by omega) (by omega) r2 (by simp; omega)
    refine ⟨P2, Q2, ?_, ?_, q_PF_t r3 y3⟩
    · rw [F_X13_sayName_2]
      simp (disch := first | rfl | omega | decide | exact Nat.le_of_ble_eq_true rfl) only [↓q_br, q_rt, q_rz, q_gd, q_ca, ↓reduceIte, F_X13_sayName_2B, ↓q_gA_26_16, ↓q_gA_26_17, ↓q_gA_26_18, ↓q_is_26, ↓q_lI_34, ↓q_lI_35, ↓q_lI_36, n2, n3, nI_leI, h5, nI_add, ↓q_is_26, r1, nI_1, y1]
    · rw [q_drop_s (d := 0) h6, List.map_cons, ← n5 k h6]
      simpa using y2
theorem q_mName {N : List q_Nam} {top w : Nat} {nm : q_Nam} {P : Nat → Int32} {Q : Nat → Nat → Int32} {txt : List Int32} (hN : q_PL N top P Q) (hw : N[w]? = some nm) (h : q_LM txt P Q) (hl : txt.length + nm.length ≤ 200) : ∃ P' Q', F_X13_sayName κ (some (b + 26)) (nI w) (q_H b C (P, Q, S) O D, s) = some (.inl (), (q_H b C (P', Q', S) O D, s)) ∧ q_LM (txt ++ nm.map q_cv) P' Q' ∧ q_PF P P' Q Q' := by
  obtain ⟨p1, p2, p3, p4, p5, p6⟩ := hN
  have hwl : w < N.length := (List.getElem?_eq_some_iff.mp hw).1
  have hpn := p6 w nm hw
  have := q_mName_2 (κ := κ) (b := b) (C := C) (S := S) (O := O) (D := D) (s := s) (N := N) (by omega : w < 8000) p4 nm.length q_fu 0 P Q txt hpn (by omega) (by have := hpn.1; unfold q_fu; omega) h hl
  rw [nI_0, List.drop_zero] at this
  exact this
end QSA
/-! numbers -/
def q_lsg (ng : Bool) (n : Nat) : Int64 := if ng = true then -lN n else lN n
theorem q_lsg_i {ng : Bool} {n : Nat} (h : n < 2 ^ 62) : (q_lsg ng n).toInt = if ng = true then -(n : Int) else (n : Int) := by
  unfold q_lsg
  cases ng with
  | true => exact Int64.toInt_neg_ofNat_of_le (by omega)
  | false => exact q_lN_i (by omega)
theorem q_lsg_div {ng : Bool} {n d : Nat} (h : n < 2 ^ 62) (hd : 0 < d) (hd2 : d < 2 ^ 62) : q_lsg ng n / lN d = q_lsg ng (n / d) := by
  have hn1 : lN d ≠ -1 := fun e => by
    have e1 := congrArg Int64.toInt e
    rw [q_lN_i (by omega)] at e1
    have : (-1 : Int64).toInt = -1 := by decide
    omega
  have hle : n / d ≤ n := Nat.div_le_self _ _
  apply Int64.toInt_inj.mp
  rw [Int64.toInt_div_of_ne_right _ _ hn1, q_lsg_i h, q_lsg_i (by omega), q_lN_i (by omega)]
  cases ng with
  | true =>
    simp only [if_true, Int.neg_tdiv]
    rw [Int.ofNat_tdiv]
  | false =>
    simp only [Bool.false_eq_true, if_false]
    rw [Int.ofNat_tdiv]
theorem q_lsg_rem {ng : Bool} {n : Nat} (h : n < 2 ^ 62) : q_lsg ng n - q_lsg ng n / 10 * 10 = q_lsg ng (n % 10) := by
  have h10 : (10 : Int64) = lN 10 := rfl
  rw [h10, q_lsg_div h (by decide) (by decide)]
  have key : lN n - lN (n / 10) * lN 10 = lN (n % 10) := by
    rw [lN_mul, lN_sub (Nat.div_mul_le_self n 10)]
    exact congrArg lN (by omega)
  unfold q_lsg
  cases ng with
  | true =>
    simp only [if_true]
    rw [← key, Int64.neg_mul, Int64.neg_sub, Int64.sub_eq_add_neg, Int64.neg_neg, Int64.sub_eq_add_neg, Int64.add_comm]
  | false =>
    simp only [Bool.false_eq_true, if_false]
    exact key
theorem q_lsg_32 (ng : Bool) (n : Nat) : (q_lsg ng n).toInt32 = if ng = true then -nI n else nI n := by
  unfold q_lsg
  cases ng with
  | true =>
    simp only [if_true]
    rw [Int64.toInt32_neg, lN_i]
  | false =>
    simp only [Bool.false_eq_true, if_false]
    exact lN_i n
/-- the digits of n, c of them -/
def q_ds (n : Nat) : Nat → List Int32
  | 0 => []
  | c + 1 => q_cv (nI (48 + n / 10 ^ c % 10)) :: q_ds n c
theorem q_ds_len (n : Nat) : ∀ c, (q_ds n c).length = c := by
  intro c
  induction c with
  | zero => rfl
  | succ c ih => rw [q_ds, List.length_cons, ih]
def q_Cnt (n ct : Nat) : Prop := 1 ≤ ct ∧ ct ≤ 11 ∧ n < 10 ^ ct ∧ ∀ c, 1 ≤ c → c < ct → 10 ^ c ≤ n
theorem q_Cnt_e {n : Nat} (h : n < 10 ^ 11) : ∃ ct, q_Cnt n ct := by
  have : ∀ f c, c + f = 11 → 1 ≤ c → (∀ i, 1 ≤ i → i < c → 10 ^ i ≤ n) → ∃ ct, q_Cnt n ct := by
    intro f
    induction f with
    | zero =>
      intro c h1 h2 h3
      have hc : c = 11 := by omega
      subst hc
      exact ⟨11, by decide, by decide, h, h3⟩
    | succ f ih =>
      intro c h1 h2 h3
      by_cases hc : n < 10 ^ c
      · exact ⟨c, h2, by omega, hc, h3⟩
      · refine ih (c + 1) (by omega) (by omega) (fun i i1 i2 => ?_)
        by_cases hi : i = c
        · subst hi; omega
        · exact h3 i i1 (by omega)
  exact this 10 1 rfl (Nat.le_refl _) (fun i i1 i2 => by omega)
