/-! ===== an instruction's parts ===== -/
abbrev q_Ops : Type := List (q_Nam × Nat)
/-- an instruction object of the class -/
def q_CIo (b n : Nat) (D : q_Mem) (Z : Nat → Nat → Option Nat) (nk a : Nat) (mn : q_Nam) (ps : List Int32) (os : q_Ops) (wc dc : Nat) (fm fd : Nat → Int64) (fs : Nat → Int32) : Prop := b + 66 < a ∧ a + 8 < n ∧ D a = some (.inr (.inl (4, [.ref (a + 1), .ref (a + 3), .ref (a + 4), .ref (a + 5), .ref (a + 6), .ref (a + 7), .ref (a + 8), .int (nI ps.length), .int (nI os.length), .int (nI wc), .int (nI dc)]))) ∧ q_CN b n D (a + 1) mn ∧ D (a + 6) = some (.inl (2, 4, .inr (.inl fm))) ∧ D (a + 7) = some (.inl (2, 4, .inr (.inl fd))) ∧ D (a + 8) = some (.inl (1, 128, .inl fs)) ∧ ∃ fp fo fk, D (a + 3) = some (.inl (1, 12, .inl fp)) ∧ D (a + 4) = some (.inl (6, 5, .inr (.inr (.inr (.inr fo))))) ∧ D (a + 5) = some (.inl (5, 5, .inr (.inr (.inr (.inr fk))))) ∧ (∀ i v, ps[i]? = some v → fp i = v) ∧ (∀ i x, os[i]? = some x → ∃ a', fo i = some a' ∧ q_CN b n D a' x.1 ∧ fk i = Z 9 x.2 ∧ x.2 < nk)
def q_og (os : q_Ops) (i : Nat) : q_Nam := (os.getD i ([], 0)).1
def q_oi (B : Nat → Int32) (l : List q_Tok) (t : Nat) (os : q_Ops) : Option Nat := q_fi (fun i => decide (q_tB B (q_tok l t) = q_og os i)) os.length 0
def q_pss (c : Int32) : Bool := (q_tt 10).contains c
def q_psg (l : List q_Tok) (t : Nat) : Bool := decide ((q_tok l t).1 = 3 ∧ q_pss (q_nv l t).toInt32 = true)
theorem q_sg_c : ∀ c ∈ q_tt 2, (((c.toInt64 &&& 255).toInt32).toUInt32 % 65536).toInt32 = c ∧ ¬ c < 0 ∧ ¬ 255 < c ∧ c.toInt8.toInt32 = c ∧ c.toInt64.toInt32 = c := by decide +kernel
section QIA
variable {κ : Nat → Nat} {b : Nat} {B : Nat → Int32} {l : List q_Tok} {z t : Nat} {I : Nat → Nat → Int32} {R : Nat → Nat → Option Nat} {X : Nat → Nat → Int32} {Y : Nat → Nat → Int64} {Z : Nat → Nat → Option Nat} {C : q_CT} {M : q_MT} {P : Nat → Int32} {Q : Nat → Nat → Int32} {S : Nat → Nat → Int64} {O : Nat → Int64} {D : q_Mem} {s : Nat × Nat}
theorem q_CN_o {n a : Nat} {nm : q_Nam} (h : q_CN b n D a nm) : ∃ la, b + 66 < a ∧ D a = some (.inr (.inl (10, [.ref la]))) := by
  obtain ⟨la, g', y1, y2, y3, y4, y5, y6⟩ := h
  exact ⟨la, y1, y5⟩
theorem q_operandNamed_2 {n nk a : Nat} {mn : q_Nam} {ps : List Int32} {os : q_Ops} {wc dc : Nat} {fm fd : Nat → Int64} {fs : Nat → Int32} (h : q_TC B l z I X Y) (ht : t < l.length + 3) (hy : (q_tok l t).1 = 1) (hk : q_CIo b n D Z nk a mn ps os wc dc fm fd fs) (ho : os.length ≤ 5) : ∀ m fuel k, k + m = os.length → m < fuel → F_X1_operandNamed_2 κ fuel (some a) (some (b + 2)) (nI t) (nI k) (q_H b (I, R, X, Y, Z) M O D, s) = some (.inl (q_mv (q_fi (fun i => decide (q_tB B (q_tok l t) = q_og os i)) m k)), (q_H b (I, R, X, Y, Z) M O D, s)) := by
  obtain ⟨k1, k2, k3, k4, k5, k6, k7, fp, fo, fk, k8, k9, k10, k11, k12⟩ := hk
  have e3 : b + 66 < a ∧ D a = some (.inr (.inl (4, [.ref (a + 1), .ref (a + 3), .ref (a + 4), .ref (a + 5), .ref (a + 6), .ref (a + 7), .ref (a + 8), .int (nI ps.length), .int (nI os.length), .int (nI wc), .int (nI dc)]))) := ⟨k1, k3⟩
  have e4 : b + 66 < a + 4 ∧ D (a + 4) = some (.inl (6, 5, .inr (.inr (.inr (.inr fo))))) := ⟨by omega, k9⟩
  intro m
  induction m with
  | zero =>
    intro fuel k h1 h2
    obtain ⟨g, rfl⟩ : ∃ g, fuel = g + 1 := ⟨fuel - 1, by omega⟩
    have h3 : os.length ≤ k := by omega
    simp (disch := first | rfl | omega | decide | exact Nat.le_of_ble_eq_true rfl) only [F_X1_operandNamed_2, ↓q_br, q_rt, q_rz, q_gd, q_ca, ↓reduceIte, F_X1_operandNamed_2B, qd_I e3 (k := 8) (v := nI os.length) rfl, nI_leI, h3, q_fi, q_mv]
  | succ m ih =>
    intro fuel k h1 h2
    obtain ⟨g, rfl⟩ : ∃ g, fuel = g + 1 := ⟨fuel - 1, by omega⟩
    have h3 : ¬ os.length ≤ k := by omega
    have h5 : k < os.length := by omega
    have hg := List.getElem?_eq_getElem h5
    obtain ⟨a', e1, e2, -⟩ := k12 k _ hg
    have hgd : q_og os k = os[k].1 := by simp [q_og, List.getD, h5]
    obtain ⟨la, e7⟩ := q_CN_o e2
    have e8 := q_bytesBehind (κ := κ) (R := R) (Z := Z) (M := M) (O := O) (s := s) h e2 ht
    have e9 : q_bb B (q_tok l t) os[k].1 = 0 ↔ q_tB B (q_tok l t) = os[k].1 := by
      rw [q_bb_0 (q_tok_e31 h)]
      exact ⟨fun h => h.2, fun h => ⟨hy, h⟩⟩
    have hk5 : k < 5 := by omega
    simp (disch := first | rfl | omega | decide | exact Nat.le_of_ble_eq_true rfl) only [F_X1_operandNamed_2, ↓q_br, q_rt, q_rz, q_gd, q_ca, ↓reduceIte, F_X1_operandNamed_2B, qd_I e3 (k := 8) (v := nI os.length) rfl, qd_A e3 (k := 2) (r := some (a + 4)) rfl, nI_leI, h3, qd_aA e4 hk5 (by decide), e1, qd_S e7, e8, e9, nI_1, q_fi, decide_eq_true_eq, hgd]
    by_cases h7 : q_tB B (q_tok l t) = os[k].1
    · simp only [h7, not_true_eq_false, if_false, if_true, q_mv]
    · simp only [h7, not_false_eq_true, if_true, if_false]
      exact ih g (k + 1) (by omega) (by omega)
theorem q_operandNamed {n nk a : Nat} {mn : q_Nam} {ps : List Int32} {os : q_Ops} {wc dc : Nat} {fm fd : Nat → Int64} {fs : Nat → Int32} (h : q_TC B l z I X Y) (hy : (q_tok l t).1 = 1) (hk : q_CIo b n D Z nk a mn ps os wc dc fm fd fs) (ho : os.length ≤ 5) : F_X1_operandNamed κ (some a) (some (b + 2)) (nI t) (q_H b (I, R, X, Y, Z) M O D, s) = some (.inl (q_mv (q_oi B l t os)), (q_H b (I, R, X, Y, Z) M O D, s)) := by
  have hlt := q_tok_lt (l := l) (t := t) (by omega)
  have h1 := q_operandNamed_2 (κ := κ) (R := R) (M := M) (O := O) (s := s) h (by omega) hy hk ho os.length q_fu 0 (by omega) (by unfold q_fu; omega)
  rw [nI_0] at h1
  unfold F_X1_operandNamed
  exact h1
theorem q_oi_neg {os : q_Ops} (ho : os.length ≤ 5) : (q_mv (q_oi B l t os) < 0) ↔ q_oi B l t os = none := by
  unfold q_oi
  cases h : q_fi (fun i => decide (q_tB B (q_tok l t) = q_og os i)) os.length 0 with
  | none => simp [q_mv]
  | some i =>
    have h1 := (q_fi_s _ _ _ h).2.1
    simp only [q_mv, reduceCtorEq, iff_false]
    exact nI_pos (by omega)
theorem q_sgn_c (h : q_WF B z l) (hy : (q_tok l t).1 = 3) : q_nv l t = (B (q_tok l t).2.1).toInt64 ∧ B (q_tok l t).2.1 ∈ q_tt 2 := by
  have hlt := q_tok_lt (l := l) (t := t) (by omega)
  obtain ⟨w1, w2⟩ := (h t _ (q_tok_s hlt)).2.2.2.2.2.1 hy
  exact ⟨w1, List.contains_iff_mem.mp w2⟩
theorem q_isPartSign (h : q_TC B l z I X Y) (hK : q_Kp κ b D) (ht : t < l.length + 3) : F_X0_isPartSign κ (some (b + 19)) (nI t) (q_H b (I, R, X, Y, Z) M O D, s) = some (.inl (q_b (q_psg l t)), (q_H b (I, R, X, Y, Z) M O D, s)) := by
  have hz := h.2.2.1
  have hl := h.2.1
  have h3 : (X 4 t = (3 : Int32)) ↔ (q_tok l t).1 = 3 := q_TC_is (c := 3) h ht (by decide)
  by_cases hy : (q_tok l t).1 = 3
  · have hlt := q_tok_lt (l := l) (t := t) (by omega)
    obtain ⟨c1, c2⟩ := q_sgn_c h.2.2.2.2.1 hy
    obtain ⟨d1, d2, d3, d4, d5⟩ := q_sg_c _ c2
    have e1 : Y 7 t = (B (q_tok l t).2.1).toInt64 := (q_TC_wo h hlt (Or.inr hy)).trans c1
    obtain ⟨v, v1, v2⟩ := q_indexOf (κ := κ) (i := 10) (C := (I, R, X, Y, Z)) (M := M) (O := O) (s := s) (c := B (q_tok l t).2.1) hK (by decide) (by decide)
    rw [d4] at v2
    have v3 : v < 0 ↔ q_pss (B (q_tok l t).2.1) = false := by
      rw [v2]
      exact ⟨fun h => h.resolve_left (fun h => h.elim d2 d3), fun h => Or.inr h⟩
    have hsp : ∀ f : Nat → q_X Int32, q_rd (q_sp (some (κ 10)) 0) f (q_H b (I, R, X, Y, Z) M O D, s) = f 10 (q_H b (I, R, X, Y, Z) M O D, s) := fun f => q_sp_0 hK (by decide)
    simp (disch := first | rfl | omega | decide | exact Nat.le_of_ble_eq_true rfl) only [↓q_br, q_rt, q_rz, q_gd, q_ca, ↓reduceIte, F_X0_isPartSign_41, F_X0_isPartSign_40, F_X0_isPartSign, ↓q_gA_19_1, ↓q_gA_2_1, ↓q_gA_2_4, ↓q_lI_4, ↓q_lL_7, ↓q_gA_2_1, ↓q_gA_2_4, ↓q_lI_4, ↓q_lL_7, h3, hy, not_true_eq_false, e1, hsp, d1, v1, v3, q_psg, true_and, c1, d5]
    by_cases hc : q_pss (B (q_tok l t).2.1) = true
    · simp [hc, q_b]
    · simp [hc, q_b]
  · simp (disch := first | rfl | omega | decide | exact Nat.le_of_ble_eq_true rfl) only [↓q_br, q_rt, q_rz, q_gd, q_ca, ↓reduceIte, F_X0_isPartSign_41, F_X0_isPartSign_40, F_X0_isPartSign, ↓q_gA_19_1, ↓q_gA_2_1, ↓q_gA_2_4, ↓q_lI_4, ↓q_lL_7, ↓q_gA_2_1, ↓q_lI_4, h3, hy, q_psg, false_and]
    simp [q_b]
/-! the object after a part, an operand -/
theorem q_addPart {n nk a : Nat} {mn : q_Nam} {ps : List Int32} {os : q_Ops} {wc dc : Nat} {fm fd : Nat → Int64} {fs : Nat → Int32} {v : Int32} (hk : q_CIo b n D Z nk a mn ps os wc dc fm fd fs) (hp : ps.length < 12) : ∃ D', F_X1_addPart κ (some a) v (q_H b C M O D, s) = some (.inl (), (q_H b C M O D', s)) ∧ q_CIo b n D' Z nk a mn (ps ++ [v]) os wc dc fm fd fs ∧ (∀ x, x ≠ a → x ≠ a + 3 → D' x = D x) := by
  obtain ⟨k1, k2, k3, k4, k5, k6, k7, fp, fo, fk, k8, k9, k10, k11, k12⟩ := hk
  have e3 : b + 66 < a ∧ D a = some (.inr (.inl (4, [.ref (a + 1), .ref (a + 3), .ref (a + 4), .ref (a + 5), .ref (a + 6), .ref (a + 7), .ref (a + 8), .int (nI ps.length), .int (nI os.length), .int (nI wc), .int (nI dc)]))) := ⟨k1, k3⟩
  have e4 : b + 66 < a + 3 ∧ D (a + 3) = some (.inl (1, 12, .inl fp)) := ⟨by omega, k8⟩
  have e5 : b + 66 < a ∧ q_up D (a + 3) (.inl (1, 12, .inl (q_u1 fp ps.length v))) a = some (.inr (.inl (4, [.ref (a + 1), .ref (a + 3), .ref (a + 4), .ref (a + 5), .ref (a + 6), .ref (a + 7), .ref (a + 8), .int (nI ps.length), .int (nI os.length), .int (nI wc), .int (nI dc)]))) := ⟨k1, by rw [q_up_n _ _ (by omega), k3]⟩
  have hlen : (ps ++ [v]).length = ps.length + 1 := by simp
  refine ⟨q_up (q_up D (a + 3) (.inl (1, 12, .inl (q_u1 fp ps.length v)))) a (.inr (.inl (4, [.ref (a + 1), .ref (a + 3), .ref (a + 4), .ref (a + 5), .ref (a + 6), .ref (a + 7), .ref (a + 8), .int (nI (ps.length + 1)), .int (nI os.length), .int (nI wc), .int (nI dc)]))), ?_, ?_, ?_⟩
  · simp (disch := first | rfl | omega | decide | exact Nat.le_of_ble_eq_true rfl) only [↓q_br, q_rt, q_rz, q_gd, q_ca, ↓reduceIte, F_X1_addPart, qd_A e3 (k := 1) (r := some (a + 3)) rfl, qd_I e3 (k := 7) (v := nI ps.length) rfl]
    rw [qd_wI e4 hp (by decide)]
    simp (disch := first | rfl | omega | decide | exact Nat.le_of_ble_eq_true rfl) only [↓q_br, q_rt, q_rz, q_gd, q_ca, ↓reduceIte, qd_I e5 (k := 7) (v := nI ps.length) rfl, nI_1]
    rw [qd_W e5 (by simp)]
    rfl
  · have hcn : ∀ x nm, q_CN b n D x nm → q_CN b n (q_up (q_up D (a + 3) (.inl (1, 12, .inl (q_u1 fp ps.length v)))) a (.inr (.inl (4, [.ref (a + 1), .ref (a + 3), .ref (a + 4), .ref (a + 5), .ref (a + 6), .ref (a + 7), .ref (a + 8), .int (nI (ps.length + 1)), .int (nI os.length), .int (nI wc), .int (nI dc)])))) x nm := fun x nm hx => q_CN_up (q_CN_up hx k8 rfl) e5.2 rfl
    refine ⟨k1, k2, by rw [q_up_s, hlen], hcn _ _ k4, by rw [q_up_n _ _ (by omega), q_up_n _ _ (by omega), k5], by rw [q_up_n _ _ (by omega), q_up_n _ _ (by omega), k6], by rw [q_up_n _ _ (by omega), q_up_n _ _ (by omega), k7], q_u1 fp ps.length v, fo, fk, by rw [q_up_n _ _ (by omega), q_up_s], by rw [q_up_n _ _ (by omega), q_up_n _ _ (by omega), k9], by rw [q_up_n _ _ (by omega), q_up_n _ _ (by omega), k10], fun i w hi => ?_, fun i x hx => ?_⟩
    · by_cases hil : i < ps.length
      · rw [List.getElem?_append_left hil] at hi
        rw [q_u1_n _ _ (by omega)]
        exact k11 i w hi
      · have hie : i = ps.length := by
          have := (List.getElem?_eq_some_iff.mp hi).1
          rw [hlen] at this
          omega
        subst hie
        rw [List.getElem?_append_right (Nat.le_refl _), Nat.sub_self] at hi
        simp only [List.getElem?_cons_zero, Option.some.injEq] at hi
        rw [q_u1_s, hi]
    · obtain ⟨a', y1, y2, y3⟩ := k12 i x hx
      exact ⟨a', y1, hcn _ _ y2, y3⟩
  · intro x x1 x2
    rw [q_up_n _ _ x1, q_up_n _ _ x2]
end QIA
