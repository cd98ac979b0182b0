/-! ===== digits and pieces of a word, in the class ===== -/
def q_ob (B : Nat → Int32) (x : q_Tok) : Bool := q_al (fun i => decide (B i = 48) || decide (B i = 49)) (x.2.2.1 - x.2.1) x.2.1
def q_d1 (c : Int32) : Int32 := if c = 48 then -1 else -2
def q_dl (B : Nat → Int32) : Nat → Nat → List Int32
  | 0, _ => []
  | n + 1, p => q_d1 (B p) :: q_dl B n (p + 1)
theorem q_dl_len (B : Nat → Int32) : ∀ n p, (q_dl B n p).length = n := by
  intro n
  induction n with
  | zero => intro p; rfl
  | succ n ih => intro p; simp [q_dl, ih]
def q_tw (tot : List Int32) : Prop := ∃ v : Int32, ¬ v < 0 ∧ 2 ≤ tot.count v
/-- how the describer stands within a word -/
def q_CB (b n : Nat) (D : q_Mem) (Z : Nat → Nat → Option Nat) (nk z a : Nat) (mn : q_Nam) (ps : List Int32) (os : q_Ops) (ws : List (List Int32)) (c : List Int32) (I : Nat → Nat → Int32) (Y : Nat → Nat → Int64) : Prop := I 19 4 = nI c.length ∧ (∃ tw, I 19 6 = q_b tw ∧ (tw = true ↔ q_tw (ws.flatten ++ c))) ∧ (∀ o, o < 5 → ∃ sv, Y 20 o = lN sv ∧ sv < 2 ^ 32 ∧ ∀ k, k < 32 → (sv.testBit k = true ↔ nI (32 * o + k) ∈ ws.flatten ++ c)) ∧ q_CIb b n D Z nk z a mn ps os ws c
section QBC
variable {κ : Nat → Nat} {b : Nat} {B : Nat → Int32} {l : List q_Tok} {zt t : Nat} {R : Nat → Nat → Option Nat} {X : Nat → Nat → Int32} {Z : Nat → Nat → Option Nat} {M : q_MT} {O : Nat → Int64} {s : Nat × Nat}
theorem q_hasOnlyBits_7 {I : Nat → Nat → Int32} {Y : Nat → Nat → Int64} {D : q_Mem} (h : q_TC B l zt I X Y) (ht : t < l.length) : ∀ n fuel j, j + n = (q_tok l t).2.2.1 → n < fuel → F_X10_hasOnlyBits_7 κ fuel (some (b + 2)) (nI t) (nI j) (q_H b (I, R, X, Y, Z) M O D, s) = some (.inl (q_b (q_al (fun i => decide (B i = 48) || decide (B i = 49)) n j)), (q_H b (I, R, X, Y, Z) M O D, s)) := by
  have hz := h.2.2.1
  have hl := h.2.1
  obtain ⟨w1, w2, w3, -⟩ := h.2.2.2.2.1 t _ (q_tok_s ht)
  have e2 := q_TC_en h ht
  intro n
  induction n with
  | zero =>
    intro fuel j h1 h2
    obtain ⟨f, rfl⟩ : ∃ f, fuel = f + 1 := ⟨fuel - 1, by omega⟩
    have h3 : (q_tok l t).2.2.1 ≤ j := by omega
    simp (disch := first | rfl | omega | decide | exact Nat.le_of_ble_eq_true rfl) only [F_X10_hasOnlyBits_7, ↓q_br, q_rt, q_rz, q_gd, q_ca, ↓reduceIte, F_X10_hasOnlyBits_7B, ↓q_gA_2_0, ↓q_gA_2_3, ↓q_lI_3, ↓q_lI_6, e2, nI_leI, h3, q_al]
    rfl
  | succ n ih =>
    intro fuel j h1 h2
    obtain ⟨f, rfl⟩ : ∃ f, fuel = f + 1 := ⟨fuel - 1, by omega⟩
    have h3 : ¬ (q_tok l t).2.2.1 ≤ j := by omega
    have h5 : X 3 j = B j := h.2.2.2.2.2.1 _ (by omega)
    simp (disch := first | rfl | omega | decide | exact Nat.le_of_ble_eq_true rfl) only [F_X10_hasOnlyBits_7, ↓q_br, q_rt, q_rz, q_gd, q_ca, ↓reduceIte, F_X10_hasOnlyBits_7B, F_X10_hasOnlyBits_41, ↓q_gA_2_0, ↓q_gA_2_3, ↓q_lI_3, ↓q_lI_6, e2, nI_leI, h3, h5, nI_1, q_al]
    by_cases h7 : B j = 48
    · simp only [h7, if_true, decide_true, Bool.true_or, Bool.true_and]
      exact ih f (j + 1) (by omega) (by omega)
    · by_cases h8 : B j = 49
      · simp only [h7, h8, if_true, if_false, decide_true, Bool.or_true, Bool.true_and]
        have : ¬ (49 : Int32) = 48 := by decide
        simp only [this, if_false]
        exact ih f (j + 1) (by omega) (by omega)
      · simp [h7, h8, q_b]
theorem q_hasOnlyBits {I : Nat → Nat → Int32} {Y : Nat → Nat → Int64} {D : q_Mem} (h : q_TC B l zt I X Y) (ht : t < l.length) : F_X10_hasOnlyBits κ (some (b + 2)) (nI t) (q_H b (I, R, X, Y, Z) M O D, s) = some (.inl (q_b (q_ob B (q_tok l t))), (q_H b (I, R, X, Y, Z) M O D, s)) := by
  have hz := h.2.2.1
  have hl := h.2.1
  obtain ⟨w1, w2, w3, -⟩ := h.2.2.2.2.1 t _ (q_tok_s ht)
  have e1 := q_TC_st h ht
  have h1 := q_hasOnlyBits_7 (κ := κ) (b := b) (R := R) (Z := Z) (M := M) (O := O) (D := D) (s := s) h ht ((q_tok l t).2.2.1 - (q_tok l t).2.1) q_fu (q_tok l t).2.1 (by omega) (by unfold q_fu; omega)
  simp (disch := first | rfl | omega | decide | exact Nat.le_of_ble_eq_true rfl) only [↓q_br, q_rt, q_rz, q_gd, q_ca, ↓reduceIte, F_X10_hasOnlyBits, ↓q_gA_2_2, ↓q_lI_5, e1, h1, q_ob]
/-- digits add nothing to what is seen -/
theorem q_seen_d {tot : List Int32} {g : Int32} (hg : g = -1 ∨ g = -2) : (q_tw (tot ++ [g]) ↔ q_tw tot) ∧ ∀ v, v < 160 → (nI v ∈ tot ++ [g] ↔ nI v ∈ tot) := by
  have hneg : g < 0 := by rcases hg with rfl | rfl <;> decide
  constructor
  · constructor
    · rintro ⟨v, v1, v2⟩
      refine ⟨v, v1, ?_⟩
      have hne : ¬ g = v := by rintro rfl; exact v1 hneg
      rw [List.count_append, List.count_singleton] at v2
      simp only [beq_iff_eq, hne, if_false, Nat.add_zero] at v2
      exact v2
    · rintro ⟨v, v1, v2⟩
      refine ⟨v, v1, ?_⟩
      rw [List.count_append]
      omega
  · intro v hv
    have hne : ¬ nI v = g := by rintro rfl; exact nI_pos (by omega) hneg
    simp [hne]
theorem q_seen_p {tot : List Int32} {o k : Nat} (ho : o < 5) (hk : k < 32) : (q_tw (tot ++ [nI (32 * o + k)]) ↔ (q_tw tot ∨ nI (32 * o + k) ∈ tot)) ∧ ∀ v, v < 160 → (nI v ∈ tot ++ [nI (32 * o + k)] ↔ (nI v ∈ tot ∨ v = 32 * o + k)) := by
  have hpos : ¬ nI (32 * o + k) < 0 := nI_pos (by omega)
  constructor
  · constructor
    · rintro ⟨v, v1, v2⟩
      rw [List.count_append, List.count_singleton] at v2
      by_cases hv : nI (32 * o + k) = v
      · subst hv
        simp only [beq_self_eq_true, if_true] at v2
        refine Or.inr (List.one_le_count_iff.mp (by omega))
      · simp only [beq_iff_eq, hv, if_false, Nat.add_zero] at v2
        exact Or.inl ⟨v, v1, v2⟩
    · rintro (⟨v, v1, v2⟩ | h)
      · refine ⟨v, v1, ?_⟩
        rw [List.count_append]
        omega
      · refine ⟨_, hpos, ?_⟩
        have := List.one_le_count_iff.mpr h
        rw [List.count_append, List.count_singleton]
        simp only [beq_self_eq_true, if_true]
        omega
  · intro v hv
    rw [List.mem_append, List.mem_singleton, nI_eq (by omega) (by omega)]
theorem q_readDigits_43 {n nk z a : Nat} {mn : q_Nam} {ps : List Int32} {os : q_Ops} {ws : List (List Int32)} (hR : R 19 3 = some a) (hz : z ≤ 32) (hw : ws.length < 4) (ht : t < l.length) : ∀ d fuel p (I : Nat → Nat → Int32) (Y : Nat → Nat → Int64) (D : q_Mem) (c : List Int32), q_TC B l zt I X Y → I 14 1 = nI t → I 8 2 = nI z → p + d = (q_tok l t).2.2.1 → (q_tok l t).2.1 ≤ p → d < fuel → q_al (fun i => decide (B i = 48) || decide (B i = 49)) d p = true → c.length + d < 1000000 → q_CB b n D Z nk z a mn ps os ws c I Y →
    ∃ I' D', F_X0_readDigits_43 κ fuel (some (b + 19)) (nI p) (q_H b (I, R, X, Y, Z) M O D, s) = some (.inl (), (q_H b (q_u2 I' 14 1 (nI (t + 1)), R, X, Y, Z) M O D', s)) ∧ (∀ j, j ≠ 19 → I' j = I j) ∧ q_CB b n D' Z nk z a mn ps os ws (c ++ q_dl B d p) (q_u2 I' 14 1 (nI (t + 1))) Y ∧ (∀ x, x ≠ a → x ≠ a + 6 → x ≠ a + 7 → D' x = D x) := by
  intro d
  induction d with
  | zero =>
    intro fuel p I Y D c h ha h82 hp hp0 hf hal hcl hcb
    obtain ⟨f, rfl⟩ : ∃ f, fuel = f + 1 := ⟨fuel - 1, by omega⟩
    have hz' := h.2.2.1
    have hl := h.2.1
    obtain ⟨w1, w2, w3, -⟩ := h.2.2.2.2.1 t _ (q_tok_s ht)
    have e2 := q_TC_en h ht
    have h3 : (q_tok l t).2.2.1 ≤ p := by omega
    refine ⟨I, D, ?_, fun _ _ => rfl, ?_, fun _ _ _ _ => rfl⟩
    · rw [F_X0_readDigits_43]
      simp (disch := first | rfl | omega | decide | exact Nat.le_of_ble_eq_true rfl) only [↓q_br, q_rt, q_rz, q_gd, q_ca, ↓reduceIte, F_X0_readDigits_43B, ↓q_gA_19_0, ↓q_gA_19_1, ↓q_gA_19_2, ↓q_gA_19_3, ↓q_gA_2_0, ↓q_gA_2_3, ↓q_gI_14_1, ↓q_gI_19_4, ↓q_gI_8_2, ↓q_lI_3, ↓q_lI_6, ↓q_pI_14_1, ↓q_gA_2_3, ↓q_lI_6, ↓q_gI_14_1, ↓q_pI_14_1, ha, e2, nI_leI, h3, nI_1]
    · obtain ⟨c1, c2, c3, c4⟩ := hcb
      simp only [q_dl, List.append_nil]
      refine ⟨by rw [q_u2_n _ _ _ (by decide), c1], ?_, c3, c4⟩
      obtain ⟨tw, t1, t2⟩ := c2
      exact ⟨tw, by rw [q_u2_n _ _ _ (by decide), t1], t2⟩
  | succ d ih =>
    intro fuel p I Y D c h ha h82 hp hp0 hf hal hcl hcb
    obtain ⟨f, rfl⟩ : ∃ f, fuel = f + 1 := ⟨fuel - 1, by omega⟩
    have hz' := h.2.2.1
    have hl := h.2.1
    obtain ⟨w1, w2, w3, -⟩ := h.2.2.2.2.1 t _ (q_tok_s ht)
    have e2 := q_TC_en h ht
    have h3 : ¬ (q_tok l t).2.2.1 ≤ p := by omega
    have h5 : X 3 p = B p := h.2.2.2.2.2.1 _ (by omega)
    unfold q_al at hal
    rw [Bool.and_eq_true] at hal
    obtain ⟨g, hg, hgd⟩ : ∃ g : Bool, B p - 48 = q_b g ∧ q_d1 (B p) = (if g = true then -2 else -1) := by
      by_cases h7 : B p = 48
      · exact ⟨false, by rw [h7]; decide, by simp [q_d1, h7]⟩
      · have h8 : B p = 49 := by simpa [h7] using hal.1
        exact ⟨true, by rw [h8]; decide, by rw [h8]; decide⟩
    obtain ⟨c1, ⟨tw, t1, t2⟩, c3, c4⟩ := hcb
    have hgn : q_d1 (B p) = -1 ∨ q_d1 (B p) = -2 := by rw [hgd]; cases g <;> simp
    obtain ⟨s1, s2⟩ := q_seen_d (tot := ws.flatten ++ c) hgn
    have hlen : (c ++ [q_d1 (B p)]).length = c.length + 1 := by simp
    have fin : ∀ D1, q_CIb b n D1 Z nk z a mn ps os ws (c ++ [q_d1 (B p)]) → q_CB b n D1 Z nk z a mn ps os ws (c ++ [q_d1 (B p)]) (q_u2 I 19 4 (nI (c.length + 1))) Y := by
      intro D1 hD1
      refine ⟨by rw [q_u2_s, q_u1_s, hlen], ⟨tw, by rw [q_u2_s, q_u1_n _ _ (by decide), t1], ?_⟩, fun o ho => ?_, hD1⟩
      · rw [t2, ← List.append_assoc, s1]
      · obtain ⟨sv, v1, v2, v3⟩ := c3 o ho
        exact ⟨sv, v1, v2, fun k hk => by rw [v3 k hk, ← List.append_assoc, s2 _ (by omega)]⟩
    have hdl : c ++ q_dl B (d + 1) p = (c ++ [q_d1 (B p)]) ++ q_dl B d (p + 1) := by simp [q_dl]
    have h1 : q_TC B l zt (q_u2 I 19 4 (nI (c.length + 1))) X Y := q_TC_I h (by rw [q_u2_n _ _ _ (by decide)])
    by_cases hcz : z ≤ c.length
    · have hnle : nI z ≤ nI c.length := nI_le hcz (by omega)
      have hb := fin D (q_CIb_out c4 hcz)
      obtain ⟨I', D', r1, r2, r3, r4⟩ := ih f (p + 1) _ Y D _ h1 (by rw [q_u2_n _ _ _ (by decide), ha]) (by rw [q_u2_n _ _ _ (by decide), h82]) (by omega) (by omega) (by omega) hal.2 (by rw [hlen]; omega) hb
      refine ⟨I', D', ?_, fun j hj => by rw [r2 j hj, q_u2_n _ _ _ hj], by rw [hdl]; exact r3, r4⟩
      refine Eq.trans ?_ r1
      rw [F_X0_readDigits_43]
      simp (disch := first | rfl | omega | decide | exact Nat.le_of_ble_eq_true rfl) only [↓q_br, q_rt, q_rz, q_gd, q_ca, ↓reduceIte, F_X0_readDigits_43B, F_X0_readDigits_109, ↓q_gA_19_0, ↓q_gA_19_1, ↓q_gA_19_2, ↓q_gA_19_3, ↓q_gA_2_0, ↓q_gA_2_3, ↓q_gI_14_1, ↓q_gI_19_4, ↓q_gI_8_2, ↓q_lI_3, ↓q_lI_6, ↓q_pI_14_1, ↓q_pI_19_4, ↓q_gA_2_3, ↓q_lI_6, ↓q_gI_14_1, ↓q_gI_8_2, ha, e2, nI_leI, h3, c1, h82, hcz, nI_1]
    · have hcz' : c.length < z := by omega
      have hnle : ¬ nI z ≤ nI c.length := by rw [nI_leI (by omega) (by omega)]; exact hcz
      obtain ⟨D1, d1, d2, d3⟩ := q_putDigit (κ := κ) (C := (I, R, X, Y, Z)) (M := M) (O := O) (s := s) (g := g) c4 hcz' hz hw
      have e3 : ∃ fs, b + 66 < a ∧ D a = some (.inr (.inl (4, fs))) := by
        obtain ⟨fm, fd, fs, k, -⟩ := c4
        exact ⟨_, k.1, k.2.2.1⟩
      obtain ⟨fv, e3⟩ := e3
      have e4 : nI z - 1 - nI c.length = nI (z - 1 - c.length) := by
        have : nI z - 1 = nI (z - 1) := nI_sub (b := 1) (by omega)
        rw [this, nI_sub (by omega)]
      rw [← hgd] at d2
      have hb := fin D1 d2
      obtain ⟨I', D', r1, r2, r3, r4⟩ := ih f (p + 1) _ Y D1 _ h1 (by rw [q_u2_n _ _ _ (by decide), ha]) (by rw [q_u2_n _ _ _ (by decide), h82]) (by omega) (by omega) (by omega) hal.2 (by rw [hlen]; omega) hb
      refine ⟨I', D', ?_, fun j hj => by rw [r2 j hj, q_u2_n _ _ _ hj], by rw [hdl]; exact r3, fun x x1 x2 x3 => by rw [r4 x x1 x2 x3, d3 x x1 x2 x3]⟩
      refine Eq.trans ?_ r1
      rw [F_X0_readDigits_43]
      simp (disch := first | rfl | omega | decide | exact Nat.le_of_ble_eq_true rfl) only [↓q_br, q_rt, q_rz, q_gd, q_ca, ↓reduceIte, F_X0_readDigits_43B, F_X0_readDigits_109, ↓q_gA_19_0, ↓q_gA_19_1, ↓q_gA_19_2, ↓q_gA_19_3, ↓q_gA_2_0, ↓q_gA_2_3, ↓q_gI_14_1, ↓q_gI_19_4, ↓q_gI_8_2, ↓q_lI_3, ↓q_lI_6, ↓q_pI_14_1, ↓q_pI_19_4, ↓q_gA_2_3, ↓q_gA_2_0, ↓q_lI_6, ↓q_lI_3, ↓q_gI_14_1, ↓q_gI_8_2, ha, e2, nI_leI, h3, c1, h82, hcz, hR, e4, h5, hg, qd_S e3, d1, nI_1]
end QBC
