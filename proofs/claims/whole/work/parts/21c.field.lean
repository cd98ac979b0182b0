/-! ===== the fields of words ===== -/
def q_hit (z : Nat) (W : List (List Int32)) (g : Nat → Nat) (o k w j : Nat) : Bool := match W[w]? with
  | some c => decide (j < z) && decide (c.getD (z - 1 - j) 0 = nI (32 * o + k)) && (g w).testBit j
  | none => false
theorem q_hit_i {z : Nat} {W : List (List Int32)} {g : Nat → Nat} {o k w j : Nat} {c : List Int32} (h : W[w]? = some c) : q_hit z W g o k w j = true ↔ (j < z ∧ c.getD (z - 1 - j) 0 = nI (32 * o + k) ∧ (g w).testBit j = true) := by
  unfold q_hit
  rw [h]
  simp only [Bool.and_eq_true, decide_eq_true_eq, and_assoc]
theorem q_hit_z {z : Nat} {W : List (List Int32)} {g : Nat → Nat} {o k w j : Nat} (h : q_hit z W g o k w j = true) : j < z ∧ w < W.length := by
  unfold q_hit at h
  cases hw : W[w]? with
  | none => rw [hw] at h; cases h
  | some c =>
    rw [hw] at h
    simp only [Bool.and_eq_true, decide_eq_true_eq] at h
    exact ⟨h.1.1, (List.getElem?_eq_some_iff.mp hw).1⟩
def q_ofb (p : Nat → Bool) : Nat → Nat
  | 0 => 0
  | n + 1 => q_ofb p n ||| (if p n = true then 2 ^ n else 0)
theorem q_ofb_lt (p : Nat → Bool) : ∀ n, q_ofb p n < 2 ^ n := by
  intro n
  induction n with
  | zero => exact Nat.one_pos
  | succ n ih =>
    rw [q_ofb]
    have h1 : 2 ^ n < 2 ^ (n + 1) := Nat.pow_lt_pow_right (by decide) (by omega)
    exact Nat.or_lt_two_pow (by omega) (by split <;> omega)
theorem q_ofb_t (p : Nat → Bool) : ∀ n k, (q_ofb p n).testBit k = (decide (k < n) && p k) := by
  intro n
  induction n with
  | zero => intro k; simp [q_ofb]
  | succ n ih =>
    intro k
    rw [q_ofb, Nat.testBit_or, ih]
    by_cases hk : k = n
    · subst hk
      by_cases hp : p k = true
      · simp [hp, Nat.testBit_two_pow_self]
      · simp [hp]
    · by_cases hp : p n = true
      · rw [if_pos hp, Nat.testBit_two_pow]
        by_cases h1 : k < n
        · simp [h1, show k < n + 1 from by omega, Ne.symm hk]
        · simp [h1, show ¬ k < n + 1 from by omega, Ne.symm hk]
      · rw [if_neg hp]
        by_cases h1 : k < n
        · simp [h1, show k < n + 1 from by omega]
        · simp [h1, show ¬ k < n + 1 from by omega]
/-- the value of the field o -/
def q_fv (z : Nat) (W : List (List Int32)) (g : Nat → Nat) (o : Nat) : Nat := q_ofb (fun k => (List.range W.length).any fun w => (List.range z).any fun j => q_hit z W g o k w j) 32
theorem q_fv_lt {z : Nat} {W : List (List Int32)} {g : Nat → Nat} {o : Nat} : q_fv z W g o < 2 ^ 32 := q_ofb_lt _ _
theorem q_fv_u {z : Nat} {W : List (List Int32)} {g : Nat → Nat} {o v : Nat} (hv : v < 2 ^ 32) (h : ∀ k, k < 32 → (v.testBit k = true ↔ ∃ w j, q_hit z W g o k w j = true)) : v = q_fv z W g o := by
  apply Nat.eq_of_testBit_eq
  intro k
  unfold q_fv
  rw [q_ofb_t]
  by_cases hk : k < 32
  · rw [decide_eq_true hk, Bool.true_and, Bool.eq_iff_iff, h k hk, List.any_eq_true]
    constructor
    · rintro ⟨w, j, h1⟩
      have h2 := q_hit_z h1
      exact ⟨w, List.mem_range.mpr h2.2, by rw [List.any_eq_true]; exact ⟨j, List.mem_range.mpr h2.1, h1⟩⟩
    · rintro ⟨w, -, h1⟩
      rw [List.any_eq_true] at h1
      obtain ⟨j, -, h2⟩ := h1
      exact ⟨w, j, h2⟩
  · rw [decide_eq_false hk, Bool.false_and]
    exact Nat.testBit_lt_two_pow (Nat.lt_of_lt_of_le hv (Nat.pow_le_pow_right (by decide) (by omega)))
/-- one more bit -/
theorem q_orbit {v k : Nat} {bt : Bool} (hv : v < 2 ^ 32) (hk : k < 32) : ∃ v', lN v ||| (lN (if bt = true then 1 else 0) <<< ((nI k).toInt64 &&& 63)) = lN v' ∧ v' < 2 ^ 32 ∧ ∀ i, v'.testBit i = (v.testBit i || (bt && decide (i = k))) := by
  have h2 : 2 ^ k < 2 ^ 32 := Nat.pow_lt_pow_right (by decide) hk
  refine ⟨v ||| (if bt = true then 1 else 0) * 2 ^ k, ?_, Nat.or_lt_two_pow hv (by split <;> omega), fun i => ?_⟩
  · rw [wb_shl _ (by omega), wb_or (by omega) (by split <;> omega)]
  · rw [Nat.testBit_or]
    congr 1
    cases bt with
    | false => simp
    | true =>
      simp only [if_true, Nat.one_mul, Bool.true_and, Nat.testBit_two_pow]
      by_cases h : i = k
      · simp [h]
      · simp [h, Ne.symm h]
theorem q_leg_at {kb : Nat → Nat} {no z w k : Nat} {W : List (List Int32)} {c : List Int32} (h : q_leg kb no W.flatten) (hw : W[w]? = some c) (hk : k < c.length) (hs : ¬ c.getD k 0 < 0) : ∃ o i, o < no ∧ i < kb o ∧ c.getD k 0 = nI (32 * o + i) := by
  refine h _ ?_ hs
  rw [List.getD_eq_getElem?_getD, List.getElem?_eq_getElem hk]
  exact List.mem_flatten.mpr ⟨c, List.mem_of_getElem? hw, List.getElem_mem hk⟩
theorem q_oki {o k o' k' : Nat} (ho : o < 5) (hk : k < 32) (ho' : o' < 5) (hk' : k' < 32) : nI (32 * o + k) = nI (32 * o' + k') ↔ o = o' ∧ k = k' := by
  rw [nI_eq (by omega) (by omega)]
  omega
section QFD
variable {κ : Nat → Nat} {b : Nat} {I : Nat → Nat → Int32} {R : Nat → Nat → Option Nat} {X : Nat → Nat → Int32} {Z : Nat → Nat → Option Nat} {M : q_MT} {C : q_CT} {O : Nat → Int64} {D : q_Mem} {s : Nat × Nat}
/-- what codes hold when the bits before i have been gathered -/
def q_DI (z : Nat) (W : List (List Int32)) (g : Nat → Nat) (i : Nat) (Y : Nat → Nat → Int64) : Prop := ∀ o, o < 5 → ∃ v, Y 16 o = lN v ∧ v < 2 ^ 32 ∧ ∀ k, k < 32 → (v.testBit k = true ↔ ∃ w j, w * 32 + j < i ∧ j < 32 ∧ q_hit z W g o k w j = true)
theorem q_DI_s {z : Nat} {W : List (List Int32)} {g : Nat → Nat} {o w j v v' : Nat} (hj : j < 32) (h : ∀ k, k < 32 → (v.testBit k = true ↔ ∃ w' j', w' * 32 + j' < w * 32 + j ∧ j' < 32 ∧ q_hit z W g o k w' j' = true)) (h' : ∀ k, k < 32 → (v'.testBit k = true ↔ v.testBit k = true ∨ q_hit z W g o k w j = true)) : ∀ k, k < 32 → (v'.testBit k = true ↔ ∃ w' j', w' * 32 + j' < w * 32 + j + 1 ∧ j' < 32 ∧ q_hit z W g o k w' j' = true) := by
  intro k hk
  rw [h' k hk, h k hk]
  constructor
  · rintro (⟨w', j', a1, a2, a3⟩ | a)
    · exact ⟨w', j', by omega, a2, a3⟩
    · exact ⟨w, j, by omega, hj, a⟩
  · rintro ⟨w', j', a1, a2, a3⟩
    by_cases e : w' * 32 + j' < w * 32 + j
    · exact Or.inl ⟨w', j', e, a2, a3⟩
    · have e1 : w' = w := by omega
      have e2 : j' = j := by omega
      subst e1; subst e2
      exact Or.inr a3
theorem q_decode_8 {z a A wc no : Nat} {W : List (List Int32)} {g : Nat → Nat} {kb : Nat → Nat} {fs : Nat → Int32} {v0 v1 v2 v3 v4 v5 v7 v8 v10 : Value} (e3 : b + 66 < a ∧ D a = some (.inr (.inl (4, [v0, v1, v2, v3, v4, v5, .ref (a + 8), v7, v8, .int (nI wc), v10])))) (e8 : D (a + 8) = some (.inl (1, 128, .inl fs))) (hW : W.length = wc) (h4 : wc ≤ 4) (hz : z ≤ 32) (lW : ∀ w ∈ W, w.length = z) (hfs : ∀ w c, W[w]? = some c → ∀ j, j < 32 → fs (w * 32 + j) = q_cs z c j) (hleg : q_leg kb no W.flatten) (hno : no ≤ 5) (hkb : ∀ o, kb o ≤ 32) (hA : ∀ w, w < wc → A + w < 4096) {Y0 : Nat → Nat → Int64} (hY : ∀ w, w < wc → Y0 12 (A + w) = lN (g w) ∧ g w < 2 ^ 32) :
    ∀ d fuel i (Y : Nat → Nat → Int64), i + d = wc * 32 → d < fuel → (∀ j, j ≠ 16 → Y j = Y0 j) → q_DI z W g i Y → ∃ Y', F_X1_decode_8 κ fuel (some a) (some (b + 12)) (nI A) (some (b + 16)) (nI i) (q_H b (I, R, X, Y, Z) M O D, s) = some (.inl (), (q_H b (I, R, X, Y', Z) M O D, s)) ∧ (∀ j, j ≠ 16 → Y' j = Y0 j) ∧ q_DI z W g (wc * 32) Y' := by
  have E8 : b + 66 < a + 8 ∧ D (a + 8) = some (.inl (1, 128, .inl fs)) := ⟨by omega, e8⟩
  have m32 : nI wc * (32 : Int32) = nI (wc * 32) := (Int32.ofNat_mul wc 32).symm
  have n32 : (¬ (32 : Int32) = 0) = True := eq_true (by decide)
  intro d
  induction d with
  | zero =>
    intro fuel i Y h1 h2 h3 h5
    obtain ⟨f, rfl⟩ : ∃ f, fuel = f + 1 := ⟨fuel - 1, by omega⟩
    have hi : wc * 32 ≤ i := by omega
    refine ⟨Y, ?_, h3, by rw [show wc * 32 = i from by omega]; exact h5⟩
    rw [F_X1_decode_8]
    simp (disch := first | rfl | omega | decide | exact Nat.le_of_ble_eq_true rfl) only [↓q_br, q_rt, q_rz, q_gd, q_ca, ↓reduceIte, F_X1_decode_8B, qd_I e3 (k := 9) (v := nI wc) rfl, m32, nI_leI, hi]
  | succ d ih =>
    intro fuel i Y h1 h2 h3 h5
    obtain ⟨f, rfl⟩ : ∃ f, fuel = f + 1 := ⟨fuel - 1, by omega⟩
    have hi : ¬ wc * 32 ≤ i := by omega
    have hi128 : i < 128 := by omega
    obtain ⟨w, j, hij, hj⟩ : ∃ w j, i = w * 32 + j ∧ j < 32 := ⟨i / 32, i % 32, by omega, by omega⟩
    subst hij
    have hw : w < wc := by omega
    have hwl : w < W.length := by omega
    obtain ⟨c, hc⟩ : ∃ c, W[w]? = some c := ⟨_, List.getElem?_eq_getElem hwl⟩
    have cl : c.length = z := lW c (List.mem_of_getElem? hc)
    have fse := hfs w c hc j hj
    rw [F_X1_decode_8]
    by_cases hsrc : j < z ∧ ¬ c.getD (z - 1 - j) 0 < 0
    · obtain ⟨hjz, hns⟩ := hsrc
      obtain ⟨o, k, o1, k1, ok⟩ := q_leg_at (z := z) hleg hc (by omega : z - 1 - j < c.length) hns
      have k32 : k < 32 := Nat.lt_of_lt_of_le k1 (hkb o)
      have o5 : o < 5 := by omega
      have cs : q_cs z c j = nI (32 * o + k) + 1 := by
        unfold q_cs q_ca9
        rw [if_pos hjz, List.getElem?_eq_getElem (by omega : z - 1 - j < c.length)]
        have e : c[z - 1 - j] = nI (32 * o + k) := by
          rw [← ok, List.getD_eq_getElem?_getD, List.getElem?_eq_getElem (by omega : z - 1 - j < c.length)]
          rfl
        simp only [e]
        rw [if_neg (nI_pos (by omega))]
      have sub1 : nI (32 * o + k) + 1 - 1 = nI (32 * o + k) := Int32.add_sub_cancel _ _
      have nn : (nI (32 * o + k) < 0) = False := eq_false (nI_pos (by omega))
      have d1 : nI (w * 32 + j) / (32 : Int32) = nI w := by
        rw [show (32 : Int32) = nI 32 from rfl, pk_div (by omega) (by decide) (by decide), show (w * 32 + j) / 32 = w from by omega]
      have d2 : nI (32 * o + k) / (32 : Int32) = nI o := by
        rw [show (32 : Int32) = nI 32 from rfl, pk_div (by omega) (by decide) (by decide), show (32 * o + k) / 32 = o from by omega]
      have r1 : nI (w * 32 + j) - nI w * (32 : Int32) = nI j := by
        rw [← d1, show (32 : Int32) = nI 32 from rfl, pk_rem (by omega) (by decide) (by decide), show (w * 32 + j) % 32 = j from by omega]
      have r2 : nI (32 * o + k) - nI o * (32 : Int32) = nI k := by
        rw [← d2, show (32 : Int32) = nI 32 from rfl, pk_rem (by omega) (by decide) (by decide), show (32 * o + k) % 32 = k from by omega]
      obtain ⟨v, y1, y2, y3⟩ := h5 o o5
      obtain ⟨g1, g2⟩ := hY w hw
      have y12 : Y 12 (A + w) = lN (g w) := by rw [h3 12 (by decide), g1]
      have bt := q_bit (v := g w) (k := j) (by omega) (by omega)
      obtain ⟨v', u1, u2, u3⟩ := q_orbit (bt := (g w).testBit j) y2 k32
      have hAw := hA w hw
      obtain ⟨Y', x1, x2, x3⟩ := ih f (w * 32 + j + 1) (q_u2 Y 16 o (lN v')) (by omega) (by omega) (fun i hi => by rw [q_u2_n _ _ _ hi, h3 i hi]) (fun o' ho' => by
        rw [q_u2_s]
        by_cases hoo : o' = o
        · subst hoo
          refine ⟨v', q_u1_s _ _ _, u2, q_DI_s hj y3 (fun k' hk' => ?_)⟩
          rw [u3 k', q_hit_i hc, ok, q_oki o5 k32 o5 hk', Bool.or_eq_true, Bool.and_eq_true, decide_eq_true_eq]
          constructor
          · rintro (e | ⟨e1, e2⟩)
            · exact Or.inl e
            · exact Or.inr ⟨hjz, ⟨rfl, e2.symm⟩, e1⟩
          · rintro (e | ⟨e1, ⟨e2, e3⟩, e4⟩)
            · exact Or.inl e
            · exact Or.inr ⟨e4, e3.symm⟩
        · obtain ⟨v2, p1, p2, p3⟩ := h5 o' ho'
          refine ⟨v2, by rw [q_u1_n _ _ hoo, p1], p2, q_DI_s hj p3 (fun k' hk' => ?_)⟩
          rw [q_hit_i hc, ok, q_oki o5 k32 ho' hk']
          constructor
          · exact fun e => Or.inl e
          · rintro (e | ⟨-, ⟨e2, -⟩, -⟩)
            · exact e
            · exact absurd e2.symm hoo)
      refine ⟨Y', ?_, x2, x3⟩
      simp (disch := first | rfl | omega | decide | exact Nat.le_of_ble_eq_true rfl) only [↓q_br, q_rt, q_rz, q_gd, q_ca, ↓reduceIte, F_X1_decode_8B, F_X1_decode_73, qd_I e3 (k := 9) (v := nI wc) rfl, m32, nI_leI, hi, qd_A e3 (k := 6) (r := some (a + 8)) rfl, qd_aI E8 hi128 (by decide), fse, cs, nI_pred, nn, n32, d1, nI_add, ↓q_lL_12, y12, d2, ↓q_lL_16, y1, r1, r2, bt, u1, ↓q_sL_16, nI_1, x1]
    · have nohit : ∀ o k, o < 5 → k < 32 → ¬ q_hit z W g o k w j = true := fun o k ho hk e => by
        rw [q_hit_i hc] at e
        exact hsrc ⟨e.1, by rw [e.2.1]; exact nI_pos (by omega)⟩
      have cs : q_cs z c j = 0 := by
        unfold q_cs q_ca9
        by_cases hjz : j < z
        · have hl : z - 1 - j < c.length := by omega
          rw [if_pos hjz, List.getElem?_eq_getElem hl]
          have e : c[z - 1 - j] < 0 := by
            have := fun h => hsrc ⟨hjz, h⟩
            rw [List.getD_eq_getElem?_getD, List.getElem?_eq_getElem hl] at this
            exact Decidable.byContradiction this
          simp only
          rw [if_pos e]
        · rw [if_neg hjz]
      obtain ⟨Y', x1, x2, x3⟩ := ih f (w * 32 + j + 1) Y (by omega) (by omega) h3 (fun o ho => by
        obtain ⟨v2, p1, p2, p3⟩ := h5 o ho
        exact ⟨v2, p1, p2, q_DI_s hj p3 (fun k' hk' => ⟨fun e => Or.inl e, fun e => e.resolve_right (nohit o k' ho hk')⟩)⟩)
      refine ⟨Y', ?_, x2, x3⟩
      have neg : ((0 : Int32) - 1 < 0) = True := eq_true (by decide)
      simp (disch := first | rfl | omega | decide | exact Nat.le_of_ble_eq_true rfl) only [↓q_br, q_rt, q_rz, q_gd, q_ca, ↓reduceIte, F_X1_decode_8B, F_X1_decode_73, qd_I e3 (k := 9) (v := nI wc) rfl, m32, nI_leI, hi, qd_A e3 (k := 6) (r := some (a + 8)) rfl, qd_aI E8 hi128 (by decide), fse, cs, neg, nI_1, x1]
theorem q_fill16 : ∀ d fuel o (Y : Nat → Nat → Int64), o + d = 5 → d < fuel → (∀ v, v < o → Y 16 v = 0) → ∃ Y', F_J7_fill_d0a16_6 κ fuel (some (b + 16)) 0 (nI o) (nI 5) (q_H b (I, R, X, Y, Z) M O D, s) = some (.inl (), (q_H b (I, R, X, Y', Z) M O D, s)) ∧ (∀ j, j ≠ 16 → Y' j = Y j) ∧ ∀ v, v < 5 → Y' 16 v = 0 := by
  intro d
  induction d with
  | zero =>
    intro fuel o Y h1 h2 h3
    obtain ⟨f, rfl⟩ : ∃ f, fuel = f + 1 := ⟨fuel - 1, by omega⟩
    have h4 : 5 ≤ o := by omega
    refine ⟨Y, ?_, fun _ _ => rfl, fun v hv => h3 v (by omega)⟩
    rw [F_J7_fill_d0a16_6]
    simp (disch := first | rfl | omega | decide | exact Nat.le_of_ble_eq_true rfl) only [↓q_br, q_rt, q_rz, q_gd, q_ca, ↓reduceIte, F_J7_fill_d0a16_6B, nI_leI, h4]
  | succ d ih =>
    intro fuel o Y h1 h2 h3
    obtain ⟨f, rfl⟩ : ∃ f, fuel = f + 1 := ⟨fuel - 1, by omega⟩
    have h4 : ¬ 5 ≤ o := by omega
    obtain ⟨Y', r1, r2, r3⟩ := ih f (o + 1) (q_u2 Y 16 o 0) (by omega) (by omega) (fun v hv => by
      by_cases hvo : v = o
      · subst hvo; rw [q_u2_s, q_u1_s]
      · rw [q_u2_s, q_u1_n _ _ hvo, h3 v (by omega)])
    refine ⟨Y', ?_, fun j hj => by rw [r2 j hj, q_u2_n _ _ _ hj], r3⟩
    rw [F_J7_fill_d0a16_6]
    simp (disch := first | rfl | omega | decide | exact Nat.le_of_ble_eq_true rfl) only [↓q_br, q_rt, q_rz, q_gd, q_ca, ↓reduceIte, F_J7_fill_d0a16_6B, nI_leI, h4, ↓q_sL_16, nI_1, r1]
/-- decode -/
theorem q_decode {n z a A : Nat} {L : List q_Knd} {J : q_Ins} {Y : Nat → Nat → Int64} {g : Nat → Nat} (hC : q_CIn b n D Z L z a J) (hz : z ≤ 32) (hkb : ∀ o, q_kb L J.2.2.1 o ≤ 32) (hA : ∀ w, w < J.2.2.2.length → A + w < 4096) (hY : ∀ w, w < J.2.2.2.length → Y 12 (A + w) = lN (g w) ∧ g w < 2 ^ 32) : ∃ Y', F_X1_decode κ (some a) (some (b + 12)) (nI A) (some (b + 16)) (q_H b (I, R, X, Y, Z) M O D, s) = some (.inl (), (q_H b (I, R, X, Y', Z) M O D, s)) ∧ (∀ j, j ≠ 16 → Y' j = Y j) ∧ ∀ o, o < 5 → Y' 16 o = lN (q_fv z J.2.2.2 g o) := by
  obtain ⟨fm, fd, fs, g1, g2⟩ := q_CIn_o hC
  obtain ⟨-, f1, f2, f3, f4, f5, f6⟩ := hC
  obtain ⟨k1, k2, k3, k4, k5, k6, k7, -⟩ := g1
  obtain ⟨Y1, a1, a2, a3⟩ := q_fill16 (κ := κ) (b := b) (I := I) (R := R) (X := X) (Z := Z) (M := M) (O := O) (D := D) (s := s) 5 q_fu 0 Y (by omega) (by unfold q_fu; omega) (fun v hv => by omega)
  obtain ⟨Y2, b1, b2, b3⟩ := q_decode_8 (κ := κ) (b := b) (I := I) (R := R) (X := X) (Z := Z) (M := M) (O := O) (s := s) (W := J.2.2.2) (g := g) ⟨k1, k3⟩ k7 rfl f3 hz f5 (fun w c hw j hj => (q_CWd_dw g2 hw (by have := (List.getElem?_eq_some_iff.mp hw).1; omega) (f5 c (List.mem_of_getElem? hw)) hz).2.2 j hj) f6 f2 hkb hA hY (J.2.2.2.length * 32) q_fu 0 Y1 (by omega) (by unfold q_fu; omega) a2 (fun o ho => ⟨0, a3 o ho, by decide, fun k hk => ⟨fun e => by simp at e, fun ⟨w, j, h, _⟩ => by omega⟩⟩)
  refine ⟨Y2, ?_, b2, fun o ho => ?_⟩
  · rw [nI_0] at a1 b1
    simp (disch := first | rfl | omega | decide | exact Nat.le_of_ble_eq_true rfl) only [F_X1_decode, F_J7_fill_d0a16, ↓q_ln_16, q_ca, a1, b1]
  · obtain ⟨v, c1, c2, c3⟩ := b3 o ho
    rw [c1, q_fv_u c2 (fun k hk => ?_)]
    rw [c3 k hk]
    constructor
    · rintro ⟨w, j, -, -, h⟩
      exact ⟨w, j, h⟩
    · rintro ⟨w, j, h⟩
      have := q_hit_z h
      exact ⟨w, j, by omega, by omega, h⟩
end QFD
