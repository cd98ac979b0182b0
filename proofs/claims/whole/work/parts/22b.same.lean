/-! ===== names of labels ===== -/
theorem q_tB_i {B : Nat → Int32} {y : q_Tok} {k : Nat} (hk : k < y.2.2.1 - y.2.1) : (q_tB B y).getD k 0 = B (y.2.1 + k) := by
  unfold q_tB
  rw [List.getD_eq_getElem?_getD, List.getElem?_map, List.getElem?_range hk]
  rfl
theorem q_tB_l {B : Nat → Int32} {y : q_Tok} : (q_tB B y).length = y.2.2.1 - y.2.1 := by
  unfold q_tB
  rw [List.length_map, List.length_range]
theorem q_tB_2 {B : Nat → Int32} {x y : q_Tok} : q_tB B x = q_tB B y ↔ x.2.2.1 - x.2.1 = y.2.2.1 - y.2.1 ∧ q_eqf (fun k => B (x.2.1 + k)) (fun k => B (y.2.1 + k)) (x.2.2.1 - x.2.1) 0 = true := by
  rw [q_tB_eq, q_tB_l, q_eqf_i, q_eqf_i]
  constructor
  · rintro ⟨h1, h2⟩
    refine ⟨h1, fun k k1 k2 => ?_⟩
    rw [h2 k k1 (by omega)]
    exact q_tB_i (by omega)
  · rintro ⟨h1, h2⟩
    refine ⟨h1, fun k k1 k2 => ?_⟩
    rw [h2 k k1 (by omega)]
    exact (q_tB_i (by omega)).symm
def q_hl (B : Nat → Int32) : Nat → Nat → Int32 → Int32
  | 0, _, s => s
  | n + 1, p, s => q_hl B n (p + 1) (s * 31 + B p)
theorem q_hl_c {B : Nat → Int32} : ∀ n p u s, (∀ k, k < n → B (p + k) = B (u + k)) → q_hl B n p s = q_hl B n u s := by
  intro n
  induction n with
  | zero => intro p u s _; rfl
  | succ n ih =>
    intro p u s h
    have h0 := h 0 (by omega)
    rw [Nat.add_zero, Nat.add_zero] at h0
    rw [q_hl, q_hl, ← h0]
    refine ih _ _ _ (fun k hk => ?_)
    have := h (k + 1) (by omega)
    rw [show p + 1 + k = p + (k + 1) from by omega, show u + 1 + k = u + (k + 1) from by omega, this]
def q_hv (B : Nat → Int32) (x : q_Tok) : Int32 := q_hl B (x.2.2.1 - x.2.1) x.2.1 0
def q_hb (x : Int32) : Nat := x.toBitVec.toNat % 256
theorem q_hb_lt (x : Int32) : q_hb x < 256 := Nat.mod_lt _ (by decide)
theorem q_hb_e (x : Int32) : x &&& 255 = nI (q_hb x) := by
  apply Int32.toBitVec_inj.mp
  apply BitVec.eq_of_toNat_eq
  rw [Int32.toBitVec_and, BitVec.toNat_and]
  have e : (255 : Int32).toBitVec.toNat = 2 ^ 8 - 1 := by decide
  rw [e, Nat.and_two_pow_sub_one_eq_mod]
  show _ = (BitVec.ofNat 32 (q_hb x)).toNat
  have lt : q_hb x < 2 ^ 32 := Nat.lt_trans (q_hb_lt x) (by decide)
  rw [BitVec.toNat_ofNat, Nat.mod_eq_of_lt lt]
  rfl
def q_hk (B : Nat → Int32) (l : List q_Tok) (t : Nat) : Nat := q_hb (q_hv B (q_tok l t))
theorem q_hk_c {B : Nat → Int32} {l : List q_Tok} {t u : Nat} (h : q_tB B (q_tok l t) = q_tB B (q_tok l u)) : q_hk B l t = q_hk B l u := by
  unfold q_hk q_hv
  rw [q_tB_2, q_eqf_i] at h
  rw [← h.1, q_hl_c _ _ (q_tok l u).2.1 _ (fun k hk => h.2 k (by omega) (by omega))]
section QSM
variable {κ : Nat → Nat} {b : Nat} {B : Nat → Int32} {l : List q_Tok} {z t u : Nat} {I : Nat → Nat → Int32} {R : Nat → Nat → Option Nat} {X : Nat → Nat → Int32} {Y : Nat → Nat → Int64} {Z : Nat → Nat → Option Nat} {C : q_CT} {M : q_MT} {P : Nat → Int32} {Q : Nat → Nat → Int32} {S : Nat → Nat → Int64} {O : Nat → Int64} {D : q_Mem} {s : Nat × Nat}
theorem q_same_36 (h : q_TC B l z I X Y) (ht : t < l.length) (hu : u < l.length) (hl : (q_tok l t).2.2.1 - (q_tok l t).2.1 = (q_tok l u).2.2.1 - (q_tok l u).2.1) : ∀ d fuel k, k + d = (q_tok l t).2.2.1 - (q_tok l t).2.1 → d < fuel → F_X10_isSame_36 κ fuel (some (b + 2)) (nI t) (nI u) (nI ((q_tok l t).2.2.1 - (q_tok l t).2.1)) (nI k) (q_H b (I, R, X, Y, Z) M O D, s) = some (.inl (q_b (q_eqf (fun k => B ((q_tok l t).2.1 + k)) (fun k => B ((q_tok l u).2.1 + k)) d k)), (q_H b (I, R, X, Y, Z) M O D, s)) := by
  have hz := h.2.2.1
  have hlz := h.2.1
  obtain ⟨w1, w2, w3, -⟩ := h.2.2.2.2.1 t _ (q_tok_s ht)
  obtain ⟨u1, u2, u3, -⟩ := h.2.2.2.2.1 u _ (q_tok_s hu)
  have s1 := q_TC_st h ht
  have s2 := q_TC_st h hu
  have hB := h.2.2.2.2.2.1
  intro d
  induction d with
  | zero =>
    intro fuel k h1 h2
    obtain ⟨f, rfl⟩ : ∃ f, fuel = f + 1 := ⟨fuel - 1, by omega⟩
    have h3 : (q_tok l t).2.2.1 - (q_tok l t).2.1 ≤ k := by omega
    rw [F_X10_isSame_36, q_eqf]
    simp (disch := first | rfl | omega | decide | exact Nat.le_of_ble_eq_true rfl) only [↓q_br, q_rt, q_rz, q_gd, q_ca, ↓reduceIte, F_X10_isSame_36B, ↓q_gA_2_0, ↓q_gA_2_2, ↓q_lI_3, ↓q_lI_5, nI_leI, h3, or_true]
    rfl
  | succ d ih =>
    intro fuel k h1 h2
    obtain ⟨f, rfl⟩ : ∃ f, fuel = f + 1 := ⟨fuel - 1, by omega⟩
    have h3 : ¬ (q_tok l t).2.2.1 - (q_tok l t).2.1 ≤ k := by omega
    have b1 := hB ((q_tok l t).2.1 + k) (by omega)
    have b2 := hB ((q_tok l u).2.1 + k) (by omega)
    have ihk := ih f (k + 1) (by omega) (by omega)
    have l1 : (q_tok l t).2.1 + k < 6000 := by omega
    have l2 : (q_tok l u).2.1 + k < 6000 := by omega
    have t1 : t < 6003 := by omega
    have t2 : u < 6003 := by omega
    rw [F_X10_isSame_36, q_eqf]
    by_cases he : B ((q_tok l t).2.1 + k) = B ((q_tok l u).2.1 + k)
    · have te : (B ((q_tok l t).2.1 + k) = B ((q_tok l u).2.1 + k)) = True := eq_true he
      simp (disch := first | rfl | omega | decide | exact Nat.le_of_ble_eq_true rfl) only [↓q_br, q_rt, q_rz, q_gd, q_ca, ↓reduceIte, F_X10_isSame_36B, ↓q_gA_2_0, ↓q_gA_2_2, ↓q_lI_3, ↓q_lI_5, nI_leI, h3, s1, s2, nI_add, b1, b2, te, nI_1, ihk, decide_true, Bool.true_and]
    · have te : (B ((q_tok l t).2.1 + k) = B ((q_tok l u).2.1 + k)) = False := eq_false he
      simp (disch := first | rfl | omega | decide | exact Nat.le_of_ble_eq_true rfl) only [↓q_br, q_rt, q_rz, q_gd, q_ca, ↓reduceIte, F_X10_isSame_36B, ↓q_gA_2_0, ↓q_gA_2_2, ↓q_lI_3, ↓q_lI_5, nI_leI, h3, s1, s2, nI_add, b1, b2, te, decide_false, Bool.false_and, true_or]
      rfl
theorem q_isSame (h : q_TC B l z I X Y) (ht : t < l.length) (hu : u < l.length) : F_X10_isSame κ (some (b + 2)) (nI t) (nI u) (q_H b (I, R, X, Y, Z) M O D, s) = some (.inl (q_b (decide (q_tB B (q_tok l t) = q_tB B (q_tok l u)))), (q_H b (I, R, X, Y, Z) M O D, s)) := by
  have hz := h.2.2.1
  have hlz := h.2.1
  obtain ⟨w1, w2, w3, -⟩ := h.2.2.2.2.1 t _ (q_tok_s ht)
  obtain ⟨u1, u2, u3, -⟩ := h.2.2.2.2.1 u _ (q_tok_s hu)
  have s1 := q_TC_st h ht
  have s2 := q_TC_st h hu
  have n1 := q_TC_en h ht
  have n2 := q_TC_en h hu
  have t1 : t < 6003 := by omega
  have t2 : u < 6003 := by omega
  have d1 : nI (q_tok l t).2.2.1 - nI (q_tok l t).2.1 = nI ((q_tok l t).2.2.1 - (q_tok l t).2.1) := nI_sub (by omega)
  have d2 : nI (q_tok l u).2.2.1 - nI (q_tok l u).2.1 = nI ((q_tok l u).2.2.1 - (q_tok l u).2.1) := nI_sub (by omega)
  by_cases hl : (q_tok l t).2.2.1 - (q_tok l t).2.1 = (q_tok l u).2.2.1 - (q_tok l u).2.1
  · have e := q_same_36 (κ := κ) (b := b) (R := R) (Z := Z) (M := M) (O := O) (D := D) (s := s) h ht hu hl ((q_tok l t).2.2.1 - (q_tok l t).2.1) q_fu 0 (by omega) (by unfold q_fu; omega)
    rw [nI_0] at e
    have te : (nI ((q_tok l t).2.2.1 - (q_tok l t).2.1) = nI ((q_tok l u).2.2.1 - (q_tok l u).2.1)) = True := eq_true (by rw [hl])
    have de : decide (q_tB B (q_tok l t) = q_tB B (q_tok l u)) = q_eqf (fun k => B ((q_tok l t).2.1 + k)) (fun k => B ((q_tok l u).2.1 + k)) ((q_tok l t).2.2.1 - (q_tok l t).2.1) 0 := by
      rw [Bool.eq_iff_iff, decide_eq_true_eq, q_tB_2]
      exact ⟨fun x => x.2, fun x => ⟨hl, x⟩⟩
    rw [de]
    simp (disch := first | rfl | omega | decide | exact Nat.le_of_ble_eq_true rfl) only [↓q_br, q_rt, q_rz, q_gd, q_ca, ↓reduceIte, F_X10_isSame, ↓q_gA_2_2, ↓q_gA_2_3, ↓q_lI_5, ↓q_lI_6, s1, s2, n1, n2, d1, d2, te, e]
  · have te : (nI ((q_tok l t).2.2.1 - (q_tok l t).2.1) = nI ((q_tok l u).2.2.1 - (q_tok l u).2.1)) = False := eq_false (fun x => hl ((nI_eq (by omega) (by omega)).mp x))
    have de : decide (q_tB B (q_tok l t) = q_tB B (q_tok l u)) = false := decide_eq_false (fun x => hl (q_tB_2.mp x).1)
    rw [de]
    simp (disch := first | rfl | omega | decide | exact Nat.le_of_ble_eq_true rfl) only [↓q_br, q_rt, q_rz, q_gd, q_ca, ↓reduceIte, F_X10_isSame, ↓q_gA_2_2, ↓q_gA_2_3, ↓q_lI_5, ↓q_lI_6, s1, s2, n1, n2, d1, d2, te, true_or]
    rfl
theorem q_msame_19 (h : q_TM B l z P Q S) (ht : t < l.length) (hu : u < l.length) (hl : (q_tok l t).2.2.1 - (q_tok l t).2.1 = (q_tok l u).2.2.1 - (q_tok l u).2.1) : ∀ d fuel k, k + d = (q_tok l t).2.2.1 - (q_tok l t).2.1 → d < fuel → F_X13_isSame_19 κ fuel (some (b + 26)) (nI t) (nI u) (nI k) (q_H b C (P, Q, S) O D, s) = some (.inl (q_b (q_eqf (fun k => B ((q_tok l t).2.1 + k)) (fun k => B ((q_tok l u).2.1 + k)) d k)), (q_H b C (P, Q, S) O D, s)) := by
  have hz := h.2.2.1
  have hlz := h.2.1
  obtain ⟨w1, w2, w3, -⟩ := h.2.2.2.2.1 t _ (q_tok_s ht)
  obtain ⟨u1, u2, u3, -⟩ := h.2.2.2.2.1 u _ (q_tok_s hu)
  have s1 := q_TM_st h ht
  have s2 := q_TM_st h hu
  have n1 := q_TM_ln h ht
  have hB := h.2.2.2.2.2.1
  intro d
  induction d with
  | zero =>
    intro fuel k h1 h2
    obtain ⟨f, rfl⟩ : ∃ f, fuel = f + 1 := ⟨fuel - 1, by omega⟩
    have h3 : (q_tok l t).2.2.1 - (q_tok l t).2.1 ≤ k := by omega
    rw [F_X13_isSame_19, q_eqf]
    simp (disch := first | rfl | omega | decide | exact Nat.le_of_ble_eq_true rfl) only [↓q_br, q_rt, q_rz, q_gd, q_ca, ↓reduceIte, F_X13_isSame_19B, ↓q_gA_26_1, ↓q_gA_26_10, ↓q_gA_26_11, ↓q_lI_28, ↓q_lI_31, ↓q_lI_32, n1, nI_leI, h3, or_true]
    rfl
  | succ d ih =>
    intro fuel k h1 h2
    obtain ⟨f, rfl⟩ : ∃ f, fuel = f + 1 := ⟨fuel - 1, by omega⟩
    have h3 : ¬ (q_tok l t).2.2.1 - (q_tok l t).2.1 ≤ k := by omega
    have b1 := hB ((q_tok l t).2.1 + k) (by omega)
    have b2 := hB ((q_tok l u).2.1 + k) (by omega)
    have ihk := ih f (k + 1) (by omega) (by omega)
    have l1 : (q_tok l t).2.1 + k < 6000 := by omega
    have l2 : (q_tok l u).2.1 + k < 6000 := by omega
    have t1 : t < 6002 := by omega
    have t2 : u < 6002 := by omega
    rw [F_X13_isSame_19, q_eqf]
    by_cases he : B ((q_tok l t).2.1 + k) = B ((q_tok l u).2.1 + k)
    · have te : (B ((q_tok l t).2.1 + k) = B ((q_tok l u).2.1 + k)) = True := eq_true he
      simp (disch := first | rfl | omega | decide | exact Nat.le_of_ble_eq_true rfl) only [↓q_br, q_rt, q_rz, q_gd, q_ca, ↓reduceIte, F_X13_isSame_19B, ↓q_gA_26_1, ↓q_gA_26_10, ↓q_gA_26_11, ↓q_lI_28, ↓q_lI_31, ↓q_lI_32, n1, nI_leI, h3, s1, s2, nI_add, b1, b2, te, nI_1, ihk, decide_true, Bool.true_and]
    · have te : (B ((q_tok l t).2.1 + k) = B ((q_tok l u).2.1 + k)) = False := eq_false he
      simp (disch := first | rfl | omega | decide | exact Nat.le_of_ble_eq_true rfl) only [↓q_br, q_rt, q_rz, q_gd, q_ca, ↓reduceIte, F_X13_isSame_19B, ↓q_gA_26_1, ↓q_gA_26_10, ↓q_gA_26_11, ↓q_lI_28, ↓q_lI_31, ↓q_lI_32, n1, nI_leI, h3, s1, s2, nI_add, b1, b2, te, decide_false, Bool.false_and, true_or]
      rfl
theorem q_misSame (h : q_TM B l z P Q S) (ht : t < l.length) (hu : u < l.length) : F_X13_isSame κ (some (b + 26)) (nI t) (nI u) (q_H b C (P, Q, S) O D, s) = some (.inl (q_b (decide (q_tB B (q_tok l t) = q_tB B (q_tok l u)))), (q_H b C (P, Q, S) O D, s)) := by
  have hz := h.2.2.1
  have hlz := h.2.1
  obtain ⟨w1, w2, w3, -⟩ := h.2.2.2.2.1 t _ (q_tok_s ht)
  obtain ⟨u1, u2, u3, -⟩ := h.2.2.2.2.1 u _ (q_tok_s hu)
  have n1 := q_TM_ln h ht
  have n2 := q_TM_ln h hu
  have t1 : t < 6002 := by omega
  have t2 : u < 6002 := by omega
  by_cases hl : (q_tok l t).2.2.1 - (q_tok l t).2.1 = (q_tok l u).2.2.1 - (q_tok l u).2.1
  · have e := q_msame_19 (κ := κ) (b := b) (C := C) (O := O) (D := D) (s := s) h ht hu hl ((q_tok l t).2.2.1 - (q_tok l t).2.1) q_fu 0 (by omega) (by unfold q_fu; omega)
    rw [nI_0] at e
    have te : (nI ((q_tok l t).2.2.1 - (q_tok l t).2.1) = nI ((q_tok l u).2.2.1 - (q_tok l u).2.1)) = True := eq_true (by rw [hl])
    have de : decide (q_tB B (q_tok l t) = q_tB B (q_tok l u)) = q_eqf (fun k => B ((q_tok l t).2.1 + k)) (fun k => B ((q_tok l u).2.1 + k)) ((q_tok l t).2.2.1 - (q_tok l t).2.1) 0 := by
      rw [Bool.eq_iff_iff, decide_eq_true_eq, q_tB_2]
      exact ⟨fun x => x.2, fun x => ⟨hl, x⟩⟩
    rw [de]
    simp (disch := first | rfl | omega | decide | exact Nat.le_of_ble_eq_true rfl) only [↓q_br, q_rt, q_rz, q_gd, q_ca, ↓reduceIte, F_X13_isSame, ↓q_gA_26_11, ↓q_lI_32, n1, n2, te, e]
  · have te : (nI ((q_tok l t).2.2.1 - (q_tok l t).2.1) = nI ((q_tok l u).2.2.1 - (q_tok l u).2.1)) = False := eq_false (fun x => hl ((nI_eq (by omega) (by omega)).mp x))
    have de : decide (q_tB B (q_tok l t) = q_tB B (q_tok l u)) = false := decide_eq_false (fun x => hl (q_tB_2.mp x).1)
    rw [de]
    simp (disch := first | rfl | omega | decide | exact Nat.le_of_ble_eq_true rfl) only [↓q_br, q_rt, q_rz, q_gd, q_ca, ↓reduceIte, F_X13_isSame, ↓q_gA_26_11, ↓q_lI_32, n1, n2, te, true_or]
    rfl
theorem q_hash_9 (h : q_TC B l z I X Y) (ht : t < l.length) : ∀ d fuel p sm, p + d = (q_tok l t).2.2.1 → d < fuel → F_X10_hash_9 κ fuel (some (b + 2)) (nI t) sm (nI p) (q_H b (I, R, X, Y, Z) M O D, s) = some (.inl (q_hl B d p sm), (q_H b (I, R, X, Y, Z) M O D, s)) := by
  have hz := h.2.2.1
  have hlz := h.2.1
  obtain ⟨w1, w2, w3, -⟩ := h.2.2.2.2.1 t _ (q_tok_s ht)
  have n1 := q_TC_en h ht
  have hB := h.2.2.2.2.2.1
  have t1 : t < 6003 := by omega
  intro d
  induction d with
  | zero =>
    intro fuel p sm h1 h2
    obtain ⟨f, rfl⟩ : ∃ f, fuel = f + 1 := ⟨fuel - 1, by omega⟩
    have h3 : (q_tok l t).2.2.1 ≤ p := by omega
    rw [F_X10_hash_9, q_hl]
    simp (disch := first | rfl | omega | decide | exact Nat.le_of_ble_eq_true rfl) only [↓q_br, q_rt, q_rz, q_gd, q_ca, ↓reduceIte, F_X10_hash_9B, ↓q_gA_2_0, ↓q_gA_2_3, ↓q_lI_3, ↓q_lI_6, n1, nI_leI, h3]
  | succ d ih =>
    intro fuel p sm h1 h2
    obtain ⟨f, rfl⟩ : ∃ f, fuel = f + 1 := ⟨fuel - 1, by omega⟩
    have h3 : ¬ (q_tok l t).2.2.1 ≤ p := by omega
    have l1 : p < 6000 := by omega
    have b1 := hB p (by omega)
    have ihk := ih f (p + 1) (sm * 31 + B p) (by omega) (by omega)
    rw [F_X10_hash_9, q_hl]
    simp (disch := first | rfl | omega | decide | exact Nat.le_of_ble_eq_true rfl) only [↓q_br, q_rt, q_rz, q_gd, q_ca, ↓reduceIte, F_X10_hash_9B, ↓q_gA_2_0, ↓q_gA_2_3, ↓q_lI_3, ↓q_lI_6, n1, nI_leI, h3, b1, nI_1, ihk]
theorem q_hash (h : q_TC B l z I X Y) (ht : t < l.length) : F_X10_hash κ (some (b + 2)) (nI t) (q_H b (I, R, X, Y, Z) M O D, s) = some (.inl (q_hv B (q_tok l t)), (q_H b (I, R, X, Y, Z) M O D, s)) := by
  have hz := h.2.2.1
  have hlz := h.2.1
  obtain ⟨w1, w2, w3, -⟩ := h.2.2.2.2.1 t _ (q_tok_s ht)
  have s1 := q_TC_st h ht
  have t1 : t < 6003 := by omega
  have e := q_hash_9 (κ := κ) (b := b) (R := R) (Z := Z) (M := M) (O := O) (D := D) (s := s) h ht ((q_tok l t).2.2.1 - (q_tok l t).2.1) q_fu (q_tok l t).2.1 0 (by omega) (by unfold q_fu; omega)
  simp (disch := first | rfl | omega | decide | exact Nat.le_of_ble_eq_true rfl) only [↓q_br, q_rt, q_rz, q_gd, q_ca, ↓reduceIte, F_X10_hash, ↓q_gA_2_2, ↓q_lI_5, s1, e]
  rfl
end QSM
/-! the chains of labels with the same bucket -/
def q_prev (hb : Nat → Nat) (h : Nat) : Nat → Option Nat
  | 0 => none
  | k + 1 => if hb k = h then some k else q_prev hb h k
theorem q_prev_s {hb : Nat → Nat} {h : Nat} : ∀ k i, q_prev hb h k = some i → i < k ∧ hb i = h ∧ ∀ j, i < j → j < k → ¬ hb j = h := by
  intro k
  induction k with
  | zero => intro i hi; cases hi
  | succ k ih =>
    intro i hi
    rw [q_prev] at hi
    split at hi
    · cases hi
      rename_i e
      exact ⟨by omega, e, fun j j1 j2 => by omega⟩
    · rename_i e
      obtain ⟨a1, a2, a3⟩ := ih i hi
      refine ⟨by omega, a2, fun j j1 j2 => ?_⟩
      by_cases hj : j = k
      · subst hj; exact e
      · exact a3 j j1 (by omega)
theorem q_prev_n {hb : Nat → Nat} {h : Nat} : ∀ k, q_prev hb h k = none → ∀ j, j < k → ¬ hb j = h := by
  intro k
  induction k with
  | zero => intro _ j hj; omega
  | succ k ih =>
    intro hn j hj
    rw [q_prev] at hn
    split at hn
    · cases hn
    · rename_i e
      by_cases hjk : j = k
      · subst hjk; exact e
      · exact ih hn j (by omega)
