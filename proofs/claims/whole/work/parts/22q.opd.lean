def q_mem1 (B : Nat → Int32) (K : q_Knd) (x : q_Tok) : Option Nat := if x.1 = 1 then q_fi (fun i => decide (q_tB B x = (q_kM K).getD i [])) (q_kM K).length 0 else none
def q_tl (l : List q_Tok) (t : Nat) : Bool := (q_sgn l (t + 1) 43 || q_sgn l (t + 1) 45) && decide ((q_tok l (t + 2)).1 = 2)
/-- the token behind, the label, the number -/
abbrev q_Opd : Type := Nat × Option Nat × Int64
def q_opd (B : Nat → Int32) (l : List q_Tok) (LT : List Nat) (K : q_Knd) (t : Nat) : Option q_Opd :=
  if q_kS K = 0 then (q_rgn B K (q_tok l t)).map fun v => (t + 1, none, lN v)
  else if q_kS K = 4 then (q_mem1 B K (q_tok l t)).map fun v => (t + 1, none, lN v)
  else if (q_tok l t).1 = 2 then some (t + 1, none, q_nv l t)
  else if q_sgn l t 45 = true then (if (q_tok l (t + 1)).1 = 2 then some (t + 2, none, - q_nv l (t + 1)) else none)
  else if (q_tok l t).1 = 1 then (match q_lk B l LT t with
    | none => none
    | some i => if q_tl l t = true then some (t + 3, some i, if q_sgn l (t + 1) 43 = true then q_nv l (t + 2) else - q_nv l (t + 2)) else some (t + 1, some i, 0))
  else none
theorem q_rgn_lt {B : Nat → Int32} {K : q_Knd} {x : q_Tok} {v : Nat} (h : q_rgn B K x = some v) : v < q_kZ K := by
  unfold q_rgn at h
  split at h
  · split at h
    · split at h
      · rename_i h9
        cases h
        exact h9.2
      · cases h
    · split at h
      · split at h
        · rename_i h9
          cases h
          exact h9.2.2
        · cases h
      · cases h
  · cases h
theorem q_mem1_lt {B : Nat → Int32} {K : q_Knd} {x : q_Tok} {v : Nat} (h : q_mem1 B K x = some v) : v < (q_kM K).length := by
  unfold q_mem1 at h
  split at h
  · have := (q_fi_s _ _ _ h).2.1
    omega
  · cases h
section QOC
variable {κ : Nat → Nat} {b : Nat} {B : Nat → Int32} {l : List q_Tok} {zt t : Nat} {I : Nat → Nat → Int32} {R : Nat → Nat → Option Nat} {X : Nat → Nat → Int32} {Y : Nat → Nat → Int64} {Z : Nat → Nat → Option Nat} {M : q_MT} {O : Nat → Int64} {D : q_Mem} {s : Nat × Nat}
theorem q_hasTail (hT : q_TC B l zt I X Y) (ht : t < l.length) : F_X8_hasTail κ (some (b + 21)) (nI t) (q_H b (I, R, X, Y, Z) M O D, s) = some (.inl (q_b (q_tl l t)), (q_H b (I, R, X, Y, Z) M O D, s)) := by
  have hzt := hT.2.2.1
  have hl := hT.2.1
  have s1 := q_isSign (κ := κ) (b := b) (R := R) (Z := Z) (M := M) (O := O) (D := D) (s := s) (t := t + 1) (c := 43) hT (by omega)
  have s2 := q_isSign (κ := κ) (b := b) (R := R) (Z := Z) (M := M) (O := O) (D := D) (s := s) (t := t + 1) (c := 45) hT (by omega)
  have ty : (X 4 (t + 2) = (2 : Int32)) = ((q_tok l (t + 2)).1 = 2) := propext (q_TC_is (c := 2) hT (by omega) (by decide))
  have a2 : nI t + (2 : Int32) = nI (t + 2) := nI_add t 2
  have a1 : nI t + (1 : Int32) = nI (t + 1) := nI_add t 1
  have l2 : t + 2 < 6003 := by omega
  unfold q_tl
  by_cases c2 : (q_tok l (t + 2)).1 = 2
  · rw [decide_eq_true c2]
    have t2 : ((q_tok l (t + 2)).1 = 2) = True := eq_true c2
    cases c43 : q_sgn l (t + 1) 43 with
    | true =>
      rw [c43] at s1
      simp (disch := first | rfl | omega | decide | exact Nat.le_of_ble_eq_true rfl) only [↓q_br, q_rt, q_rz, q_gd, q_ca, ↓reduceIte, F_X8_hasTail_50, F_X8_hasTail_49, F_X8_hasTail_30, F_X8_hasTail, ↓q_gA_21_1, ↓q_gA_2_1, ↓q_is_2, ↓q_lI_4, a1, a2, s1, ty, t2, q_b_0, Bool.true_eq_false, not_true_eq_false, not_false_eq_true]
      rfl
    | false =>
      rw [c43] at s1
      cases c45 : q_sgn l (t + 1) 45 with
      | true =>
        rw [c45] at s2
        simp (disch := first | rfl | omega | decide | exact Nat.le_of_ble_eq_true rfl) only [↓q_br, q_rt, q_rz, q_gd, q_ca, ↓reduceIte, F_X8_hasTail_50, F_X8_hasTail_49, F_X8_hasTail_30, F_X8_hasTail, ↓q_gA_21_1, ↓q_gA_2_1, ↓q_is_2, ↓q_lI_4, a1, a2, s1, s2, ty, t2, q_b_0, Bool.true_eq_false, not_true_eq_false, not_false_eq_true]
        rfl
      | false =>
        rw [c45] at s2
        simp (disch := first | rfl | omega | decide | exact Nat.le_of_ble_eq_true rfl) only [↓q_br, q_rt, q_rz, q_gd, q_ca, ↓reduceIte, F_X8_hasTail_50, F_X8_hasTail_49, F_X8_hasTail_30, F_X8_hasTail, ↓q_gA_21_1, ↓q_gA_2_1, ↓q_is_2, ↓q_lI_4, a1, a2, s1, s2, ty, t2, q_b_0, Bool.true_eq_false, not_true_eq_false, not_false_eq_true]
        rfl
  · rw [decide_eq_false c2, Bool.and_false]
    have t2 : ((q_tok l (t + 2)).1 = 2) = False := eq_false c2
    cases c43 : q_sgn l (t + 1) 43 with
    | true =>
      rw [c43] at s1
      simp (disch := first | rfl | omega | decide | exact Nat.le_of_ble_eq_true rfl) only [↓q_br, q_rt, q_rz, q_gd, q_ca, ↓reduceIte, F_X8_hasTail_50, F_X8_hasTail_49, F_X8_hasTail_30, F_X8_hasTail, ↓q_gA_21_1, ↓q_gA_2_1, ↓q_is_2, ↓q_lI_4, a1, a2, s1, ty, t2, q_b_0, Bool.true_eq_false, not_true_eq_false, not_false_eq_true]
      rfl
    | false =>
      rw [c43] at s1
      cases c45 : q_sgn l (t + 1) 45 with
      | true =>
        rw [c45] at s2
        simp (disch := first | rfl | omega | decide | exact Nat.le_of_ble_eq_true rfl) only [↓q_br, q_rt, q_rz, q_gd, q_ca, ↓reduceIte, F_X8_hasTail_50, F_X8_hasTail_49, F_X8_hasTail_30, F_X8_hasTail, ↓q_gA_21_1, ↓q_gA_2_1, ↓q_is_2, ↓q_lI_4, a1, a2, s1, s2, ty, t2, q_b_0, Bool.true_eq_false, not_true_eq_false, not_false_eq_true]
        rfl
      | false =>
        rw [c45] at s2
        simp (disch := first | rfl | omega | decide | exact Nat.le_of_ble_eq_true rfl) only [↓q_br, q_rt, q_rz, q_gd, q_ca, ↓reduceIte, F_X8_hasTail_50, F_X8_hasTail_49, F_X8_hasTail_30, F_X8_hasTail, ↓q_gA_21_1, ↓q_gA_2_1, ↓q_is_2, ↓q_lI_4, a1, a2, s1, s2, ty, t2, q_b_0, Bool.true_eq_false, not_true_eq_false, not_false_eq_true]
        rfl
theorem q_memberA_n {a n a1 a2 a3 : Nat} {f : Nat → Option Nat} {K : q_Knd} (h : q_TC B l zt I X Y) (ht : t < l.length + 3) (hy : ¬ (q_tok l t).1 = 1) (hk : q_CKo b n D a a1 a2 a3 f K) (hs : q_kS K = 4) (hm : (q_kM K).length = q_kZ K) (hz : q_kZ K ≤ 32) : ∀ m fuel k, k + m = (q_kM K).length → m < fuel → F_X2_memberAt_2 κ fuel (some a) (some (b + 2)) (nI t) (nI k) (q_H b (I, R, X, Y, Z) M O D, s) = some (.inl (-1), (q_H b (I, R, X, Y, Z) M O D, s)) := by
  obtain ⟨k1, k2, k3, k4, k5, k6, k7, k8, k9⟩ := hk
  rw [if_pos hs] at k8
  have e3 : b + 66 < a ∧ D a = some (.inr (.inl (5, [.int (nI (q_kS K)), .ref a1, .ref a2, .ref a3, .int (nI (q_kZ K)), .int (nI (q_kB K))]))) := ⟨k1, k3⟩
  have e4 : b + 66 < a3 ∧ D a3 = some (.inl (6, 32, .inr (.inr (.inr (.inr f))))) := ⟨k6, k8⟩
  intro m
  induction m with
  | zero =>
    intro fuel k h1 h2
    obtain ⟨g, rfl⟩ : ∃ g, fuel = g + 1 := ⟨fuel - 1, by omega⟩
    have h3 : q_kZ K ≤ k := by omega
    simp (disch := first | rfl | omega | decide | exact Nat.le_of_ble_eq_true rfl) only [F_X2_memberAt_2, ↓q_br, q_rt, q_rz, q_gd, q_ca, ↓reduceIte, F_X2_memberAt_2B, F_X2_memberAt_41, qd_A e3 (k := 3) (r := some a3) rfl, qd_N e4, qd_I e3 (k := 4) (v := nI (q_kZ K)) rfl, nI_leI, h3]
    by_cases h9 : 32 ≤ k <;> simp [h9]
  | succ m ih =>
    intro fuel k h1 h2
    obtain ⟨g, rfl⟩ : ∃ g, fuel = g + 1 := ⟨fuel - 1, by omega⟩
    have h3 : ¬ q_kZ K ≤ k := by omega
    have h4 : ¬ 32 ≤ k := by omega
    have h5 : k < (q_kM K).length := by omega
    have hg := List.getElem?_eq_getElem h5
    obtain ⟨a', e1, e2⟩ := k9 k _ hg
    obtain ⟨la, e7⟩ := q_CN_o e2
    have e8 := q_bytesBehind (κ := κ) (R := R) (Z := Z) (M := M) (O := O) (s := s) h e2 ht
    have e9 : (q_bb B (q_tok l t) (q_kM K)[k] = 0) = False := eq_false (by
      rw [q_bb_0 (q_tok_e31 h)]
      exact fun h => hy h.1)
    have hk32 : k < 32 := by omega
    have ihk := ih g (k + 1) (by omega) (by omega)
    simp (disch := first | rfl | omega | decide | exact Nat.le_of_ble_eq_true rfl) only [F_X2_memberAt_2, ↓q_br, q_rt, q_rz, q_gd, q_ca, ↓reduceIte, F_X2_memberAt_2B, F_X2_memberAt_41, qd_A e3 (k := 3) (r := some a3) rfl, qd_N e4, qd_I e3 (k := 4) (v := nI (q_kZ K)) rfl, nI_leI, h3, h4, qd_aA e4 hk32 (by decide), e1, qd_S e7, e8, e9, nI_1, not_false_eq_true, ihk]
theorem q_memberA {n ka : Nat} {K : q_Knd} (hT : q_TC B l zt I X Y) (h : q_CKd b n D ka K) (hs : q_kS K = 4) (ht : t < l.length + 3) : F_X2_memberAt κ (some ka) (some (b + 2)) (nI t) (q_H b (I, R, X, Y, Z) M O D, s) = some (.inl (q_mv (q_mem1 B K (q_tok l t))), (q_H b (I, R, X, Y, Z) M O D, s)) := by
  obtain ⟨hw, a1, a2, a3, f, hk⟩ := h
  obtain ⟨z1, z2⟩ := hw.2.2.2.2.1 hs
  unfold q_mem1
  by_cases c1 : (q_tok l t).1 = 1
  · rw [if_pos c1]
    exact q_memberAt hT c1 hk hs z1.symm z2
  · rw [if_neg c1]
    have := q_memberA_n (κ := κ) (R := R) (Z := Z) (M := M) (O := O) (s := s) hT ht c1 hk hs z1.symm z2 (q_kM K).length q_fu 0 (by omega) (by unfold q_fu; omega)
    rw [nI_0] at this
    unfold F_X2_memberAt
    exact this
theorem q_mv_0 {r : Option Nat} (h : ∀ v, r = some v → v < 100000) : (0 ≤ q_mv r) = (r.isSome = true) := by
  cases r with
  | none => exact propext ⟨fun h => absurd h (by decide), fun h => by cases h⟩
  | some v => exact propext ⟨fun _ => rfl, fun _ => nI_pos' (by have := h v rfl; omega)⟩
theorem q_operandEnd {n ka : Nat} {K : q_Knd} {LT : List Nat} (hT : q_TC B l zt I X Y) (hK : q_CKd b n D ka K) (ht : t ≤ l.length) (hLT : LT.length ≤ 6100) (hY : (q_tok l t).1 = 1 → 1 ≤ q_kS K → q_kS K ≤ 3 → Y 7 t = (q_mv (q_lk B l LT t)).toInt64) : F_X8_operandEnd κ (some (b + 21)) (some ka) (nI t) (q_H b (I, R, X, Y, Z) M O D, s) = some (.inl (q_mv ((q_opd B l LT K t).map fun x => x.1)), (q_H b (I, R, X, Y, Z) M O D, s)) := by
  have hzt := hT.2.2.1
  have hl := hT.2.1
  have hK0 := hK
  obtain ⟨hw, a1, a2, a3, f, k1, k2, k3, -⟩ := hK0
  have e3 : b + 66 < ka ∧ D ka = some (.inr (.inl (5, [.int (nI (q_kS K)), .ref a1, .ref a2, .ref a3, .int (nI (q_kZ K)), .int (nI (q_kB K))]))) := ⟨k1, k3⟩
  have l2 : t < 6003 := by omega
  have l3 : t + 1 < 6003 := by omega
  have ad1 : nI t + (1 : Int32) = nI (t + 1) := nI_add t 1
  have ad2 : nI t + (2 : Int32) = nI (t + 2) := nI_add t 2
  have ad3 : nI t + (3 : Int32) = nI (t + 3) := nI_add t 3
  have ty2 : (X 4 t = (2 : Int32)) = ((q_tok l t).1 = 2) := propext (q_TC_is (c := 2) hT (by omega) (by decide))
  have ty1 : (X 4 t = (1 : Int32)) = ((q_tok l t).1 = 1) := propext (q_TC_is (c := 1) hT (by omega) (by decide))
  have tz2 : (X 4 (t + 1) = (2 : Int32)) = ((q_tok l (t + 1)).1 = 2) := propext (q_TC_is (c := 2) hT (by omega) (by decide))
  have sg := q_isSign (κ := κ) (b := b) (R := R) (Z := Z) (M := M) (O := O) (D := D) (s := s) (t := t) (c := 45) hT (by omega)
  have n0 : ((0 : Int32) ≤ -1) = False := eq_false (by decide)
  unfold q_opd
  by_cases c0 : q_kS K = 0
  · have t0 : (nI (q_kS K) = 0) = True := eq_true (by rw [c0]; rfl)
    have rg := q_registerAt (κ := κ) (R := R) (Z := Z) (M := M) (O := O) (s := s) hT hK (t := t) (by omega)
    rw [if_pos c0]
    cases hr : q_rgn B K (q_tok l t) with
    | none =>
      rw [hr] at rg
      have mv : q_mv none = -1 := rfl
      rw [mv] at rg
      simp (disch := first | rfl | omega | decide | exact Nat.le_of_ble_eq_true rfl) only [↓q_br, q_rt, q_rz, q_gd, q_ca, ↓reduceIte, F_X8_operandEnd_26, F_X8_operandEnd_54, F_X8_operandEnd_107, F_X8_operandEnd_135, F_X8_operandEnd_154, F_X8_operandEnd, ↓q_gA_21_1, ↓q_gA_2_1, ↓q_gA_2_4, ↓q_is_2, ↓q_is_21, ↓q_lI_4, ↓q_lL_7, qd_I e3 (k := 0) (v := nI (q_kS K)) rfl, qd_S e3, t0, not_true_eq_false, rg, n0]
      rfl
    | some v =>
      rw [hr] at rg
      have mv : q_mv (some v) = nI v := rfl
      rw [mv] at rg
      have p0 : ((0 : Int32) ≤ nI v) = True := eq_true (nI_pos' (by have := q_rgn_lt hr; have := hw.2.2.2.1; omega))
      simp (disch := first | rfl | omega | decide | exact Nat.le_of_ble_eq_true rfl) only [↓q_br, q_rt, q_rz, q_gd, q_ca, ↓reduceIte, F_X8_operandEnd_26, F_X8_operandEnd_54, F_X8_operandEnd_107, F_X8_operandEnd_135, F_X8_operandEnd_154, F_X8_operandEnd, ↓q_gA_21_1, ↓q_gA_2_1, ↓q_gA_2_4, ↓q_is_2, ↓q_is_21, ↓q_lI_4, ↓q_lL_7, qd_I e3 (k := 0) (v := nI (q_kS K)) rfl, qd_S e3, t0, not_true_eq_false, rg, p0, ad1]
      rfl
  · have t0 : (nI (q_kS K) = 0) = False := eq_false (fun h9 => c0 ((nI_eq (b := 0) (by have := hw.1; omega) (by decide)).mp h9))
    rw [if_neg c0]
    by_cases c4 : q_kS K = 4
    · have t4 : (nI (q_kS K) = (4 : Int32)) = True := eq_true (by rw [c4]; rfl)
      have rg := q_memberA (κ := κ) (R := R) (Z := Z) (M := M) (O := O) (s := s) hT hK c4 (t := t) (by omega)
      rw [if_pos c4]
      cases hr : q_mem1 B K (q_tok l t) with
      | none =>
        rw [hr] at rg
        have mv : q_mv none = -1 := rfl
        rw [mv] at rg
        simp (disch := first | rfl | omega | decide | exact Nat.le_of_ble_eq_true rfl) only [↓q_br, q_rt, q_rz, q_gd, q_ca, ↓reduceIte, F_X8_operandEnd_26, F_X8_operandEnd_54, F_X8_operandEnd_107, F_X8_operandEnd_135, F_X8_operandEnd_154, F_X8_operandEnd, ↓q_gA_21_1, ↓q_gA_2_1, ↓q_gA_2_4, ↓q_is_2, ↓q_is_21, ↓q_lI_4, ↓q_lL_7, qd_I e3 (k := 0) (v := nI (q_kS K)) rfl, qd_S e3, t0, t4, not_true_eq_false, not_false_eq_true, rg, n0]
        rfl
      | some v =>
        rw [hr] at rg
        have mv : q_mv (some v) = nI v := rfl
        rw [mv] at rg
        have p0 : ((0 : Int32) ≤ nI v) = True := eq_true (nI_pos' (by have := q_mem1_lt hr; have := hw.2.2.2.2.1 c4; omega))
        simp (disch := first | rfl | omega | decide | exact Nat.le_of_ble_eq_true rfl) only [↓q_br, q_rt, q_rz, q_gd, q_ca, ↓reduceIte, F_X8_operandEnd_26, F_X8_operandEnd_54, F_X8_operandEnd_107, F_X8_operandEnd_135, F_X8_operandEnd_154, F_X8_operandEnd, ↓q_gA_21_1, ↓q_gA_2_1, ↓q_gA_2_4, ↓q_is_2, ↓q_is_21, ↓q_lI_4, ↓q_lL_7, qd_I e3 (k := 0) (v := nI (q_kS K)) rfl, qd_S e3, t0, t4, not_true_eq_false, not_false_eq_true, rg, p0, ad1]
        rfl
    · have t4 : (nI (q_kS K) = (4 : Int32)) = False := eq_false (fun h9 => c4 ((nI_eq (b := 4) (by have := hw.1; omega) (by decide)).mp h9))
      rw [if_neg c4]
      by_cases c2 : (q_tok l t).1 = 2
      · have t2 : ((q_tok l t).1 = 2) = True := eq_true c2
        rw [if_pos c2]
        simp (disch := first | rfl | omega | decide | exact Nat.le_of_ble_eq_true rfl) only [↓q_br, q_rt, q_rz, q_gd, q_ca, ↓reduceIte, F_X8_operandEnd_26, F_X8_operandEnd_54, F_X8_operandEnd_107, F_X8_operandEnd_135, F_X8_operandEnd_154, F_X8_operandEnd, ↓q_gA_21_1, ↓q_gA_2_1, ↓q_gA_2_4, ↓q_is_2, ↓q_is_21, ↓q_lI_4, ↓q_lL_7, qd_I e3 (k := 0) (v := nI (q_kS K)) rfl, qd_S e3, t0, t4, not_true_eq_false, not_false_eq_true, ty2, t2, ad1]
        rfl
      · have t2 : ((q_tok l t).1 = 2) = False := eq_false c2
        rw [if_neg c2]
        cases cs : q_sgn l t 45 with
        | true =>
          rw [cs] at sg
          rw [if_pos rfl]
          by_cases d2 : (q_tok l (t + 1)).1 = 2
          · have s2 : ((q_tok l (t + 1)).1 = 2) = True := eq_true d2
            rw [if_pos d2]
            simp (disch := first | rfl | omega | decide | exact Nat.le_of_ble_eq_true rfl) only [↓q_br, q_rt, q_rz, q_gd, q_ca, ↓reduceIte, F_X8_operandEnd_26, F_X8_operandEnd_54, F_X8_operandEnd_107, F_X8_operandEnd_135, F_X8_operandEnd_154, F_X8_operandEnd, ↓q_gA_21_1, ↓q_gA_2_1, ↓q_gA_2_4, ↓q_is_2, ↓q_is_21, ↓q_lI_4, ↓q_lL_7, qd_I e3 (k := 0) (v := nI (q_kS K)) rfl, qd_S e3, t0, t4, not_true_eq_false, not_false_eq_true, ty2, t2, sg, q_b_0, Bool.true_eq_false, ad1, ad2, tz2, s2]
            rfl
          · have s2 : ((q_tok l (t + 1)).1 = 2) = False := eq_false d2
            rw [if_neg d2]
            simp (disch := first | rfl | omega | decide | exact Nat.le_of_ble_eq_true rfl) only [↓q_br, q_rt, q_rz, q_gd, q_ca, ↓reduceIte, F_X8_operandEnd_26, F_X8_operandEnd_54, F_X8_operandEnd_107, F_X8_operandEnd_135, F_X8_operandEnd_154, F_X8_operandEnd, ↓q_gA_21_1, ↓q_gA_2_1, ↓q_gA_2_4, ↓q_is_2, ↓q_is_21, ↓q_lI_4, ↓q_lL_7, qd_I e3 (k := 0) (v := nI (q_kS K)) rfl, qd_S e3, t0, t4, not_true_eq_false, not_false_eq_true, ty2, t2, sg, q_b_0, Bool.true_eq_false, ad1, ad2, tz2, s2]
            rfl
        | false =>
          rw [cs] at sg
          rw [if_neg (by decide)]
          by_cases c1 : (q_tok l t).1 = 1
          · have t1 : ((q_tok l t).1 = 1) = True := eq_true c1
            have tl : t < l.length := q_tok_lt (by omega)
            have y7 := hY c1 (by omega) (by have := hw.1; omega)
            have ta := q_hasTail (κ := κ) (b := b) (R := R) (Z := Z) (M := M) (O := O) (D := D) (s := s) hT tl
            rw [if_pos c1]
            cases hr : q_lk B l LT t with
            | none =>
              have y0 : Y 7 t = -1 := by rw [y7, hr]; decide
              have cm : ((0 : Int32) ≤ lg_cmp (-1) 0) = False := eq_false (by decide)
              simp (disch := first | rfl | omega | decide | exact Nat.le_of_ble_eq_true rfl) only [↓q_br, q_rt, q_rz, q_gd, q_ca, ↓reduceIte, F_X8_operandEnd_26, F_X8_operandEnd_54, F_X8_operandEnd_107, F_X8_operandEnd_135, F_X8_operandEnd_154, F_X8_operandEnd, ↓q_gA_21_1, ↓q_gA_2_1, ↓q_gA_2_4, ↓q_is_2, ↓q_is_21, ↓q_lI_4, ↓q_lL_7, qd_I e3 (k := 0) (v := nI (q_kS K)) rfl, qd_S e3, t0, t4, not_true_eq_false, not_false_eq_true, ty2, t2, sg, q_b_0, ty1, t1, y0, cm]
              rfl
            | some i =>
              have hi9 : i < LT.length := by
                have := (q_fi_s _ _ _ hr).2.1
                omega
              have y0 : Y 7 t = lN i := by rw [y7, hr]; exact nI_l (by omega)
              have cm : ((0 : Int32) ≤ lg_cmp (lN i) 0) = True := eq_true (by rw [lg_cmp_ge]; exact (q_lN_le (a := 0) (by decide) (by omega)).mpr (Nat.zero_le _))
              cases ct : q_tl l t with
              | true =>
                rw [ct] at ta
                simp (disch := first | rfl | omega | decide | exact Nat.le_of_ble_eq_true rfl) only [↓q_br, q_rt, q_rz, q_gd, q_ca, ↓reduceIte, F_X8_operandEnd_26, F_X8_operandEnd_54, F_X8_operandEnd_107, F_X8_operandEnd_135, F_X8_operandEnd_154, F_X8_operandEnd, ↓q_gA_21_1, ↓q_gA_2_1, ↓q_gA_2_4, ↓q_is_2, ↓q_is_21, ↓q_lI_4, ↓q_lL_7, qd_I e3 (k := 0) (v := nI (q_kS K)) rfl, qd_S e3, t0, t4, not_true_eq_false, not_false_eq_true, ty2, t2, sg, q_b_0, ty1, t1, y0, cm, ta, Bool.true_eq_false, ad3]
                rfl
              | false =>
                rw [ct] at ta
                simp (disch := first | rfl | omega | decide | exact Nat.le_of_ble_eq_true rfl) only [↓q_br, q_rt, q_rz, q_gd, q_ca, ↓reduceIte, F_X8_operandEnd_26, F_X8_operandEnd_54, F_X8_operandEnd_107, F_X8_operandEnd_135, F_X8_operandEnd_154, F_X8_operandEnd, ↓q_gA_21_1, ↓q_gA_2_1, ↓q_gA_2_4, ↓q_is_2, ↓q_is_21, ↓q_lI_4, ↓q_lL_7, qd_I e3 (k := 0) (v := nI (q_kS K)) rfl, qd_S e3, t0, t4, not_true_eq_false, not_false_eq_true, ty2, t2, sg, q_b_0, ty1, t1, y0, cm, ta, Bool.true_eq_false, Bool.false_eq_true, ad1]
                rfl
          · have t1 : ((q_tok l t).1 = 1) = False := eq_false c1
            rw [if_neg c1]
            simp (disch := first | rfl | omega | decide | exact Nat.le_of_ble_eq_true rfl) only [↓q_br, q_rt, q_rz, q_gd, q_ca, ↓reduceIte, F_X8_operandEnd_26, F_X8_operandEnd_54, F_X8_operandEnd_107, F_X8_operandEnd_135, F_X8_operandEnd_154, F_X8_operandEnd, ↓q_gA_21_1, ↓q_gA_2_1, ↓q_gA_2_4, ↓q_is_2, ↓q_is_21, ↓q_lI_4, ↓q_lL_7, qd_I e3 (k := 0) (v := nI (q_kS K)) rfl, qd_S e3, t0, t4, not_true_eq_false, not_false_eq_true, ty2, t2, sg, q_b_0, ty1, t1]
            rfl
end QOC
