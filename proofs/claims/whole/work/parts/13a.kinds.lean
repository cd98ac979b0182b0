/-! ===== what a description says, on both sides ===== -/
/-- sort, name, written, members, how many, bits -/
abbrev q_Knd : Type := Nat × q_Nam × q_Nam × List q_Nam × Nat × Nat
abbrev q_kS (K : q_Knd) : Nat := K.1
abbrev q_kN (K : q_Knd) : q_Nam := K.2.1
abbrev q_kW (K : q_Knd) : q_Nam := K.2.2.1
abbrev q_kM (K : q_Knd) : List q_Nam := K.2.2.2.1
abbrev q_kZ (K : q_Knd) : Nat := K.2.2.2.2.1
abbrev q_kB (K : q_Knd) : Nat := K.2.2.2.2.2
def q_WK (K : q_Knd) : Prop := q_kS K ≤ 4 ∧ 1 ≤ q_kB K ∧ q_kB K ≤ 32 ∧ q_kZ K ≤ 64 ∧ (q_kS K = 4 → q_kZ K = (q_kM K).length ∧ q_kZ K ≤ 32) ∧ (q_kS K = 0 ∨ q_kS K = 4 → q_kZ K ≤ 2 ^ q_kB K ∧ 1 ≤ q_kZ K)
/-- a kind object of the class, its members so far -/
def q_CKo (b n : Nat) (D : q_Mem) (a a1 a2 a3 : Nat) (f : Nat → Option Nat) (K : q_Knd) : Prop := b + 66 < a ∧ a < n ∧ D a = some (.inr (.inl (5, [.int (nI (q_kS K)), .ref a1, .ref a2, .ref a3, .int (nI (q_kZ K)), .int (nI (q_kB K))]))) ∧ q_CN b n D a1 (q_kN K) ∧ q_CN b n D a2 (q_kW K) ∧ b + 66 < a3 ∧ a3 < n ∧ D a3 = some (.inl (6, (if q_kS K = 4 then 32 else 0), .inr (.inr (.inr (.inr f))))) ∧ (∀ i nm, (q_kM K)[i]? = some nm → ∃ a', f i = some a' ∧ q_CN b n D a' nm)
def q_CKd (b n : Nat) (D : q_Mem) (a : Nat) (K : q_Knd) : Prop := q_WK K ∧ ∃ a1 a2 a3 f, q_CKo b n D a a1 a2 a3 f K
theorem q_CKo_mo {b n n' : Nat} {D D' : q_Mem} {a a1 a2 a3 : Nat} {f : Nat → Option Nat} {K : q_Knd} (h : q_CKo b n D a a1 a2 a3 f K) (hn : n ≤ n') (hD : ∀ x, b < x → x < n → D' x = D x) : q_CKo b n' D' a a1 a2 a3 f K := by
  obtain ⟨h1, h2, h3, h4, h5, h6, h7, h8, h9⟩ := h
  refine ⟨h1, by omega, by rw [hD a (by omega) h2, h3], q_CN_mo h4 hn hD, q_CN_mo h5 hn hD, h6, by omega, by rw [hD a3 (by omega) h7, h8], fun i nm hi => ?_⟩
  obtain ⟨a', e1, e2⟩ := h9 i nm hi
  exact ⟨a', e1, q_CN_mo e2 hn hD⟩
theorem q_CKd_mo {b n n' : Nat} {D D' : q_Mem} {a : Nat} {K : q_Knd} (h : q_CKd b n D a K) (hn : n ≤ n') (hD : ∀ x, b < x → x < n → D' x = D x) : q_CKd b n' D' a K := by
  obtain ⟨hw, a1, a2, a3, f, h⟩ := h
  exact ⟨hw, a1, a2, a3, f, q_CKo_mo h hn hD⟩
/-- the class's kinds are L -/
def q_CMk (b n : Nat) (D : q_Mem) (I : Nat → Nat → Int32) (Z : Nat → Nat → Option Nat) (L : List q_Knd) : Prop := I 8 3 = nI L.length ∧ L.length ≤ 40 ∧ ∀ k K, L[k]? = some K → ∃ a, Z 9 k = some a ∧ q_CKd b n D a K
def q_MKd (N : List q_Nam) (Q : Nat → Nat → Int32) (k : Nat) (K : q_Knd) : Prop := Q 38 k = nI (q_kS K) ∧ (∃ w, Q 37 k = nI w ∧ N[w]? = some (q_kN K)) ∧ (q_kS K = 0 → ∃ w, Q 39 k = nI w ∧ N[w]? = some (q_kW K)) ∧ ((q_kS K = 0 ∨ q_kS K = 4) → Q 40 k = nI (q_kZ K)) ∧ Q 41 k = nI (q_kB K) ∧ (q_kS K = 4 → ∀ i nm, (q_kM K)[i]? = some nm → ∃ w, Q 42 (32 * k + i) = nI w ∧ N[w]? = some nm)
def q_MMk (N : List q_Nam) (P : Nat → Int32) (Q : Nat → Nat → Int32) (L : List q_Knd) : Prop := P 22 = nI L.length ∧ L.length ≤ 40 ∧ ∀ k K, L[k]? = some K → q_WK K ∧ q_MKd N Q k K
/-- the first of n from j on for which c holds -/
def q_fi (c : Nat → Bool) : Nat → Nat → Option Nat
  | 0, _ => none
  | n + 1, j => if c j = true then some j else q_fi c n (j + 1)
theorem q_fi_c {c d : Nat → Bool} : ∀ n j, (∀ k, j ≤ k → k < j + n → c k = d k) → q_fi c n j = q_fi d n j := by
  intro n
  induction n with
  | zero => intro j _; rfl
  | succ n ih =>
    intro j h
    unfold q_fi
    rw [h j (Nat.le_refl _) (by omega), ih (j + 1) (fun k h1 h2 => h k (by omega) (by omega))]
theorem q_fi_s {c : Nat → Bool} : ∀ n j k, q_fi c n j = some k → j ≤ k ∧ k < j + n ∧ c k = true ∧ ∀ i, j ≤ i → i < k → c i = false := by
  intro n
  induction n with
  | zero => intro j k h; cases h
  | succ n ih =>
    intro j k h
    unfold q_fi at h
    by_cases hc : c j = true
    · rw [if_pos hc] at h
      cases h
      exact ⟨Nat.le_refl _, by omega, hc, fun i h1 h2 => by omega⟩
    · rw [if_neg hc] at h
      obtain ⟨h1, h2, h3, h4⟩ := ih _ _ h
      refine ⟨by omega, by omega, h3, fun i i1 i2 => ?_⟩
      rcases Nat.eq_or_lt_of_le i1 with e | e
      · rw [← e]; simpa using hc
      · exact h4 i e i2
theorem q_fi_n {c : Nat → Bool} : ∀ n j, q_fi c n j = none → ∀ i, j ≤ i → i < j + n → c i = false := by
  intro n
  induction n with
  | zero => intro j _ i h1 h2; omega
  | succ n ih =>
    intro j h i i1 i2
    unfold q_fi at h
    by_cases hc : c j = true
    · rw [if_pos hc] at h; cases h
    · rw [if_neg hc] at h
      rcases Nat.eq_or_lt_of_le i1 with e | e
      · rw [← e]; simpa using hc
      · exact ih _ h i e (by omega)
def q_mv (o : Option Nat) : Int32 := match o with
  | some i => nI i
  | none => -1
def q_K0 : q_Knd := (0, [], [], [], 0, 0)
def q_kg (L : List q_Knd) (k : Nat) : q_Knd := L.getD k q_K0
theorem q_kg_s {L : List q_Knd} {k : Nat} (h : k < L.length) : L[k]? = some (q_kg L k) := by simp [q_kg, List.getD, h]
theorem q_shl1 : ∀ n, n < 63 → (1 : Int64) <<< ((nI n).toInt64 &&& 63) = lN (2 ^ n) := by decide +kernel
theorem q_shr1 : ∀ a, a < 64 → ∀ n, n < 8 → ((nI a >>> (nI n &&& 31)) ≤ 0 ↔ a < 2 ^ n) := by decide +kernel
/-- the bits that z things need -/
def q_nd (z : Nat) : Nat → Nat → Nat
  | 0, n => n
  | f + 1, n => if z ≤ 2 ^ n then n else q_nd z f (n + 1)
section QKA
variable {κ : Nat → Nat} {b : Nat} {B : Nat → Int32} {l : List q_Tok} {z t : Nat} {I : Nat → Nat → Int32} {R : Nat → Nat → Option Nat} {X : Nat → Nat → Int32} {Y : Nat → Nat → Int64} {Z : Nat → Nat → Option Nat} {C : q_CT} {M : q_MT} {P : Nat → Int32} {Q : Nat → Nat → Int32} {S : Nat → Nat → Int64} {O : Nat → Int64} {D : q_Mem} {s : Nat × Nat}
theorem q_tok_e31 (h : q_TC B l z I X Y) : (q_tok l t).2.2.1 < 2 ^ 31 := by
  by_cases ht : t < l.length
  · have h1 := (h.2.2.2.2.1 t _ (q_tok_s ht)).2.2.1
    have h2 := h.2.2.1
    omega
  · rw [q_tok_e (by omega)]
    decide
theorem q_kindNamed_2 {n : Nat} {L : List q_Knd} (h : q_TC B l z I X Y) (ht : t < l.length + 3) (hy : (q_tok l t).1 = 1) (hk : q_CMk b n D I Z L) : ∀ m fuel k, k + m = L.length → m < fuel → F_X5_kindNamed_2 κ fuel (some (b + 8)) (some (b + 2)) (nI t) (nI k) (q_H b (I, R, X, Y, Z) M O D, s) = some (.inl ((q_fi (fun i => decide (q_tB B (q_tok l t) = q_kN (q_kg L i))) m k).bind (Z 9)), (q_H b (I, R, X, Y, Z) M O D, s)) := by
  obtain ⟨k1, k2, k3⟩ := hk
  intro m
  induction m with
  | zero =>
    intro fuel k h1 h2
    obtain ⟨f, rfl⟩ : ∃ f, fuel = f + 1 := ⟨fuel - 1, by omega⟩
    have h3 : L.length ≤ k := by omega
    simp (disch := first | rfl | omega | decide | exact Nat.le_of_ble_eq_true rfl) only [F_X5_kindNamed_2, ↓q_br, q_rt, q_rz, q_gd, q_ca, ↓reduceIte, F_X5_kindNamed_2B, ↓q_gA_8_0, ↓q_gI_8_3, ↓q_lA_9, k1, nI_leI, h3, q_fi, Option.bind_none]
  | succ m ih =>
    intro fuel k h1 h2
    obtain ⟨f, rfl⟩ : ∃ f, fuel = f + 1 := ⟨fuel - 1, by omega⟩
    have h3 : ¬ L.length ≤ k := by omega
    obtain ⟨a, e1, -, a1, a2, a3, g, e2⟩ := k3 k _ (q_kg_s (by omega))
    have e3 : b + 66 < a ∧ D a = some (.inr (.inl (5, [.int (nI (q_kS (q_kg L k))), .ref a1, .ref a2, .ref a3, .int (nI (q_kZ (q_kg L k))), .int (nI (q_kB (q_kg L k)))]))) := ⟨e2.1, e2.2.2.1⟩
    have e4 := e2.2.2.2.1
    have e5 : b + 66 < a1 ∧ ∃ la, D a1 = some (.inr (.inl (10, [.ref la]))) := by
      obtain ⟨la, g', y1, y2, y3, y4, y5, y6⟩ := e4
      exact ⟨y1, la, y5⟩
    obtain ⟨e5, la, e6⟩ := e5
    have e7 : b + 66 < a1 ∧ D a1 = some (.inr (.inl (10, [.ref la]))) := ⟨e5, e6⟩
    have e8 := q_bytesBehind (κ := κ) (R := R) (Z := Z) (M := M) (O := O) (s := s) h e4 ht
    have e9 : q_bb B (q_tok l t) (q_kN (q_kg L k)) = 0 ↔ q_tB B (q_tok l t) = q_kN (q_kg L k) := by
      rw [q_bb_0 (q_tok_e31 h)]
      exact ⟨fun h => h.2, fun h => ⟨hy, h⟩⟩
    simp (disch := first | rfl | omega | decide | exact Nat.le_of_ble_eq_true rfl) only [F_X5_kindNamed_2, ↓q_br, q_rt, q_rz, q_gd, q_ca, ↓reduceIte, F_X5_kindNamed_2B, ↓q_gA_8_0, ↓q_gI_8_3, ↓q_lA_9, k1, nI_leI, h3, e1, qd_A e3 (k := 1) (r := some a1) rfl, qd_S e7, e8, e9, nI_1, q_fi, decide_eq_true_eq]
    by_cases h7 : q_tB B (q_tok l t) = q_kN (q_kg L k)
    · simp only [h7, not_true_eq_false, if_false, if_true, e1, Option.bind_some]
    · simp only [h7, not_false_eq_true, if_true, if_false]
      exact ih f (k + 1) (by omega) (by omega)
theorem q_kindNamed {n : Nat} {L : List q_Knd} (h : q_TC B l z I X Y) (hy : (q_tok l t).1 = 1) (hk : q_CMk b n D I Z L) : F_X5_kindNamed κ (some (b + 8)) (some (b + 2)) (nI t) (q_H b (I, R, X, Y, Z) M O D, s) = some (.inl ((q_fi (fun i => decide (q_tB B (q_tok l t) = q_kN (q_kg L i))) L.length 0).bind (Z 9)), (q_H b (I, R, X, Y, Z) M O D, s)) := by
  have hlt := q_tok_lt (l := l) (t := t) (by omega)
  have h1 := q_kindNamed_2 (κ := κ) (R := R) (M := M) (O := O) (s := s) h (by omega) hy hk L.length q_fu 0 (by omega) (by have := hk.2.1; unfold q_fu; omega)
  rw [nI_0] at h1
  unfold F_X5_kindNamed
  exact h1
theorem q_needed_2 {a : Nat} {σ : q_St} (ha : a < 64) : ∀ f fuel n, n + f = 7 → f < fuel → F_X13_needed_2 κ fuel (nI a) (nI n) σ = some (.inl (nI (q_nd (a + 1) f n)), σ) := by
  intro f
  induction f with
  | zero =>
    intro fuel n h1 h2
    obtain ⟨g, rfl⟩ : ∃ g, fuel = g + 1 := ⟨fuel - 1, by omega⟩
    have h3 : n = 7 := by omega
    subst h3
    have h4 := (q_shr1 a ha 7 (by decide)).mpr (by omega)
    simp only [F_X13_needed_2, F_X13_needed_2B, q_br, h4, if_true, q_nd, q_rt]
  | succ f ih =>
    intro fuel n h1 h2
    obtain ⟨g, rfl⟩ : ∃ g, fuel = g + 1 := ⟨fuel - 1, by omega⟩
    have h4 := q_shr1 a ha n (by omega)
    simp only [F_X13_needed_2, F_X13_needed_2B, q_br, h4, q_nd, q_rt, nI_1]
    by_cases h5 : a < 2 ^ n
    · have h6 : a + 1 ≤ 2 ^ n := h5
      rw [if_pos h5, if_pos h6]
    · have h6 : ¬ a + 1 ≤ 2 ^ n := h5
      rw [if_neg h5, if_neg h6]
      exact ih g (n + 1) (by omega) (by omega)
theorem q_needed {a : Nat} {σ : q_St} (ha : a < 64) : F_X13_needed κ (nI a) σ = some (.inl (nI (q_nd (a + 1) 6 1)), σ) := by
  unfold F_X13_needed
  exact q_needed_2 (κ := κ) ha 6 q_fu 1 (by omega) (by unfold q_fu; omega)
end QKA
