/-! ===== what the words of an instruction must come to ===== -/
def q_kb (L : List q_Knd) (os : q_Ops) (o : Nat) : Nat := q_kB (q_kg L (os.getD o ([], 0)).2)
def q_once (kb : Nat → Nat) (no : Nat) (tot : List Int32) : Bool := q_al (fun o => q_al (fun k => decide (tot.count (nI (32 * o + k)) = 1)) (kb o) 0) no 0
def q_leg (kb : Nat → Nat) (no : Nat) (tot : List Int32) : Prop := ∀ v ∈ tot, ¬ v < 0 → ∃ o k, o < no ∧ k < kb o ∧ v = nI (32 * o + k)
theorem q_al_i (c : Nat → Bool) : ∀ n j, q_al c n j = true ↔ ∀ k, j ≤ k → k < j + n → c k = true := by
  intro n
  induction n with
  | zero => intro j; exact ⟨fun _ k h1 h2 => by omega, fun _ => rfl⟩
  | succ n ih =>
    intro j
    unfold q_al
    rw [Bool.and_eq_true, ih]
    constructor
    · rintro ⟨h1, h2⟩ k h3 h4
      rcases Nat.eq_or_lt_of_le h3 with h5 | h5
      · rw [← h5]; exact h1
      · exact h2 k h5 (by omega)
    · intro h
      exact ⟨h j (Nat.le_refl _) (by omega), fun k h1 h2 => h k (by omega) (by omega)⟩
theorem q_once_i {kb : Nat → Nat} {no : Nat} {tot : List Int32} : q_once kb no tot = true ↔ ∀ o, o < no → ∀ k, k < kb o → tot.count (nI (32 * o + k)) = 1 := by
  unfold q_once
  rw [q_al_i]
  constructor
  · intro h o ho k hk
    have := (q_al_i _ _ _).mp (h o (Nat.zero_le _) (by omega)) k (Nat.zero_le _) (by omega)
    exact of_decide_eq_true this
  · intro h o _ ho
    exact (q_al_i _ _ _).mpr (fun k _ hk => decide_eq_true (h o (by omega) k (by omega)))
def q_num1 (l : List q_Tok) (t hi : Nat) : q_Out Nat := if (q_tok l t).1 = 2 then (if 0 ≤ q_nv l t ∧ q_nv l t ≤ lN hi then .inr (q_vn l t) else .inl (3, t)) else .inl (1, t)
def q_pc (l : List q_Tok) (sz t : Nat) : q_Out (Nat × Nat × Nat) :=
  if q_sgn l t 91 = true then (match q_num1 l (t + 1) (sz - 1) with
    | .inl e => .inl e
    | .inr h => if q_sgn l (t + 2) 58 = true then (match q_num1 l (t + 3) h with
        | .inl e => .inl e
        | .inr lo => if q_sgn l (t + 4) 93 = true then .inr (h, lo, t + 5) else .inl (1, t + 4))
      else if q_sgn l (t + 2) 93 = true then .inr (h, h, t + 3) else .inl (1, t + 2))
  else .inr (sz - 1, 0, t)
def q_pb (B : Nat → Int32) (l : List q_Tok) (L : List q_Knd) (os : q_Ops) (z : Nat) : Nat → List (List Int32) → List Int32 → Nat → q_Out (List (List Int32) × Nat)
  | 0, _, _, t => .inl (1, t)
  | f + 1, ws, c, t =>
    if (q_tok l t).1 = 2 then (if q_ob B (q_tok l t) = true then q_pb B l L os z f ws (c ++ q_dl B ((q_tok l t).2.2.1 - (q_tok l t).2.1) (q_tok l t).2.1) (t + 1) else .inl (3, t))
    else if (q_tok l t).1 = 1 then (match q_oi B l t os with
      | none => .inl (2, t)
      | some o => (match q_pc l (q_kb L os o) (t + 1) with
        | .inl e => .inl e
        | .inr x => q_pb B l L os z f ws (c ++ q_pl o x.2.1 (x.1 + 1 - x.2.1)) x.2.2))
    else if q_sgn l t 124 = true then (if ws.length = 3 then .inl (3, t) else if c.length = z then q_pb B l L os z f (ws ++ [c]) [] (t + 1) else .inl (4, t))
    else if q_sgn l t 59 = true then (if c.length = z then (if q_once (q_kb L os) os.length (ws.flatten ++ c) = true then .inr (ws ++ [c], t) else .inl (5, t)) else .inl (4, t))
    else .inl (1, t)
theorem q_num1_b {B : Nat → Int32} {z : Nat} {l : List q_Tok} {t hi v : Nat} (h : q_WF B z l) (hh : hi < 2 ^ 31) (e : q_num1 l t hi = .inr v) : (q_tok l t).1 = 2 ∧ 0 ≤ q_nv l t ∧ q_nv l t ≤ lN hi ∧ v = q_vn l t ∧ v ≤ hi := by
  unfold q_num1 at e
  split at e
  · rename_i h1
    split at e
    · rename_i h2
      cases e
      refine ⟨h1, h2.1, h2.2, rfl, ?_⟩
      obtain ⟨e1, e2⟩ := q_vn_e h h1
      have := h2.2
      rw [e1, q_lN_le (by omega) (by omega)] at this
      exact this
    · cases e
  · cases e
theorem q_num1_f {l : List q_Tok} {t hi k p : Nat} (e : q_num1 l t hi = .inl (k, p)) : p = t ∧ ((k = 1 ∧ ¬ (q_tok l t).1 = 2) ∨ (k = 3 ∧ (q_tok l t).1 = 2 ∧ ¬ (0 ≤ q_nv l t ∧ q_nv l t ≤ lN hi))) := by
  unfold q_num1 at e
  split at e
  · rename_i h1
    split at e
    · cases e
    · rename_i h2
      cases e
      exact ⟨rfl, Or.inr ⟨rfl, h1, h2⟩⟩
  · rename_i h1
    cases e
    exact ⟨rfl, Or.inl ⟨rfl, h1⟩⟩
section QBE
variable {κ : Nat → Nat} {b : Nat} {B : Nat → Int32} {l : List q_Tok} {zt t : Nat} {R : Nat → Nat → Option Nat} {X : Nat → Nat → Int32} {Z : Nat → Nat → Option Nat} {M : q_MT} {O : Nat → Int64} {s : Nat × Nat}
/-- an operand's kind, and its bits -/
theorem q_op_kind {n nk a wc dc o : Nat} {D : q_Mem} {mn : q_Nam} {ps : List Int32} {os : q_Ops} {fm fd : Nat → Int64} {fs : Nat → Int32} {L : List q_Knd} (hc : q_CIo b n D Z nk a mn ps os wc dc fm fd fs) (hnk : nk = L.length) (hlo : ∀ k K, L[k]? = some K → ∃ x, Z 9 k = some x ∧ q_CKd b n D x K) (ho : o < os.length) : ∃ fk ka c0 c1 c2 c3 c4, (b + 66 < a + 5 ∧ D (a + 5) = some (.inl (5, 5, .inr (.inr (.inr (.inr fk)))))) ∧ fk o = some ka ∧ (b + 66 < ka ∧ D ka = some (.inr (.inl (5, [c0, c1, c2, c3, c4, .int (nI (q_kb L os o))])))) ∧ 1 ≤ q_kb L os o ∧ q_kb L os o ≤ 32 := by
  obtain ⟨k1, k2, k3, k4, k5, k6, k7, fp, fo, fk, k8, k9, k10, k11, k12⟩ := hc
  obtain ⟨a', y1, y2, y3, y4⟩ := k12 o _ (q_og_s ho)
  subst hnk
  obtain ⟨ka, z1, hw, b1, b2, b3, g, z2⟩ := hlo _ _ (q_kg_s y4)
  exact ⟨fk, ka, _, _, _, _, _, ⟨by omega, k10⟩, by rw [y3, z1], ⟨z2.1, z2.2.2.1⟩, hw.2.1, hw.2.2.1⟩
theorem q_hasEach {I : Nat → Nat → Int32} {Y : Nat → Nat → Int64} {D : q_Mem} {n z a : Nat} {mn : q_Nam} {ps : List Int32} {os : q_Ops} {ws : List (List Int32)} {c : List Int32} {L : List q_Knd} (hR : R 19 3 = some a) (hcb : q_CB b n D Z L.length z a mn ps os ws c I Y) (hlo : ∀ k K, L[k]? = some K → ∃ x, Z 9 k = some x ∧ q_CKd b n D x K) (hos : os.length ≤ 5) (hleg : q_leg (q_kb L os) os.length (ws.flatten ++ c)) : F_X0_hasEachBitOnce κ (some (b + 19)) (q_H b (I, R, X, Y, Z) M O D, s) = some (.inl (q_b (q_once (q_kb L os) os.length (ws.flatten ++ c))), (q_H b (I, R, X, Y, Z) M O D, s)) := by
  obtain ⟨c1, ⟨tw, t1, t2⟩, c3, fm, fd, fs, c4, c5⟩ := hcb
  have e3 : ∃ v0 v1 v2 v4 v5 v6 v7 v9 v10, b + 66 < a ∧ D a = some (.inr (.inl (4, [v0, v1, v2, .ref (a + 5), v4, v5, v6, v7, .int (nI os.length), v9, v10]))) := ⟨_, _, _, _, _, _, _, _, _, c4.1, c4.2.2.1⟩
  obtain ⟨v0, v1, v2, v4, v5, v6, v7, v9, v10, e3⟩ := e3
  have bnd : ∀ o, o < os.length → 1 ≤ q_kb L os o ∧ q_kb L os o ≤ 32 := fun o ho => by
    obtain ⟨fk, ka, x0, x1, x2, x3, x4, o1, o2, o3, o4⟩ := q_op_kind c4 rfl hlo ho
    exact o4
  have andb : ∀ x y : Bool, q_b x &&& q_b y = q_b (x && y) := by intro x y; cases x <;> cases y <;> decide
  have loop : ∀ d fuel o (g : Bool), o + d = os.length → d < fuel → ∃ g', F_X0_hasEachBitOnce_15 κ fuel (some (b + 19)) (q_b g) (nI o) (q_H b (I, R, X, Y, Z) M O D, s) = some (.inl (q_b g'), (q_H b (I, R, X, Y, Z) M O D, s)) ∧ (g' = true ↔ g = true ∧ ∀ i, o ≤ i → i < os.length → ∀ k, k < 32 → (nI (32 * i + k) ∈ ws.flatten ++ c ↔ k < q_kb L os i)) := by
    intro d
    induction d with
    | zero =>
      intro fuel o g h1 h2
      obtain ⟨f, rfl⟩ : ∃ f, fuel = f + 1 := ⟨fuel - 1, by omega⟩
      have h3 : os.length ≤ o := by omega
      refine ⟨g, ?_, ⟨fun h => ⟨h, fun i i1 i2 => by omega⟩, fun h => h.1⟩⟩
      rw [F_X0_hasEachBitOnce_15]
      simp (disch := first | rfl | omega | decide | exact Nat.le_of_ble_eq_true rfl) only [↓q_br, q_rt, q_rz, q_gd, q_ca, ↓reduceIte, F_X0_hasEachBitOnce_15B, ↓q_gA_19_3, ↓q_gA_19_5, ↓q_lL_20, hR, qd_I e3 (k := 8) (v := nI os.length) rfl, nI_leI, h3, q_b_1]
    | succ d ih =>
      intro fuel o g h1 h2
      obtain ⟨f, rfl⟩ : ∃ f, fuel = f + 1 := ⟨fuel - 1, by omega⟩
      have h3 : ¬ os.length ≤ o := by omega
      obtain ⟨sv, s1, s2, s3⟩ := c3 o (by omega)
      obtain ⟨fk, ka, x0, x1, x2, x3, x4, o1, o2, o3, o4, o5⟩ := q_op_kind c4 rfl hlo (o := o) (by omega)
      have ho5 : o < 5 := by omega
      have hp : 1 ≤ 2 ^ q_kb L os o := Nat.one_le_two_pow
      have hp2 : 2 ^ q_kb L os o ≤ 2 ^ 32 := Nat.pow_le_pow_right (by decide) o5
      have m1 : (1 : Int64) <<< ((nI (q_kb L os o)).toInt64 &&& 63) - 1 = lN (2 ^ q_kb L os o - 1) := by
        rw [q_shl1 _ (by omega)]
        exact lN_sub (b := 1) hp
      have m2 : (lN sv = lN (2 ^ q_kb L os o - 1)) ↔ ∀ k, k < 32 → (nI (32 * o + k) ∈ ws.flatten ++ c ↔ k < q_kb L os o) := by
        rw [q_lN_eq (by omega) (by omega)]
        constructor
        · intro h k hk
          rw [← s3 k hk, h, Nat.testBit_two_pow_sub_one, decide_eq_true_eq]
        · intro h
          apply Nat.eq_of_testBit_eq
          intro k
          rw [Nat.testBit_two_pow_sub_one]
          by_cases hk : k < 32
          · have := s3 k hk
            rw [h k hk] at this
            cases hb : sv.testBit k with
            | true => rw [hb] at this; exact (decide_eq_true (this.mp rfl)).symm
            | false => rw [hb] at this; exact (decide_eq_false (fun h9 => by have := this.mpr h9; cases this)).symm
          · have hs : sv < 2 ^ k := Nat.lt_of_lt_of_le s2 (Nat.pow_le_pow_right (by decide) (by omega))
            rw [Nat.testBit_lt_two_pow hs]
            exact (decide_eq_false (by omega)).symm
      have conv : ∀ x : Bool, (∀ i, o + 1 ≤ i → i < os.length → ∀ k, k < 32 → (nI (32 * i + k) ∈ ws.flatten ++ c ↔ k < q_kb L os i)) ∧ (∀ k, k < 32 → (nI (32 * o + k) ∈ ws.flatten ++ c ↔ k < q_kb L os o)) ↔ ∀ i, o ≤ i → i < os.length → ∀ k, k < 32 → (nI (32 * i + k) ∈ ws.flatten ++ c ↔ k < q_kb L os i) := by
        intro _
        constructor
        · rintro ⟨h8, h9⟩ i i1 i2
          rcases Nat.eq_or_lt_of_le i1 with e | e
          · subst e; exact h9
          · exact h8 i e i2
        · intro h8
          exact ⟨fun i i1 i2 => h8 i (by omega) i2, h8 o (Nat.le_refl _) (by omega)⟩
      by_cases hm : lN sv = lN (2 ^ q_kb L os o - 1)
      · obtain ⟨g', r1, r2⟩ := ih f (o + 1) (g && true) (by omega) (by omega)
        refine ⟨g', ?_, ?_⟩
        · refine Eq.trans ?_ r1
          have a1 : q_b g &&& (1 : Int32) = q_b (g && true) := andb g true
          rw [F_X0_hasEachBitOnce_15]
          simp (disch := first | rfl | omega | decide | exact Nat.le_of_ble_eq_true rfl) only [↓q_br, q_rt, q_rz, q_gd, q_ca, ↓reduceIte, F_X0_hasEachBitOnce_15B, F_X0_hasEachBitOnce_58, ↓q_gA_19_3, ↓q_gA_19_5, ↓q_lL_20, hR, qd_I e3 (k := 8) (v := nI os.length) rfl, nI_leI, h3, s1, qd_A e3 (k := 3) (r := some (a + 5)) rfl, qd_aA o1 ho5 (by decide), o2, qd_I o3 (k := 5) (v := nI (q_kb L os o)) rfl, m1, lg_cmp_eq, hm, not_true_eq_false, a1, nI_1]
        · rw [r2, Bool.and_true]
          exact ⟨fun h => ⟨h.1, (conv true).mp ⟨h.2, m2.mp hm⟩⟩, fun h => ⟨h.1, ((conv true).mpr h.2).1⟩⟩
      · obtain ⟨g', r1, r2⟩ := ih f (o + 1) (g && false) (by omega) (by omega)
        refine ⟨g', ?_, ?_⟩
        · refine Eq.trans ?_ r1
          have a1 : q_b g &&& (0 : Int32) = q_b (g && false) := andb g false
          rw [F_X0_hasEachBitOnce_15]
          simp (disch := first | rfl | omega | decide | exact Nat.le_of_ble_eq_true rfl) only [↓q_br, q_rt, q_rz, q_gd, q_ca, ↓reduceIte, F_X0_hasEachBitOnce_15B, F_X0_hasEachBitOnce_58, ↓q_gA_19_3, ↓q_gA_19_5, ↓q_lL_20, hR, qd_I e3 (k := 8) (v := nI os.length) rfl, nI_leI, h3, s1, qd_A e3 (k := 3) (r := some (a + 5)) rfl, qd_aA o1 ho5 (by decide), o2, qd_I o3 (k := 5) (v := nI (q_kb L os o)) rfl, m1, lg_cmp_eq, hm, not_false_eq_true, a1, nI_1]
        · rw [r2, Bool.and_false]
          constructor
          · rintro ⟨h, -⟩; cases h
          · rintro ⟨-, h⟩
            exact absurd (m2.mpr ((conv true).mpr h).2) hm
  obtain ⟨g', r1, r2⟩ := loop os.length q_fu 0 (!tw) (by omega) (by unfold q_fu; omega)
  have hg : g' = q_once (q_kb L os) os.length (ws.flatten ++ c) := by
    have : g' = true ↔ q_once (q_kb L os) os.length (ws.flatten ++ c) = true := by
      rw [r2, q_once_i]
      constructor
      · rintro ⟨h1, h2⟩ o ho k hk
        have hb := bnd o ho
        have h3 := (h2 o (Nat.zero_le _) ho k (by omega)).mpr hk
        have h4 := List.one_le_count_iff.mpr h3
        have h5 : ¬ q_tw (ws.flatten ++ c) := fun h6 => by rw [t2.mpr h6] at h1; cases h1
        have h6 : ¬ 2 ≤ (ws.flatten ++ c).count (nI (32 * o + k)) := fun h7 => h5 ⟨_, nI_pos (by omega), h7⟩
        omega
      · intro h
        refine ⟨?_, fun o _ ho k hk => ⟨fun hm => ?_, fun hk2 => ?_⟩⟩
        · cases htw : tw with
          | false => rfl
          | true =>
            obtain ⟨v, x1, x2⟩ := t2.mp htw
            obtain ⟨o, k, y1, y2, y3⟩ := hleg v (List.one_le_count_iff.mp (by omega)) x1
            rw [y3, h o y1 k y2] at x2
            omega
        · obtain ⟨o', k', y1, y2, y3⟩ := hleg _ hm (nI_pos (by omega))
          have hb := bnd o' y1
          rw [nI_eq (by omega) (by omega)] at y3
          have : o = o' := by omega
          subst this
          omega
        · exact List.one_le_count_iff.mp (by rw [h o ho k hk2]; omega)
    cases g' <;> cases h9 : q_once (q_kb L os) os.length (ws.flatten ++ c) <;> simp_all
  rw [← hg]
  have z0 : nI 0 = 0 := nI_0
  rw [z0] at r1
  cases htw : tw
  · rw [htw] at t1 r1
    have t1' : I 19 6 = 0 := t1
    have r1' : F_X0_hasEachBitOnce_15 κ q_fu (some (b + 19)) 1 0 (q_H b (I, R, X, Y, Z) M O D, s) = some (.inl (q_b g'), (q_H b (I, R, X, Y, Z) M O D, s)) := r1
    simp (disch := first | rfl | omega | decide | exact Nat.le_of_ble_eq_true rfl) only [↓q_br, q_rt, q_rz, q_gd, q_ca, ↓reduceIte, F_X0_hasEachBitOnce, F_X0_hasEachBitOnce_12, ↓q_gI_19_6, t1', not_true_eq_false, r1']
  · rw [htw] at t1 r1
    have t1' : I 19 6 = 1 := t1
    have one0 : ¬ (1 : Int32) = 0 := by decide
    have r1' : F_X0_hasEachBitOnce_15 κ q_fu (some (b + 19)) 0 0 (q_H b (I, R, X, Y, Z) M O D, s) = some (.inl (q_b g'), (q_H b (I, R, X, Y, Z) M O D, s)) := r1
    simp (disch := first | rfl | omega | decide | exact Nat.le_of_ble_eq_true rfl) only [↓q_br, q_rt, q_rz, q_gd, q_ca, ↓reduceIte, F_X0_hasEachBitOnce, F_X0_hasEachBitOnce_12, ↓q_gI_19_6, t1', one0, not_false_eq_true, r1']
end QBE
