/-! ===== cells that aren't of the table, as rules ===== -/
section QOB
variable {β : Type} {b a ci k : Nat} {fs : List Value} {C : q_CT} {M : q_MT} {O : Nat → Int64} {D : q_Mem} {s : Nat × Nat}
theorem qd_I {v : Int32} {f : Int32 → q_X β} (h : b + 66 < a ∧ D a = some (.inr (.inl (ci, fs)))) (hk : fs[k]? = some (.int v)) : q_rd (q_gI (some a) ci k) f (q_H b C M O D, s) = f v (q_H b C M O D, s) := by
  refine q_rd_g ?_
  unfold q_gI
  rw [q_fs_d (Or.inr h.1)]
  unfold q_fs
  simp only [h.2, if_true, Option.bind_some, hk, q_vI]
theorem qd_A {r : Option Nat} {f : Option Nat → q_X β} (h : b + 66 < a ∧ D a = some (.inr (.inl (ci, fs)))) (hk : fs[k]? = some (va_rf r)) : q_rd (q_gA (some a) ci k) f (q_H b C M O D, s) = f r (q_H b C M O D, s) := by
  refine q_rd_g ?_
  unfold q_gA
  rw [q_fs_d (Or.inr h.1)]
  unfold q_fs
  simp only [h.2, if_true, Option.bind_some, hk, q_vA_rf]
theorem qd_S {f : Unit → q_X β} (h : b + 66 < a ∧ D a = some (.inr (.inl (ci, fs)))) : q_rd (q_is (some a) ci) f (q_H b C M O D, s) = f () (q_H b C M O D, s) := by
  refine q_rd_g ?_
  unfold q_is
  rw [q_fs_d (Or.inr h.1)]
  unfold q_fs
  simp only [h.2, if_true, Option.bind_some]
theorem qd_W {v : Value} {f : q_X β} (h : b + 66 < a ∧ D a = some (.inr (.inl (ci, fs)))) (hk : k < fs.length) : q_wr (q_pF (some a) ci k v) f (q_H b C M O D, s) = f (q_H b C M O (q_up D a (.inr (.inl (ci, fs.set k v)))), s) := by
  refine q_wr_g ?_
  unfold q_pF
  rw [q_fs_d (Or.inr h.1)]
  unfold q_fs
  simp only [h.2, if_true, Option.bind_some, hk]
  rw [q_H_upd (Or.inr h.1)]
theorem qd_N {t n : Nat} {g : (Nat → Int32) ⊕ (Nat → Int64) ⊕ (Nat → UInt32) ⊕ (Nat → UInt64) ⊕ (Nat → Option Nat)} {f : Int32 → q_X β} (h : b + 66 < a ∧ D a = some (.inl (t, n, g))) : q_rd (q_ln (some a)) f (q_H b C M O D, s) = f (nI n) (q_H b C M O D, s) := by
  refine q_rd_g ?_
  unfold q_ln
  rw [q_ar_d (Or.inr h.1)]
  unfold q_ar
  simp only [h.2, Option.bind_some]
theorem qd_aI {t n i : Nat} {g : Nat → Int32} {f : Int32 → q_X β} (h : b + 66 < a ∧ D a = some (.inl (t, n, .inl g))) (hi : i < n) (hn : n < 2 ^ 31) : q_rd (q_lI t (some a) (nI i)) f (q_H b C M O D, s) = f (g i) (q_H b C M O D, s) := by
  obtain ⟨e1, e2⟩ := q_nI_b hi hn
  refine q_rd_g ?_
  unfold q_lI
  rw [q_ar_d (Or.inr h.1)]
  unfold q_ar
  simp only [h.2, Option.bind_some, e1, e2, not_false_eq_true, and_self, if_true]
theorem qd_aL {n i : Nat} {g : Nat → Int64} {f : Int64 → q_X β} (h : b + 66 < a ∧ D a = some (.inl (2, n, .inr (.inl g)))) (hi : i < n) (hn : n < 2 ^ 31) : q_rd (q_lL (some a) (nI i)) f (q_H b C M O D, s) = f (g i) (q_H b C M O D, s) := by
  obtain ⟨e1, e2⟩ := q_nI_b hi hn
  refine q_rd_g ?_
  unfold q_lL
  rw [q_ar_d (Or.inr h.1)]
  unfold q_ar
  simp only [h.2, Option.bind_some, e1, e2, not_false_eq_true, and_self, if_true]
theorem qd_aA {t n i : Nat} {g : Nat → Option Nat} {f : Option Nat → q_X β} (h : b + 66 < a ∧ D a = some (.inl (t, n, .inr (.inr (.inr (.inr g)))))) (hi : i < n) (hn : n < 2 ^ 31) : q_rd (q_lA t (some a) (nI i)) f (q_H b C M O D, s) = f (g i) (q_H b C M O D, s) := by
  obtain ⟨e1, e2⟩ := q_nI_b hi hn
  refine q_rd_g ?_
  unfold q_lA
  rw [q_ar_d (Or.inr h.1)]
  unfold q_ar
  simp only [h.2, Option.bind_some, e1, e2, not_false_eq_true, and_self, if_true]
theorem qd_wI {t n i : Nat} {g : Nat → Int32} {v : Int32} {f : q_X β} (h : b + 66 < a ∧ D a = some (.inl (t, n, .inl g))) (hi : i < n) (hn : n < 2 ^ 31) : q_wr (q_sI t (some a) (nI i) v) f (q_H b C M O D, s) = f (q_H b C M O (q_up D a (.inl (t, n, .inl (q_u1 g i v)))), s) := by
  obtain ⟨e1, e2⟩ := q_nI_b hi hn
  refine q_wr_g ?_
  unfold q_sI
  rw [q_ar_d (Or.inr h.1)]
  unfold q_ar
  simp only [h.2, Option.bind_some, e1, e2, not_false_eq_true, and_self, if_true]
  rw [q_H_upd (Or.inr h.1)]
  rfl
theorem qd_wL {n i : Nat} {g : Nat → Int64} {v : Int64} {f : q_X β} (h : b + 66 < a ∧ D a = some (.inl (2, n, .inr (.inl g)))) (hi : i < n) (hn : n < 2 ^ 31) : q_wr (q_sL (some a) (nI i) v) f (q_H b C M O D, s) = f (q_H b C M O (q_up D a (.inl (2, n, .inr (.inl (q_u1 g i v))))), s) := by
  obtain ⟨e1, e2⟩ := q_nI_b hi hn
  refine q_wr_g ?_
  unfold q_sL
  rw [q_ar_d (Or.inr h.1)]
  unfold q_ar
  simp only [h.2, Option.bind_some, e1, e2, not_false_eq_true, and_self, if_true]
  rw [q_H_upd (Or.inr h.1)]
  rfl
end QOB
/-! ===== names ===== -/
abbrev q_Nam : Type := List Int32
def q_tB (B : Nat → Int32) (x : q_Tok) : q_Nam := (List.range (x.2.2.1 - x.2.1)).map fun i => B (x.2.1 + i)
theorem q_tB_len (B : Nat → Int32) (x : q_Tok) : (q_tB B x).length = x.2.2.1 - x.2.1 := by simp [q_tB]
theorem q_tB_g {B : Nat → Int32} {x : q_Tok} {i : Nat} (h : i < x.2.2.1 - x.2.1) : (q_tB B x).getD i 0 = B (x.2.1 + i) := by simp [q_tB, h]
def q_tok (l : List q_Tok) (t : Nat) : q_Tok := l.getD t (5, 0, 0, 0)
theorem q_tok_s {l : List q_Tok} {t : Nat} (h : t < l.length) : l[t]? = some (q_tok l t) := by simp [q_tok, List.getD, h]
theorem q_tok_e {l : List q_Tok} {t : Nat} (h : l.length ≤ t) : q_tok l t = (5, 0, 0, 0) := by simp [q_tok, List.getD, h]
/-- what holds of the tokens of a text of z bytes -/
def q_WF (B : Nat → Int32) (z : Nat) (l : List q_Tok) : Prop := ∀ t x, l[t]? = some x → x.1 ≤ 4 ∧ x.2.1 < x.2.2.1 ∧ x.2.2.1 ≤ z ∧ (x.1 = 1 → x.2.2.1 - x.2.1 ≤ 20) ∧ (x.1 = 2 → ∃ v, v < 4294967296 ∧ x.2.2.2 = lN v) ∧ (x.1 = 3 → x.2.2.2 = (B x.2.1).toInt64 ∧ q_sg (B x.2.1) = true) ∧ (∀ y, l[t + 1]? = some y → x.2.2.1 ≤ y.2.1)
theorem q_rk_wf (B : Nat → Int32) (p e : Nat) : (q_rk B p e).1 ≤ 2 ∧ ((q_rk B p e).1 = 1 → e - p ≤ 20) ∧ ((q_rk B p e).1 = 2 → ∃ v, v < 4294967296 ∧ (q_rk B p e).2 = lN v) := by
  unfold q_rk
  split
  · cases h : q_num B p e with
    | none => simp
    | some v => exact ⟨by simp, by simp, fun _ => ⟨v, q_num_lt h, rfl⟩⟩
  · split
    · rename_i h; simp [h]
    · simp
theorem q_tk_wf {ln : Bool} {B : Nat → Int32} {z p : Nat} {x : Nat × Int64} (h : q_tk ln B z p = some x) : x.1 ≤ 4 ∧ (x.1 = 1 → q_nx B z p - p ≤ 20) ∧ (x.1 = 2 → ∃ v, v < 4294967296 ∧ x.2 = lN v) ∧ (x.1 = 3 → x.2 = (B p).toInt64 ∧ q_sg (B p) = true) := by
  unfold q_tk at h
  split at h
  · cases h
  · rename_i c1
    split at h
    · rename_i c2
      cases h
      have e : q_nx B z p = q_to (fun i => q_row (B i)) (z - p) p := by unfold q_nx; rw [if_neg c1, if_pos c2]
      rw [e]
      obtain ⟨w1, w2, w3⟩ := q_rk_wf B p (q_to (fun i => q_row (B i)) (z - p) p)
      exact ⟨by omega, w2, w3, fun h => by omega⟩
    · split at h
      · split at h
        · cases h; simp
        · cases h
      · split at h
        · cases h
        · cases h
          by_cases c5 : q_sg (B p) = true
          · simp [c5]
          · simp [c5]
theorem q_sc_wf (ln : Bool) (B : Nat → Int32) (z : Nat) : ∀ n p, q_WF B z (q_sc ln B z n p) ∧ ∀ x, (q_sc ln B z n p)[0]? = some x → p ≤ x.2.1 := by
  intro n
  induction n with
  | zero => intro p; exact ⟨fun t x h => by simp [q_sc] at h, fun x h => by simp [q_sc] at h⟩
  | succ n ih =>
    intro p
    by_cases hp : z ≤ p
    · rw [q_sc_z hp]
      exact ⟨fun t x h => by simp at h, fun x h => by simp at h⟩
    · have hnx := q_nx_b (B := B) (Nat.lt_of_not_le hp)
      obtain ⟨i1, i2⟩ := ih (q_nx B z p)
      rw [q_sc, if_neg hp]
      cases htk : q_tk ln B z p with
      | none =>
        exact ⟨i1, fun x h => by have := i2 x h; omega⟩
      | some y =>
        obtain ⟨w1, w2, w3, w4⟩ := q_tk_wf htk
        refine ⟨fun t x h => ?_, fun x h => ?_⟩
        · cases t with
          | zero =>
            simp only [List.getElem?_cons_zero, Option.some.injEq] at h
            subst h
            refine ⟨w1, hnx.1, hnx.2, w2, w3, w4, fun y' hy' => ?_⟩
            simp only [Nat.zero_add, List.getElem?_cons_succ] at hy'
            exact i2 y' hy'
          | succ t =>
            simp only [List.getElem?_cons_succ] at h
            obtain ⟨a1, a2, a3, a4, a5, a6, a7⟩ := i1 t x h
            refine ⟨a1, a2, a3, a4, a5, a6, fun y' hy' => ?_⟩
            simp only [List.getElem?_cons_succ] at hy'
            exact a7 y' hy'
        · simp only [List.getElem?_cons_zero, Option.some.injEq] at h
          subst h
          exact Nat.le_refl _
