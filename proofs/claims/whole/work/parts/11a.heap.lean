/-! ===== the memory of a run: cells b+1 .. b+66 as typed maps, all else as it is ===== -/
def q_tb : List ((Nat × Nat) ⊕ (Nat × List Nat)) := [.inl (1, 0), .inr (14, [4, 16, 10, 13, 21, 23, 17]), .inr (13, [5, 6, 7, 8, 9, 0, 0]), .inl (0, 6000), .inl (0, 6003), .inl (1, 6003), .inl (1, 6003), .inl (2, 6003), .inr (8, [11, 12, 0, 0, 0]), .inl (5, 40), .inl (4, 96), .inr (9, [14, 15, 0]), .inl (2, 4096), .inl (3, 4096), .inr (12, [4, 0, 0, 0]), .inr (7, [10, 13, 18, 19, 20, 0, 0]), .inl (2, 5), .inl (0, 20), .inl (0, 200), .inr (3, [16, 4, 10, 1, 0, 22, 0]), .inl (2, 5), .inr (11, [16, 4, 10, 13, 24, 25, 26, 27, 0]), .inr (2, [0, 1, 0]), .inr (2, [0, 1, 0]), .inl (1, 256), .inl (2, 5), .inr (16, [29, 30, 31, 0, 0, 0, 0, 0, 0, 32, 33, 34, 35, 0, 0, 0, 36, 37, 38, 0, 0, 0, 0, 0, 39, 40, 41, 42, 43, 44, 45, 46, 47, 48, 49, 50, 51, 52, 53, 54, 55, 56, 0, 0, 0, 57, 58, 59, 60, 61, 62, 63, 0, 64, 65, 66, 67]), .inl (0, 6000), .inl (0, 6000), .inl (0, 400), .inl (1, 6002), .inl (1, 6002), .inl (1, 6002), .inl (2, 6002), .inl (0, 60000), .inl (1, 8000), .inl (1, 8000), .inl (1, 40), .inl (1, 40), .inl (1, 40), .inl (1, 40), .inl (1, 40), .inl (1, 1280), .inl (1, 96), .inl (1, 96), .inl (1, 96), .inl (1, 96), .inl (1, 96), .inl (1, 1152), .inl (1, 480), .inl (1, 480), .inl (1, 15360), .inl (1, 160), .inl (2, 4096), .inl (3, 4096), .inl (1, 6002), .inl (1, 6002), .inl (1, 6002), .inl (1, 6002), .inl (1, 6002), .inl (1, 6002), .inl (1, 6002), .inl (1, 6000), .inl (1, 6000), .inl (1, 5), .inl (2, 5), .inl (2, 1)]
abbrev q_CT : Type := (Nat → Nat → Int32) × (Nat → Nat → Option Nat) × (Nat → Nat → Int32) × (Nat → Nat → Int64) × (Nat → Nat → Option Nat)
abbrev q_MT : Type := (Nat → Int32) × (Nat → Nat → Int32) × (Nat → Nat → Int64)
def q_u1 {α : Type} (f : Nat → α) (k : Nat) (v : α) : Nat → α := fun i => if i = k then v else f i
def q_u2 {α : Type} (f : Nat → Nat → α) (j k : Nat) (v : α) : Nat → Nat → α := fun a => if a = j then q_u1 (f a) k v else f a
theorem q_u1_s {α : Type} (f : Nat → α) (k : Nat) (v : α) : q_u1 f k v k = v := if_pos rfl
theorem q_u1_n {α : Type} (f : Nat → α) {k i : Nat} (v : α) (h : i ≠ k) : q_u1 f k v i = f i := if_neg h
theorem q_u2_s {α : Type} (f : Nat → Nat → α) (j k : Nat) (v : α) : q_u2 f j k v j = q_u1 (f j) k v := if_pos rfl
theorem q_u2_n {α : Type} (f : Nat → Nat → α) {j a : Nat} (k : Nat) (v : α) (h : a ≠ j) : q_u2 f j k v a = f a := if_neg h
/-- an object's fields: 0 an int, 1 a reference that changes, w + 2 the cell b + w for good -/
def q_fl (b : Nat) (i : Nat → Int32) (r : Nat → Option Nat) (l : List Nat) : List Value := l.mapIdx fun k s => if s = 0 then .int (i k) else va_rf (if s = 1 then r k else some (b + (s - 2)))
def q_ic (b : Nat) (C : q_CT) (M : q_MT) (O : Nat → Int64) (j : Nat) : Option q_Cel := (q_tb[j]?).map fun e => match e with
  | .inl p => .inl (p.1, p.2, if p.1 = 2 then .inr (.inl (if j < 26 then C.2.2.2.1 j else if j < 66 then M.2.2 j else O)) else if p.1 < 4 then .inl (if j < 26 then C.2.2.1 j else M.2.1 j) else .inr (.inr (.inr (.inr (C.2.2.2.2 j)))))
  | .inr p => .inr (.inl (p.1, q_fl b (if j = 26 then M.1 else C.1 j) (C.2.1 j) p.2))
def q_H (b : Nat) (C : q_CT) (M : q_MT) (O : Nat → Int64) (D : q_Mem) : q_Mem := fun a => if b < a ∧ a ≤ b + 66 then q_ic b C M O (a - b) else D a
section QHA
variable {β : Type} {b j : Nat} {I : Nat → Nat → Int32} {R : Nat → Nat → Option Nat} {X : Nat → Nat → Int32} {Y : Nat → Nat → Int64} {Z : Nat → Nat → Option Nat} {C C' : q_CT} {M M' : q_MT} {P : Nat → Int32} {Q : Nat → Nat → Int32} {S : Nat → Nat → Int64} {O O' : Nat → Int64} {D : q_Mem} {s : Nat × Nat}
theorem q_H_s (h0 : 0 < j) (h1 : j ≤ 66) : q_H b C M O D (b + j) = q_ic b C M O j := by
  unfold q_H
  rw [if_pos ⟨by omega, by omega⟩, Nat.add_sub_cancel_left]
theorem q_H_d {a : Nat} (h : a ≤ b ∨ b + 66 < a) : q_H b C M O D a = D a := by
  unfold q_H
  rw [if_neg (by omega)]
theorem q_H_up {e : q_Cel} (h0 : 0 < j) (h1 : j ≤ 66) (h2 : q_ic b C' M' O' j = some e) (h3 : ∀ x, x ≠ j → q_ic b C' M' O' x = q_ic b C M O x) : q_up (q_H b C M O D) (b + j) e = q_H b C' M' O' D := by
  funext a
  by_cases ha : a = b + j
  · subst ha
    rw [q_up_s, q_H_s h0 h1, h2]
  · rw [q_up_n _ _ ha]
    unfold q_H
    by_cases hb : b < a ∧ a ≤ b + 66
    · rw [if_pos hb, if_pos hb, h3 _ (by omega)]
    · rw [if_neg hb, if_neg hb]
theorem q_H_upd {a : Nat} {e : q_Cel} (h : a ≤ b ∨ b + 66 < a) : q_up (q_H b C M O D) a e = q_H b C M O (q_up D a e) := by
  funext x
  by_cases hx : x = a
  · subst hx
    rw [q_up_s, q_H_d h, q_up_s]
  · rw [q_up_n _ _ hx]
    unfold q_H
    by_cases hb : b < x ∧ x ≤ b + 66
    · rw [if_pos hb, if_pos hb]
    · rw [if_neg hb, if_neg hb, q_up_n _ _ hx]
theorem q_rd_g {α : Type} {g : q_Mem → Option α} {f : α → q_X β} {m : q_Mem} {v : α} (h : g m = some v) : q_rd g f (m, s) = f v (m, s) := by
  unfold q_rd
  simp only [h]
theorem q_wr_g {g : q_Mem → Option q_Mem} {f : q_X β} {m m' : q_Mem} (h : g m = some m') : q_wr g f (m, s) = f (m', s) := by
  unfold q_wr
  simp only [h]
def q_okF (j ci k x : Nat) : Bool := match q_tb[j]? with
  | some (.inr p) => p.1 == ci && p.2[k]? == some x
  | _ => false
def q_okO (j ci : Nat) : Bool := match q_tb[j]? with
  | some (.inr p) => p.1 == ci
  | _ => false
def q_okA (j t n : Nat) : Bool := match q_tb[j]? with
  | some (.inl p) => p.1 == t && p.2 == n
  | _ => false
theorem q_okF_e {ci k x : Nat} (h : q_okF j ci k x = true) : ∃ l, q_tb[j]? = some (.inr (ci, l)) ∧ l[k]? = some x := by
  unfold q_okF at h
  split at h
  · rename_i p e
    simp only [Bool.and_eq_true, beq_iff_eq] at h
    obtain ⟨p1, p2⟩ := p
    obtain ⟨h1, h2⟩ := h
    subst h1
    exact ⟨p2, e, h2⟩
  · cases h
theorem q_okO_e {ci : Nat} (h : q_okO j ci = true) : ∃ l, q_tb[j]? = some (.inr (ci, l)) := by
  unfold q_okO at h
  split at h
  · rename_i p e
    simp only [beq_iff_eq] at h
    obtain ⟨p1, p2⟩ := p
    subst h
    exact ⟨p2, e⟩
  · cases h
theorem q_okA_e {t n : Nat} (h : q_okA j t n = true) : q_tb[j]? = some (.inl (t, n)) := by
  unfold q_okA at h
  split at h
  · rename_i p e
    simp only [Bool.and_eq_true, beq_iff_eq] at h
    obtain ⟨p1, p2⟩ := p
    obtain ⟨h1, h2⟩ := h
    subst h1; subst h2
    exact e
  · cases h
theorem q_tb_le {e : (Nat × Nat) ⊕ (Nat × List Nat)} (h : q_tb[j]? = some e) : j ≤ 66 := by
  have h1 : j < q_tb.length := (List.getElem?_eq_some_iff.mp h).1
  have h2 : q_tb.length = 67 := rfl
  omega
theorem q_tb_0 {p : Nat × List Nat} (h : q_tb[j]? = some (.inr p)) : 0 < j := by
  rcases Nat.eq_zero_or_pos j with h0 | h0
  · subst h0
    have h1 : q_tb[0]? = some (.inl (1, 0)) := rfl
    rw [h1] at h
    cases h
  · exact h0
theorem q_ic_o {ci : Nat} {l : List Nat} (h : q_tb[j]? = some (.inr (ci, l))) : q_ic b C M O j = some (.inr (.inl (ci, q_fl b (if j = 26 then M.1 else C.1 j) (C.2.1 j) l))) := by
  unfold q_ic
  rw [h]
  rfl
theorem q_ic_a {t n : Nat} (h : q_tb[j]? = some (.inl (t, n))) : q_ic b C M O j = some (.inl (t, n, if t = 2 then .inr (.inl (if j < 26 then C.2.2.2.1 j else if j < 66 then M.2.2 j else O)) else if t < 4 then .inl (if j < 26 then C.2.2.1 j else M.2.1 j) else .inr (.inr (.inr (.inr (C.2.2.2.2 j)))))) := by
  unfold q_ic
  rw [h]
  rfl
theorem q_fs_s {ci : Nat} {l : List Nat} (h : q_tb[j]? = some (.inr (ci, l))) : q_fs (some (b + j)) ci (q_H b C M O D) = some (b + j, q_fl b (if j = 26 then M.1 else C.1 j) (C.2.1 j) l) := by
  have e : q_H b C M O D (b + j) = some (.inr (.inl (ci, q_fl b (if j = 26 then M.1 else C.1 j) (C.2.1 j) l))) := by
    rw [q_H_s (q_tb_0 h) (q_tb_le h), q_ic_o h]
  unfold q_fs
  simp only [e, if_true]
theorem q_fl_g {i : Nat → Int32} {r : Nat → Option Nat} {l : List Nat} {k x : Nat} (h : l[k]? = some x) : (q_fl b i r l)[k]? = some (if x = 0 then .int (i k) else va_rf (if x = 1 then r k else some (b + (x - 2)))) := by
  unfold q_fl
  rw [List.getElem?_mapIdx, h]
  rfl
theorem q_fl_sI {i : Nat → Int32} {r : Nat → Option Nat} {l : List Nat} {k : Nat} {v : Int32} (h : l[k]? = some 0) : (q_fl b i r l).set k (.int v) = q_fl b (q_u1 i k v) r l := by
  have hk : k < l.length := (List.getElem?_eq_some_iff.mp h).1
  apply List.ext_getElem?
  intro x
  rw [List.getElem?_set]
  by_cases e : k = x
  · subst e
    rw [if_pos rfl, q_fl_g h, if_pos (by unfold q_fl; rw [List.length_mapIdx]; exact hk), if_pos rfl, q_u1_s]
  · rw [if_neg e]
    unfold q_fl
    rw [List.getElem?_mapIdx, List.getElem?_mapIdx, q_u1_n _ _ (Ne.symm e)]
theorem q_fl_sR {i : Nat → Int32} {r : Nat → Option Nat} {l : List Nat} {k : Nat} {v : Option Nat} (h : l[k]? = some 1) : (q_fl b i r l).set k (va_rf v) = q_fl b i (q_u1 r k v) l := by
  have hk : k < l.length := (List.getElem?_eq_some_iff.mp h).1
  apply List.ext_getElem?
  intro x
  rw [List.getElem?_set]
  by_cases e : k = x
  · subst e
    rw [if_pos rfl, q_fl_g h, if_pos (by unfold q_fl; rw [List.length_mapIdx]; exact hk), if_neg (by decide), if_pos rfl, q_u1_s]
  · rw [if_neg e]
    unfold q_fl
    rw [List.getElem?_mapIdx, List.getElem?_mapIdx, q_u1_n _ _ (Ne.symm e)]
theorem q_fl_len {i : Nat → Int32} {r : Nat → Option Nat} {l : List Nat} {k x : Nat} (h : l[k]? = some x) : k < (q_fl b i r l).length := by
  unfold q_fl
  rw [List.length_mapIdx]
  exact (List.getElem?_eq_some_iff.mp h).1
theorem q_rd_is {ci : Nat} {f : Unit → q_X β} (h : q_okO j ci = true) : q_rd (q_is (some (b + j)) ci) f (q_H b C M O D, s) = f () (q_H b C M O D, s) := by
  obtain ⟨l, h1⟩ := q_okO_e h
  refine q_rd_g ?_
  unfold q_is
  rw [q_fs_s h1]
  rfl
theorem q_rd_wA {ci k w : Nat} {f : Option Nat → q_X β} (h : q_okF j ci k (w + 2) = true) : q_rd (q_gA (some (b + j)) ci k) f (q_H b C M O D, s) = f (some (b + w)) (q_H b C M O D, s) := by
  obtain ⟨l, h1, h2⟩ := q_okF_e h
  refine q_rd_g ?_
  unfold q_gA
  rw [q_fs_s h1, Option.bind_some, q_fl_g h2, if_neg (by omega), if_neg (by omega), Nat.add_sub_cancel]
  rfl
theorem q_vA_rf (r : Option Nat) : q_vA (va_rf r) = some r := by cases r <;> rfl
theorem q_rd_dA {ci k : Nat} {f : Option Nat → q_X β} (h : q_okF j ci k 1 = true) : q_rd (q_gA (some (b + j)) ci k) f (q_H b (I, R, X, Y, Z) M O D, s) = f (R j k) (q_H b (I, R, X, Y, Z) M O D, s) := by
  obtain ⟨l, h1, h2⟩ := q_okF_e h
  refine q_rd_g ?_
  unfold q_gA
  rw [q_fs_s h1, Option.bind_some, q_fl_g h2, if_neg (by decide), if_pos rfl, Option.bind_some, q_vA_rf]
theorem q_wr_dA {ci k : Nat} {f : q_X β} {r : Option Nat} (h : q_okF j ci k 1 = true) : q_wr (q_pF (some (b + j)) ci k (va_rf r)) f (q_H b (I, R, X, Y, Z) M O D, s) = f (q_H b (I, q_u2 R j k r, X, Y, Z) M O D, s) := by
  obtain ⟨l, h1, h2⟩ := q_okF_e h
  refine q_wr_g ?_
  unfold q_pF
  rw [q_fs_s h1, Option.bind_some, if_pos (q_fl_len h2)]
  refine congrArg some (q_H_up (q_tb_0 h1) (q_tb_le h1) ?_ ?_)
  · rw [q_ic_o h1, q_fl_sR h2]
    simp only [q_u2_s]
  · intro x hx
    unfold q_ic
    simp only [q_u2_n _ _ _ hx]
theorem q_rd_cI {ci k : Nat} {f : Int32 → q_X β} (h : q_okF j ci k 0 = true) (hj : j ≠ 26) : q_rd (q_gI (some (b + j)) ci k) f (q_H b (I, R, X, Y, Z) M O D, s) = f (I j k) (q_H b (I, R, X, Y, Z) M O D, s) := by
  obtain ⟨l, h1, h2⟩ := q_okF_e h
  refine q_rd_g ?_
  unfold q_gI
  rw [q_fs_s h1, Option.bind_some, q_fl_g h2, if_pos rfl, if_neg hj]
  rfl
theorem q_wr_cI {ci k : Nat} {f : q_X β} {v : Int32} (h : q_okF j ci k 0 = true) (hj : j ≠ 26) : q_wr (q_pF (some (b + j)) ci k (.int v)) f (q_H b (I, R, X, Y, Z) M O D, s) = f (q_H b (q_u2 I j k v, R, X, Y, Z) M O D, s) := by
  obtain ⟨l, h1, h2⟩ := q_okF_e h
  refine q_wr_g ?_
  unfold q_pF
  rw [q_fs_s h1, Option.bind_some, if_pos (q_fl_len h2)]
  refine congrArg some (q_H_up (q_tb_0 h1) (q_tb_le h1) ?_ ?_)
  · rw [q_ic_o h1, q_fl_sI h2, if_neg hj, if_neg hj]
    simp only [q_u2_s]
  · intro x hx
    unfold q_ic
    simp only [q_u2_n _ _ _ hx]
theorem q_rd_mI {k : Nat} {f : Int32 → q_X β} (h : q_okF 26 16 k 0 = true) : q_rd (q_gI (some (b + 26)) 16 k) f (q_H b C (P, Q, S) O D, s) = f (P k) (q_H b C (P, Q, S) O D, s) := by
  obtain ⟨l, h1, h2⟩ := q_okF_e h
  refine q_rd_g ?_
  unfold q_gI
  rw [q_fs_s h1, Option.bind_some, q_fl_g h2, if_pos rfl, if_pos rfl]
  rfl
theorem q_wr_mI {k : Nat} {f : q_X β} {v : Int32} (h : q_okF 26 16 k 0 = true) : q_wr (q_pF (some (b + 26)) 16 k (.int v)) f (q_H b C (P, Q, S) O D, s) = f (q_H b C (q_u1 P k v, Q, S) O D, s) := by
  obtain ⟨l, h1, h2⟩ := q_okF_e h
  refine q_wr_g ?_
  unfold q_pF
  rw [q_fs_s h1, Option.bind_some, if_pos (q_fl_len h2)]
  refine congrArg some (q_H_up (q_tb_0 h1) (q_tb_le h1) ?_ ?_)
  · rw [q_ic_o h1, q_fl_sI h2, if_pos rfl, if_pos rfl]
  · intro x hx
    unfold q_ic
    simp only [if_neg hx]
/-! arrays -/
theorem q_ar_s {t n : Nat} (h0 : 0 < j) (h : q_tb[j]? = some (.inl (t, n))) : q_ar (some (b + j)) (q_H b C M O D) = some (b + j, t, n, if t = 2 then .inr (.inl (if j < 26 then C.2.2.2.1 j else if j < 66 then M.2.2 j else O)) else if t < 4 then .inl (if j < 26 then C.2.2.1 j else M.2.1 j) else .inr (.inr (.inr (.inr (C.2.2.2.2 j))))) := by
  have e := (q_H_s (b := b) (C := C) (M := M) (O := O) (D := D) h0 (q_tb_le h)).trans (q_ic_a h)
  unfold q_ar
  simp only [e]
theorem q_rd_ln {n t : Nat} {f : Int32 → q_X β} (h : (match q_tb[j]? with | some (.inl p) => p.1 == t && p.2 == n && decide (0 < j) | _ => false) = true) : q_rd (q_ln (some (b + j))) f (q_H b C M O D, s) = f (nI n) (q_H b C M O D, s) := by
  split at h
  · rename_i p e
    obtain ⟨p1, p2⟩ := p
    simp only [Bool.and_eq_true, beq_iff_eq, decide_eq_true_eq] at h
    refine q_rd_g ?_
    unfold q_ln
    rw [q_ar_s h.2 e, h.1.2]
    rfl
  · cases h
theorem q_nI_b {i n : Nat} (hi : i < n) (hn : n < 2 ^ 31) : ¬ (nI i < 0 ∨ n ≤ i) ∧ (nI i).toNatClampNeg = i := by
  have h2 : (nI i).toNatClampNeg = i := nI_clamp (by omega)
  have h1 := nI_in hi hn
  rw [h2] at h1
  exact ⟨h1, h2⟩
theorem q_rd_cX {t n i : Nat} {f : Int32 → q_X β} (h : q_okA j t n = true) (ht : (t != 2 && decide (t < 4)) = true) (hj : 0 < j ∧ j < 26) (hi : i < n) (hn : n < 2 ^ 31) : q_rd (q_lI t (some (b + j)) (nI i)) f (q_H b (I, R, X, Y, Z) M O D, s) = f (X j i) (q_H b (I, R, X, Y, Z) M O D, s) := by
  simp only [Bool.and_eq_true, bne_iff_ne, decide_eq_true_eq] at ht
  obtain ⟨e1, e2⟩ := q_nI_b hi hn
  refine q_rd_g ?_
  unfold q_lI
  rw [q_ar_s hj.1 (q_okA_e h), if_neg ht.1, if_pos ht.2, if_pos hj.2, Option.bind_some]
  simp only [e1, e2, not_false_eq_true, and_self, if_true]
theorem q_wr_cX {t n i : Nat} {f : q_X β} {v : Int32} (h : q_okA j t n = true) (ht : (t != 2 && decide (t < 4)) = true) (hj : 0 < j ∧ j < 26) (hi : i < n) (hn : n < 2 ^ 31) : q_wr (q_sI t (some (b + j)) (nI i) v) f (q_H b (I, R, X, Y, Z) M O D, s) = f (q_H b (I, R, q_u2 X j i v, Y, Z) M O D, s) := by
  simp only [Bool.and_eq_true, bne_iff_ne, decide_eq_true_eq] at ht
  obtain ⟨e1, e2⟩ := q_nI_b hi hn
  refine q_wr_g ?_
  unfold q_sI
  rw [q_ar_s hj.1 (q_okA_e h), if_neg ht.1, if_pos ht.2, if_pos hj.2, Option.bind_some]
  simp only [e1, e2, not_false_eq_true, and_self, if_true]
  refine congrArg some (q_H_up hj.1 (q_tb_le (q_okA_e h)) ?_ ?_)
  · rw [q_ic_a (q_okA_e h), if_neg ht.1, if_pos ht.2, if_pos hj.2]
    simp only [q_u2_s]
    rfl
  · intro x hx
    unfold q_ic
    simp only [q_u2_n _ _ _ hx]
theorem q_rd_mX {t n i : Nat} {f : Int32 → q_X β} (h : q_okA j t n = true) (ht : (t != 2 && decide (t < 4)) = true) (hj : 26 < j ∧ j < 66) (hi : i < n) (hn : n < 2 ^ 31) : q_rd (q_lI t (some (b + j)) (nI i)) f (q_H b C (P, Q, S) O D, s) = f (Q j i) (q_H b C (P, Q, S) O D, s) := by
  simp only [Bool.and_eq_true, bne_iff_ne, decide_eq_true_eq] at ht
  obtain ⟨e1, e2⟩ := q_nI_b hi hn
  refine q_rd_g ?_
  unfold q_lI
  rw [q_ar_s (by omega) (q_okA_e h), if_neg ht.1, if_pos ht.2, if_neg (by omega), Option.bind_some]
  simp only [e1, e2, not_false_eq_true, and_self, if_true]
theorem q_wr_mX {t n i : Nat} {f : q_X β} {v : Int32} (h : q_okA j t n = true) (ht : (t != 2 && decide (t < 4)) = true) (hj : 26 < j ∧ j < 66) (hi : i < n) (hn : n < 2 ^ 31) : q_wr (q_sI t (some (b + j)) (nI i) v) f (q_H b C (P, Q, S) O D, s) = f (q_H b C (P, q_u2 Q j i v, S) O D, s) := by
  simp only [Bool.and_eq_true, bne_iff_ne, decide_eq_true_eq] at ht
  obtain ⟨e1, e2⟩ := q_nI_b hi hn
  refine q_wr_g ?_
  unfold q_sI
  rw [q_ar_s (by omega) (q_okA_e h), if_neg ht.1, if_pos ht.2, if_neg (by omega), Option.bind_some]
  simp only [e1, e2, not_false_eq_true, and_self, if_true]
  refine congrArg some (q_H_up (by omega) (q_tb_le (q_okA_e h)) ?_ ?_)
  · rw [q_ic_a (q_okA_e h), if_neg ht.1, if_pos ht.2, if_neg (by omega)]
    simp only [q_u2_s]
    rfl
  · intro x hx
    unfold q_ic
    simp only [q_u2_n _ _ _ hx]
theorem q_rd_cY {n i : Nat} {f : Int64 → q_X β} (h : q_okA j 2 n = true) (hj : 0 < j ∧ j < 26) (hi : i < n) (hn : n < 2 ^ 31) : q_rd (q_lL (some (b + j)) (nI i)) f (q_H b (I, R, X, Y, Z) M O D, s) = f (Y j i) (q_H b (I, R, X, Y, Z) M O D, s) := by
  obtain ⟨e1, e2⟩ := q_nI_b hi hn
  refine q_rd_g ?_
  unfold q_lL
  rw [q_ar_s hj.1 (q_okA_e h), if_pos rfl, if_pos hj.2, Option.bind_some]
  simp only [e1, e2, not_false_eq_true, and_self, if_true]
theorem q_wr_cY {n i : Nat} {f : q_X β} {v : Int64} (h : q_okA j 2 n = true) (hj : 0 < j ∧ j < 26) (hi : i < n) (hn : n < 2 ^ 31) : q_wr (q_sL (some (b + j)) (nI i) v) f (q_H b (I, R, X, Y, Z) M O D, s) = f (q_H b (I, R, X, q_u2 Y j i v, Z) M O D, s) := by
  obtain ⟨e1, e2⟩ := q_nI_b hi hn
  refine q_wr_g ?_
  unfold q_sL
  rw [q_ar_s hj.1 (q_okA_e h), if_pos rfl, if_pos hj.2, Option.bind_some]
  simp only [e1, e2, not_false_eq_true, and_self, if_true]
  refine congrArg some (q_H_up hj.1 (q_tb_le (q_okA_e h)) ?_ ?_)
  · rw [q_ic_a (q_okA_e h), if_pos rfl, if_pos hj.2]
    simp only [q_u2_s]
    rfl
  · intro x hx
    unfold q_ic
    simp only [q_u2_n _ _ _ hx]
theorem q_rd_mY {n i : Nat} {f : Int64 → q_X β} (h : q_okA j 2 n = true) (hj : 26 < j ∧ j < 66) (hi : i < n) (hn : n < 2 ^ 31) : q_rd (q_lL (some (b + j)) (nI i)) f (q_H b C (P, Q, S) O D, s) = f (S j i) (q_H b C (P, Q, S) O D, s) := by
  obtain ⟨e1, e2⟩ := q_nI_b hi hn
  refine q_rd_g ?_
  unfold q_lL
  rw [q_ar_s (by omega) (q_okA_e h), if_pos rfl, if_neg (by omega), if_pos hj.2, Option.bind_some]
  simp only [e1, e2, not_false_eq_true, and_self, if_true]
theorem q_wr_mY {n i : Nat} {f : q_X β} {v : Int64} (h : q_okA j 2 n = true) (hj : 26 < j ∧ j < 66) (hi : i < n) (hn : n < 2 ^ 31) : q_wr (q_sL (some (b + j)) (nI i) v) f (q_H b C (P, Q, S) O D, s) = f (q_H b C (P, Q, q_u2 S j i v) O D, s) := by
  obtain ⟨e1, e2⟩ := q_nI_b hi hn
  refine q_wr_g ?_
  unfold q_sL
  rw [q_ar_s (by omega) (q_okA_e h), if_pos rfl, if_neg (by omega), if_pos hj.2, Option.bind_some]
  simp only [e1, e2, not_false_eq_true, and_self, if_true]
  refine congrArg some (q_H_up (by omega) (q_tb_le (q_okA_e h)) ?_ ?_)
  · rw [q_ic_a (q_okA_e h), if_pos rfl, if_neg (by omega), if_pos hj.2]
    simp only [q_u2_s]
    rfl
  · intro x hx
    unfold q_ic
    simp only [q_u2_n _ _ _ hx]
theorem q_rd_oY {i : Nat} {f : Int64 → q_X β} (hi : i < 1) : q_rd (q_lL (some (b + 66)) (nI i)) f (q_H b C M O D, s) = f (O i) (q_H b C M O D, s) := by
  obtain ⟨e1, e2⟩ := q_nI_b hi (by decide)
  refine q_rd_g ?_
  unfold q_lL
  rw [q_ar_s (t := 2) (n := 1) (by decide) rfl, if_pos rfl, if_neg (by decide), if_neg (by decide), Option.bind_some]
  simp only [e1, e2, not_false_eq_true, and_self, if_true]
theorem q_wr_oY {i : Nat} {f : q_X β} {v : Int64} (hi : i < 1) : q_wr (q_sL (some (b + 66)) (nI i) v) f (q_H b C M O D, s) = f (q_H b C M (q_u1 O i v) D, s) := by
  obtain ⟨e1, e2⟩ := q_nI_b hi (by decide)
  refine q_wr_g ?_
  unfold q_sL
  rw [q_ar_s (t := 2) (n := 1) (by decide) rfl, if_pos rfl, if_neg (by decide), if_neg (by decide), Option.bind_some]
  simp only [e1, e2, not_false_eq_true, and_self, if_true]
  refine congrArg some (q_H_up (by decide) (by decide) ?_ ?_)
  · rw [q_ic_a (t := 2) (n := 1) rfl, if_pos rfl, if_neg (by decide), if_neg (by decide)]
    rfl
  · intro x hx
    have hx2 : ∀ {e : (Nat × Nat) ⊕ (Nat × List Nat)}, q_tb[x]? = some e → x < 66 := fun h => by
      have := q_tb_le h
      omega
    unfold q_ic
    cases h : q_tb[x]? with
    | none => rfl
    | some e =>
      have h9 := hx2 h
      simp only [if_pos h9]
theorem q_rd_cZ {t n i : Nat} {f : Option Nat → q_X β} (h : q_okA j t n = true) (ht : 4 ≤ t) (hj : 0 < j ∧ j < 26) (hi : i < n) (hn : n < 2 ^ 31) : q_rd (q_lA t (some (b + j)) (nI i)) f (q_H b (I, R, X, Y, Z) M O D, s) = f (Z j i) (q_H b (I, R, X, Y, Z) M O D, s) := by
  obtain ⟨e1, e2⟩ := q_nI_b hi hn
  refine q_rd_g ?_
  unfold q_lA
  rw [q_ar_s hj.1 (q_okA_e h), if_neg (by omega), if_neg (by omega), Option.bind_some]
  simp only [e1, e2, not_false_eq_true, and_self, if_true]
/-! cells that aren't of the table -/
theorem q_fs_d {a ci : Nat} (h : a ≤ b ∨ b + 66 < a) : q_fs (some a) ci (q_H b C M O D) = q_fs (some a) ci D := by
  unfold q_fs
  simp only [q_H_d h]
theorem q_ar_d {a : Nat} (h : a ≤ b ∨ b + 66 < a) : q_ar (some a) (q_H b C M O D) = q_ar (some a) D := by
  unfold q_ar
  simp only [q_H_d h]
theorem q_sp_d {a k : Nat} (h : a ≤ b ∨ b + 66 < a) : q_sp (some a) k (q_H b C M O D) = q_sp (some a) k D := by
  unfold q_sp
  simp only [q_H_d h]
theorem q_mk_H {e : q_Cel} {n na m : Nat} {f : Nat → q_X β} (h : b + 66 < na) : q_mk e n f (q_H b C M O D, na, m) = f na (q_H b C M O (q_up D na e), na + 1, m + n) := by
  unfold q_mk
  rw [q_H_upd (Or.inr h)]
theorem q_sA_s {t n i : Nat} {v : Option Nat} (h : q_okA j t n = true) (ht : 4 ≤ t) (hj : 0 < j ∧ j < 26) (hi : i < n) (hn : n < 2 ^ 31) : q_sA t (some (b + j)) (nI i) v (q_H b (I, R, X, Y, Z) M O D) = some (q_H b (I, R, X, Y, q_u2 Z j i v) M O D) := by
  obtain ⟨e1, e2⟩ := q_nI_b hi hn
  unfold q_sA
  rw [q_ar_s hj.1 (q_okA_e h), if_neg (by omega), if_neg (by omega), Option.bind_some]
  simp only [e1, e2, not_false_eq_true, and_self, if_true]
  refine congrArg some (q_H_up hj.1 (q_tb_le (q_okA_e h)) ?_ ?_)
  · rw [q_ic_a (q_okA_e h), if_neg (by omega), if_neg (by omega)]
    simp only [q_u2_s]
    rfl
  · intro x hx
    unfold q_ic
    simp only [q_u2_n _ _ _ hx]
end QHA
section QHW
variable {β : Type} {b : Nat} {I : Nat → Nat → Int32} {R : Nat → Nat → Option Nat} {X : Nat → Nat → Int32} {Y : Nat → Nat → Int64} {Z : Nat → Nat → Option Nat} {C : q_CT} {M : q_MT} {P : Nat → Int32} {Q : Nat → Nat → Int32} {S : Nat → Nat → Int64} {O : Nat → Int64} {D : q_Mem} {s : Nat × Nat}
theorem q_is_1 {f : Unit → q_X β} : q_rd (q_is (some (b + 1)) 14) f (q_H b C M O D, s) = f () (q_H b C M O D, s) := q_rd_is (j := 1) rfl
theorem q_gA_1_0 {f : Option Nat → q_X β} : q_rd (q_gA (some (b + 1)) 14 0) f (q_H b C M O D, s) = f (some (b + 2)) (q_H b C M O D, s) := q_rd_wA (j := 1) rfl
theorem q_gA_1_1 {f : Option Nat → q_X β} : q_rd (q_gA (some (b + 1)) 14 1) f (q_H b C M O D, s) = f (some (b + 14)) (q_H b C M O D, s) := q_rd_wA (j := 1) rfl
theorem q_gA_1_2 {f : Option Nat → q_X β} : q_rd (q_gA (some (b + 1)) 14 2) f (q_H b C M O D, s) = f (some (b + 8)) (q_H b C M O D, s) := q_rd_wA (j := 1) rfl
theorem q_gA_1_3 {f : Option Nat → q_X β} : q_rd (q_gA (some (b + 1)) 14 3) f (q_H b C M O D, s) = f (some (b + 11)) (q_H b C M O D, s) := q_rd_wA (j := 1) rfl
theorem q_gA_1_4 {f : Option Nat → q_X β} : q_rd (q_gA (some (b + 1)) 14 4) f (q_H b C M O D, s) = f (some (b + 19)) (q_H b C M O D, s) := q_rd_wA (j := 1) rfl
theorem q_gA_1_5 {f : Option Nat → q_X β} : q_rd (q_gA (some (b + 1)) 14 5) f (q_H b C M O D, s) = f (some (b + 21)) (q_H b C M O D, s) := q_rd_wA (j := 1) rfl
theorem q_gA_1_6 {f : Option Nat → q_X β} : q_rd (q_gA (some (b + 1)) 14 6) f (q_H b C M O D, s) = f (some (b + 15)) (q_H b C M O D, s) := q_rd_wA (j := 1) rfl
theorem q_is_2 {f : Unit → q_X β} : q_rd (q_is (some (b + 2)) 13) f (q_H b C M O D, s) = f () (q_H b C M O D, s) := q_rd_is (j := 2) rfl
theorem q_gA_2_0 {f : Option Nat → q_X β} : q_rd (q_gA (some (b + 2)) 13 0) f (q_H b C M O D, s) = f (some (b + 3)) (q_H b C M O D, s) := q_rd_wA (j := 2) rfl
theorem q_gA_2_1 {f : Option Nat → q_X β} : q_rd (q_gA (some (b + 2)) 13 1) f (q_H b C M O D, s) = f (some (b + 4)) (q_H b C M O D, s) := q_rd_wA (j := 2) rfl
theorem q_gA_2_2 {f : Option Nat → q_X β} : q_rd (q_gA (some (b + 2)) 13 2) f (q_H b C M O D, s) = f (some (b + 5)) (q_H b C M O D, s) := q_rd_wA (j := 2) rfl
theorem q_gA_2_3 {f : Option Nat → q_X β} : q_rd (q_gA (some (b + 2)) 13 3) f (q_H b C M O D, s) = f (some (b + 6)) (q_H b C M O D, s) := q_rd_wA (j := 2) rfl
theorem q_gA_2_4 {f : Option Nat → q_X β} : q_rd (q_gA (some (b + 2)) 13 4) f (q_H b C M O D, s) = f (some (b + 7)) (q_H b C M O D, s) := q_rd_wA (j := 2) rfl
theorem q_gI_2_5 {f : Int32 → q_X β} : q_rd (q_gI (some (b + 2)) 13 5) f (q_H b (I, R, X, Y, Z) M O D, s) = f (I 2 5) (q_H b (I, R, X, Y, Z) M O D, s) := q_rd_cI (j := 2) rfl (by decide)
theorem q_pI_2_5 {f : q_X β} {v : Int32} : q_wr (q_pF (some (b + 2)) 13 5 (.int v)) f (q_H b (I, R, X, Y, Z) M O D, s) = f (q_H b (q_u2 I 2 5 v, R, X, Y, Z) M O D, s) := q_wr_cI (j := 2) rfl (by decide)
theorem q_gI_2_6 {f : Int32 → q_X β} : q_rd (q_gI (some (b + 2)) 13 6) f (q_H b (I, R, X, Y, Z) M O D, s) = f (I 2 6) (q_H b (I, R, X, Y, Z) M O D, s) := q_rd_cI (j := 2) rfl (by decide)
theorem q_pI_2_6 {f : q_X β} {v : Int32} : q_wr (q_pF (some (b + 2)) 13 6 (.int v)) f (q_H b (I, R, X, Y, Z) M O D, s) = f (q_H b (q_u2 I 2 6 v, R, X, Y, Z) M O D, s) := q_wr_cI (j := 2) rfl (by decide)
theorem q_ln_3 {f : Int32 → q_X β} : q_rd (q_ln (some (b + 3))) f (q_H b C M O D, s) = f (nI 6000) (q_H b C M O D, s) := q_rd_ln (j := 3) (n := 6000) (t := 0) rfl
theorem q_lI_3 {f : Int32 → q_X β} {i : Nat} (h : i < 6000) : q_rd (q_lI 0 (some (b + 3)) (nI i)) f (q_H b (I, R, X, Y, Z) M O D, s) = f (X 3 i) (q_H b (I, R, X, Y, Z) M O D, s) := q_rd_cX (j := 3) (n := 6000) rfl rfl (by decide) h (by decide)
theorem q_sI_3 {f : q_X β} {i : Nat} {v : Int32} (h : i < 6000) : q_wr (q_sI 0 (some (b + 3)) (nI i) v) f (q_H b (I, R, X, Y, Z) M O D, s) = f (q_H b (I, R, q_u2 X 3 i v, Y, Z) M O D, s) := q_wr_cX (j := 3) (n := 6000) rfl rfl (by decide) h (by decide)
theorem q_ln_4 {f : Int32 → q_X β} : q_rd (q_ln (some (b + 4))) f (q_H b C M O D, s) = f (nI 6003) (q_H b C M O D, s) := q_rd_ln (j := 4) (n := 6003) (t := 0) rfl
theorem q_lI_4 {f : Int32 → q_X β} {i : Nat} (h : i < 6003) : q_rd (q_lI 0 (some (b + 4)) (nI i)) f (q_H b (I, R, X, Y, Z) M O D, s) = f (X 4 i) (q_H b (I, R, X, Y, Z) M O D, s) := q_rd_cX (j := 4) (n := 6003) rfl rfl (by decide) h (by decide)
theorem q_sI_4 {f : q_X β} {i : Nat} {v : Int32} (h : i < 6003) : q_wr (q_sI 0 (some (b + 4)) (nI i) v) f (q_H b (I, R, X, Y, Z) M O D, s) = f (q_H b (I, R, q_u2 X 4 i v, Y, Z) M O D, s) := q_wr_cX (j := 4) (n := 6003) rfl rfl (by decide) h (by decide)
theorem q_ln_5 {f : Int32 → q_X β} : q_rd (q_ln (some (b + 5))) f (q_H b C M O D, s) = f (nI 6003) (q_H b C M O D, s) := q_rd_ln (j := 5) (n := 6003) (t := 1) rfl
theorem q_lI_5 {f : Int32 → q_X β} {i : Nat} (h : i < 6003) : q_rd (q_lI 1 (some (b + 5)) (nI i)) f (q_H b (I, R, X, Y, Z) M O D, s) = f (X 5 i) (q_H b (I, R, X, Y, Z) M O D, s) := q_rd_cX (j := 5) (n := 6003) rfl rfl (by decide) h (by decide)
theorem q_sI_5 {f : q_X β} {i : Nat} {v : Int32} (h : i < 6003) : q_wr (q_sI 1 (some (b + 5)) (nI i) v) f (q_H b (I, R, X, Y, Z) M O D, s) = f (q_H b (I, R, q_u2 X 5 i v, Y, Z) M O D, s) := q_wr_cX (j := 5) (n := 6003) rfl rfl (by decide) h (by decide)
theorem q_ln_6 {f : Int32 → q_X β} : q_rd (q_ln (some (b + 6))) f (q_H b C M O D, s) = f (nI 6003) (q_H b C M O D, s) := q_rd_ln (j := 6) (n := 6003) (t := 1) rfl
theorem q_lI_6 {f : Int32 → q_X β} {i : Nat} (h : i < 6003) : q_rd (q_lI 1 (some (b + 6)) (nI i)) f (q_H b (I, R, X, Y, Z) M O D, s) = f (X 6 i) (q_H b (I, R, X, Y, Z) M O D, s) := q_rd_cX (j := 6) (n := 6003) rfl rfl (by decide) h (by decide)
theorem q_sI_6 {f : q_X β} {i : Nat} {v : Int32} (h : i < 6003) : q_wr (q_sI 1 (some (b + 6)) (nI i) v) f (q_H b (I, R, X, Y, Z) M O D, s) = f (q_H b (I, R, q_u2 X 6 i v, Y, Z) M O D, s) := q_wr_cX (j := 6) (n := 6003) rfl rfl (by decide) h (by decide)
theorem q_ln_7 {f : Int32 → q_X β} : q_rd (q_ln (some (b + 7))) f (q_H b C M O D, s) = f (nI 6003) (q_H b C M O D, s) := q_rd_ln (j := 7) (n := 6003) (t := 2) rfl
theorem q_lL_7 {f : Int64 → q_X β} {i : Nat} (h : i < 6003) : q_rd (q_lL (some (b + 7)) (nI i)) f (q_H b (I, R, X, Y, Z) M O D, s) = f (Y 7 i) (q_H b (I, R, X, Y, Z) M O D, s) := q_rd_cY (j := 7) (n := 6003) rfl (by decide) h (by decide)
theorem q_sL_7 {f : q_X β} {i : Nat} {v : Int64} (h : i < 6003) : q_wr (q_sL (some (b + 7)) (nI i) v) f (q_H b (I, R, X, Y, Z) M O D, s) = f (q_H b (I, R, X, q_u2 Y 7 i v, Z) M O D, s) := q_wr_cY (j := 7) (n := 6003) rfl (by decide) h (by decide)
theorem q_is_8 {f : Unit → q_X β} : q_rd (q_is (some (b + 8)) 8) f (q_H b C M O D, s) = f () (q_H b C M O D, s) := q_rd_is (j := 8) rfl
theorem q_gA_8_0 {f : Option Nat → q_X β} : q_rd (q_gA (some (b + 8)) 8 0) f (q_H b C M O D, s) = f (some (b + 9)) (q_H b C M O D, s) := q_rd_wA (j := 8) rfl
theorem q_gA_8_1 {f : Option Nat → q_X β} : q_rd (q_gA (some (b + 8)) 8 1) f (q_H b C M O D, s) = f (some (b + 10)) (q_H b C M O D, s) := q_rd_wA (j := 8) rfl
theorem q_gI_8_2 {f : Int32 → q_X β} : q_rd (q_gI (some (b + 8)) 8 2) f (q_H b (I, R, X, Y, Z) M O D, s) = f (I 8 2) (q_H b (I, R, X, Y, Z) M O D, s) := q_rd_cI (j := 8) rfl (by decide)
theorem q_pI_8_2 {f : q_X β} {v : Int32} : q_wr (q_pF (some (b + 8)) 8 2 (.int v)) f (q_H b (I, R, X, Y, Z) M O D, s) = f (q_H b (q_u2 I 8 2 v, R, X, Y, Z) M O D, s) := q_wr_cI (j := 8) rfl (by decide)
theorem q_gI_8_3 {f : Int32 → q_X β} : q_rd (q_gI (some (b + 8)) 8 3) f (q_H b (I, R, X, Y, Z) M O D, s) = f (I 8 3) (q_H b (I, R, X, Y, Z) M O D, s) := q_rd_cI (j := 8) rfl (by decide)
theorem q_pI_8_3 {f : q_X β} {v : Int32} : q_wr (q_pF (some (b + 8)) 8 3 (.int v)) f (q_H b (I, R, X, Y, Z) M O D, s) = f (q_H b (q_u2 I 8 3 v, R, X, Y, Z) M O D, s) := q_wr_cI (j := 8) rfl (by decide)
theorem q_gI_8_4 {f : Int32 → q_X β} : q_rd (q_gI (some (b + 8)) 8 4) f (q_H b (I, R, X, Y, Z) M O D, s) = f (I 8 4) (q_H b (I, R, X, Y, Z) M O D, s) := q_rd_cI (j := 8) rfl (by decide)
theorem q_pI_8_4 {f : q_X β} {v : Int32} : q_wr (q_pF (some (b + 8)) 8 4 (.int v)) f (q_H b (I, R, X, Y, Z) M O D, s) = f (q_H b (q_u2 I 8 4 v, R, X, Y, Z) M O D, s) := q_wr_cI (j := 8) rfl (by decide)
theorem q_ln_9 {f : Int32 → q_X β} : q_rd (q_ln (some (b + 9))) f (q_H b C M O D, s) = f (nI 40) (q_H b C M O D, s) := q_rd_ln (j := 9) (n := 40) (t := 5) rfl
theorem q_lA_9 {f : Option Nat → q_X β} {i : Nat} (h : i < 40) : q_rd (q_lA 5 (some (b + 9)) (nI i)) f (q_H b (I, R, X, Y, Z) M O D, s) = f (Z 9 i) (q_H b (I, R, X, Y, Z) M O D, s) := q_rd_cZ (j := 9) (n := 40) rfl (by decide) (by decide) h (by decide)
theorem q_ln_10 {f : Int32 → q_X β} : q_rd (q_ln (some (b + 10))) f (q_H b C M O D, s) = f (nI 96) (q_H b C M O D, s) := q_rd_ln (j := 10) (n := 96) (t := 4) rfl
theorem q_lA_10 {f : Option Nat → q_X β} {i : Nat} (h : i < 96) : q_rd (q_lA 4 (some (b + 10)) (nI i)) f (q_H b (I, R, X, Y, Z) M O D, s) = f (Z 10 i) (q_H b (I, R, X, Y, Z) M O D, s) := q_rd_cZ (j := 10) (n := 96) rfl (by decide) (by decide) h (by decide)
theorem q_is_11 {f : Unit → q_X β} : q_rd (q_is (some (b + 11)) 9) f (q_H b C M O D, s) = f () (q_H b C M O D, s) := q_rd_is (j := 11) rfl
theorem q_gA_11_0 {f : Option Nat → q_X β} : q_rd (q_gA (some (b + 11)) 9 0) f (q_H b C M O D, s) = f (some (b + 12)) (q_H b C M O D, s) := q_rd_wA (j := 11) rfl
theorem q_gA_11_1 {f : Option Nat → q_X β} : q_rd (q_gA (some (b + 11)) 9 1) f (q_H b C M O D, s) = f (some (b + 13)) (q_H b C M O D, s) := q_rd_wA (j := 11) rfl
theorem q_gI_11_2 {f : Int32 → q_X β} : q_rd (q_gI (some (b + 11)) 9 2) f (q_H b (I, R, X, Y, Z) M O D, s) = f (I 11 2) (q_H b (I, R, X, Y, Z) M O D, s) := q_rd_cI (j := 11) rfl (by decide)
theorem q_pI_11_2 {f : q_X β} {v : Int32} : q_wr (q_pF (some (b + 11)) 9 2 (.int v)) f (q_H b (I, R, X, Y, Z) M O D, s) = f (q_H b (q_u2 I 11 2 v, R, X, Y, Z) M O D, s) := q_wr_cI (j := 11) rfl (by decide)
theorem q_ln_12 {f : Int32 → q_X β} : q_rd (q_ln (some (b + 12))) f (q_H b C M O D, s) = f (nI 4096) (q_H b C M O D, s) := q_rd_ln (j := 12) (n := 4096) (t := 2) rfl
theorem q_lL_12 {f : Int64 → q_X β} {i : Nat} (h : i < 4096) : q_rd (q_lL (some (b + 12)) (nI i)) f (q_H b (I, R, X, Y, Z) M O D, s) = f (Y 12 i) (q_H b (I, R, X, Y, Z) M O D, s) := q_rd_cY (j := 12) (n := 4096) rfl (by decide) h (by decide)
theorem q_sL_12 {f : q_X β} {i : Nat} {v : Int64} (h : i < 4096) : q_wr (q_sL (some (b + 12)) (nI i) v) f (q_H b (I, R, X, Y, Z) M O D, s) = f (q_H b (I, R, X, q_u2 Y 12 i v, Z) M O D, s) := q_wr_cY (j := 12) (n := 4096) rfl (by decide) h (by decide)
theorem q_ln_13 {f : Int32 → q_X β} : q_rd (q_ln (some (b + 13))) f (q_H b C M O D, s) = f (nI 4096) (q_H b C M O D, s) := q_rd_ln (j := 13) (n := 4096) (t := 3) rfl
theorem q_lI_13 {f : Int32 → q_X β} {i : Nat} (h : i < 4096) : q_rd (q_lI 3 (some (b + 13)) (nI i)) f (q_H b (I, R, X, Y, Z) M O D, s) = f (X 13 i) (q_H b (I, R, X, Y, Z) M O D, s) := q_rd_cX (j := 13) (n := 4096) rfl rfl (by decide) h (by decide)
theorem q_sI_13 {f : q_X β} {i : Nat} {v : Int32} (h : i < 4096) : q_wr (q_sI 3 (some (b + 13)) (nI i) v) f (q_H b (I, R, X, Y, Z) M O D, s) = f (q_H b (I, R, q_u2 X 13 i v, Y, Z) M O D, s) := q_wr_cX (j := 13) (n := 4096) rfl rfl (by decide) h (by decide)
theorem q_is_14 {f : Unit → q_X β} : q_rd (q_is (some (b + 14)) 12) f (q_H b C M O D, s) = f () (q_H b C M O D, s) := q_rd_is (j := 14) rfl
theorem q_gA_14_0 {f : Option Nat → q_X β} : q_rd (q_gA (some (b + 14)) 12 0) f (q_H b C M O D, s) = f (some (b + 2)) (q_H b C M O D, s) := q_rd_wA (j := 14) rfl
theorem q_gI_14_1 {f : Int32 → q_X β} : q_rd (q_gI (some (b + 14)) 12 1) f (q_H b (I, R, X, Y, Z) M O D, s) = f (I 14 1) (q_H b (I, R, X, Y, Z) M O D, s) := q_rd_cI (j := 14) rfl (by decide)
theorem q_pI_14_1 {f : q_X β} {v : Int32} : q_wr (q_pF (some (b + 14)) 12 1 (.int v)) f (q_H b (I, R, X, Y, Z) M O D, s) = f (q_H b (q_u2 I 14 1 v, R, X, Y, Z) M O D, s) := q_wr_cI (j := 14) rfl (by decide)
theorem q_gI_14_2 {f : Int32 → q_X β} : q_rd (q_gI (some (b + 14)) 12 2) f (q_H b (I, R, X, Y, Z) M O D, s) = f (I 14 2) (q_H b (I, R, X, Y, Z) M O D, s) := q_rd_cI (j := 14) rfl (by decide)
theorem q_pI_14_2 {f : q_X β} {v : Int32} : q_wr (q_pF (some (b + 14)) 12 2 (.int v)) f (q_H b (I, R, X, Y, Z) M O D, s) = f (q_H b (q_u2 I 14 2 v, R, X, Y, Z) M O D, s) := q_wr_cI (j := 14) rfl (by decide)
theorem q_gI_14_3 {f : Int32 → q_X β} : q_rd (q_gI (some (b + 14)) 12 3) f (q_H b (I, R, X, Y, Z) M O D, s) = f (I 14 3) (q_H b (I, R, X, Y, Z) M O D, s) := q_rd_cI (j := 14) rfl (by decide)
theorem q_pI_14_3 {f : q_X β} {v : Int32} : q_wr (q_pF (some (b + 14)) 12 3 (.int v)) f (q_H b (I, R, X, Y, Z) M O D, s) = f (q_H b (q_u2 I 14 3 v, R, X, Y, Z) M O D, s) := q_wr_cI (j := 14) rfl (by decide)
theorem q_is_15 {f : Unit → q_X β} : q_rd (q_is (some (b + 15)) 7) f (q_H b C M O D, s) = f () (q_H b C M O D, s) := q_rd_is (j := 15) rfl
theorem q_gA_15_0 {f : Option Nat → q_X β} : q_rd (q_gA (some (b + 15)) 7 0) f (q_H b C M O D, s) = f (some (b + 8)) (q_H b C M O D, s) := q_rd_wA (j := 15) rfl
theorem q_gA_15_1 {f : Option Nat → q_X β} : q_rd (q_gA (some (b + 15)) 7 1) f (q_H b C M O D, s) = f (some (b + 11)) (q_H b C M O D, s) := q_rd_wA (j := 15) rfl
theorem q_gA_15_2 {f : Option Nat → q_X β} : q_rd (q_gA (some (b + 15)) 7 2) f (q_H b C M O D, s) = f (some (b + 16)) (q_H b C M O D, s) := q_rd_wA (j := 15) rfl
theorem q_gA_15_3 {f : Option Nat → q_X β} : q_rd (q_gA (some (b + 15)) 7 3) f (q_H b C M O D, s) = f (some (b + 17)) (q_H b C M O D, s) := q_rd_wA (j := 15) rfl
theorem q_gA_15_4 {f : Option Nat → q_X β} : q_rd (q_gA (some (b + 15)) 7 4) f (q_H b C M O D, s) = f (some (b + 18)) (q_H b C M O D, s) := q_rd_wA (j := 15) rfl
theorem q_gI_15_5 {f : Int32 → q_X β} : q_rd (q_gI (some (b + 15)) 7 5) f (q_H b (I, R, X, Y, Z) M O D, s) = f (I 15 5) (q_H b (I, R, X, Y, Z) M O D, s) := q_rd_cI (j := 15) rfl (by decide)
theorem q_pI_15_5 {f : q_X β} {v : Int32} : q_wr (q_pF (some (b + 15)) 7 5 (.int v)) f (q_H b (I, R, X, Y, Z) M O D, s) = f (q_H b (q_u2 I 15 5 v, R, X, Y, Z) M O D, s) := q_wr_cI (j := 15) rfl (by decide)
theorem q_gI_15_6 {f : Int32 → q_X β} : q_rd (q_gI (some (b + 15)) 7 6) f (q_H b (I, R, X, Y, Z) M O D, s) = f (I 15 6) (q_H b (I, R, X, Y, Z) M O D, s) := q_rd_cI (j := 15) rfl (by decide)
theorem q_pI_15_6 {f : q_X β} {v : Int32} : q_wr (q_pF (some (b + 15)) 7 6 (.int v)) f (q_H b (I, R, X, Y, Z) M O D, s) = f (q_H b (q_u2 I 15 6 v, R, X, Y, Z) M O D, s) := q_wr_cI (j := 15) rfl (by decide)
theorem q_ln_16 {f : Int32 → q_X β} : q_rd (q_ln (some (b + 16))) f (q_H b C M O D, s) = f (nI 5) (q_H b C M O D, s) := q_rd_ln (j := 16) (n := 5) (t := 2) rfl
theorem q_lL_16 {f : Int64 → q_X β} {i : Nat} (h : i < 5) : q_rd (q_lL (some (b + 16)) (nI i)) f (q_H b (I, R, X, Y, Z) M O D, s) = f (Y 16 i) (q_H b (I, R, X, Y, Z) M O D, s) := q_rd_cY (j := 16) (n := 5) rfl (by decide) h (by decide)
theorem q_sL_16 {f : q_X β} {i : Nat} {v : Int64} (h : i < 5) : q_wr (q_sL (some (b + 16)) (nI i) v) f (q_H b (I, R, X, Y, Z) M O D, s) = f (q_H b (I, R, X, q_u2 Y 16 i v, Z) M O D, s) := q_wr_cY (j := 16) (n := 5) rfl (by decide) h (by decide)
theorem q_ln_17 {f : Int32 → q_X β} : q_rd (q_ln (some (b + 17))) f (q_H b C M O D, s) = f (nI 20) (q_H b C M O D, s) := q_rd_ln (j := 17) (n := 20) (t := 0) rfl
theorem q_lI_17 {f : Int32 → q_X β} {i : Nat} (h : i < 20) : q_rd (q_lI 0 (some (b + 17)) (nI i)) f (q_H b (I, R, X, Y, Z) M O D, s) = f (X 17 i) (q_H b (I, R, X, Y, Z) M O D, s) := q_rd_cX (j := 17) (n := 20) rfl rfl (by decide) h (by decide)
theorem q_sI_17 {f : q_X β} {i : Nat} {v : Int32} (h : i < 20) : q_wr (q_sI 0 (some (b + 17)) (nI i) v) f (q_H b (I, R, X, Y, Z) M O D, s) = f (q_H b (I, R, q_u2 X 17 i v, Y, Z) M O D, s) := q_wr_cX (j := 17) (n := 20) rfl rfl (by decide) h (by decide)
theorem q_ln_18 {f : Int32 → q_X β} : q_rd (q_ln (some (b + 18))) f (q_H b C M O D, s) = f (nI 200) (q_H b C M O D, s) := q_rd_ln (j := 18) (n := 200) (t := 0) rfl
theorem q_lI_18 {f : Int32 → q_X β} {i : Nat} (h : i < 200) : q_rd (q_lI 0 (some (b + 18)) (nI i)) f (q_H b (I, R, X, Y, Z) M O D, s) = f (X 18 i) (q_H b (I, R, X, Y, Z) M O D, s) := q_rd_cX (j := 18) (n := 200) rfl rfl (by decide) h (by decide)
theorem q_sI_18 {f : q_X β} {i : Nat} {v : Int32} (h : i < 200) : q_wr (q_sI 0 (some (b + 18)) (nI i) v) f (q_H b (I, R, X, Y, Z) M O D, s) = f (q_H b (I, R, q_u2 X 18 i v, Y, Z) M O D, s) := q_wr_cX (j := 18) (n := 200) rfl rfl (by decide) h (by decide)
theorem q_is_19 {f : Unit → q_X β} : q_rd (q_is (some (b + 19)) 3) f (q_H b C M O D, s) = f () (q_H b C M O D, s) := q_rd_is (j := 19) rfl
theorem q_gA_19_0 {f : Option Nat → q_X β} : q_rd (q_gA (some (b + 19)) 3 0) f (q_H b C M O D, s) = f (some (b + 14)) (q_H b C M O D, s) := q_rd_wA (j := 19) rfl
theorem q_gA_19_1 {f : Option Nat → q_X β} : q_rd (q_gA (some (b + 19)) 3 1) f (q_H b C M O D, s) = f (some (b + 2)) (q_H b C M O D, s) := q_rd_wA (j := 19) rfl
theorem q_gA_19_2 {f : Option Nat → q_X β} : q_rd (q_gA (some (b + 19)) 3 2) f (q_H b C M O D, s) = f (some (b + 8)) (q_H b C M O D, s) := q_rd_wA (j := 19) rfl
theorem q_gA_19_3 {f : Option Nat → q_X β} : q_rd (q_gA (some (b + 19)) 3 3) f (q_H b (I, R, X, Y, Z) M O D, s) = f (R 19 3) (q_H b (I, R, X, Y, Z) M O D, s) := q_rd_dA (j := 19) rfl
theorem q_pA_19_3 {f : q_X β} {r : Option Nat} : q_wr (q_pF (some (b + 19)) 3 3 (va_rf r)) f (q_H b (I, R, X, Y, Z) M O D, s) = f (q_H b (I, q_u2 R 19 3 r, X, Y, Z) M O D, s) := q_wr_dA (j := 19) rfl
theorem q_gI_19_4 {f : Int32 → q_X β} : q_rd (q_gI (some (b + 19)) 3 4) f (q_H b (I, R, X, Y, Z) M O D, s) = f (I 19 4) (q_H b (I, R, X, Y, Z) M O D, s) := q_rd_cI (j := 19) rfl (by decide)
theorem q_pI_19_4 {f : q_X β} {v : Int32} : q_wr (q_pF (some (b + 19)) 3 4 (.int v)) f (q_H b (I, R, X, Y, Z) M O D, s) = f (q_H b (q_u2 I 19 4 v, R, X, Y, Z) M O D, s) := q_wr_cI (j := 19) rfl (by decide)
theorem q_gA_19_5 {f : Option Nat → q_X β} : q_rd (q_gA (some (b + 19)) 3 5) f (q_H b C M O D, s) = f (some (b + 20)) (q_H b C M O D, s) := q_rd_wA (j := 19) rfl
theorem q_gI_19_6 {f : Int32 → q_X β} : q_rd (q_gI (some (b + 19)) 3 6) f (q_H b (I, R, X, Y, Z) M O D, s) = f (I 19 6) (q_H b (I, R, X, Y, Z) M O D, s) := q_rd_cI (j := 19) rfl (by decide)
theorem q_pI_19_6 {f : q_X β} {v : Int32} : q_wr (q_pF (some (b + 19)) 3 6 (.int v)) f (q_H b (I, R, X, Y, Z) M O D, s) = f (q_H b (q_u2 I 19 6 v, R, X, Y, Z) M O D, s) := q_wr_cI (j := 19) rfl (by decide)
theorem q_ln_20 {f : Int32 → q_X β} : q_rd (q_ln (some (b + 20))) f (q_H b C M O D, s) = f (nI 5) (q_H b C M O D, s) := q_rd_ln (j := 20) (n := 5) (t := 2) rfl
theorem q_lL_20 {f : Int64 → q_X β} {i : Nat} (h : i < 5) : q_rd (q_lL (some (b + 20)) (nI i)) f (q_H b (I, R, X, Y, Z) M O D, s) = f (Y 20 i) (q_H b (I, R, X, Y, Z) M O D, s) := q_rd_cY (j := 20) (n := 5) rfl (by decide) h (by decide)
theorem q_sL_20 {f : q_X β} {i : Nat} {v : Int64} (h : i < 5) : q_wr (q_sL (some (b + 20)) (nI i) v) f (q_H b (I, R, X, Y, Z) M O D, s) = f (q_H b (I, R, X, q_u2 Y 20 i v, Z) M O D, s) := q_wr_cY (j := 20) (n := 5) rfl (by decide) h (by decide)
theorem q_is_21 {f : Unit → q_X β} : q_rd (q_is (some (b + 21)) 11) f (q_H b C M O D, s) = f () (q_H b C M O D, s) := q_rd_is (j := 21) rfl
theorem q_gA_21_0 {f : Option Nat → q_X β} : q_rd (q_gA (some (b + 21)) 11 0) f (q_H b C M O D, s) = f (some (b + 14)) (q_H b C M O D, s) := q_rd_wA (j := 21) rfl
theorem q_gA_21_1 {f : Option Nat → q_X β} : q_rd (q_gA (some (b + 21)) 11 1) f (q_H b C M O D, s) = f (some (b + 2)) (q_H b C M O D, s) := q_rd_wA (j := 21) rfl
theorem q_gA_21_2 {f : Option Nat → q_X β} : q_rd (q_gA (some (b + 21)) 11 2) f (q_H b C M O D, s) = f (some (b + 8)) (q_H b C M O D, s) := q_rd_wA (j := 21) rfl
theorem q_gA_21_3 {f : Option Nat → q_X β} : q_rd (q_gA (some (b + 21)) 11 3) f (q_H b C M O D, s) = f (some (b + 11)) (q_H b C M O D, s) := q_rd_wA (j := 21) rfl
theorem q_gA_21_4 {f : Option Nat → q_X β} : q_rd (q_gA (some (b + 21)) 11 4) f (q_H b C M O D, s) = f (some (b + 22)) (q_H b C M O D, s) := q_rd_wA (j := 21) rfl
theorem q_gA_21_5 {f : Option Nat → q_X β} : q_rd (q_gA (some (b + 21)) 11 5) f (q_H b C M O D, s) = f (some (b + 23)) (q_H b C M O D, s) := q_rd_wA (j := 21) rfl
theorem q_gA_21_6 {f : Option Nat → q_X β} : q_rd (q_gA (some (b + 21)) 11 6) f (q_H b C M O D, s) = f (some (b + 24)) (q_H b C M O D, s) := q_rd_wA (j := 21) rfl
theorem q_gA_21_7 {f : Option Nat → q_X β} : q_rd (q_gA (some (b + 21)) 11 7) f (q_H b C M O D, s) = f (some (b + 25)) (q_H b C M O D, s) := q_rd_wA (j := 21) rfl
theorem q_gI_21_8 {f : Int32 → q_X β} : q_rd (q_gI (some (b + 21)) 11 8) f (q_H b (I, R, X, Y, Z) M O D, s) = f (I 21 8) (q_H b (I, R, X, Y, Z) M O D, s) := q_rd_cI (j := 21) rfl (by decide)
theorem q_pI_21_8 {f : q_X β} {v : Int32} : q_wr (q_pF (some (b + 21)) 11 8 (.int v)) f (q_H b (I, R, X, Y, Z) M O D, s) = f (q_H b (q_u2 I 21 8 v, R, X, Y, Z) M O D, s) := q_wr_cI (j := 21) rfl (by decide)
theorem q_is_22 {f : Unit → q_X β} : q_rd (q_is (some (b + 22)) 2) f (q_H b C M O D, s) = f () (q_H b C M O D, s) := q_rd_is (j := 22) rfl
theorem q_gI_22_0 {f : Int32 → q_X β} : q_rd (q_gI (some (b + 22)) 2 0) f (q_H b (I, R, X, Y, Z) M O D, s) = f (I 22 0) (q_H b (I, R, X, Y, Z) M O D, s) := q_rd_cI (j := 22) rfl (by decide)
theorem q_pI_22_0 {f : q_X β} {v : Int32} : q_wr (q_pF (some (b + 22)) 2 0 (.int v)) f (q_H b (I, R, X, Y, Z) M O D, s) = f (q_H b (q_u2 I 22 0 v, R, X, Y, Z) M O D, s) := q_wr_cI (j := 22) rfl (by decide)
theorem q_gA_22_1 {f : Option Nat → q_X β} : q_rd (q_gA (some (b + 22)) 2 1) f (q_H b (I, R, X, Y, Z) M O D, s) = f (R 22 1) (q_H b (I, R, X, Y, Z) M O D, s) := q_rd_dA (j := 22) rfl
theorem q_pA_22_1 {f : q_X β} {r : Option Nat} : q_wr (q_pF (some (b + 22)) 2 1 (va_rf r)) f (q_H b (I, R, X, Y, Z) M O D, s) = f (q_H b (I, q_u2 R 22 1 r, X, Y, Z) M O D, s) := q_wr_dA (j := 22) rfl
theorem q_gI_22_2 {f : Int32 → q_X β} : q_rd (q_gI (some (b + 22)) 2 2) f (q_H b (I, R, X, Y, Z) M O D, s) = f (I 22 2) (q_H b (I, R, X, Y, Z) M O D, s) := q_rd_cI (j := 22) rfl (by decide)
theorem q_pI_22_2 {f : q_X β} {v : Int32} : q_wr (q_pF (some (b + 22)) 2 2 (.int v)) f (q_H b (I, R, X, Y, Z) M O D, s) = f (q_H b (q_u2 I 22 2 v, R, X, Y, Z) M O D, s) := q_wr_cI (j := 22) rfl (by decide)
theorem q_is_23 {f : Unit → q_X β} : q_rd (q_is (some (b + 23)) 2) f (q_H b C M O D, s) = f () (q_H b C M O D, s) := q_rd_is (j := 23) rfl
theorem q_gI_23_0 {f : Int32 → q_X β} : q_rd (q_gI (some (b + 23)) 2 0) f (q_H b (I, R, X, Y, Z) M O D, s) = f (I 23 0) (q_H b (I, R, X, Y, Z) M O D, s) := q_rd_cI (j := 23) rfl (by decide)
theorem q_pI_23_0 {f : q_X β} {v : Int32} : q_wr (q_pF (some (b + 23)) 2 0 (.int v)) f (q_H b (I, R, X, Y, Z) M O D, s) = f (q_H b (q_u2 I 23 0 v, R, X, Y, Z) M O D, s) := q_wr_cI (j := 23) rfl (by decide)
theorem q_gA_23_1 {f : Option Nat → q_X β} : q_rd (q_gA (some (b + 23)) 2 1) f (q_H b (I, R, X, Y, Z) M O D, s) = f (R 23 1) (q_H b (I, R, X, Y, Z) M O D, s) := q_rd_dA (j := 23) rfl
theorem q_pA_23_1 {f : q_X β} {r : Option Nat} : q_wr (q_pF (some (b + 23)) 2 1 (va_rf r)) f (q_H b (I, R, X, Y, Z) M O D, s) = f (q_H b (I, q_u2 R 23 1 r, X, Y, Z) M O D, s) := q_wr_dA (j := 23) rfl
theorem q_gI_23_2 {f : Int32 → q_X β} : q_rd (q_gI (some (b + 23)) 2 2) f (q_H b (I, R, X, Y, Z) M O D, s) = f (I 23 2) (q_H b (I, R, X, Y, Z) M O D, s) := q_rd_cI (j := 23) rfl (by decide)
theorem q_pI_23_2 {f : q_X β} {v : Int32} : q_wr (q_pF (some (b + 23)) 2 2 (.int v)) f (q_H b (I, R, X, Y, Z) M O D, s) = f (q_H b (q_u2 I 23 2 v, R, X, Y, Z) M O D, s) := q_wr_cI (j := 23) rfl (by decide)
theorem q_ln_24 {f : Int32 → q_X β} : q_rd (q_ln (some (b + 24))) f (q_H b C M O D, s) = f (nI 256) (q_H b C M O D, s) := q_rd_ln (j := 24) (n := 256) (t := 1) rfl
theorem q_lI_24 {f : Int32 → q_X β} {i : Nat} (h : i < 256) : q_rd (q_lI 1 (some (b + 24)) (nI i)) f (q_H b (I, R, X, Y, Z) M O D, s) = f (X 24 i) (q_H b (I, R, X, Y, Z) M O D, s) := q_rd_cX (j := 24) (n := 256) rfl rfl (by decide) h (by decide)
theorem q_sI_24 {f : q_X β} {i : Nat} {v : Int32} (h : i < 256) : q_wr (q_sI 1 (some (b + 24)) (nI i) v) f (q_H b (I, R, X, Y, Z) M O D, s) = f (q_H b (I, R, q_u2 X 24 i v, Y, Z) M O D, s) := q_wr_cX (j := 24) (n := 256) rfl rfl (by decide) h (by decide)
theorem q_ln_25 {f : Int32 → q_X β} : q_rd (q_ln (some (b + 25))) f (q_H b C M O D, s) = f (nI 5) (q_H b C M O D, s) := q_rd_ln (j := 25) (n := 5) (t := 2) rfl
theorem q_lL_25 {f : Int64 → q_X β} {i : Nat} (h : i < 5) : q_rd (q_lL (some (b + 25)) (nI i)) f (q_H b (I, R, X, Y, Z) M O D, s) = f (Y 25 i) (q_H b (I, R, X, Y, Z) M O D, s) := q_rd_cY (j := 25) (n := 5) rfl (by decide) h (by decide)
theorem q_sL_25 {f : q_X β} {i : Nat} {v : Int64} (h : i < 5) : q_wr (q_sL (some (b + 25)) (nI i) v) f (q_H b (I, R, X, Y, Z) M O D, s) = f (q_H b (I, R, X, q_u2 Y 25 i v, Z) M O D, s) := q_wr_cY (j := 25) (n := 5) rfl (by decide) h (by decide)
theorem q_is_26 {f : Unit → q_X β} : q_rd (q_is (some (b + 26)) 16) f (q_H b C M O D, s) = f () (q_H b C M O D, s) := q_rd_is (j := 26) rfl
theorem q_gA_26_0 {f : Option Nat → q_X β} : q_rd (q_gA (some (b + 26)) 16 0) f (q_H b C M O D, s) = f (some (b + 27)) (q_H b C M O D, s) := q_rd_wA (j := 26) rfl
theorem q_gA_26_1 {f : Option Nat → q_X β} : q_rd (q_gA (some (b + 26)) 16 1) f (q_H b C M O D, s) = f (some (b + 28)) (q_H b C M O D, s) := q_rd_wA (j := 26) rfl
theorem q_gA_26_2 {f : Option Nat → q_X β} : q_rd (q_gA (some (b + 26)) 16 2) f (q_H b C M O D, s) = f (some (b + 29)) (q_H b C M O D, s) := q_rd_wA (j := 26) rfl
theorem q_gI_26_3 {f : Int32 → q_X β} : q_rd (q_gI (some (b + 26)) 16 3) f (q_H b C (P, Q, S) O D, s) = f (P 3) (q_H b C (P, Q, S) O D, s) := q_rd_mI rfl
theorem q_pI_26_3 {f : q_X β} {v : Int32} : q_wr (q_pF (some (b + 26)) 16 3 (.int v)) f (q_H b C (P, Q, S) O D, s) = f (q_H b C (q_u1 P 3 v, Q, S) O D, s) := q_wr_mI rfl
theorem q_gI_26_4 {f : Int32 → q_X β} : q_rd (q_gI (some (b + 26)) 16 4) f (q_H b C (P, Q, S) O D, s) = f (P 4) (q_H b C (P, Q, S) O D, s) := q_rd_mI rfl
theorem q_pI_26_4 {f : q_X β} {v : Int32} : q_wr (q_pF (some (b + 26)) 16 4 (.int v)) f (q_H b C (P, Q, S) O D, s) = f (q_H b C (q_u1 P 4 v, Q, S) O D, s) := q_wr_mI rfl
theorem q_gI_26_5 {f : Int32 → q_X β} : q_rd (q_gI (some (b + 26)) 16 5) f (q_H b C (P, Q, S) O D, s) = f (P 5) (q_H b C (P, Q, S) O D, s) := q_rd_mI rfl
theorem q_pI_26_5 {f : q_X β} {v : Int32} : q_wr (q_pF (some (b + 26)) 16 5 (.int v)) f (q_H b C (P, Q, S) O D, s) = f (q_H b C (q_u1 P 5 v, Q, S) O D, s) := q_wr_mI rfl
theorem q_gI_26_6 {f : Int32 → q_X β} : q_rd (q_gI (some (b + 26)) 16 6) f (q_H b C (P, Q, S) O D, s) = f (P 6) (q_H b C (P, Q, S) O D, s) := q_rd_mI rfl
theorem q_pI_26_6 {f : q_X β} {v : Int32} : q_wr (q_pF (some (b + 26)) 16 6 (.int v)) f (q_H b C (P, Q, S) O D, s) = f (q_H b C (q_u1 P 6 v, Q, S) O D, s) := q_wr_mI rfl
theorem q_gI_26_7 {f : Int32 → q_X β} : q_rd (q_gI (some (b + 26)) 16 7) f (q_H b C (P, Q, S) O D, s) = f (P 7) (q_H b C (P, Q, S) O D, s) := q_rd_mI rfl
theorem q_pI_26_7 {f : q_X β} {v : Int32} : q_wr (q_pF (some (b + 26)) 16 7 (.int v)) f (q_H b C (P, Q, S) O D, s) = f (q_H b C (q_u1 P 7 v, Q, S) O D, s) := q_wr_mI rfl
theorem q_gI_26_8 {f : Int32 → q_X β} : q_rd (q_gI (some (b + 26)) 16 8) f (q_H b C (P, Q, S) O D, s) = f (P 8) (q_H b C (P, Q, S) O D, s) := q_rd_mI rfl
theorem q_pI_26_8 {f : q_X β} {v : Int32} : q_wr (q_pF (some (b + 26)) 16 8 (.int v)) f (q_H b C (P, Q, S) O D, s) = f (q_H b C (q_u1 P 8 v, Q, S) O D, s) := q_wr_mI rfl
theorem q_gA_26_9 {f : Option Nat → q_X β} : q_rd (q_gA (some (b + 26)) 16 9) f (q_H b C M O D, s) = f (some (b + 30)) (q_H b C M O D, s) := q_rd_wA (j := 26) rfl
theorem q_gA_26_10 {f : Option Nat → q_X β} : q_rd (q_gA (some (b + 26)) 16 10) f (q_H b C M O D, s) = f (some (b + 31)) (q_H b C M O D, s) := q_rd_wA (j := 26) rfl
theorem q_gA_26_11 {f : Option Nat → q_X β} : q_rd (q_gA (some (b + 26)) 16 11) f (q_H b C M O D, s) = f (some (b + 32)) (q_H b C M O D, s) := q_rd_wA (j := 26) rfl
theorem q_gA_26_12 {f : Option Nat → q_X β} : q_rd (q_gA (some (b + 26)) 16 12) f (q_H b C M O D, s) = f (some (b + 33)) (q_H b C M O D, s) := q_rd_wA (j := 26) rfl
theorem q_gI_26_13 {f : Int32 → q_X β} : q_rd (q_gI (some (b + 26)) 16 13) f (q_H b C (P, Q, S) O D, s) = f (P 13) (q_H b C (P, Q, S) O D, s) := q_rd_mI rfl
theorem q_pI_26_13 {f : q_X β} {v : Int32} : q_wr (q_pF (some (b + 26)) 16 13 (.int v)) f (q_H b C (P, Q, S) O D, s) = f (q_H b C (q_u1 P 13 v, Q, S) O D, s) := q_wr_mI rfl
theorem q_gI_26_14 {f : Int32 → q_X β} : q_rd (q_gI (some (b + 26)) 16 14) f (q_H b C (P, Q, S) O D, s) = f (P 14) (q_H b C (P, Q, S) O D, s) := q_rd_mI rfl
theorem q_pI_26_14 {f : q_X β} {v : Int32} : q_wr (q_pF (some (b + 26)) 16 14 (.int v)) f (q_H b C (P, Q, S) O D, s) = f (q_H b C (q_u1 P 14 v, Q, S) O D, s) := q_wr_mI rfl
theorem q_gI_26_15 {f : Int32 → q_X β} : q_rd (q_gI (some (b + 26)) 16 15) f (q_H b C (P, Q, S) O D, s) = f (P 15) (q_H b C (P, Q, S) O D, s) := q_rd_mI rfl
theorem q_pI_26_15 {f : q_X β} {v : Int32} : q_wr (q_pF (some (b + 26)) 16 15 (.int v)) f (q_H b C (P, Q, S) O D, s) = f (q_H b C (q_u1 P 15 v, Q, S) O D, s) := q_wr_mI rfl
theorem q_gA_26_16 {f : Option Nat → q_X β} : q_rd (q_gA (some (b + 26)) 16 16) f (q_H b C M O D, s) = f (some (b + 34)) (q_H b C M O D, s) := q_rd_wA (j := 26) rfl
theorem q_gA_26_17 {f : Option Nat → q_X β} : q_rd (q_gA (some (b + 26)) 16 17) f (q_H b C M O D, s) = f (some (b + 35)) (q_H b C M O D, s) := q_rd_wA (j := 26) rfl
theorem q_gA_26_18 {f : Option Nat → q_X β} : q_rd (q_gA (some (b + 26)) 16 18) f (q_H b C M O D, s) = f (some (b + 36)) (q_H b C M O D, s) := q_rd_wA (j := 26) rfl
theorem q_gI_26_19 {f : Int32 → q_X β} : q_rd (q_gI (some (b + 26)) 16 19) f (q_H b C (P, Q, S) O D, s) = f (P 19) (q_H b C (P, Q, S) O D, s) := q_rd_mI rfl
theorem q_pI_26_19 {f : q_X β} {v : Int32} : q_wr (q_pF (some (b + 26)) 16 19 (.int v)) f (q_H b C (P, Q, S) O D, s) = f (q_H b C (q_u1 P 19 v, Q, S) O D, s) := q_wr_mI rfl
theorem q_gI_26_20 {f : Int32 → q_X β} : q_rd (q_gI (some (b + 26)) 16 20) f (q_H b C (P, Q, S) O D, s) = f (P 20) (q_H b C (P, Q, S) O D, s) := q_rd_mI rfl
theorem q_pI_26_20 {f : q_X β} {v : Int32} : q_wr (q_pF (some (b + 26)) 16 20 (.int v)) f (q_H b C (P, Q, S) O D, s) = f (q_H b C (q_u1 P 20 v, Q, S) O D, s) := q_wr_mI rfl
theorem q_gI_26_21 {f : Int32 → q_X β} : q_rd (q_gI (some (b + 26)) 16 21) f (q_H b C (P, Q, S) O D, s) = f (P 21) (q_H b C (P, Q, S) O D, s) := q_rd_mI rfl
theorem q_pI_26_21 {f : q_X β} {v : Int32} : q_wr (q_pF (some (b + 26)) 16 21 (.int v)) f (q_H b C (P, Q, S) O D, s) = f (q_H b C (q_u1 P 21 v, Q, S) O D, s) := q_wr_mI rfl
theorem q_gI_26_22 {f : Int32 → q_X β} : q_rd (q_gI (some (b + 26)) 16 22) f (q_H b C (P, Q, S) O D, s) = f (P 22) (q_H b C (P, Q, S) O D, s) := q_rd_mI rfl
theorem q_pI_26_22 {f : q_X β} {v : Int32} : q_wr (q_pF (some (b + 26)) 16 22 (.int v)) f (q_H b C (P, Q, S) O D, s) = f (q_H b C (q_u1 P 22 v, Q, S) O D, s) := q_wr_mI rfl
theorem q_gI_26_23 {f : Int32 → q_X β} : q_rd (q_gI (some (b + 26)) 16 23) f (q_H b C (P, Q, S) O D, s) = f (P 23) (q_H b C (P, Q, S) O D, s) := q_rd_mI rfl
theorem q_pI_26_23 {f : q_X β} {v : Int32} : q_wr (q_pF (some (b + 26)) 16 23 (.int v)) f (q_H b C (P, Q, S) O D, s) = f (q_H b C (q_u1 P 23 v, Q, S) O D, s) := q_wr_mI rfl
theorem q_gA_26_24 {f : Option Nat → q_X β} : q_rd (q_gA (some (b + 26)) 16 24) f (q_H b C M O D, s) = f (some (b + 37)) (q_H b C M O D, s) := q_rd_wA (j := 26) rfl
theorem q_gA_26_25 {f : Option Nat → q_X β} : q_rd (q_gA (some (b + 26)) 16 25) f (q_H b C M O D, s) = f (some (b + 38)) (q_H b C M O D, s) := q_rd_wA (j := 26) rfl
theorem q_gA_26_26 {f : Option Nat → q_X β} : q_rd (q_gA (some (b + 26)) 16 26) f (q_H b C M O D, s) = f (some (b + 39)) (q_H b C M O D, s) := q_rd_wA (j := 26) rfl
theorem q_gA_26_27 {f : Option Nat → q_X β} : q_rd (q_gA (some (b + 26)) 16 27) f (q_H b C M O D, s) = f (some (b + 40)) (q_H b C M O D, s) := q_rd_wA (j := 26) rfl
theorem q_gA_26_28 {f : Option Nat → q_X β} : q_rd (q_gA (some (b + 26)) 16 28) f (q_H b C M O D, s) = f (some (b + 41)) (q_H b C M O D, s) := q_rd_wA (j := 26) rfl
theorem q_gA_26_29 {f : Option Nat → q_X β} : q_rd (q_gA (some (b + 26)) 16 29) f (q_H b C M O D, s) = f (some (b + 42)) (q_H b C M O D, s) := q_rd_wA (j := 26) rfl
theorem q_gA_26_30 {f : Option Nat → q_X β} : q_rd (q_gA (some (b + 26)) 16 30) f (q_H b C M O D, s) = f (some (b + 43)) (q_H b C M O D, s) := q_rd_wA (j := 26) rfl
theorem q_gA_26_31 {f : Option Nat → q_X β} : q_rd (q_gA (some (b + 26)) 16 31) f (q_H b C M O D, s) = f (some (b + 44)) (q_H b C M O D, s) := q_rd_wA (j := 26) rfl
theorem q_gA_26_32 {f : Option Nat → q_X β} : q_rd (q_gA (some (b + 26)) 16 32) f (q_H b C M O D, s) = f (some (b + 45)) (q_H b C M O D, s) := q_rd_wA (j := 26) rfl
theorem q_gA_26_33 {f : Option Nat → q_X β} : q_rd (q_gA (some (b + 26)) 16 33) f (q_H b C M O D, s) = f (some (b + 46)) (q_H b C M O D, s) := q_rd_wA (j := 26) rfl
theorem q_gA_26_34 {f : Option Nat → q_X β} : q_rd (q_gA (some (b + 26)) 16 34) f (q_H b C M O D, s) = f (some (b + 47)) (q_H b C M O D, s) := q_rd_wA (j := 26) rfl
theorem q_gA_26_35 {f : Option Nat → q_X β} : q_rd (q_gA (some (b + 26)) 16 35) f (q_H b C M O D, s) = f (some (b + 48)) (q_H b C M O D, s) := q_rd_wA (j := 26) rfl
theorem q_gA_26_36 {f : Option Nat → q_X β} : q_rd (q_gA (some (b + 26)) 16 36) f (q_H b C M O D, s) = f (some (b + 49)) (q_H b C M O D, s) := q_rd_wA (j := 26) rfl
theorem q_gA_26_37 {f : Option Nat → q_X β} : q_rd (q_gA (some (b + 26)) 16 37) f (q_H b C M O D, s) = f (some (b + 50)) (q_H b C M O D, s) := q_rd_wA (j := 26) rfl
theorem q_gA_26_38 {f : Option Nat → q_X β} : q_rd (q_gA (some (b + 26)) 16 38) f (q_H b C M O D, s) = f (some (b + 51)) (q_H b C M O D, s) := q_rd_wA (j := 26) rfl
theorem q_gA_26_39 {f : Option Nat → q_X β} : q_rd (q_gA (some (b + 26)) 16 39) f (q_H b C M O D, s) = f (some (b + 52)) (q_H b C M O D, s) := q_rd_wA (j := 26) rfl
theorem q_gA_26_40 {f : Option Nat → q_X β} : q_rd (q_gA (some (b + 26)) 16 40) f (q_H b C M O D, s) = f (some (b + 53)) (q_H b C M O D, s) := q_rd_wA (j := 26) rfl
theorem q_gA_26_41 {f : Option Nat → q_X β} : q_rd (q_gA (some (b + 26)) 16 41) f (q_H b C M O D, s) = f (some (b + 54)) (q_H b C M O D, s) := q_rd_wA (j := 26) rfl
theorem q_gI_26_42 {f : Int32 → q_X β} : q_rd (q_gI (some (b + 26)) 16 42) f (q_H b C (P, Q, S) O D, s) = f (P 42) (q_H b C (P, Q, S) O D, s) := q_rd_mI rfl
theorem q_pI_26_42 {f : q_X β} {v : Int32} : q_wr (q_pF (some (b + 26)) 16 42 (.int v)) f (q_H b C (P, Q, S) O D, s) = f (q_H b C (q_u1 P 42 v, Q, S) O D, s) := q_wr_mI rfl
theorem q_gI_26_43 {f : Int32 → q_X β} : q_rd (q_gI (some (b + 26)) 16 43) f (q_H b C (P, Q, S) O D, s) = f (P 43) (q_H b C (P, Q, S) O D, s) := q_rd_mI rfl
theorem q_pI_26_43 {f : q_X β} {v : Int32} : q_wr (q_pF (some (b + 26)) 16 43 (.int v)) f (q_H b C (P, Q, S) O D, s) = f (q_H b C (q_u1 P 43 v, Q, S) O D, s) := q_wr_mI rfl
theorem q_gI_26_44 {f : Int32 → q_X β} : q_rd (q_gI (some (b + 26)) 16 44) f (q_H b C (P, Q, S) O D, s) = f (P 44) (q_H b C (P, Q, S) O D, s) := q_rd_mI rfl
theorem q_pI_26_44 {f : q_X β} {v : Int32} : q_wr (q_pF (some (b + 26)) 16 44 (.int v)) f (q_H b C (P, Q, S) O D, s) = f (q_H b C (q_u1 P 44 v, Q, S) O D, s) := q_wr_mI rfl
theorem q_gA_26_45 {f : Option Nat → q_X β} : q_rd (q_gA (some (b + 26)) 16 45) f (q_H b C M O D, s) = f (some (b + 55)) (q_H b C M O D, s) := q_rd_wA (j := 26) rfl
theorem q_gA_26_46 {f : Option Nat → q_X β} : q_rd (q_gA (some (b + 26)) 16 46) f (q_H b C M O D, s) = f (some (b + 56)) (q_H b C M O D, s) := q_rd_wA (j := 26) rfl
theorem q_gA_26_47 {f : Option Nat → q_X β} : q_rd (q_gA (some (b + 26)) 16 47) f (q_H b C M O D, s) = f (some (b + 57)) (q_H b C M O D, s) := q_rd_wA (j := 26) rfl
theorem q_gA_26_48 {f : Option Nat → q_X β} : q_rd (q_gA (some (b + 26)) 16 48) f (q_H b C M O D, s) = f (some (b + 58)) (q_H b C M O D, s) := q_rd_wA (j := 26) rfl
theorem q_gA_26_49 {f : Option Nat → q_X β} : q_rd (q_gA (some (b + 26)) 16 49) f (q_H b C M O D, s) = f (some (b + 59)) (q_H b C M O D, s) := q_rd_wA (j := 26) rfl
theorem q_gA_26_50 {f : Option Nat → q_X β} : q_rd (q_gA (some (b + 26)) 16 50) f (q_H b C M O D, s) = f (some (b + 60)) (q_H b C M O D, s) := q_rd_wA (j := 26) rfl
theorem q_gA_26_51 {f : Option Nat → q_X β} : q_rd (q_gA (some (b + 26)) 16 51) f (q_H b C M O D, s) = f (some (b + 61)) (q_H b C M O D, s) := q_rd_wA (j := 26) rfl
theorem q_gI_26_52 {f : Int32 → q_X β} : q_rd (q_gI (some (b + 26)) 16 52) f (q_H b C (P, Q, S) O D, s) = f (P 52) (q_H b C (P, Q, S) O D, s) := q_rd_mI rfl
theorem q_pI_26_52 {f : q_X β} {v : Int32} : q_wr (q_pF (some (b + 26)) 16 52 (.int v)) f (q_H b C (P, Q, S) O D, s) = f (q_H b C (q_u1 P 52 v, Q, S) O D, s) := q_wr_mI rfl
theorem q_gA_26_53 {f : Option Nat → q_X β} : q_rd (q_gA (some (b + 26)) 16 53) f (q_H b C M O D, s) = f (some (b + 62)) (q_H b C M O D, s) := q_rd_wA (j := 26) rfl
theorem q_gA_26_54 {f : Option Nat → q_X β} : q_rd (q_gA (some (b + 26)) 16 54) f (q_H b C M O D, s) = f (some (b + 63)) (q_H b C M O D, s) := q_rd_wA (j := 26) rfl
theorem q_gA_26_55 {f : Option Nat → q_X β} : q_rd (q_gA (some (b + 26)) 16 55) f (q_H b C M O D, s) = f (some (b + 64)) (q_H b C M O D, s) := q_rd_wA (j := 26) rfl
theorem q_gA_26_56 {f : Option Nat → q_X β} : q_rd (q_gA (some (b + 26)) 16 56) f (q_H b C M O D, s) = f (some (b + 65)) (q_H b C M O D, s) := q_rd_wA (j := 26) rfl
theorem q_ln_27 {f : Int32 → q_X β} : q_rd (q_ln (some (b + 27))) f (q_H b C M O D, s) = f (nI 6000) (q_H b C M O D, s) := q_rd_ln (j := 27) (n := 6000) (t := 0) rfl
theorem q_lI_27 {f : Int32 → q_X β} {i : Nat} (h : i < 6000) : q_rd (q_lI 0 (some (b + 27)) (nI i)) f (q_H b C (P, Q, S) O D, s) = f (Q 27 i) (q_H b C (P, Q, S) O D, s) := q_rd_mX (j := 27) (n := 6000) rfl rfl (by decide) h (by decide)
theorem q_sI_27 {f : q_X β} {i : Nat} {v : Int32} (h : i < 6000) : q_wr (q_sI 0 (some (b + 27)) (nI i) v) f (q_H b C (P, Q, S) O D, s) = f (q_H b C (P, q_u2 Q 27 i v, S) O D, s) := q_wr_mX (j := 27) (n := 6000) rfl rfl (by decide) h (by decide)
theorem q_ln_28 {f : Int32 → q_X β} : q_rd (q_ln (some (b + 28))) f (q_H b C M O D, s) = f (nI 6000) (q_H b C M O D, s) := q_rd_ln (j := 28) (n := 6000) (t := 0) rfl
theorem q_lI_28 {f : Int32 → q_X β} {i : Nat} (h : i < 6000) : q_rd (q_lI 0 (some (b + 28)) (nI i)) f (q_H b C (P, Q, S) O D, s) = f (Q 28 i) (q_H b C (P, Q, S) O D, s) := q_rd_mX (j := 28) (n := 6000) rfl rfl (by decide) h (by decide)
theorem q_sI_28 {f : q_X β} {i : Nat} {v : Int32} (h : i < 6000) : q_wr (q_sI 0 (some (b + 28)) (nI i) v) f (q_H b C (P, Q, S) O D, s) = f (q_H b C (P, q_u2 Q 28 i v, S) O D, s) := q_wr_mX (j := 28) (n := 6000) rfl rfl (by decide) h (by decide)
theorem q_ln_29 {f : Int32 → q_X β} : q_rd (q_ln (some (b + 29))) f (q_H b C M O D, s) = f (nI 400) (q_H b C M O D, s) := q_rd_ln (j := 29) (n := 400) (t := 0) rfl
theorem q_lI_29 {f : Int32 → q_X β} {i : Nat} (h : i < 400) : q_rd (q_lI 0 (some (b + 29)) (nI i)) f (q_H b C (P, Q, S) O D, s) = f (Q 29 i) (q_H b C (P, Q, S) O D, s) := q_rd_mX (j := 29) (n := 400) rfl rfl (by decide) h (by decide)
theorem q_sI_29 {f : q_X β} {i : Nat} {v : Int32} (h : i < 400) : q_wr (q_sI 0 (some (b + 29)) (nI i) v) f (q_H b C (P, Q, S) O D, s) = f (q_H b C (P, q_u2 Q 29 i v, S) O D, s) := q_wr_mX (j := 29) (n := 400) rfl rfl (by decide) h (by decide)
theorem q_ln_30 {f : Int32 → q_X β} : q_rd (q_ln (some (b + 30))) f (q_H b C M O D, s) = f (nI 6002) (q_H b C M O D, s) := q_rd_ln (j := 30) (n := 6002) (t := 1) rfl
theorem q_lI_30 {f : Int32 → q_X β} {i : Nat} (h : i < 6002) : q_rd (q_lI 1 (some (b + 30)) (nI i)) f (q_H b C (P, Q, S) O D, s) = f (Q 30 i) (q_H b C (P, Q, S) O D, s) := q_rd_mX (j := 30) (n := 6002) rfl rfl (by decide) h (by decide)
theorem q_sI_30 {f : q_X β} {i : Nat} {v : Int32} (h : i < 6002) : q_wr (q_sI 1 (some (b + 30)) (nI i) v) f (q_H b C (P, Q, S) O D, s) = f (q_H b C (P, q_u2 Q 30 i v, S) O D, s) := q_wr_mX (j := 30) (n := 6002) rfl rfl (by decide) h (by decide)
theorem q_ln_31 {f : Int32 → q_X β} : q_rd (q_ln (some (b + 31))) f (q_H b C M O D, s) = f (nI 6002) (q_H b C M O D, s) := q_rd_ln (j := 31) (n := 6002) (t := 1) rfl
theorem q_lI_31 {f : Int32 → q_X β} {i : Nat} (h : i < 6002) : q_rd (q_lI 1 (some (b + 31)) (nI i)) f (q_H b C (P, Q, S) O D, s) = f (Q 31 i) (q_H b C (P, Q, S) O D, s) := q_rd_mX (j := 31) (n := 6002) rfl rfl (by decide) h (by decide)
theorem q_sI_31 {f : q_X β} {i : Nat} {v : Int32} (h : i < 6002) : q_wr (q_sI 1 (some (b + 31)) (nI i) v) f (q_H b C (P, Q, S) O D, s) = f (q_H b C (P, q_u2 Q 31 i v, S) O D, s) := q_wr_mX (j := 31) (n := 6002) rfl rfl (by decide) h (by decide)
theorem q_ln_32 {f : Int32 → q_X β} : q_rd (q_ln (some (b + 32))) f (q_H b C M O D, s) = f (nI 6002) (q_H b C M O D, s) := q_rd_ln (j := 32) (n := 6002) (t := 1) rfl
theorem q_lI_32 {f : Int32 → q_X β} {i : Nat} (h : i < 6002) : q_rd (q_lI 1 (some (b + 32)) (nI i)) f (q_H b C (P, Q, S) O D, s) = f (Q 32 i) (q_H b C (P, Q, S) O D, s) := q_rd_mX (j := 32) (n := 6002) rfl rfl (by decide) h (by decide)
theorem q_sI_32 {f : q_X β} {i : Nat} {v : Int32} (h : i < 6002) : q_wr (q_sI 1 (some (b + 32)) (nI i) v) f (q_H b C (P, Q, S) O D, s) = f (q_H b C (P, q_u2 Q 32 i v, S) O D, s) := q_wr_mX (j := 32) (n := 6002) rfl rfl (by decide) h (by decide)
theorem q_ln_33 {f : Int32 → q_X β} : q_rd (q_ln (some (b + 33))) f (q_H b C M O D, s) = f (nI 6002) (q_H b C M O D, s) := q_rd_ln (j := 33) (n := 6002) (t := 2) rfl
theorem q_lL_33 {f : Int64 → q_X β} {i : Nat} (h : i < 6002) : q_rd (q_lL (some (b + 33)) (nI i)) f (q_H b C (P, Q, S) O D, s) = f (S 33 i) (q_H b C (P, Q, S) O D, s) := q_rd_mY (j := 33) (n := 6002) rfl (by decide) h (by decide)
theorem q_sL_33 {f : q_X β} {i : Nat} {v : Int64} (h : i < 6002) : q_wr (q_sL (some (b + 33)) (nI i) v) f (q_H b C (P, Q, S) O D, s) = f (q_H b C (P, Q, q_u2 S 33 i v) O D, s) := q_wr_mY (j := 33) (n := 6002) rfl (by decide) h (by decide)
theorem q_ln_34 {f : Int32 → q_X β} : q_rd (q_ln (some (b + 34))) f (q_H b C M O D, s) = f (nI 60000) (q_H b C M O D, s) := q_rd_ln (j := 34) (n := 60000) (t := 0) rfl
theorem q_lI_34 {f : Int32 → q_X β} {i : Nat} (h : i < 60000) : q_rd (q_lI 0 (some (b + 34)) (nI i)) f (q_H b C (P, Q, S) O D, s) = f (Q 34 i) (q_H b C (P, Q, S) O D, s) := q_rd_mX (j := 34) (n := 60000) rfl rfl (by decide) h (by decide)
theorem q_sI_34 {f : q_X β} {i : Nat} {v : Int32} (h : i < 60000) : q_wr (q_sI 0 (some (b + 34)) (nI i) v) f (q_H b C (P, Q, S) O D, s) = f (q_H b C (P, q_u2 Q 34 i v, S) O D, s) := q_wr_mX (j := 34) (n := 60000) rfl rfl (by decide) h (by decide)
theorem q_ln_35 {f : Int32 → q_X β} : q_rd (q_ln (some (b + 35))) f (q_H b C M O D, s) = f (nI 8000) (q_H b C M O D, s) := q_rd_ln (j := 35) (n := 8000) (t := 1) rfl
theorem q_lI_35 {f : Int32 → q_X β} {i : Nat} (h : i < 8000) : q_rd (q_lI 1 (some (b + 35)) (nI i)) f (q_H b C (P, Q, S) O D, s) = f (Q 35 i) (q_H b C (P, Q, S) O D, s) := q_rd_mX (j := 35) (n := 8000) rfl rfl (by decide) h (by decide)
theorem q_sI_35 {f : q_X β} {i : Nat} {v : Int32} (h : i < 8000) : q_wr (q_sI 1 (some (b + 35)) (nI i) v) f (q_H b C (P, Q, S) O D, s) = f (q_H b C (P, q_u2 Q 35 i v, S) O D, s) := q_wr_mX (j := 35) (n := 8000) rfl rfl (by decide) h (by decide)
theorem q_ln_36 {f : Int32 → q_X β} : q_rd (q_ln (some (b + 36))) f (q_H b C M O D, s) = f (nI 8000) (q_H b C M O D, s) := q_rd_ln (j := 36) (n := 8000) (t := 1) rfl
theorem q_lI_36 {f : Int32 → q_X β} {i : Nat} (h : i < 8000) : q_rd (q_lI 1 (some (b + 36)) (nI i)) f (q_H b C (P, Q, S) O D, s) = f (Q 36 i) (q_H b C (P, Q, S) O D, s) := q_rd_mX (j := 36) (n := 8000) rfl rfl (by decide) h (by decide)
theorem q_sI_36 {f : q_X β} {i : Nat} {v : Int32} (h : i < 8000) : q_wr (q_sI 1 (some (b + 36)) (nI i) v) f (q_H b C (P, Q, S) O D, s) = f (q_H b C (P, q_u2 Q 36 i v, S) O D, s) := q_wr_mX (j := 36) (n := 8000) rfl rfl (by decide) h (by decide)
theorem q_ln_37 {f : Int32 → q_X β} : q_rd (q_ln (some (b + 37))) f (q_H b C M O D, s) = f (nI 40) (q_H b C M O D, s) := q_rd_ln (j := 37) (n := 40) (t := 1) rfl
theorem q_lI_37 {f : Int32 → q_X β} {i : Nat} (h : i < 40) : q_rd (q_lI 1 (some (b + 37)) (nI i)) f (q_H b C (P, Q, S) O D, s) = f (Q 37 i) (q_H b C (P, Q, S) O D, s) := q_rd_mX (j := 37) (n := 40) rfl rfl (by decide) h (by decide)
theorem q_sI_37 {f : q_X β} {i : Nat} {v : Int32} (h : i < 40) : q_wr (q_sI 1 (some (b + 37)) (nI i) v) f (q_H b C (P, Q, S) O D, s) = f (q_H b C (P, q_u2 Q 37 i v, S) O D, s) := q_wr_mX (j := 37) (n := 40) rfl rfl (by decide) h (by decide)
theorem q_ln_38 {f : Int32 → q_X β} : q_rd (q_ln (some (b + 38))) f (q_H b C M O D, s) = f (nI 40) (q_H b C M O D, s) := q_rd_ln (j := 38) (n := 40) (t := 1) rfl
theorem q_lI_38 {f : Int32 → q_X β} {i : Nat} (h : i < 40) : q_rd (q_lI 1 (some (b + 38)) (nI i)) f (q_H b C (P, Q, S) O D, s) = f (Q 38 i) (q_H b C (P, Q, S) O D, s) := q_rd_mX (j := 38) (n := 40) rfl rfl (by decide) h (by decide)
theorem q_sI_38 {f : q_X β} {i : Nat} {v : Int32} (h : i < 40) : q_wr (q_sI 1 (some (b + 38)) (nI i) v) f (q_H b C (P, Q, S) O D, s) = f (q_H b C (P, q_u2 Q 38 i v, S) O D, s) := q_wr_mX (j := 38) (n := 40) rfl rfl (by decide) h (by decide)
theorem q_ln_39 {f : Int32 → q_X β} : q_rd (q_ln (some (b + 39))) f (q_H b C M O D, s) = f (nI 40) (q_H b C M O D, s) := q_rd_ln (j := 39) (n := 40) (t := 1) rfl
theorem q_lI_39 {f : Int32 → q_X β} {i : Nat} (h : i < 40) : q_rd (q_lI 1 (some (b + 39)) (nI i)) f (q_H b C (P, Q, S) O D, s) = f (Q 39 i) (q_H b C (P, Q, S) O D, s) := q_rd_mX (j := 39) (n := 40) rfl rfl (by decide) h (by decide)
theorem q_sI_39 {f : q_X β} {i : Nat} {v : Int32} (h : i < 40) : q_wr (q_sI 1 (some (b + 39)) (nI i) v) f (q_H b C (P, Q, S) O D, s) = f (q_H b C (P, q_u2 Q 39 i v, S) O D, s) := q_wr_mX (j := 39) (n := 40) rfl rfl (by decide) h (by decide)
theorem q_ln_40 {f : Int32 → q_X β} : q_rd (q_ln (some (b + 40))) f (q_H b C M O D, s) = f (nI 40) (q_H b C M O D, s) := q_rd_ln (j := 40) (n := 40) (t := 1) rfl
theorem q_lI_40 {f : Int32 → q_X β} {i : Nat} (h : i < 40) : q_rd (q_lI 1 (some (b + 40)) (nI i)) f (q_H b C (P, Q, S) O D, s) = f (Q 40 i) (q_H b C (P, Q, S) O D, s) := q_rd_mX (j := 40) (n := 40) rfl rfl (by decide) h (by decide)
theorem q_sI_40 {f : q_X β} {i : Nat} {v : Int32} (h : i < 40) : q_wr (q_sI 1 (some (b + 40)) (nI i) v) f (q_H b C (P, Q, S) O D, s) = f (q_H b C (P, q_u2 Q 40 i v, S) O D, s) := q_wr_mX (j := 40) (n := 40) rfl rfl (by decide) h (by decide)
theorem q_ln_41 {f : Int32 → q_X β} : q_rd (q_ln (some (b + 41))) f (q_H b C M O D, s) = f (nI 40) (q_H b C M O D, s) := q_rd_ln (j := 41) (n := 40) (t := 1) rfl
theorem q_lI_41 {f : Int32 → q_X β} {i : Nat} (h : i < 40) : q_rd (q_lI 1 (some (b + 41)) (nI i)) f (q_H b C (P, Q, S) O D, s) = f (Q 41 i) (q_H b C (P, Q, S) O D, s) := q_rd_mX (j := 41) (n := 40) rfl rfl (by decide) h (by decide)
theorem q_sI_41 {f : q_X β} {i : Nat} {v : Int32} (h : i < 40) : q_wr (q_sI 1 (some (b + 41)) (nI i) v) f (q_H b C (P, Q, S) O D, s) = f (q_H b C (P, q_u2 Q 41 i v, S) O D, s) := q_wr_mX (j := 41) (n := 40) rfl rfl (by decide) h (by decide)
theorem q_ln_42 {f : Int32 → q_X β} : q_rd (q_ln (some (b + 42))) f (q_H b C M O D, s) = f (nI 1280) (q_H b C M O D, s) := q_rd_ln (j := 42) (n := 1280) (t := 1) rfl
theorem q_lI_42 {f : Int32 → q_X β} {i : Nat} (h : i < 1280) : q_rd (q_lI 1 (some (b + 42)) (nI i)) f (q_H b C (P, Q, S) O D, s) = f (Q 42 i) (q_H b C (P, Q, S) O D, s) := q_rd_mX (j := 42) (n := 1280) rfl rfl (by decide) h (by decide)
theorem q_sI_42 {f : q_X β} {i : Nat} {v : Int32} (h : i < 1280) : q_wr (q_sI 1 (some (b + 42)) (nI i) v) f (q_H b C (P, Q, S) O D, s) = f (q_H b C (P, q_u2 Q 42 i v, S) O D, s) := q_wr_mX (j := 42) (n := 1280) rfl rfl (by decide) h (by decide)
theorem q_ln_43 {f : Int32 → q_X β} : q_rd (q_ln (some (b + 43))) f (q_H b C M O D, s) = f (nI 96) (q_H b C M O D, s) := q_rd_ln (j := 43) (n := 96) (t := 1) rfl
theorem q_lI_43 {f : Int32 → q_X β} {i : Nat} (h : i < 96) : q_rd (q_lI 1 (some (b + 43)) (nI i)) f (q_H b C (P, Q, S) O D, s) = f (Q 43 i) (q_H b C (P, Q, S) O D, s) := q_rd_mX (j := 43) (n := 96) rfl rfl (by decide) h (by decide)
theorem q_sI_43 {f : q_X β} {i : Nat} {v : Int32} (h : i < 96) : q_wr (q_sI 1 (some (b + 43)) (nI i) v) f (q_H b C (P, Q, S) O D, s) = f (q_H b C (P, q_u2 Q 43 i v, S) O D, s) := q_wr_mX (j := 43) (n := 96) rfl rfl (by decide) h (by decide)
theorem q_ln_44 {f : Int32 → q_X β} : q_rd (q_ln (some (b + 44))) f (q_H b C M O D, s) = f (nI 96) (q_H b C M O D, s) := q_rd_ln (j := 44) (n := 96) (t := 1) rfl
theorem q_lI_44 {f : Int32 → q_X β} {i : Nat} (h : i < 96) : q_rd (q_lI 1 (some (b + 44)) (nI i)) f (q_H b C (P, Q, S) O D, s) = f (Q 44 i) (q_H b C (P, Q, S) O D, s) := q_rd_mX (j := 44) (n := 96) rfl rfl (by decide) h (by decide)
theorem q_sI_44 {f : q_X β} {i : Nat} {v : Int32} (h : i < 96) : q_wr (q_sI 1 (some (b + 44)) (nI i) v) f (q_H b C (P, Q, S) O D, s) = f (q_H b C (P, q_u2 Q 44 i v, S) O D, s) := q_wr_mX (j := 44) (n := 96) rfl rfl (by decide) h (by decide)
theorem q_ln_45 {f : Int32 → q_X β} : q_rd (q_ln (some (b + 45))) f (q_H b C M O D, s) = f (nI 96) (q_H b C M O D, s) := q_rd_ln (j := 45) (n := 96) (t := 1) rfl
theorem q_lI_45 {f : Int32 → q_X β} {i : Nat} (h : i < 96) : q_rd (q_lI 1 (some (b + 45)) (nI i)) f (q_H b C (P, Q, S) O D, s) = f (Q 45 i) (q_H b C (P, Q, S) O D, s) := q_rd_mX (j := 45) (n := 96) rfl rfl (by decide) h (by decide)
theorem q_sI_45 {f : q_X β} {i : Nat} {v : Int32} (h : i < 96) : q_wr (q_sI 1 (some (b + 45)) (nI i) v) f (q_H b C (P, Q, S) O D, s) = f (q_H b C (P, q_u2 Q 45 i v, S) O D, s) := q_wr_mX (j := 45) (n := 96) rfl rfl (by decide) h (by decide)
theorem q_ln_46 {f : Int32 → q_X β} : q_rd (q_ln (some (b + 46))) f (q_H b C M O D, s) = f (nI 96) (q_H b C M O D, s) := q_rd_ln (j := 46) (n := 96) (t := 1) rfl
theorem q_lI_46 {f : Int32 → q_X β} {i : Nat} (h : i < 96) : q_rd (q_lI 1 (some (b + 46)) (nI i)) f (q_H b C (P, Q, S) O D, s) = f (Q 46 i) (q_H b C (P, Q, S) O D, s) := q_rd_mX (j := 46) (n := 96) rfl rfl (by decide) h (by decide)
theorem q_sI_46 {f : q_X β} {i : Nat} {v : Int32} (h : i < 96) : q_wr (q_sI 1 (some (b + 46)) (nI i) v) f (q_H b C (P, Q, S) O D, s) = f (q_H b C (P, q_u2 Q 46 i v, S) O D, s) := q_wr_mX (j := 46) (n := 96) rfl rfl (by decide) h (by decide)
theorem q_ln_47 {f : Int32 → q_X β} : q_rd (q_ln (some (b + 47))) f (q_H b C M O D, s) = f (nI 96) (q_H b C M O D, s) := q_rd_ln (j := 47) (n := 96) (t := 1) rfl
theorem q_lI_47 {f : Int32 → q_X β} {i : Nat} (h : i < 96) : q_rd (q_lI 1 (some (b + 47)) (nI i)) f (q_H b C (P, Q, S) O D, s) = f (Q 47 i) (q_H b C (P, Q, S) O D, s) := q_rd_mX (j := 47) (n := 96) rfl rfl (by decide) h (by decide)
theorem q_sI_47 {f : q_X β} {i : Nat} {v : Int32} (h : i < 96) : q_wr (q_sI 1 (some (b + 47)) (nI i) v) f (q_H b C (P, Q, S) O D, s) = f (q_H b C (P, q_u2 Q 47 i v, S) O D, s) := q_wr_mX (j := 47) (n := 96) rfl rfl (by decide) h (by decide)
theorem q_ln_48 {f : Int32 → q_X β} : q_rd (q_ln (some (b + 48))) f (q_H b C M O D, s) = f (nI 1152) (q_H b C M O D, s) := q_rd_ln (j := 48) (n := 1152) (t := 1) rfl
theorem q_lI_48 {f : Int32 → q_X β} {i : Nat} (h : i < 1152) : q_rd (q_lI 1 (some (b + 48)) (nI i)) f (q_H b C (P, Q, S) O D, s) = f (Q 48 i) (q_H b C (P, Q, S) O D, s) := q_rd_mX (j := 48) (n := 1152) rfl rfl (by decide) h (by decide)
theorem q_sI_48 {f : q_X β} {i : Nat} {v : Int32} (h : i < 1152) : q_wr (q_sI 1 (some (b + 48)) (nI i) v) f (q_H b C (P, Q, S) O D, s) = f (q_H b C (P, q_u2 Q 48 i v, S) O D, s) := q_wr_mX (j := 48) (n := 1152) rfl rfl (by decide) h (by decide)
theorem q_ln_49 {f : Int32 → q_X β} : q_rd (q_ln (some (b + 49))) f (q_H b C M O D, s) = f (nI 480) (q_H b C M O D, s) := q_rd_ln (j := 49) (n := 480) (t := 1) rfl
theorem q_lI_49 {f : Int32 → q_X β} {i : Nat} (h : i < 480) : q_rd (q_lI 1 (some (b + 49)) (nI i)) f (q_H b C (P, Q, S) O D, s) = f (Q 49 i) (q_H b C (P, Q, S) O D, s) := q_rd_mX (j := 49) (n := 480) rfl rfl (by decide) h (by decide)
theorem q_sI_49 {f : q_X β} {i : Nat} {v : Int32} (h : i < 480) : q_wr (q_sI 1 (some (b + 49)) (nI i) v) f (q_H b C (P, Q, S) O D, s) = f (q_H b C (P, q_u2 Q 49 i v, S) O D, s) := q_wr_mX (j := 49) (n := 480) rfl rfl (by decide) h (by decide)
theorem q_ln_50 {f : Int32 → q_X β} : q_rd (q_ln (some (b + 50))) f (q_H b C M O D, s) = f (nI 480) (q_H b C M O D, s) := q_rd_ln (j := 50) (n := 480) (t := 1) rfl
theorem q_lI_50 {f : Int32 → q_X β} {i : Nat} (h : i < 480) : q_rd (q_lI 1 (some (b + 50)) (nI i)) f (q_H b C (P, Q, S) O D, s) = f (Q 50 i) (q_H b C (P, Q, S) O D, s) := q_rd_mX (j := 50) (n := 480) rfl rfl (by decide) h (by decide)
theorem q_sI_50 {f : q_X β} {i : Nat} {v : Int32} (h : i < 480) : q_wr (q_sI 1 (some (b + 50)) (nI i) v) f (q_H b C (P, Q, S) O D, s) = f (q_H b C (P, q_u2 Q 50 i v, S) O D, s) := q_wr_mX (j := 50) (n := 480) rfl rfl (by decide) h (by decide)
theorem q_ln_51 {f : Int32 → q_X β} : q_rd (q_ln (some (b + 51))) f (q_H b C M O D, s) = f (nI 15360) (q_H b C M O D, s) := q_rd_ln (j := 51) (n := 15360) (t := 1) rfl
theorem q_lI_51 {f : Int32 → q_X β} {i : Nat} (h : i < 15360) : q_rd (q_lI 1 (some (b + 51)) (nI i)) f (q_H b C (P, Q, S) O D, s) = f (Q 51 i) (q_H b C (P, Q, S) O D, s) := q_rd_mX (j := 51) (n := 15360) rfl rfl (by decide) h (by decide)
theorem q_sI_51 {f : q_X β} {i : Nat} {v : Int32} (h : i < 15360) : q_wr (q_sI 1 (some (b + 51)) (nI i) v) f (q_H b C (P, Q, S) O D, s) = f (q_H b C (P, q_u2 Q 51 i v, S) O D, s) := q_wr_mX (j := 51) (n := 15360) rfl rfl (by decide) h (by decide)
theorem q_ln_52 {f : Int32 → q_X β} : q_rd (q_ln (some (b + 52))) f (q_H b C M O D, s) = f (nI 160) (q_H b C M O D, s) := q_rd_ln (j := 52) (n := 160) (t := 1) rfl
theorem q_lI_52 {f : Int32 → q_X β} {i : Nat} (h : i < 160) : q_rd (q_lI 1 (some (b + 52)) (nI i)) f (q_H b C (P, Q, S) O D, s) = f (Q 52 i) (q_H b C (P, Q, S) O D, s) := q_rd_mX (j := 52) (n := 160) rfl rfl (by decide) h (by decide)
theorem q_sI_52 {f : q_X β} {i : Nat} {v : Int32} (h : i < 160) : q_wr (q_sI 1 (some (b + 52)) (nI i) v) f (q_H b C (P, Q, S) O D, s) = f (q_H b C (P, q_u2 Q 52 i v, S) O D, s) := q_wr_mX (j := 52) (n := 160) rfl rfl (by decide) h (by decide)
theorem q_ln_53 {f : Int32 → q_X β} : q_rd (q_ln (some (b + 53))) f (q_H b C M O D, s) = f (nI 4096) (q_H b C M O D, s) := q_rd_ln (j := 53) (n := 4096) (t := 2) rfl
theorem q_lL_53 {f : Int64 → q_X β} {i : Nat} (h : i < 4096) : q_rd (q_lL (some (b + 53)) (nI i)) f (q_H b C (P, Q, S) O D, s) = f (S 53 i) (q_H b C (P, Q, S) O D, s) := q_rd_mY (j := 53) (n := 4096) rfl (by decide) h (by decide)
theorem q_sL_53 {f : q_X β} {i : Nat} {v : Int64} (h : i < 4096) : q_wr (q_sL (some (b + 53)) (nI i) v) f (q_H b C (P, Q, S) O D, s) = f (q_H b C (P, Q, q_u2 S 53 i v) O D, s) := q_wr_mY (j := 53) (n := 4096) rfl (by decide) h (by decide)
theorem q_ln_54 {f : Int32 → q_X β} : q_rd (q_ln (some (b + 54))) f (q_H b C M O D, s) = f (nI 4096) (q_H b C M O D, s) := q_rd_ln (j := 54) (n := 4096) (t := 3) rfl
theorem q_lI_54 {f : Int32 → q_X β} {i : Nat} (h : i < 4096) : q_rd (q_lI 3 (some (b + 54)) (nI i)) f (q_H b C (P, Q, S) O D, s) = f (Q 54 i) (q_H b C (P, Q, S) O D, s) := q_rd_mX (j := 54) (n := 4096) rfl rfl (by decide) h (by decide)
theorem q_sI_54 {f : q_X β} {i : Nat} {v : Int32} (h : i < 4096) : q_wr (q_sI 3 (some (b + 54)) (nI i) v) f (q_H b C (P, Q, S) O D, s) = f (q_H b C (P, q_u2 Q 54 i v, S) O D, s) := q_wr_mX (j := 54) (n := 4096) rfl rfl (by decide) h (by decide)
theorem q_ln_55 {f : Int32 → q_X β} : q_rd (q_ln (some (b + 55))) f (q_H b C M O D, s) = f (nI 6002) (q_H b C M O D, s) := q_rd_ln (j := 55) (n := 6002) (t := 1) rfl
theorem q_lI_55 {f : Int32 → q_X β} {i : Nat} (h : i < 6002) : q_rd (q_lI 1 (some (b + 55)) (nI i)) f (q_H b C (P, Q, S) O D, s) = f (Q 55 i) (q_H b C (P, Q, S) O D, s) := q_rd_mX (j := 55) (n := 6002) rfl rfl (by decide) h (by decide)
theorem q_sI_55 {f : q_X β} {i : Nat} {v : Int32} (h : i < 6002) : q_wr (q_sI 1 (some (b + 55)) (nI i) v) f (q_H b C (P, Q, S) O D, s) = f (q_H b C (P, q_u2 Q 55 i v, S) O D, s) := q_wr_mX (j := 55) (n := 6002) rfl rfl (by decide) h (by decide)
theorem q_ln_56 {f : Int32 → q_X β} : q_rd (q_ln (some (b + 56))) f (q_H b C M O D, s) = f (nI 6002) (q_H b C M O D, s) := q_rd_ln (j := 56) (n := 6002) (t := 1) rfl
theorem q_lI_56 {f : Int32 → q_X β} {i : Nat} (h : i < 6002) : q_rd (q_lI 1 (some (b + 56)) (nI i)) f (q_H b C (P, Q, S) O D, s) = f (Q 56 i) (q_H b C (P, Q, S) O D, s) := q_rd_mX (j := 56) (n := 6002) rfl rfl (by decide) h (by decide)
theorem q_sI_56 {f : q_X β} {i : Nat} {v : Int32} (h : i < 6002) : q_wr (q_sI 1 (some (b + 56)) (nI i) v) f (q_H b C (P, Q, S) O D, s) = f (q_H b C (P, q_u2 Q 56 i v, S) O D, s) := q_wr_mX (j := 56) (n := 6002) rfl rfl (by decide) h (by decide)
theorem q_ln_57 {f : Int32 → q_X β} : q_rd (q_ln (some (b + 57))) f (q_H b C M O D, s) = f (nI 6002) (q_H b C M O D, s) := q_rd_ln (j := 57) (n := 6002) (t := 1) rfl
theorem q_lI_57 {f : Int32 → q_X β} {i : Nat} (h : i < 6002) : q_rd (q_lI 1 (some (b + 57)) (nI i)) f (q_H b C (P, Q, S) O D, s) = f (Q 57 i) (q_H b C (P, Q, S) O D, s) := q_rd_mX (j := 57) (n := 6002) rfl rfl (by decide) h (by decide)
theorem q_sI_57 {f : q_X β} {i : Nat} {v : Int32} (h : i < 6002) : q_wr (q_sI 1 (some (b + 57)) (nI i) v) f (q_H b C (P, Q, S) O D, s) = f (q_H b C (P, q_u2 Q 57 i v, S) O D, s) := q_wr_mX (j := 57) (n := 6002) rfl rfl (by decide) h (by decide)
theorem q_ln_58 {f : Int32 → q_X β} : q_rd (q_ln (some (b + 58))) f (q_H b C M O D, s) = f (nI 6002) (q_H b C M O D, s) := q_rd_ln (j := 58) (n := 6002) (t := 1) rfl
theorem q_lI_58 {f : Int32 → q_X β} {i : Nat} (h : i < 6002) : q_rd (q_lI 1 (some (b + 58)) (nI i)) f (q_H b C (P, Q, S) O D, s) = f (Q 58 i) (q_H b C (P, Q, S) O D, s) := q_rd_mX (j := 58) (n := 6002) rfl rfl (by decide) h (by decide)
theorem q_sI_58 {f : q_X β} {i : Nat} {v : Int32} (h : i < 6002) : q_wr (q_sI 1 (some (b + 58)) (nI i) v) f (q_H b C (P, Q, S) O D, s) = f (q_H b C (P, q_u2 Q 58 i v, S) O D, s) := q_wr_mX (j := 58) (n := 6002) rfl rfl (by decide) h (by decide)
theorem q_ln_59 {f : Int32 → q_X β} : q_rd (q_ln (some (b + 59))) f (q_H b C M O D, s) = f (nI 6002) (q_H b C M O D, s) := q_rd_ln (j := 59) (n := 6002) (t := 1) rfl
theorem q_lI_59 {f : Int32 → q_X β} {i : Nat} (h : i < 6002) : q_rd (q_lI 1 (some (b + 59)) (nI i)) f (q_H b C (P, Q, S) O D, s) = f (Q 59 i) (q_H b C (P, Q, S) O D, s) := q_rd_mX (j := 59) (n := 6002) rfl rfl (by decide) h (by decide)
theorem q_sI_59 {f : q_X β} {i : Nat} {v : Int32} (h : i < 6002) : q_wr (q_sI 1 (some (b + 59)) (nI i) v) f (q_H b C (P, Q, S) O D, s) = f (q_H b C (P, q_u2 Q 59 i v, S) O D, s) := q_wr_mX (j := 59) (n := 6002) rfl rfl (by decide) h (by decide)
theorem q_ln_60 {f : Int32 → q_X β} : q_rd (q_ln (some (b + 60))) f (q_H b C M O D, s) = f (nI 6002) (q_H b C M O D, s) := q_rd_ln (j := 60) (n := 6002) (t := 1) rfl
theorem q_lI_60 {f : Int32 → q_X β} {i : Nat} (h : i < 6002) : q_rd (q_lI 1 (some (b + 60)) (nI i)) f (q_H b C (P, Q, S) O D, s) = f (Q 60 i) (q_H b C (P, Q, S) O D, s) := q_rd_mX (j := 60) (n := 6002) rfl rfl (by decide) h (by decide)
theorem q_sI_60 {f : q_X β} {i : Nat} {v : Int32} (h : i < 6002) : q_wr (q_sI 1 (some (b + 60)) (nI i) v) f (q_H b C (P, Q, S) O D, s) = f (q_H b C (P, q_u2 Q 60 i v, S) O D, s) := q_wr_mX (j := 60) (n := 6002) rfl rfl (by decide) h (by decide)
theorem q_ln_61 {f : Int32 → q_X β} : q_rd (q_ln (some (b + 61))) f (q_H b C M O D, s) = f (nI 6002) (q_H b C M O D, s) := q_rd_ln (j := 61) (n := 6002) (t := 1) rfl
theorem q_lI_61 {f : Int32 → q_X β} {i : Nat} (h : i < 6002) : q_rd (q_lI 1 (some (b + 61)) (nI i)) f (q_H b C (P, Q, S) O D, s) = f (Q 61 i) (q_H b C (P, Q, S) O D, s) := q_rd_mX (j := 61) (n := 6002) rfl rfl (by decide) h (by decide)
theorem q_sI_61 {f : q_X β} {i : Nat} {v : Int32} (h : i < 6002) : q_wr (q_sI 1 (some (b + 61)) (nI i) v) f (q_H b C (P, Q, S) O D, s) = f (q_H b C (P, q_u2 Q 61 i v, S) O D, s) := q_wr_mX (j := 61) (n := 6002) rfl rfl (by decide) h (by decide)
theorem q_ln_62 {f : Int32 → q_X β} : q_rd (q_ln (some (b + 62))) f (q_H b C M O D, s) = f (nI 6000) (q_H b C M O D, s) := q_rd_ln (j := 62) (n := 6000) (t := 1) rfl
theorem q_lI_62 {f : Int32 → q_X β} {i : Nat} (h : i < 6000) : q_rd (q_lI 1 (some (b + 62)) (nI i)) f (q_H b C (P, Q, S) O D, s) = f (Q 62 i) (q_H b C (P, Q, S) O D, s) := q_rd_mX (j := 62) (n := 6000) rfl rfl (by decide) h (by decide)
theorem q_sI_62 {f : q_X β} {i : Nat} {v : Int32} (h : i < 6000) : q_wr (q_sI 1 (some (b + 62)) (nI i) v) f (q_H b C (P, Q, S) O D, s) = f (q_H b C (P, q_u2 Q 62 i v, S) O D, s) := q_wr_mX (j := 62) (n := 6000) rfl rfl (by decide) h (by decide)
theorem q_ln_63 {f : Int32 → q_X β} : q_rd (q_ln (some (b + 63))) f (q_H b C M O D, s) = f (nI 6000) (q_H b C M O D, s) := q_rd_ln (j := 63) (n := 6000) (t := 1) rfl
theorem q_lI_63 {f : Int32 → q_X β} {i : Nat} (h : i < 6000) : q_rd (q_lI 1 (some (b + 63)) (nI i)) f (q_H b C (P, Q, S) O D, s) = f (Q 63 i) (q_H b C (P, Q, S) O D, s) := q_rd_mX (j := 63) (n := 6000) rfl rfl (by decide) h (by decide)
theorem q_sI_63 {f : q_X β} {i : Nat} {v : Int32} (h : i < 6000) : q_wr (q_sI 1 (some (b + 63)) (nI i) v) f (q_H b C (P, Q, S) O D, s) = f (q_H b C (P, q_u2 Q 63 i v, S) O D, s) := q_wr_mX (j := 63) (n := 6000) rfl rfl (by decide) h (by decide)
theorem q_ln_64 {f : Int32 → q_X β} : q_rd (q_ln (some (b + 64))) f (q_H b C M O D, s) = f (nI 5) (q_H b C M O D, s) := q_rd_ln (j := 64) (n := 5) (t := 1) rfl
theorem q_lI_64 {f : Int32 → q_X β} {i : Nat} (h : i < 5) : q_rd (q_lI 1 (some (b + 64)) (nI i)) f (q_H b C (P, Q, S) O D, s) = f (Q 64 i) (q_H b C (P, Q, S) O D, s) := q_rd_mX (j := 64) (n := 5) rfl rfl (by decide) h (by decide)
theorem q_sI_64 {f : q_X β} {i : Nat} {v : Int32} (h : i < 5) : q_wr (q_sI 1 (some (b + 64)) (nI i) v) f (q_H b C (P, Q, S) O D, s) = f (q_H b C (P, q_u2 Q 64 i v, S) O D, s) := q_wr_mX (j := 64) (n := 5) rfl rfl (by decide) h (by decide)
theorem q_ln_65 {f : Int32 → q_X β} : q_rd (q_ln (some (b + 65))) f (q_H b C M O D, s) = f (nI 5) (q_H b C M O D, s) := q_rd_ln (j := 65) (n := 5) (t := 2) rfl
theorem q_lL_65 {f : Int64 → q_X β} {i : Nat} (h : i < 5) : q_rd (q_lL (some (b + 65)) (nI i)) f (q_H b C (P, Q, S) O D, s) = f (S 65 i) (q_H b C (P, Q, S) O D, s) := q_rd_mY (j := 65) (n := 5) rfl (by decide) h (by decide)
theorem q_sL_65 {f : q_X β} {i : Nat} {v : Int64} (h : i < 5) : q_wr (q_sL (some (b + 65)) (nI i) v) f (q_H b C (P, Q, S) O D, s) = f (q_H b C (P, Q, q_u2 S 65 i v) O D, s) := q_wr_mY (j := 65) (n := 5) rfl (by decide) h (by decide)
theorem q_ln_66 {f : Int32 → q_X β} : q_rd (q_ln (some (b + 66))) f (q_H b C M O D, s) = f (nI 1) (q_H b C M O D, s) := q_rd_ln (j := 66) (n := 1) (t := 2) rfl
theorem q_lL_66 {f : Int64 → q_X β} {i : Nat} (h : i < 1) : q_rd (q_lL (some (b + 66)) (nI i)) f (q_H b C M O D, s) = f (O i) (q_H b C M O D, s) := q_rd_oY h
theorem q_sL_66 {f : q_X β} {i : Nat} {v : Int64} (h : i < 1) : q_wr (q_sL (some (b + 66)) (nI i) v) f (q_H b C M O D, s) = f (q_H b C M (q_u1 O i v) D, s) := q_wr_oY h
end QHW
