/-! the constructors: cells made one after another -/
def q_WL (b : Nat) (cs : List q_Cel) (D : q_Mem) : q_Mem := fun a => if b < a ∧ a ≤ b + cs.length then cs[a - b - 1]? else D a
def q_pcs : q_Cel → Nat → Value → q_Cel
  | .inr (.inl (c, fs)), k, v => .inr (.inl (c, fs.set k v))
  | c, _, _ => c
def q_pls : List q_Cel → Nat → Nat → Value → List q_Cel
  | [], _, _, _ => []
  | c :: r, 0, k, v => q_pcs c k v :: r
  | c :: r, i + 1, k, v => c :: q_pls r i k v
def q_plk (cs : List q_Cel) (j ci k : Nat) : Bool := match cs[j]? with
  | some (.inr (.inl (c, fs))) => decide (c = ci ∧ k < fs.length)
  | _ => false
def q_plg (cs : List q_Cel) (j k : Nat) : Option Value := match cs[j]? with
  | some (.inr (.inl (_, fs))) => fs[k]?
  | _ => none
theorem q_pls_s : ∀ (cs : List q_Cel) (j k c : Nat) (fs : List Value) (v : Value), cs[j]? = some (.inr (.inl (c, fs))) → q_pls cs j k v = cs.set j (.inr (.inl (c, fs.set k v))) := by
  intro cs
  induction cs with
  | nil => intro j k c fs v h; rfl
  | cons x r ih =>
    intro j k c fs v h
    cases j with
    | zero =>
      have h1 : x = .inr (.inl (c, fs)) := Option.some.inj h
      rw [h1]
      rfl
    | succ j =>
      have h1 : r[j]? = some (.inr (.inl (c, fs))) := h
      show x :: q_pls r j k v = x :: r.set j _
      rw [ih j k c fs v h1]
section QWL
variable {b : Nat} {D : q_Mem} {β : Type}
theorem q_WL_s {cs : List q_Cel} {j : Nat} (h : j < cs.length) : q_WL b cs D (b + (j + 1)) = cs[j]? := by
  unfold q_WL
  rw [if_pos ⟨by omega, by omega⟩]
  congr 1
  omega
theorem q_WL_d {cs : List q_Cel} {a : Nat} (h : a ≤ b ∨ b + cs.length < a) : q_WL b cs D a = D a := by
  unfold q_WL
  rw [if_neg (by omega)]
theorem q_WL_up {cs : List q_Cel} {e : q_Cel} : q_up (q_WL b cs D) (b + (cs.length + 1)) e = q_WL b (cs ++ [e]) D := by
  funext a
  by_cases ha : a = b + (cs.length + 1)
  · subst ha
    rw [q_up_s, q_WL_s (by rw [List.length_append]; exact Nat.lt_succ_self _), List.getElem?_append_right (Nat.le_refl _), Nat.sub_self]
    rfl
  · rw [q_up_n _ _ ha]
    unfold q_WL
    rw [List.length_append]
    by_cases c : b < a ∧ a ≤ b + cs.length
    · rw [if_pos c, if_pos ⟨c.1, by omega⟩, List.getElem?_append_left (by omega)]
    · rw [if_neg c, if_neg]
      intro h
      have h2 : a ≤ b + (cs.length + 1) := h.2
      omega
theorem q_mk_W {e : q_Cel} {n m c j : Nat} {f : Nat → q_X β} {cs : List q_Cel} (h : cs.length = j) : q_mk e n f (q_WL b cs D, b + (j + 1), m + c) = f (b + (j + 1)) (q_WL b (cs ++ [e]) D, b + (j + 2), m + (c + n)) := by
  subst h
  unfold q_mk
  rw [← q_WL_up, ← Nat.add_assoc m c n]
  rfl
theorem q_fs_W {cs : List q_Cel} {j ci : Nat} {fs : List Value} (h : cs[j]? = some (.inr (.inl (ci, fs)))) : q_fs (some (b + (j + 1))) ci (q_WL b cs D) = some (b + (j + 1), fs) := by
  have e : q_WL b cs D (b + (j + 1)) = some (.inr (.inl (ci, fs))) := by
    rw [q_WL_s (List.getElem?_eq_some_iff.mp h).1, h]
  unfold q_fs
  simp only [e, if_true]
theorem q_plk_e {cs : List q_Cel} {j ci k : Nat} (h : q_plk cs j ci k = true) : ∃ fs, cs[j]? = some (.inr (.inl (ci, fs))) ∧ k < fs.length := by
  unfold q_plk at h
  split at h
  · rename_i c fs e
    obtain ⟨h1, h2⟩ := of_decide_eq_true h
    subst h1
    exact ⟨fs, e, h2⟩
  · cases h
theorem q_wr_W {cs : List q_Cel} {j ci k : Nat} {v : Value} {f : q_X β} {s : Nat × Nat} (h : q_plk cs j ci k = true) : q_wr (q_pF (some (b + (j + 1))) ci k v) f (q_WL b cs D, s) = f (q_WL b (q_pls cs j k v) D, s) := by
  obtain ⟨fs, h1, h2⟩ := q_plk_e h
  refine q_wr_g ?_
  unfold q_pF
  rw [q_fs_W h1]
  show (if k < fs.length then _ else _) = _
  rw [if_pos h2, q_pls_s cs j k ci fs v h1]
  congr 1
  have hl := (List.getElem?_eq_some_iff.mp h1).1
  funext a
  by_cases ha : a = b + (j + 1)
  · subst ha
    rw [q_up_s, q_WL_s (by rw [List.length_set]; exact hl), List.getElem?_set, if_pos rfl, if_pos hl]
  · rw [q_up_n _ _ ha]
    unfold q_WL
    rw [List.length_set]
    by_cases c : b < a ∧ a ≤ b + cs.length
    · rw [if_pos c, if_pos c, List.getElem?_set, if_neg (by omega)]
    · rw [if_neg c, if_neg c]
theorem q_rd_W {cs : List q_Cel} {j ci k x : Nat} {f : Option Nat → q_X β} {s : Nat × Nat} (h : q_plk cs j ci k = true) (hx : q_plg cs j k = some (va_rf (some x))) : q_rd (q_gA (some (b + (j + 1))) ci k) f (q_WL b cs D, s) = f (some x) (q_WL b cs D, s) := by
  obtain ⟨fs, h1, h2⟩ := q_plk_e h
  refine q_rd_g ?_
  unfold q_gA
  rw [q_fs_W h1]
  unfold q_plg at hx
  rw [h1] at hx
  show (fs[k]?).bind q_vA = _
  have hx' : fs[k]? = some (va_rf (some x)) := hx
  rw [hx']
  rfl
theorem q_gd_W {c : Prop} [Decidable c] {a : q_X β} {σ : q_St} (h : c) : q_gd c a σ = a σ := if_pos h
theorem q_rd_14 {c1 c2 c3 c4 c5 c6 c7 c8 c9 c10 c11 c12 c13 : q_Cel} {r : List q_Cel} {y : Nat} {fr : List Value} {f : Option Nat → q_X β} {s : Nat × Nat} : q_rd (q_gA (some (b + 14)) 12 0) f (q_WL b (c1 :: c2 :: c3 :: c4 :: c5 :: c6 :: c7 :: c8 :: c9 :: c10 :: c11 :: c12 :: c13 :: .inr (.inl (12, va_rf (some y) :: fr)) :: r) D, s) = f (some y) (q_WL b (c1 :: c2 :: c3 :: c4 :: c5 :: c6 :: c7 :: c8 :: c9 :: c10 :: c11 :: c12 :: c13 :: .inr (.inl (12, va_rf (some y) :: fr)) :: r) D, s) := q_rd_W (j := 13) (by
  have : decide (12 = 12 ∧ 0 < (va_rf (some y) :: fr).length) = true := decide_eq_true ⟨rfl, Nat.succ_pos _⟩
  exact this) rfl
def q_fvx (g : Nat → Value) : List Value := (List.range 57).map g
theorem q_fvx_s {g : Nat → Value} {k : Nat} {v : Value} (hk : k < 57) : (q_fvx g).set k v = q_fvx (q_u1 g k v) := by
  unfold q_fvx
  apply List.ext_getElem?
  intro i
  rw [List.getElem?_set, List.getElem?_map, List.getElem?_map]
  by_cases hi : i < 57
  · rw [List.getElem?_range hi]
    by_cases e : k = i
    · subst e
      rw [if_pos rfl, if_pos (by rw [List.length_map, List.length_range]; exact hk)]
      show some v = some (q_u1 g k v k)
      rw [q_u1_s]
    · rw [if_neg e]
      show some (g i) = some (q_u1 g k v i)
      rw [q_u1_n _ _ (Ne.symm e)]
  · rw [if_neg (by omega), List.getElem?_eq_none (by rw [List.length_range]; omega)]
    rfl
theorem q_wr_V {g : Nat → Value} {k : Nat} {v : Value} {f : q_X β} {s : Nat × Nat} {r : List q_Cel} (hk : k < 57) : q_wr (q_pF (some (b + 1)) 16 k v) f (q_WL b (.inr (.inl (16, q_fvx g)) :: r) D, s) = f (q_WL b (.inr (.inl (16, q_fvx (q_u1 g k v))) :: r) D, s) := by
  have h := q_wr_W (b := b) (D := D) (cs := .inr (.inl (16, q_fvx g)) :: r) (j := 0) (ci := 16) (k := k) (v := v) (f := f) (s := s) (by
    have : decide (16 = 16 ∧ k < (q_fvx g).length) = true := decide_eq_true ⟨rfl, by unfold q_fvx; rw [List.length_map, List.length_range]; exact hk⟩
    exact this)
  rw [h]
  show f (q_WL b (.inr (.inl (16, (q_fvx g).set k v)) :: r) D, s) = _
  rw [q_fvx_s hk]
end QWL
def q_cl0 (κ : Nat → Nat) (b : Nat) : List q_Cel := [(.inr (.inl (14, [va_rf (some (b + 2)), va_rf (some (b + 14)), va_rf (some (b + 8)), va_rf (some (b + 11)), va_rf (some (b + 19)), va_rf (some (b + 21)), va_rf (some (b + 15))]))), (.inr (.inl (13, [va_rf (some (b + 3)), va_rf (some (b + 4)), va_rf (some (b + 5)), va_rf (some (b + 6)), va_rf (some (b + 7)), .int 0, .int 0]))), (q_nI 0 (6000 : Int32)), (q_nI 0 (6003 : Int32)), (q_nI 1 (6003 : Int32)), (q_nI 1 (6003 : Int32)), (q_nL (6003 : Int32)), (.inr (.inl (8, [va_rf (some (b + 9)), va_rf (some (b + 10)), .int 0, .int 0, .int 0]))), (q_nA 5 (40 : Int32)), (q_nA 4 (96 : Int32)), (.inr (.inl (9, [va_rf (some (b + 12)), va_rf (some (b + 13)), .int 0]))), (q_nL (4096 : Int32)), (q_nI 3 (4096 : Int32)), (.inr (.inl (12, [va_rf (some (b + 2)), .int 0, .int 0, .int (-1 : Int32)]))), (.inr (.inl (7, [va_rf (some (b + 8)), va_rf (some (b + 11)), va_rf (some (b + 16)), va_rf (some (b + 17)), va_rf (some (b + 18)), .int 0, .int (-1 : Int32)]))), (q_nL (5 : Int32)), (q_nI 0 (20 : Int32)), (q_nI 0 (200 : Int32)), (.inr (.inl (3, [va_rf (some (b + 14)), va_rf (some (b + 2)), va_rf (some (b + 8)), .null, .int 0, va_rf (some (b + 20)), .int 0]))), (q_nL (5 : Int32)), (.inr (.inl (11, [va_rf (some (b + 14)), va_rf (some (b + 2)), va_rf (some (b + 8)), va_rf (some (b + 11)), va_rf (some (b + 22)), va_rf (some (b + 23)), va_rf (some (b + 24)), va_rf (some (b + 25)), .int 0]))), (.inr (.inl (2, [.int 0, va_rf (some (κ 99)), .int 0]))), (.inr (.inl (2, [.int 0, va_rf (some (κ 99)), .int 0]))), (q_nI 1 (256 : Int32)), (q_nL (5 : Int32))]
def q_md0 (b : Nat) : List q_Cel := [(.inr (.inl (16, [va_rf (some (b + 2)), va_rf (some (b + 3)), va_rf (some (b + 4)), .int 0, .int 0, .int 0, .int (-1 : Int32), .int 0, .int (-1 : Int32), va_rf (some (b + 5)), va_rf (some (b + 6)), va_rf (some (b + 7)), va_rf (some (b + 8)), .int 0, .int 0, .int 0, va_rf (some (b + 9)), va_rf (some (b + 10)), va_rf (some (b + 11)), .int 0, .int 0, .int 0, .int 0, .int 0, va_rf (some (b + 12)), va_rf (some (b + 13)), va_rf (some (b + 14)), va_rf (some (b + 15)), va_rf (some (b + 16)), va_rf (some (b + 17)), va_rf (some (b + 18)), va_rf (some (b + 19)), va_rf (some (b + 20)), va_rf (some (b + 21)), va_rf (some (b + 22)), va_rf (some (b + 23)), va_rf (some (b + 24)), va_rf (some (b + 25)), va_rf (some (b + 26)), va_rf (some (b + 27)), va_rf (some (b + 28)), va_rf (some (b + 29)), .int 0, .int 0, .int 0, va_rf (some (b + 30)), va_rf (some (b + 31)), va_rf (some (b + 32)), va_rf (some (b + 33)), va_rf (some (b + 34)), va_rf (some (b + 35)), va_rf (some (b + 36)), .int 0, va_rf (some (b + 37)), va_rf (some (b + 38)), va_rf (some (b + 39)), va_rf (some (b + 40))]))), (q_nI 0 (6000 : Int32)), (q_nI 0 (6000 : Int32)), (q_nI 0 (400 : Int32)), (q_nI 1 (6002 : Int32)), (q_nI 1 (6002 : Int32)), (q_nI 1 (6002 : Int32)), (q_nL (6002 : Int32)), (q_nI 0 (60000 : Int32)), (q_nI 1 (8000 : Int32)), (q_nI 1 (8000 : Int32)), (q_nI 1 (40 : Int32)), (q_nI 1 (40 : Int32)), (q_nI 1 (40 : Int32)), (q_nI 1 (40 : Int32)), (q_nI 1 (40 : Int32)), (q_nI 1 (1280 : Int32)), (q_nI 1 (96 : Int32)), (q_nI 1 (96 : Int32)), (q_nI 1 (96 : Int32)), (q_nI 1 (96 : Int32)), (q_nI 1 (96 : Int32)), (q_nI 1 (1152 : Int32)), (q_nI 1 (480 : Int32)), (q_nI 1 (480 : Int32)), (q_nI 1 (15360 : Int32)), (q_nI 1 (160 : Int32)), (q_nL (4096 : Int32)), (q_nI 3 (4096 : Int32)), (q_nI 1 (6002 : Int32)), (q_nI 1 (6002 : Int32)), (q_nI 1 (6002 : Int32)), (q_nI 1 (6002 : Int32)), (q_nI 1 (6002 : Int32)), (q_nI 1 (6002 : Int32)), (q_nI 1 (6002 : Int32)), (q_nI 1 (6000 : Int32)), (q_nI 1 (6000 : Int32)), (q_nI 1 (5 : Int32)), (q_nL (5 : Int32))]
theorem q_tn_5 : (5 : Int32).toNatClampNeg = 5 := rfl
theorem q_tn_20 : (20 : Int32).toNatClampNeg = 20 := rfl
theorem q_tn_40 : (40 : Int32).toNatClampNeg = 40 := rfl
theorem q_tn_96 : (96 : Int32).toNatClampNeg = 96 := rfl
theorem q_tn_160 : (160 : Int32).toNatClampNeg = 160 := rfl
theorem q_tn_200 : (200 : Int32).toNatClampNeg = 200 := rfl
theorem q_tn_256 : (256 : Int32).toNatClampNeg = 256 := rfl
theorem q_tn_400 : (400 : Int32).toNatClampNeg = 400 := rfl
theorem q_tn_480 : (480 : Int32).toNatClampNeg = 480 := rfl
theorem q_tn_1152 : (1152 : Int32).toNatClampNeg = 1152 := rfl
theorem q_tn_1280 : (1280 : Int32).toNatClampNeg = 1280 := rfl
theorem q_tn_4096 : (4096 : Int32).toNatClampNeg = 4096 := rfl
theorem q_tn_6000 : (6000 : Int32).toNatClampNeg = 6000 := rfl
theorem q_tn_6002 : (6002 : Int32).toNatClampNeg = 6002 := rfl
theorem q_tn_6003 : (6003 : Int32).toNatClampNeg = 6003 := rfl
theorem q_tn_8000 : (8000 : Int32).toNatClampNeg = 8000 := rfl
theorem q_tn_15360 : (15360 : Int32).toNatClampNeg = 15360 := rfl
theorem q_tn_60000 : (60000 : Int32).toNatClampNeg = 60000 := rfl
section QIN
variable {κ : Nat → Nat} {b m : Nat} {D : q_Mem}
def q_g0 (k : Nat) : Value := if k ∈ [3, 4, 5, 6, 7, 8, 13, 14, 15, 19, 20, 21, 22, 23, 42, 43, 44, 52] then .int 0 else .null
set_option maxRecDepth 10000 in
theorem q_obj26 : ([.null, .null, .null, .int 0, .int 0, .int 0, .int 0, .int 0, .int 0, .null, .null, .null, .null, .int 0, .int 0, .int 0, .null, .null, .null, .int 0, .int 0, .int 0, .int 0, .int 0, .null, .null, .null, .null, .null, .null, .null, .null, .null, .null, .null, .null, .null, .null, .null, .null, .null, .null, .int 0, .int 0, .int 0, .null, .null, .null, .null, .null, .null, .null, .int 0, .null, .null, .null, .null] : List Value) = q_fvx q_g0 := by decide +kernel
set_option maxRecDepth 10000 in
theorem q_init13 : F_X13_init κ (some (b + 1)) (q_WL b [(.inr (.inl (16, [.null, .null, .null, .int 0, .int 0, .int 0, .int 0, .int 0, .int 0, .null, .null, .null, .null, .int 0, .int 0, .int 0, .null, .null, .null, .int 0, .int 0, .int 0, .int 0, .int 0, .null, .null, .null, .null, .null, .null, .null, .null, .null, .null, .null, .null, .null, .null, .null, .null, .null, .null, .int 0, .int 0, .int 0, .null, .null, .null, .null, .null, .null, .null, .int 0, .null, .null, .null, .null])))] D, b + 2, m + 57) = some (.inl (), (q_WL b (q_md0 b) D, b + 41, m + 194273)) := by
  rw [q_obj26]
  simp (disch := first | rfl | exact Option.some_ne_none _ | exact of_decide_eq_true rfl) only [F_X13_init, ↓q_gd_W, ↓q_mk_W, ↓q_wr_V, q_ca, q_rt, List.cons_append, List.nil_append, Nat.reduceAdd, q_tn_5, q_tn_20, q_tn_40, q_tn_96, q_tn_160, q_tn_200, q_tn_256, q_tn_400, q_tn_480, q_tn_1152, q_tn_1280, q_tn_4096, q_tn_6000, q_tn_6002, q_tn_6003, q_tn_8000, q_tn_15360, q_tn_60000]
  rfl
set_option maxRecDepth 10000 in
theorem q_init11 : F_X11_init κ (some (b + 1)) (q_WL b [(.inr (.inl (14, [.null, .null, .null, .null, .null, .null, .null])))] D, b + 2, m + 7) = some (.inl (), (q_WL b (q_cl0 κ b) D, b + 26, m + 38886)) := by
  simp (disch := first | rfl | exact Option.some_ne_none _ | exact of_decide_eq_true rfl) only [F_X11_init, F_X10_init, F_X5_init, F_X6_init, F_X9_init, F_X4_init, F_X0_init, F_X8_init, F_Jx4a65c_init_da8c8, F_Jxc12de_init_da8c8, F_Jxa1e45_init_da8c8, ↓q_gd_W, ↓q_mk_W, ↓q_wr_W, ↓q_rd_14, q_rd_14, q_ca, q_rt, q_pls, q_pcs, List.cons_append, List.nil_append, List.set_cons_succ, List.set_cons_zero, Nat.reduceAdd, q_tn_5, q_tn_20, q_tn_40, q_tn_96, q_tn_160, q_tn_200, q_tn_256, q_tn_400, q_tn_480, q_tn_1152, q_tn_1280, q_tn_4096, q_tn_6000, q_tn_6002, q_tn_6003, q_tn_8000, q_tn_15360, q_tn_60000]
  rfl
end QIN
