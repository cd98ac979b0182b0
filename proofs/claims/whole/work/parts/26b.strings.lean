def q_sta : List (String × Nat) := [("IsaForge", 72), ("IsaForge", 87), ("IsaForge$Text", 59), ("IsaForge$Describer", 61), ("IsaForge$Describer", 107), ("IsaForge$Describer", 109), ("IsaForge$Describer", 111), ("IsaForge$Describer", 113), ("IsaForge$Describer", 115), ("IsaForge$Describer", 98), ("IsaForge$Describer", 228), ("IsaForge", 103), ("IsaForge", 112), ("IsaForge$Program", 152), ("IsaForge", 121), ("IsaForge", 137), ("IsaForge", 148), ("IsaForge$Listing", 63), ("IsaForge", 161), ("IsaForge", 182), ("IsaForge", 209), ("IsaForge", 230)]
def q_bs : List Nat := [348, 378, 412, 429, 437, 444, 451, 458, 465, 472, 486, 498, 528, 555, 570, 596, 626, 652, 662, 680, 712, 739]
abbrev q_stm (i : Nat) : Term := .string (q_sta.getD i ("", 0)).1 (q_sta.getD i ("", 0)).2
abbrev q_stv (i : Nat) : Term := .field (q_stm i) "java/lang/String" "value" "[B"
def q_Fc : List Cond := flatC (Jvm.Cond.and given_1 narrow_1)
def q_txl (i : Nat) : Nat := (q_tx.map List.length).getD i 0
def q_twd (i : Nat) : List Cond := [Cond.exactly (q_stm i) "java/lang/String", Cond.eq (.field (q_stm i) "java/lang/String" "coder" "B") (.int 0), Cond.arrayOf (q_stv i) .byte, Cond.eq (.length (q_stv i)) (.int (Int32.ofNat (q_txl i)))] ++ (List.range (q_txl i)).map fun j => Cond.eq (.elem (q_stv i) (.int (Int32.ofNat j))) (.int ((q_tx.getD i []).getD j 0))
theorem q_twd_in : ∀ i, i < 22 → (q_Fc.drop (q_bs.getD i 0)).take (4 + q_txl i) = q_twd i := by decide +kernel
theorem q_txl_lt : ∀ i, i < 22 → 0 < q_txl i ∧ q_txl i < 2 ^ 31 := by decide +kernel
theorem q_tx_inj : ∀ i, i < 22 → ∀ j, j < 22 → q_tx.getD i [] = q_tx.getD j [] → i = j := by decide +kernel
theorem q_txl_e : ∀ i, i < 22 → q_txl i = (q_tx.getD i []).length := by decide +kernel
theorem q_gd_at {a c : List Int32} {k : Nat} (h1 : k < a.length) (h2 : k < c.length) (h : a.getD k 0 = c.getD k 0) : a[k]? = c[k]? := by
  rw [List.getD_eq_getElem?_getD, List.getD_eq_getElem?_getD, List.getElem?_eq_getElem h1, List.getElem?_eq_getElem h2] at h
  rw [List.getElem?_eq_getElem h1, List.getElem?_eq_getElem h2]
  exact congrArg some h
section QSTR
variable {s : State} {args : Array Value} {A : Nat → Prop}
theorem q_len_sz {t : Term} {N : Nat} (hN : N < 2 ^ 31) (h : (Term.length t).eval args s none [] s = some (.int (Int32.ofNat N))) : ∃ a cell, t.eval args s none [] s = some (.ref a) ∧ s.arrayAt? a = some cell ∧ s.heap[a]? = some cell ∧ cell.slots.size = N := by
  obtain ⟨a, cell, h1, h2, h3⟩ := Term.length_spec h
  have h4 : cell.slots.size < 2 ^ 31 := by
    rcases Nat.lt_or_ge cell.slots.size (2 ^ 31) with h9 | h9
    · exact h9
    · simp only [Term.eval, Option.bind_eq_bind, h1, h2, Option.bind_some, if_neg (Nat.not_lt.mpr h9)] at h
      cases h
  refine ⟨a, cell, h1, h2, (State.arrayAt?_spec h2).1, ?_⟩
  have h5 : Int32.ofNat N = cell.slots.size.toInt32 := Value.int.inj h3
  have h6 : nI N = nI cell.slots.size := h5
  exact ((nI_eq hN h4).mp h6).symm
theorem q_S1 (hF : ∀ w ∈ q_Fc, w.before args s = true) (hA : ∀ a : Nat, a < s.heap.size → ¬ A a) {i : Nat} (hi : i < 22) : ∃ q : Nat × Nat, (q_stm i).eval args s none [] s = some (.ref q.1) ∧ va_O "java/lang/String" q.1 A s s.heap ∧ va_OF "java/lang/String" "coder" "B" (.int 0) q.1 A s s.heap ∧ va_OF "java/lang/String" "value" "[B" (.ref q.2) q.1 A s s.heap ∧ va_T .byte q.2 (q_txl i) (fun j => .int ((q_tx.getD i []).getD j 0)) A s s.heap ∧ ∃ cell, s.heap[q.2]? = some cell ∧ cell.slots.size = q_txl i := by
  have hw : ∀ w ∈ q_twd i, w.before args s = true := fun w hw => by
    rw [← q_twd_in i hi] at hw
    exact hF w (List.mem_of_mem_drop (List.mem_of_mem_take hw))
  have h1 := hw (Cond.exactly (q_stm i) "java/lang/String") (List.mem_append_left _ (List.mem_of_getElem? (i := 0) rfl))
  have h2 := hw (Cond.eq (.field (q_stm i) "java/lang/String" "coder" "B") (.int 0)) (List.mem_append_left _ (List.mem_of_getElem? (i := 1) rfl))
  have h3 := hw (Cond.arrayOf (q_stv i) .byte) (List.mem_append_left _ (List.mem_of_getElem? (i := 2) rfl))
  have h4 := hw (Cond.eq (.length (q_stv i)) (.int (Int32.ofNat (q_txl i)))) (List.mem_append_left _ (List.mem_of_getElem? (i := 3) rfl))
  have h5 : ∀ j : Nat, j < q_txl i → (Cond.eq (.elem (q_stv i) (.int (Int32.ofNat j))) (.int ((q_tx.getD i []).getD j 0))).before args s = true := fun j hj => hw _ (List.mem_append_right _ (List.mem_map.mpr ⟨j, List.mem_range.mpr hj, rfl⟩))
  obtain ⟨a, c, cA, kA, q1, q2, q3, q4, q5, q6, -⟩ := Cond.exactly_spec (args := args) (first := s) (o := none) (s := s) (idx := []) (t := q_stm i) (cls := "java/lang/String") h1
  obtain ⟨t, ht, hT⟩ := va_Tof (f := fun j => .int ((q_tx.getD i []).getD j 0)) (A := A) (q_txl_lt i hi).2 h3 (va_eqt h4) (fun j hj => va_eqt (h5 j hj)) hA
  obtain ⟨t', cell, g1, -, g2, g3⟩ := q_len_sz (q_txl_lt i hi).2 (va_eqt h4)
  cases ht.symm.trans g1
  exact ⟨(a, t), q1, ⟨cA, q3, q5, by rw [q6]; exact q2, hA a (Array.getElem?_eq_some_iff.mp q3).1⟩, vk_OFof q1 (va_eqt h2) hA, vk_OFof q1 ht hA, hT, cell, g2, g3⟩
theorem q_Sof (hF : ∀ w ∈ q_Fc, w.before args s = true) (hA : ∀ a : Nat, a < s.heap.size → ¬ A a) : ∃ adK adV : Nat → Nat, vk_S q_txN (q_tx.map List.length) q_tx adK adV A s s.heap ∧ (∀ i : Nat, i < 22 → (q_stm i).eval args s none [] s = some (.ref (adK i))) ∧ (∀ i j : Nat, i < 22 → j < 22 → adV i = adV j → i = j) ∧ (∀ i j : Nat, i < 22 → j < 22 → ¬ adK i = adV j) ∧ ∀ i : Nat, i < 22 → (∃ c, s.heap[adK i]? = some c ∧ 0 < c.slots.size) ∧ ∃ c, s.heap[adV i]? = some c ∧ 0 < c.slots.size := by
  have h0 : ∀ i : Nat, ∃ q : Nat × Nat, i < 22 → (q_stm i).eval args s none [] s = some (.ref q.1) ∧ va_O "java/lang/String" q.1 A s s.heap ∧ va_OF "java/lang/String" "coder" "B" (.int 0) q.1 A s s.heap ∧ va_OF "java/lang/String" "value" "[B" (.ref q.2) q.1 A s s.heap ∧ va_T .byte q.2 (q_txl i) (fun j => .int ((q_tx.getD i []).getD j 0)) A s s.heap ∧ ∃ cell, s.heap[q.2]? = some cell ∧ cell.slots.size = q_txl i := by
    intro i
    by_cases hi : i < 22
    · obtain ⟨q, hq⟩ := q_S1 hF hA hi
      exact ⟨q, fun _ => hq⟩
    · exact ⟨(0, 0), fun h => absurd h hi⟩
  obtain ⟨ad, had⟩ := Classical.axiomOfChoice h0
  have hV : ∀ i j : Nat, i < 22 → j < 22 → (ad i).2 = (ad j).2 → i = j := by
    intro i j hi hj e
    obtain ⟨-, -, -, -, ⟨c1, p1, -, -, -, -, p2, -⟩, c2, p3, p4⟩ := had i hi
    obtain ⟨-, -, -, -, ⟨d1, r1, -, -, -, -, r2, -⟩, d2, r3, r4⟩ := had j hj
    cases p1.symm.trans p3
    cases r1.symm.trans r3
    rw [e] at p1
    cases p1.symm.trans r1
    have hl : q_txl i = q_txl j := by rw [← p4, ← r4]
    refine q_tx_inj i hi j hj (List.ext_getElem? fun k => ?_)
    by_cases hk : k < q_txl i
    · have e1 := p2 k hk
      have e2 := r2 k (by rw [← hl]; exact hk)
      have e3 : ((q_tx.getD i []).getD k 0) = ((q_tx.getD j []).getD k 0) := Value.int.inj (Option.some.inj (e1.symm.trans e2))
      have l1 : k < (q_tx.getD i []).length := by rw [← q_txl_e i hi]; exact hk
      have l2 : k < (q_tx.getD j []).length := by rw [← q_txl_e j hj, ← hl]; exact hk
      exact q_gd_at l1 l2 e3
    · have l1 : ¬ k < (q_tx.getD i []).length := by rw [← q_txl_e i hi]; exact hk
      have l2 : ¬ k < (q_tx.getD j []).length := by rw [← q_txl_e j hj, ← hl]; exact hk
      rw [List.getElem?_eq_none (Nat.not_lt.mp l1), List.getElem?_eq_none (Nat.not_lt.mp l2)]
  refine ⟨fun i => (ad i).1, fun i => (ad i).2, ⟨fun i hi => ⟨(had i hi).2.1, (had i hi).2.2.1, (had i hi).2.2.2.1, (had i hi).2.2.2.2.1⟩, fun i j hi hj e => ?_⟩, fun i hi => (had i hi).1, hV, fun i j hi hj e => ?_, fun i hi => ?_⟩
  · obtain ⟨-, -, -, ⟨cf, k, x, f, cell, p1, p2, p3, p4, p5, p6⟩, -⟩ := had i hi
    obtain ⟨-, -, -, ⟨cf', k', x', f', cell', r1, r2, r3, r4, r5, r6⟩, -⟩ := had j hj
    cases p1.symm.trans r1
    have e' : (ad i).1 = (ad j).1 := e
    rw [e'] at p3
    cases p3.symm.trans r3
    exact hV i j hi hj (Value.ref.inj (Option.some.inj (p5.symm.trans r5)))
  · obtain ⟨-, -, -, ⟨cf, k, x, f, cell, p1, p2, p3, p4, p5, p6⟩, -⟩ := had i hi
    obtain ⟨-, -, -, -, ⟨d1, r1, -, -, -, -, r2, -⟩, d2, r3, r4⟩ := had j hj
    cases r1.symm.trans r3
    have e' : (ad i).1 = (ad j).2 := e
    rw [e'] at p3
    cases p3.symm.trans r1
    have hlt : f.slot < q_txl j := by rw [← r4]; exact (Array.getElem?_eq_some_iff.mp p5).1
    cases p5.symm.trans (r2 _ hlt)
  · obtain ⟨-, -, -, ⟨cf, k, x, f, cell, p1, p2, p3, p4, p5, p6⟩, -, c2, p7, p8⟩ := had i hi
    exact ⟨⟨cell, p3, Nat.lt_of_le_of_lt (Nat.zero_le _) (Array.getElem?_eq_some_iff.mp p5).1⟩, c2, p7, by rw [p8]; exact (q_txl_lt i hi).1⟩
end QSTR
