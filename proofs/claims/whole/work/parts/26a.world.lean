theorem q_tm1 {w : Cond} (i : Nat) (h : tables_1_1[i]? = some w) : w ∈ lw_tbl := List.mem_append_right _ (List.mem_append_left _ (List.mem_of_getElem? h))
theorem q_tm2 {w : Cond} (i : Nat) (h : tables_1_2[i]? = some w) : w ∈ lw_tbl := List.mem_append_right _ (List.mem_append_right _ (List.mem_append_left _ (List.mem_of_getElem? h)))
theorem q_tm3 {w : Cond} (i : Nat) (h : tables_1_3[i]? = some w) : w ∈ lw_tbl := List.mem_append_right _ (List.mem_append_right _ (List.mem_append_right _ (List.mem_append_left _ (List.mem_of_getElem? h))))
theorem q_tm4 {w : Cond} (i : Nat) (h : tables_1_4[i]? = some w) : w ∈ lw_tbl := List.mem_append_right _ (List.mem_append_right _ (List.mem_append_right _ (List.mem_append_right _ (List.mem_append_left _ (List.mem_of_getElem? h)))))
theorem q_tm5 {w : Cond} (i : Nat) (h : tables_1_5[i]? = some w) : w ∈ lw_tbl := List.mem_append_right _ (List.mem_append_right _ (List.mem_append_right _ (List.mem_append_right _ (List.mem_append_right _ (List.mem_append_left _ (List.mem_of_getElem? h))))))
theorem q_tm6 {w : Cond} (i : Nat) (h : tables_1_6[i]? = some w) : w ∈ lw_tbl := List.mem_append_right _ (List.mem_append_right _ (List.mem_append_right _ (List.mem_append_right _ (List.mem_append_right _ (List.mem_append_right _ (List.mem_append_left _ (List.mem_of_getElem? h)))))))
theorem q_tm7 {w : Cond} (i : Nat) (h : tables_1_7[i]? = some w) : w ∈ lw_tbl := List.mem_append_right _ (List.mem_append_right _ (List.mem_append_right _ (List.mem_append_right _ (List.mem_append_right _ (List.mem_append_right _ (List.mem_append_right _ (List.mem_append_left _ (List.mem_of_getElem? h))))))))
theorem q_tm8 {w : Cond} (i : Nat) (h : tables_1_8[i]? = some w) : w ∈ lw_tbl := List.mem_append_right _ (List.mem_append_right _ (List.mem_append_right _ (List.mem_append_right _ (List.mem_append_right _ (List.mem_append_right _ (List.mem_append_right _ (List.mem_append_right _ (List.mem_append_left _ (List.mem_of_getElem? h)))))))))
theorem q_tm9 {w : Cond} (i : Nat) (h : tables_1_9[i]? = some w) : w ∈ lw_tbl := List.mem_append_right _ (List.mem_append_right _ (List.mem_append_right _ (List.mem_append_right _ (List.mem_append_right _ (List.mem_append_right _ (List.mem_append_right _ (List.mem_append_right _ (List.mem_append_right _ (List.mem_of_getElem? h)))))))))
theorem qi_J0 : ∀ w ∈ u_ws RJ0 TJ0 4, w ∈ q_Wt := by
  have e : u_ws RJ0 TJ0 4 = [.laysFinal "java/lang/String" "java/lang/String" "value" "[B", .laysFinal "java/lang/String" "java/lang/String" "coder" "B", .lays "java/lang/String" "java/lang/String" "hash" "I", .lays "java/lang/String" "java/lang/String" "hashIsZero" "Z"] := by decide +kernel
  rw [e]
  exact (List.forall_mem_cons.mpr ⟨(q_in4 179 (by decide +kernel) (by decide +kernel)), (List.forall_mem_cons.mpr ⟨(q_in4 181 (by decide +kernel) (by decide +kernel)), (List.forall_mem_cons.mpr ⟨(q_in4 183 (by decide +kernel) (by decide +kernel)), (List.forall_mem_cons.mpr ⟨(q_in4 185 (by decide +kernel) (by decide +kernel)), (fun _ h => nomatch h)⟩)⟩)⟩)⟩)
theorem qi_J4 : ∀ w ∈ u_ws RJ4 TJ4 4, w ∈ q_Wt := by
  have e : u_ws RJ4 TJ4 4 = [.lays "java/lang/StringBuilder" "java/lang/AbstractStringBuilder" "value" "[B", .lays "java/lang/StringBuilder" "java/lang/AbstractStringBuilder" "coder" "B", .lays "java/lang/StringBuilder" "java/lang/AbstractStringBuilder" "maybeLatin1" "Z", .lays "java/lang/StringBuilder" "java/lang/AbstractStringBuilder" "count" "I"] := by decide +kernel
  rw [e]
  exact (List.forall_mem_cons.mpr ⟨(q_in4 16 (by decide +kernel) (by decide +kernel)), (List.forall_mem_cons.mpr ⟨(q_in4 18 (by decide +kernel) (by decide +kernel)), (List.forall_mem_cons.mpr ⟨(q_in4 20 (by decide +kernel) (by decide +kernel)), (List.forall_mem_cons.mpr ⟨(q_in4 22 (by decide +kernel) (by decide +kernel)), (fun _ h => nomatch h)⟩)⟩)⟩)⟩)
theorem q_Kst {s : State} {args : Array Value} (hts : ∀ w ∈ lw_tbl, w.before args s = true) : ∃ (G : va_G) (T : Nat → ClassId), va_K G vwCl [(T 0, .byte), (T 1, .int), (T 2, .long), (T 3, .boolean), (T 4, .object "IsaForge$Instruction"), (T 5, .object "IsaForge$Kind"), (T 6, .object "IsaForge$Name"), (T 7, .object "java/lang/Object")] s := by
  have hW : ∀ w ∈ q_Wt, w.before args s = true := fun w hw => hts w (List.mem_filter.mp hw).1
  obtain ⟨c0, i0, k0⟩ := u_known (C := RJ0) (T := TJ0) (N := 4) (n := 4) hW qi_J0 (hts (.instantiable RJ0 4) (q_tm4 144 (by decide +kernel)))
  obtain ⟨c1, i1, k1⟩ := u_known (C := RJ4) (T := TJ4) (N := 4) (n := 4) hW qi_J4 (hts (.instantiable RJ4 4) (q_tm3 236 (by decide +kernel)))
  obtain ⟨c2, i2, k2⟩ := u_known (C := RJx4a65c) (T := TJx4a65c) (N := 3) (n := 3) hW qi_Jx4a65c (hts (.instantiable RJx4a65c 3) (q_tm2 6 (by decide +kernel)))
  obtain ⟨c3, i3, k3⟩ := u_known (C := RX0) (T := TX0) (N := 7) (n := 7) hW qi_X0 (hts (.instantiable RX0 7) (q_tm1 212 (by decide +kernel)))
  obtain ⟨c4, i4, k4⟩ := u_known (C := RX1) (T := TX1) (N := 11) (n := 11) hW qi_X1 (hts (.instantiable RX1 11) (q_tm3 218 (by decide +kernel)))
  obtain ⟨c5, i5, k5⟩ := u_known (C := RX2) (T := TX2) (N := 6) (n := 6) hW qi_X2 (hts (.instantiable RX2 6) (q_tm5 107 (by decide +kernel)))
  obtain ⟨c6, i6, k6⟩ := u_known (C := RX3) (T := TX3) (N := 8) (n := 8) hW qi_X3 (hts (.instantiable RX3 8) (q_tm6 8 (by decide +kernel)))
  obtain ⟨c7, i7, k7⟩ := u_known (C := RX4) (T := TX4) (N := 7) (n := 7) hW qi_X4 (hts (.instantiable RX4 7) (q_tm1 181 (by decide +kernel)))
  obtain ⟨c8, i8, k8⟩ := u_known (C := RX5) (T := TX5) (N := 5) (n := 5) hW qi_X5 (hts (.instantiable RX5 5) (q_tm1 98 (by decide +kernel)))
  obtain ⟨c9, i9, k9⟩ := u_known (C := RX6) (T := TX6) (N := 3) (n := 3) hW qi_X6 (hts (.instantiable RX6 3) (q_tm1 135 (by decide +kernel)))
  obtain ⟨c10, i10, k10⟩ := u_known (C := RX7) (T := TX7) (N := 1) (n := 1) hW qi_X7 (hts (.instantiable RX7 1) (q_tm3 220 (by decide +kernel)))
  obtain ⟨c11, i11, k11⟩ := u_known (C := RX8) (T := TX8) (N := 9) (n := 9) hW qi_X8 (hts (.instantiable RX8 9) (q_tm2 0 (by decide +kernel)))
  obtain ⟨c12, i12, k12⟩ := u_known (C := RX9) (T := TX9) (N := 4) (n := 4) hW qi_X9 (hts (.instantiable RX9 4) (q_tm1 156 (by decide +kernel)))
  obtain ⟨c13, i13, k13⟩ := u_known (C := RX10) (T := TX10) (N := 7) (n := 7) hW qi_X10 (hts (.instantiable RX10 7) (q_tm1 48 (by decide +kernel)))
  obtain ⟨c14, i14, k14⟩ := u_known (C := RX11) (T := TX11) (N := 7) (n := 7) hW qi_X11 (hts (.instantiable RX11 7) (q_tm1 40 (by decide +kernel)))
  obtain ⟨c15, i15, k15⟩ := u_known (C := RX12) (T := TX12) (N := 8) (n := 8) hW qi_X12 (hts (.instantiable RX12 8) (q_tm8 153 (by decide +kernel)))
  obtain ⟨c16, i16, k16⟩ := u_known (C := RX13) (T := TX13) (N := 57) (n := 57) hW qi_X13 (hts (.instantiable RX13 57) (q_tm7 143 (by decide +kernel)))
  obtain ⟨t0, u0, v0, f0, g0, h0⟩ := Cond.arrayClass_spec (args := args) (first := s) (o := none) (s := s) (idx := []) (hts (.arrayClass .byte) (q_tm1 94 (by decide +kernel)))
  obtain ⟨t1, u1, v1, f1, g1, h1⟩ := Cond.arrayClass_spec (args := args) (first := s) (o := none) (s := s) (idx := []) (hts (.arrayClass .int) (q_tm1 95 (by decide +kernel)))
  obtain ⟨t2, u2, v2, f2, g2, h2⟩ := Cond.arrayClass_spec (args := args) (first := s) (o := none) (s := s) (idx := []) (hts (.arrayClass .long) (q_tm1 96 (by decide +kernel)))
  obtain ⟨t3, u3, v3, f3, g3, h3⟩ := Cond.arrayClass_spec (args := args) (first := s) (o := none) (s := s) (idx := []) (hts (.arrayClass .boolean) (q_tm1 154 (by decide +kernel)))
  obtain ⟨v4, t4, u4, d4, e4, g4, h4, f4⟩ := Cond.arrayOver_spec (args := args) (first := s) (o := none) (s := s) (idx := []) (hts (.arrayOver (.object "IsaForge$Instruction")) (q_tm1 106 (by decide +kernel)))
  obtain ⟨v5, t5, u5, d5, e5, g5, h5, f5⟩ := Cond.arrayOver_spec (args := args) (first := s) (o := none) (s := s) (idx := []) (hts (.arrayOver (.object "IsaForge$Kind")) (q_tm1 104 (by decide +kernel)))
  obtain ⟨v6, t6, u6, d6, e6, g6, h6, f6⟩ := Cond.arrayOver_spec (args := args) (first := s) (o := none) (s := s) (idx := []) (hts (.arrayOver (.object "IsaForge$Name")) (q_tm4 199 (by decide +kernel)))
  obtain ⟨v7, t7, u7, d7, e7, g7, h7, f7⟩ := Cond.arrayOver_spec (args := args) (first := s) (o := none) (s := s) (idx := []) (hts (.arrayOver (.object "java/lang/Object")) (q_tm6 94 (by decide +kernel)))
  refine ⟨(fun k => [c0, c1, c2, c3, c4, c5, c6, c7, c8, c9, c10, c11, c12, c13, c14, c15, c16].getD k c0, fun k => [i0, i1, i2, i3, i4, i5, i6, i7, i8, i9, i10, i11, i12, i13, i14, i15, i16].getD k i0), fun k => [t0, t1, t2, t3, t4, t5, t6, t7].getD k t0, fun c q hq => ?_, fun c q hq => ?_⟩
  · match c, hq with
    | 0, hq => cases hq; exact k0
    | 1, hq => cases hq; exact k1
    | 2, hq => cases hq; exact k2
    | 3, hq => cases hq; exact k3
    | 4, hq => cases hq; exact k4
    | 5, hq => cases hq; exact k5
    | 6, hq => cases hq; exact k6
    | 7, hq => cases hq; exact k7
    | 8, hq => cases hq; exact k8
    | 9, hq => cases hq; exact k9
    | 10, hq => cases hq; exact k10
    | 11, hq => cases hq; exact k11
    | 12, hq => cases hq; exact k12
    | 13, hq => cases hq; exact k13
    | 14, hq => cases hq; exact k14
    | 15, hq => cases hq; exact k15
    | 16, hq => cases hq; exact k16
    | c + 17, hq => simp [vwCl] at hq
  · match c, hq with
    | 0, hq => cases hq; exact ⟨fun n z => ⟨fun k h => (by cases h), u0, g0, v0, h0⟩, f0⟩
    | 1, hq => cases hq; exact ⟨fun n z => ⟨fun k h => (by cases h), u1, g1, v1, h1⟩, f1⟩
    | 2, hq => cases hq; exact ⟨fun n z => ⟨fun k h => (by cases h), u2, g2, v2, h2⟩, f2⟩
    | 3, hq => cases hq; exact ⟨fun n z => ⟨fun k h => (by cases h), u3, g3, v3, h3⟩, f3⟩
    | 4, hq => cases hq; exact ⟨fun n z => ⟨fun k h => (by cases h), u4, g4, v4, h4⟩, u4, v4, g4, h4, d4, f4⟩
    | 5, hq => cases hq; exact ⟨fun n z => ⟨fun k h => (by cases h), u5, g5, v5, h5⟩, u5, v5, g5, h5, d5, f5⟩
    | 6, hq => cases hq; exact ⟨fun n z => ⟨fun k h => (by cases h), u6, g6, v6, h6⟩, u6, v6, g6, h6, d6, f6⟩
    | 7, hq => cases hq; exact ⟨fun n z => ⟨fun k h => (by cases h), u7, g7, v7, h7⟩, u7, v7, g7, h7, d7, f7⟩
    | c + 8, hq => simp at hq
