def F_X13_quote_23 (κ : Nat → Nat) (l0 : Option Nat) (s0 : Option Nat) (s1 : Int32) : q_X Int32 :=
  q_wr (q_pF s0 16 7 (.int s1)) (q_rd (q_gI l0 16 7) fun v27 => q_br (v27 ≤ 0) (q_rd (q_gA l0 16 2) fun v36 => q_rd (q_gA l0 16 0) fun v41 => q_rd (q_gI l0 16 3) fun v45 => q_rd (q_gI l0 16 4) fun v49 => q_wr (q_cB v36 (0 : Int32) v41 v45 v49) (q_rd (q_gI l0 16 3) fun v57 => q_rd (q_gI l0 16 4) fun v61 => q_wr (q_pF l0 16 3 (.int (v57 + v61))) (q_rd (q_gA l0 16 0) fun v69 => q_rd (q_gI l0 16 3) fun v73 => q_wr (q_sI 0 v69 v73 (vp_nar .byte (10 : Int32))) (q_rd (q_gI l0 16 3) fun v81 => q_wr (q_pF l0 16 3 (.int (v81 + (1 : Int32)))) (q_rd (q_gI l0 16 3) fun v90 => q_rt v90))))) (q_rt (0 : Int32)))
theorem M_X13_quote_23 (κ : Nat → Nat) (l0 : Option Nat) (s0 : Option Nat) (s1 : Int32) : q_mo (F_X13_quote_23 κ l0 s0 s1) := (q_mo_wr (q_mo_rd fun v27 => (q_mo_br (q_mo_rd fun v36 => (q_mo_rd fun v41 => (q_mo_rd fun v45 => (q_mo_rd fun v49 => (q_mo_wr (q_mo_rd fun v57 => (q_mo_rd fun v61 => (q_mo_wr (q_mo_rd fun v69 => (q_mo_rd fun v73 => (q_mo_wr (q_mo_rd fun v81 => (q_mo_wr (q_mo_rd fun v90 => q_mo_rt)))))))))))))) q_mo_rt)))
set_option maxRecDepth 100000 in
set_option maxHeartbeats 4000000 in
theorem S_X13_quote_23 {E : q_Ev} {Γ : q_Gm} {w : (Int32 ⊕ q_Exn) × q_St} (B : q_Bd E Γ cX13_quote yX13_quote.cls 1 1 40 (some .int) yX13_quote.name w) (hT : q_nT Γ) (l0 : Option Nat) (s0 : Option Nat) (s1 : Int32) (σ : q_St) (h : F_X13_quote_23 (q_kap E) l0 s0 s1 σ = some w) : q_W E Γ (q_QF E Γ q_oI w) 1 σ 23 [(0, q_R l0)] [q_I s1, q_R s0] := by
  have C := B.1
  unfold F_X13_quote_23 at h
  refine q_putV (pc := 23) (v := q_I s1) C dX13_quote_23 ql_X13_138 (Or.inl rfl) rfl rfl h (fun M23 h => ?_)
  refine q_aload_n (pc := 26) C 0 rfl dX13_quote_26 rfl ?_
  refine q_getI (pc := 27) C dX13_quote_27 ql_X13_138 h (fun v27 h => ?_)
  refine q_if_le (pc := 30) (tgt := 35) C dX13_quote_30 (by decide) h (fun _ h => ?_) (fun _ h => ?_)
  · refine q_aload_n (pc := 35) C 0 rfl dX13_quote_35 rfl ?_
    refine q_getA (pc := 36) C dX13_quote_36 ql_X13_16 h (fun v36 h => ?_)
    refine q_iconst (pc := 39) (v := (0 : Int32)) C dX13_quote_39 (by decide) ?_
    refine q_aload_n (pc := 40) C 0 rfl dX13_quote_40 rfl ?_
    refine q_getA (pc := 41) C dX13_quote_41 ql_X13_9 h (fun v41 h => ?_)
    refine q_aload_n (pc := 44) C 0 rfl dX13_quote_44 rfl ?_
    refine q_getI (pc := 45) C dX13_quote_45 ql_X13_364 h (fun v45 h => ?_)
    refine q_aload_n (pc := 48) C 0 rfl dX13_quote_48 rfl ?_
    refine q_getI (pc := 49) C dX13_quote_49 ql_X13_339 h (fun v49 h => ?_)
    refine q_cpB (pc := 52) C dX13_quote_52 qy_X13_200 (q_flo B.2.2.1 B.2.2.2.1 (by decide) (by decide)) (Nat.le_of_ble_eq_true rfl) h (fun M52 h => ?_)
    refine q_aload_n (pc := 55) C 0 rfl dX13_quote_55 rfl ?_
    refine q_dup (pc := 56) C dX13_quote_56 rfl ?_
    refine q_getI (pc := 57) C dX13_quote_57 ql_X13_364 h (fun v57 h => ?_)
    refine q_aload_n (pc := 60) C 0 rfl dX13_quote_60 rfl ?_
    refine q_getI (pc := 61) C dX13_quote_61 ql_X13_339 h (fun v61 h => ?_)
    refine q_iadd (pc := 64) C dX13_quote_64 ?_
    refine q_putV (pc := 65) (v := q_I (v57 + v61)) C dX13_quote_65 ql_X13_364 (Or.inl rfl) rfl rfl h (fun M65 h => ?_)
    refine q_aload_n (pc := 68) C 0 rfl dX13_quote_68 rfl ?_
    refine q_getA (pc := 69) C dX13_quote_69 ql_X13_9 h (fun v69 h => ?_)
    refine q_aload_n (pc := 72) C 0 rfl dX13_quote_72 rfl ?_
    refine q_getI (pc := 73) C dX13_quote_73 ql_X13_364 h (fun v73 h => ?_)
    refine q_bipush (pc := 76) (v := (10 : Int32)) C dX13_quote_76 (by decide) ?_
    refine q_stB (pc := 78) C dX13_quote_78 h (fun M78 h => ?_)
    refine q_aload_n (pc := 79) C 0 rfl dX13_quote_79 rfl ?_
    refine q_dup (pc := 80) C dX13_quote_80 rfl ?_
    refine q_getI (pc := 81) C dX13_quote_81 ql_X13_364 h (fun v81 h => ?_)
    refine q_iconst (pc := 84) (v := (1 : Int32)) C dX13_quote_84 (by decide) ?_
    refine q_iadd (pc := 85) C dX13_quote_85 ?_
    refine q_putV (pc := 86) (v := q_I (v81 + (1 : Int32))) C dX13_quote_86 ql_X13_364 (Or.inl rfl) rfl rfl h (fun M86 h => ?_)
    refine q_aload_n (pc := 89) C 0 rfl dX13_quote_89 rfl ?_
    refine q_getI (pc := 90) C dX13_quote_90 ql_X13_364 h (fun v90 h => ?_)
    exact q_iret C B.2.2.2.2.1 dX13_quote_93 h
  · refine q_iconst (pc := 33) (v := (0 : Int32)) C dX13_quote_33 (by decide) ?_
    exact q_iret C B.2.2.2.2.1 dX13_quote_34 h
def F_X13_quote (κ : Nat → Nat) (l0 : Option Nat) : q_X Int32 :=
  q_rd (q_gI l0 16 3) fun v2 => q_rd (q_gI l0 16 4) fun v6 => q_br (((v2 + v6) + (1 : Int32)) ≤ (6000 : Int32)) (F_X13_quote_23 κ l0 l0 (0 : Int32)) (F_X13_quote_23 κ l0 l0 (1 : Int32))
theorem M_X13_quote (κ : Nat → Nat) (l0 : Option Nat) : q_mo (F_X13_quote κ l0) := (q_mo_rd fun v2 => (q_mo_rd fun v6 => (q_mo_br (M_X13_quote_23 κ l0 l0 (0 : Int32)) (M_X13_quote_23 κ l0 l0 (1 : Int32)))))
set_option maxRecDepth 100000 in
set_option maxHeartbeats 4000000 in
theorem K_X13_quote {E : q_Ev} (l0 : Option Nat) : q_Ct E yX13_quote (.code yX13_quote cX13_quote 1 (some .int)) 1 40 [q_R l0] q_oI (F_X13_quote (q_kap E) l0) := by
  refine q_enter (by decide) (Nat.le_of_ble_eq_true rfl) (fun Γ σ w h B hT => ?_)
  have C := B.1
  unfold F_X13_quote at h
  refine q_aload_n (pc := 0) C 0 rfl dX13_quote_0 rfl ?_
  refine q_aload_n (pc := 1) C 0 rfl dX13_quote_1 rfl ?_
  refine q_getI (pc := 2) C dX13_quote_2 ql_X13_364 h (fun v2 h => ?_)
  refine q_aload_n (pc := 5) C 0 rfl dX13_quote_5 rfl ?_
  refine q_getI (pc := 6) C dX13_quote_6 ql_X13_339 h (fun v6 h => ?_)
  refine q_iadd (pc := 9) C dX13_quote_9 ?_
  refine q_iconst (pc := 10) (v := (1 : Int32)) C dX13_quote_10 (by decide) ?_
  refine q_iadd (pc := 11) C dX13_quote_11 ?_
  refine q_sipush (pc := 12) (v := (6000 : Int32)) C dX13_quote_12 (by decide) ?_
  refine q_icmp_le (pc := 15) (tgt := 22) C dX13_quote_15 (by decide) h (fun _ h => ?_) (fun _ h => ?_)
  · refine q_iconst (pc := 22) (v := (0 : Int32)) C dX13_quote_22 (by decide) ?_
    exact S_X13_quote_23 B hT l0 l0 (0 : Int32) _ h
  · refine q_iconst (pc := 18) (v := (1 : Int32)) C dX13_quote_18 (by decide) ?_
    refine q_goto (pc := 19) (tgt := 23) C dX13_quote_19 (by decide) ?_
    exact S_X13_quote_23 B hT l0 l0 (1 : Int32) _ h
def F_X13_digits_64 (κ : Nat → Nat) (r6 : Option Nat → Int32 → Int32 → Int32 → Int64 → Int32 → q_X Int64) (l0 : Option Nat) (l1 : Int32) (l2 : Int32) (l3 : Int32) (l6 : Int32) (s0 : Int64) (s1 : Int32) : q_X Int64 :=
  r6 l0 l1 l2 l3 (s0 + s1.toInt64) (l6 + (1 : Int32))
theorem M_X13_digits_64 (κ : Nat → Nat) (r6 : Option Nat → Int32 → Int32 → Int32 → Int64 → Int32 → q_X Int64) (mr6 : ∀ (l0 : Option Nat) (l1 : Int32) (l2 : Int32) (l3 : Int32) (l4 : Int64) (l6 : Int32), q_mo (r6 l0 l1 l2 l3 l4 l6)) (l0 : Option Nat) (l1 : Int32) (l2 : Int32) (l3 : Int32) (l6 : Int32) (s0 : Int64) (s1 : Int32) : q_mo (F_X13_digits_64 κ r6 l0 l1 l2 l3 l6 s0 s1) := (mr6 l0 l1 l2 l3 (s0 + s1.toInt64) (l6 + (1 : Int32)))
set_option maxRecDepth 100000 in
set_option maxHeartbeats 4000000 in
theorem S_X13_digits_64 {E : q_Ev} {Γ : q_Gm} {w : (Int64 ⊕ q_Exn) × q_St} (B : q_Bd E Γ cX13_digits yX13_digits.cls 8 0 0 (some .long) yX13_digits.name w) (hT : q_nT Γ) (r6 : Option Nat → Int32 → Int32 → Int32 → Int64 → Int32 → q_X Int64) (hr6 : ∀ (l0 : Option Nat) (l1 : Int32) (l2 : Int32) (l3 : Int32) (l4 : Int64) (l6 : Int32) (σ : q_St), r6 l0 l1 l2 l3 l4 l6 σ = some w → q_W E Γ (q_QF E Γ q_oL w) 8 σ 6 [(0, q_R l0), (1, q_I l1), (2, q_I l2), (3, q_I l3), (4, q_L l4), (6, q_I l6)] []) (mr6 : ∀ (l0 : Option Nat) (l1 : Int32) (l2 : Int32) (l3 : Int32) (l4 : Int64) (l6 : Int32), q_mo (r6 l0 l1 l2 l3 l4 l6)) (l0 : Option Nat) (l1 : Int32) (l2 : Int32) (l3 : Int32) (l6 : Int32) (s0 : Int64) (s1 : Int32) (σ : q_St) (h : F_X13_digits_64 (q_kap E) r6 l0 l1 l2 l3 l6 s0 s1 σ = some w) : q_W E Γ (q_QF E Γ q_oL w) 8 σ 64 [(0, q_R l0), (1, q_I l1), (2, q_I l2), (3, q_I l3), (6, q_I l6)] [q_I s1, q_L s0] := by
  have C := B.1
  unfold F_X13_digits_64 at h
  refine q_i2l (pc := 64) C dX13_digits_64 ?_
  refine q_ladd (pc := 65) C dX13_digits_65 ?_
  refine q_lstore (pc := 66) (l' := [(4, q_L (s0 + s1.toInt64)), (0, q_R l0), (1, q_I l1), (2, q_I l2), (3, q_I l3), (6, q_I l6)]) C dX13_digits_66 (by decide) rfl ?_
  refine q_iinc (pc := 68) (v := (1 : Int32)) (l' := [(6, q_I (l6 + (1 : Int32))), (4, q_L (s0 + s1.toInt64)), (0, q_R l0), (1, q_I l1), (2, q_I l2), (3, q_I l3)]) C 5 rfl dX13_digits_68 (by decide) (by decide) rfl ?_
  refine q_goto (pc := 71) (tgt := 6) C dX13_digits_71 (by decide) ?_
  refine q_W.sub [2, 3, 4, 5, 1, 0] rfl ?_
  exact hr6 l0 l1 l2 l3 (s0 + s1.toInt64) (l6 + (1 : Int32)) _ h
def F_X13_digits_63 (κ : Nat → Nat) (r6 : Option Nat → Int32 → Int32 → Int32 → Int64 → Int32 → q_X Int64) (l0 : Option Nat) (l1 : Int32) (l2 : Int32) (l3 : Int32) (l6 : Int32) (s0 : Int64) : q_X Int64 :=
  F_X13_digits_64 κ r6 l0 l1 l2 l3 l6 s0 (0 : Int32)
theorem M_X13_digits_63 (κ : Nat → Nat) (r6 : Option Nat → Int32 → Int32 → Int32 → Int64 → Int32 → q_X Int64) (mr6 : ∀ (l0 : Option Nat) (l1 : Int32) (l2 : Int32) (l3 : Int32) (l4 : Int64) (l6 : Int32), q_mo (r6 l0 l1 l2 l3 l4 l6)) (l0 : Option Nat) (l1 : Int32) (l2 : Int32) (l3 : Int32) (l6 : Int32) (s0 : Int64) : q_mo (F_X13_digits_63 κ r6 l0 l1 l2 l3 l6 s0) := (M_X13_digits_64 κ r6 mr6 l0 l1 l2 l3 l6 s0 (0 : Int32))
set_option maxRecDepth 100000 in
set_option maxHeartbeats 4000000 in
theorem S_X13_digits_63 {E : q_Ev} {Γ : q_Gm} {w : (Int64 ⊕ q_Exn) × q_St} (B : q_Bd E Γ cX13_digits yX13_digits.cls 8 0 0 (some .long) yX13_digits.name w) (hT : q_nT Γ) (r6 : Option Nat → Int32 → Int32 → Int32 → Int64 → Int32 → q_X Int64) (hr6 : ∀ (l0 : Option Nat) (l1 : Int32) (l2 : Int32) (l3 : Int32) (l4 : Int64) (l6 : Int32) (σ : q_St), r6 l0 l1 l2 l3 l4 l6 σ = some w → q_W E Γ (q_QF E Γ q_oL w) 8 σ 6 [(0, q_R l0), (1, q_I l1), (2, q_I l2), (3, q_I l3), (4, q_L l4), (6, q_I l6)] []) (mr6 : ∀ (l0 : Option Nat) (l1 : Int32) (l2 : Int32) (l3 : Int32) (l4 : Int64) (l6 : Int32), q_mo (r6 l0 l1 l2 l3 l4 l6)) (l0 : Option Nat) (l1 : Int32) (l2 : Int32) (l3 : Int32) (l6 : Int32) (s0 : Int64) (σ : q_St) (h : F_X13_digits_63 (q_kap E) r6 l0 l1 l2 l3 l6 s0 σ = some w) : q_W E Γ (q_QF E Γ q_oL w) 8 σ 63 [(0, q_R l0), (1, q_I l1), (2, q_I l2), (3, q_I l3), (6, q_I l6)] [q_L s0] := by
  have C := B.1
  unfold F_X13_digits_63 at h
  refine q_iconst (pc := 63) (v := (0 : Int32)) C dX13_digits_63 (by decide) ?_
  exact S_X13_digits_64 B hT r6 hr6 mr6 l0 l1 l2 l3 l6 s0 (0 : Int32) _ h
def F_X13_digits_59 (κ : Nat → Nat) (r6 : Option Nat → Int32 → Int32 → Int32 → Int64 → Int32 → q_X Int64) (l0 : Option Nat) (l1 : Int32) (l2 : Int32) (l3 : Int32) (l6 : Int32) (s0 : Int64) : q_X Int64 :=
  F_X13_digits_64 κ r6 l0 l1 l2 l3 l6 s0 (1 : Int32)
theorem M_X13_digits_59 (κ : Nat → Nat) (r6 : Option Nat → Int32 → Int32 → Int32 → Int64 → Int32 → q_X Int64) (mr6 : ∀ (l0 : Option Nat) (l1 : Int32) (l2 : Int32) (l3 : Int32) (l4 : Int64) (l6 : Int32), q_mo (r6 l0 l1 l2 l3 l4 l6)) (l0 : Option Nat) (l1 : Int32) (l2 : Int32) (l3 : Int32) (l6 : Int32) (s0 : Int64) : q_mo (F_X13_digits_59 κ r6 l0 l1 l2 l3 l6 s0) := (M_X13_digits_64 κ r6 mr6 l0 l1 l2 l3 l6 s0 (1 : Int32))
set_option maxRecDepth 100000 in
set_option maxHeartbeats 4000000 in
theorem S_X13_digits_59 {E : q_Ev} {Γ : q_Gm} {w : (Int64 ⊕ q_Exn) × q_St} (B : q_Bd E Γ cX13_digits yX13_digits.cls 8 0 0 (some .long) yX13_digits.name w) (hT : q_nT Γ) (r6 : Option Nat → Int32 → Int32 → Int32 → Int64 → Int32 → q_X Int64) (hr6 : ∀ (l0 : Option Nat) (l1 : Int32) (l2 : Int32) (l3 : Int32) (l4 : Int64) (l6 : Int32) (σ : q_St), r6 l0 l1 l2 l3 l4 l6 σ = some w → q_W E Γ (q_QF E Γ q_oL w) 8 σ 6 [(0, q_R l0), (1, q_I l1), (2, q_I l2), (3, q_I l3), (4, q_L l4), (6, q_I l6)] []) (mr6 : ∀ (l0 : Option Nat) (l1 : Int32) (l2 : Int32) (l3 : Int32) (l4 : Int64) (l6 : Int32), q_mo (r6 l0 l1 l2 l3 l4 l6)) (l0 : Option Nat) (l1 : Int32) (l2 : Int32) (l3 : Int32) (l6 : Int32) (s0 : Int64) (σ : q_St) (h : F_X13_digits_59 (q_kap E) r6 l0 l1 l2 l3 l6 s0 σ = some w) : q_W E Γ (q_QF E Γ q_oL w) 8 σ 59 [(0, q_R l0), (1, q_I l1), (2, q_I l2), (3, q_I l3), (6, q_I l6)] [q_L s0] := by
  have C := B.1
  unfold F_X13_digits_59 at h
  refine q_iconst (pc := 59) (v := (1 : Int32)) C dX13_digits_59 (by decide) ?_
  refine q_goto (pc := 60) (tgt := 64) C dX13_digits_60 (by decide) ?_
  exact S_X13_digits_64 B hT r6 hr6 mr6 l0 l1 l2 l3 l6 s0 (1 : Int32) _ h
def F_X13_digits_6B (κ : Nat → Nat) (r6 : Option Nat → Int32 → Int32 → Int32 → Int64 → Int32 → q_X Int64) (l0 : Option Nat) (l1 : Int32) (l2 : Int32) (l3 : Int32) (l4 : Int64) (l6 : Int32) : q_X Int64 :=
  q_rd (q_gI l0 16 21) fun v9 => q_br (v9 ≤ l6) (q_rt l4) (q_rd (q_gA l0 16 38) fun v16 => q_rd (q_gI l0 16 21) fun v26 => q_rd (q_lI 1 v16 ((((160 : Int32) * l1) + (l2 * v26)) + l6)) fun v34 => q_br (0 ≤ v34) (F_X13_digits_63 κ r6 l0 l1 l2 l3 l6 ((2 : Int64) * l4)) (q_br (l3 = 0) (F_X13_digits_59 κ r6 l0 l1 l2 l3 l6 ((2 : Int64) * l4)) (q_br (¬ v34 = (-2 : Int32)) (F_X13_digits_63 κ r6 l0 l1 l2 l3 l6 ((2 : Int64) * l4)) (F_X13_digits_59 κ r6 l0 l1 l2 l3 l6 ((2 : Int64) * l4)))))
theorem M_X13_digits_6B (κ : Nat → Nat) (r6 : Option Nat → Int32 → Int32 → Int32 → Int64 → Int32 → q_X Int64) (mr6 : ∀ (l0 : Option Nat) (l1 : Int32) (l2 : Int32) (l3 : Int32) (l4 : Int64) (l6 : Int32), q_mo (r6 l0 l1 l2 l3 l4 l6)) (l0 : Option Nat) (l1 : Int32) (l2 : Int32) (l3 : Int32) (l4 : Int64) (l6 : Int32) : q_mo (F_X13_digits_6B κ r6 l0 l1 l2 l3 l4 l6) := (q_mo_rd fun v9 => (q_mo_br q_mo_rt (q_mo_rd fun v16 => (q_mo_rd fun v26 => (q_mo_rd fun v34 => (q_mo_br (M_X13_digits_63 κ r6 mr6 l0 l1 l2 l3 l6 ((2 : Int64) * l4)) (q_mo_br (M_X13_digits_59 κ r6 mr6 l0 l1 l2 l3 l6 ((2 : Int64) * l4)) (q_mo_br (M_X13_digits_63 κ r6 mr6 l0 l1 l2 l3 l6 ((2 : Int64) * l4)) (M_X13_digits_59 κ r6 mr6 l0 l1 l2 l3 l6 ((2 : Int64) * l4))))))))))
set_option maxRecDepth 100000 in
set_option maxHeartbeats 4000000 in
theorem S_X13_digits_6B {E : q_Ev} {Γ : q_Gm} {w : (Int64 ⊕ q_Exn) × q_St} (B : q_Bd E Γ cX13_digits yX13_digits.cls 8 0 0 (some .long) yX13_digits.name w) (hT : q_nT Γ) (r6 : Option Nat → Int32 → Int32 → Int32 → Int64 → Int32 → q_X Int64) (hr6 : ∀ (l0 : Option Nat) (l1 : Int32) (l2 : Int32) (l3 : Int32) (l4 : Int64) (l6 : Int32) (σ : q_St), r6 l0 l1 l2 l3 l4 l6 σ = some w → q_W E Γ (q_QF E Γ q_oL w) 8 σ 6 [(0, q_R l0), (1, q_I l1), (2, q_I l2), (3, q_I l3), (4, q_L l4), (6, q_I l6)] []) (mr6 : ∀ (l0 : Option Nat) (l1 : Int32) (l2 : Int32) (l3 : Int32) (l4 : Int64) (l6 : Int32), q_mo (r6 l0 l1 l2 l3 l4 l6)) (l0 : Option Nat) (l1 : Int32) (l2 : Int32) (l3 : Int32) (l4 : Int64) (l6 : Int32) (σ : q_St) (h : F_X13_digits_6B (q_kap E) r6 l0 l1 l2 l3 l4 l6 σ = some w) : q_W E Γ (q_QF E Γ q_oL w) 8 σ 6 [(0, q_R l0), (1, q_I l1), (2, q_I l2), (3, q_I l3), (4, q_L l4), (6, q_I l6)] [] := by
  have C := B.1
  unfold F_X13_digits_6B at h
  refine q_iload (pc := 6) C 5 rfl dX13_digits_6 ?_
  refine q_aload_n (pc := 8) C 0 rfl dX13_digits_8 rfl ?_
  refine q_getI (pc := 9) C dX13_digits_9 ql_X13_217 h (fun v9 h => ?_)
  refine q_icmp_ge (pc := 12) (tgt := 74) C dX13_digits_12 (by decide) h (fun _ h => ?_) (fun _ h => ?_)
  · refine q_lload (pc := 74) C 4 rfl dX13_digits_74 ?_
    exact q_lret C B.2.2.2.2.1 dX13_digits_76 h
  · refine q_aload_n (pc := 15) C 0 rfl dX13_digits_15 rfl ?_
    refine q_getA (pc := 16) C dX13_digits_16 ql_X13_92 h (fun v16 h => ?_)
    refine q_sipush (pc := 19) (v := (160 : Int32)) C dX13_digits_19 (by decide) ?_
    refine q_iload_n (pc := 22) C 1 rfl dX13_digits_22 rfl ?_
    refine q_imul (pc := 23) C dX13_digits_23 ?_
    refine q_iload_n (pc := 24) C 2 rfl dX13_digits_24 rfl ?_
    refine q_aload_n (pc := 25) C 0 rfl dX13_digits_25 rfl ?_
    refine q_getI (pc := 26) C dX13_digits_26 ql_X13_217 h (fun v26 h => ?_)
    refine q_imul (pc := 29) C dX13_digits_29 ?_
    refine q_iadd (pc := 30) C dX13_digits_30 ?_
    refine q_iload (pc := 31) C 5 rfl dX13_digits_31 ?_
    refine q_iadd (pc := 33) C dX13_digits_33 ?_
    refine q_ldI (pc := 34) C dX13_digits_34 (Or.inr (Or.inl ⟨rfl, rfl⟩)) h (fun v34 h => ?_)
    refine q_istore (pc := 35) (l' := [(7, q_I v34), (0, q_R l0), (1, q_I l1), (2, q_I l2), (3, q_I l3), (4, q_L l4), (6, q_I l6)]) C dX13_digits_35 (by decide) rfl ?_
    refine q_ldc2 (pc := 37) (v := (2 : Int64)) C dX13_digits_37 qc_X13_337 ?_
    refine q_lload (pc := 40) C 5 rfl dX13_digits_40 ?_
    refine q_lmul (pc := 42) C dX13_digits_42 ?_
    refine q_iload (pc := 43) C 0 rfl dX13_digits_43 ?_
    refine q_if_ge (pc := 45) (tgt := 63) C dX13_digits_45 (by decide) h (fun _ h => ?_) (fun _ h => ?_)
    · refine q_W.sub [1, 2, 3, 4, 6] rfl ?_
      exact S_X13_digits_63 B hT r6 hr6 mr6 l0 l1 l2 l3 l6 ((2 : Int64) * l4) _ h
    · refine q_iload_n (pc := 48) C 4 rfl dX13_digits_48 rfl ?_
      refine q_if_eq (pc := 49) (tgt := 59) C dX13_digits_49 (by decide) h (fun _ h => ?_) (fun _ h => ?_)
      · refine q_W.sub [1, 2, 3, 4, 6] rfl ?_
        exact S_X13_digits_59 B hT r6 hr6 mr6 l0 l1 l2 l3 l6 ((2 : Int64) * l4) _ h
      · refine q_iload (pc := 52) C 0 rfl dX13_digits_52 ?_
        refine q_bipush (pc := 54) (v := (-2 : Int32)) C dX13_digits_54 (by decide) ?_
        refine q_icmp_ne (pc := 56) (tgt := 63) C dX13_digits_56 (by decide) h (fun _ h => ?_) (fun _ h => ?_)
        · refine q_W.sub [1, 2, 3, 4, 6] rfl ?_
          exact S_X13_digits_63 B hT r6 hr6 mr6 l0 l1 l2 l3 l6 ((2 : Int64) * l4) _ h
        · refine q_W.sub [1, 2, 3, 4, 6] rfl ?_
          exact S_X13_digits_59 B hT r6 hr6 mr6 l0 l1 l2 l3 l6 ((2 : Int64) * l4) _ h
def F_X13_digits_6 (κ : Nat → Nat) : Nat → Option Nat → Int32 → Int32 → Int32 → Int64 → Int32 → q_X Int64
  | 0, _, _, _, _, _, _ => q_no
  | n + 1, l0, l1, l2, l3, l4, l6 => F_X13_digits_6B κ (F_X13_digits_6 κ n) l0 l1 l2 l3 l4 l6
theorem M_X13_digits_6 (κ : Nat → Nat) : ∀ (n : Nat) (l0 : Option Nat) (l1 : Int32) (l2 : Int32) (l3 : Int32) (l4 : Int64) (l6 : Int32), q_mo (F_X13_digits_6 κ n l0 l1 l2 l3 l4 l6)
  | 0, _, _, _, _, _, _ => q_mo_no
  | n + 1, l0, l1, l2, l3, l4, l6 => M_X13_digits_6B κ (F_X13_digits_6 κ n) (M_X13_digits_6 κ n) l0 l1 l2 l3 l4 l6
theorem S_X13_digits_6 {E : q_Ev} {Γ : q_Gm} {w : (Int64 ⊕ q_Exn) × q_St} (B : q_Bd E Γ cX13_digits yX13_digits.cls 8 0 0 (some .long) yX13_digits.name w) (hT : q_nT Γ) : ∀ (n : Nat) (l0 : Option Nat) (l1 : Int32) (l2 : Int32) (l3 : Int32) (l4 : Int64) (l6 : Int32) (σ : q_St), F_X13_digits_6 (q_kap E) n l0 l1 l2 l3 l4 l6 σ = some w → q_W E Γ (q_QF E Γ q_oL w) 8 σ 6 [(0, q_R l0), (1, q_I l1), (2, q_I l2), (3, q_I l3), (4, q_L l4), (6, q_I l6)] []
  | 0, _, _, _, _, _, _, _, h => by cases h
  | n + 1, l0, l1, l2, l3, l4, l6, σ, h => S_X13_digits_6B B hT (F_X13_digits_6 (q_kap E) n) (S_X13_digits_6 B hT n) (M_X13_digits_6 (q_kap E) n) l0 l1 l2 l3 l4 l6 σ h
def F_X13_digits (κ : Nat → Nat) (l0 : Option Nat) (l1 : Int32) (l2 : Int32) (l3 : Int32) : q_X Int64 :=
  F_X13_digits_6 κ q_fu l0 l1 l2 l3 (0 : Int64) (0 : Int32)
theorem M_X13_digits (κ : Nat → Nat) (l0 : Option Nat) (l1 : Int32) (l2 : Int32) (l3 : Int32) : q_mo (F_X13_digits κ l0 l1 l2 l3) := (M_X13_digits_6 κ q_fu l0 l1 l2 l3 (0 : Int64) (0 : Int32))
set_option maxRecDepth 100000 in
set_option maxHeartbeats 4000000 in
theorem K_X13_digits {E : q_Ev} (l0 : Option Nat) (l1 : Int32) (l2 : Int32) (l3 : Int32) : q_Ct E yX13_digits (.code yX13_digits cX13_digits 8 (some .long)) 0 0 [q_R l0, q_I l1, q_I l2, q_I l3] q_oL (F_X13_digits (q_kap E) l0 l1 l2 l3) := by
  refine q_enter (by decide) (Nat.le_of_ble_eq_true rfl) (fun Γ σ w h B hT => ?_)
  have C := B.1
  unfold F_X13_digits at h
  refine q_lconst (pc := 0) (v := (0 : Int64)) C dX13_digits_0 (by decide) ?_
  refine q_lstore (pc := 1) (l' := [(4, q_L (0 : Int64)), (0, q_R l0), (1, q_I l1), (2, q_I l2), (3, q_I l3)]) C dX13_digits_1 (by decide) rfl ?_
  refine q_iconst (pc := 3) (v := (0 : Int32)) C dX13_digits_3 (by decide) ?_
  refine q_istore (pc := 4) (l' := [(6, q_I (0 : Int32)), (4, q_L (0 : Int64)), (0, q_R l0), (1, q_I l1), (2, q_I l2), (3, q_I l3)]) C dX13_digits_4 (by decide) rfl ?_
  refine q_W.sub [2, 3, 4, 5, 1, 0] rfl ?_
  exact S_X13_digits_6 B hT q_fu l0 l1 l2 l3 (0 : Int64) (0 : Int32) _ h
def F_X13_told_152 (κ : Nat → Nat) (l0 : Option Nat) : q_X Int64 :=
  q_wr (q_pF l0 16 7 (.int (2 : Int32))) (q_rt (0 : Int64))
theorem M_X13_told_152 (κ : Nat → Nat) (l0 : Option Nat) : q_mo (F_X13_told_152 κ l0) := (q_mo_wr q_mo_rt)
set_option maxRecDepth 100000 in
set_option maxHeartbeats 4000000 in
theorem S_X13_told_152 {E : q_Ev} {Γ : q_Gm} {w : (Int64 ⊕ q_Exn) × q_St} (B : q_Bd E Γ cX13_told yX13_told.cls 3 1 27 (some .long) yX13_told.name w) (hT : q_nT Γ) (l0 : Option Nat) (σ : q_St) (h : F_X13_told_152 (q_kap E) l0 σ = some w) : q_W E Γ (q_QF E Γ q_oL w) 3 σ 152 [(0, q_R l0)] [] := by
  have C := B.1
  unfold F_X13_told_152 at h
  refine q_aload_n (pc := 152) C 0 rfl dX13_told_152 rfl ?_
  refine q_iconst (pc := 153) (v := (2 : Int32)) C dX13_told_153 (by decide) ?_
  refine q_putV (pc := 154) (v := q_I (2 : Int32)) C dX13_told_154 ql_X13_138 (Or.inl rfl) rfl rfl h (fun M154 h => ?_)
  refine q_lconst (pc := 157) (v := (0 : Int64)) C dX13_told_157 (by decide) ?_
  exact q_lret C B.2.2.2.2.1 dX13_told_158 h
def F_X13_told_122 (κ : Nat → Nat) (l0 : Option Nat) (l1 : Int32) (l2 : Int32) : q_X Int64 :=
  q_br (l2 < (20 : Int32)) (F_X13_told_152 κ l0) (q_rd (q_gA l0 16 33) fun v132 => q_rd (q_lI 1 v132 l1) fun v136 => q_br (((20 : Int32) + v136) ≤ l2) (F_X13_told_152 κ l0) (q_rd (q_is l0 16) fun _ => q_ca (F_X13_digits κ l0 l1 (l2 - (20 : Int32)) (1 : Int32)) fun v148 => q_rt v148))
theorem M_X13_told_122 (κ : Nat → Nat) (l0 : Option Nat) (l1 : Int32) (l2 : Int32) : q_mo (F_X13_told_122 κ l0 l1 l2) := (q_mo_br (M_X13_told_152 κ l0) (q_mo_rd fun v132 => (q_mo_rd fun v136 => (q_mo_br (M_X13_told_152 κ l0) (q_mo_rd fun _ => q_mo_ca (M_X13_digits κ l0 l1 (l2 - (20 : Int32)) (1 : Int32)) fun v148 => q_mo_rt)))))
set_option maxRecDepth 100000 in
set_option maxHeartbeats 4000000 in
theorem S_X13_told_122 {E : q_Ev} {Γ : q_Gm} {w : (Int64 ⊕ q_Exn) × q_St} (B : q_Bd E Γ cX13_told yX13_told.cls 3 1 27 (some .long) yX13_told.name w) (hT : q_nT Γ) (l0 : Option Nat) (l1 : Int32) (l2 : Int32) (σ : q_St) (h : F_X13_told_122 (q_kap E) l0 l1 l2 σ = some w) : q_W E Γ (q_QF E Γ q_oL w) 3 σ 122 [(0, q_R l0), (1, q_I l1), (2, q_I l2)] [] := by
  have C := B.1
  unfold F_X13_told_122 at h
  refine q_iload_n (pc := 122) C 2 rfl dX13_told_122 rfl ?_
  refine q_bipush (pc := 123) (v := (20 : Int32)) C dX13_told_123 (by decide) ?_
  refine q_icmp_lt (pc := 125) (tgt := 152) C dX13_told_125 (by decide) h (fun _ h => ?_) (fun _ h => ?_)
  · refine q_W.sub [0] rfl ?_
    exact S_X13_told_152 B hT l0 _ h
  · refine q_iload_n (pc := 128) C 2 rfl dX13_told_128 rfl ?_
    refine q_bipush (pc := 129) (v := (20 : Int32)) C dX13_told_129 (by decide) ?_
    refine q_aload_n (pc := 131) C 0 rfl dX13_told_131 rfl ?_
    refine q_getA (pc := 132) C dX13_told_132 ql_X13_77 h (fun v132 h => ?_)
    refine q_iload_n (pc := 135) C 1 rfl dX13_told_135 rfl ?_
    refine q_ldI (pc := 136) C dX13_told_136 (Or.inr (Or.inl ⟨rfl, rfl⟩)) h (fun v136 h => ?_)
    refine q_iadd (pc := 137) C dX13_told_137 ?_
    refine q_icmp_ge (pc := 138) (tgt := 152) C dX13_told_138 (by decide) h (fun _ h => ?_) (fun _ h => ?_)
    · refine q_W.sub [0] rfl ?_
      exact S_X13_told_152 B hT l0 _ h
    · refine q_aload_n (pc := 141) C 0 rfl dX13_told_141 rfl ?_
      refine q_iload_n (pc := 142) C 1 rfl dX13_told_142 rfl ?_
      refine q_iload_n (pc := 143) C 2 rfl dX13_told_143 rfl ?_
      refine q_bipush (pc := 144) (v := (20 : Int32)) C dX13_told_144 (by decide) ?_
      refine q_isub (pc := 146) C dX13_told_146 ?_
      refine q_iconst (pc := 147) (v := (1 : Int32)) C dX13_told_147 (by decide) ?_
      refine q_callV (pc := 148) (As := [q_I l1, q_I (l2 - (20 : Int32)), q_I (1 : Int32)]) (st := []) (ps := q_psL) C B.2.1 hT q_hpL qm_X13_393 qv_X13_digits dX13_told_148 rfl rfl (Nat.le_of_ble_eq_true rfl) (q_flo B.2.2.1 B.2.2.2.1 (by decide) (by decide)) (K_X13_digits l0 l1 (l2 - (20 : Int32)) (1 : Int32)) (M_X13_digits (q_kap E) l0 l1 (l2 - (20 : Int32)) (1 : Int32)) (fun v148 => q_mo_rt) h (fun v148 σ h => ?_)
      refine q_W.st (st' := [q_L v148]) rfl ?_
      exact q_lret C B.2.2.2.2.1 dX13_told_151 h
def F_X13_told_18 (κ : Nat → Nat) (l0 : Option Nat) (l1 : Int32) (l2 : Int32) (s0 : Option Nat) (s1 : Int32) : q_X Int64 :=
  q_wr (q_pF s0 16 7 (.int s1)) (q_rd (q_gI l0 16 7) fun v22 => q_br (v22 ≤ 0) (q_br (l2.toInt < 0 ∨ 3 < l2.toInt) (q_br (l2 < (10 : Int32)) (F_X13_told_122 κ l0 l1 l2) (q_rd (q_gA l0 16 33) fun v102 => q_rd (q_lI 1 v102 l1) fun v106 => q_br (((10 : Int32) + v106) ≤ l2) (F_X13_told_122 κ l0 l1 l2) (q_rd (q_is l0 16) fun _ => q_ca (F_X13_digits κ l0 l1 (l2 - (10 : Int32)) (0 : Int32)) fun v118 => q_rt v118))) (q_br (l2 = 0) (q_rd (q_gA l0 16 33) fun v61 => q_rd (q_lI 1 v61 l1) fun v65 => q_rt v65.toInt64) (q_br (l2 = 1) (q_rd (q_gA l0 16 34) fun v69 => q_rd (q_lI 1 v69 l1) fun v73 => q_rt v73.toInt64) (q_br (l2 = 2) (q_rd (q_gA l0 16 31) fun v77 => q_rd (q_lI 1 v77 l1) fun v81 => q_rt v81.toInt64) (q_br (l2 = 3) (q_rd (q_gA l0 16 32) fun v85 => q_rd (q_lI 1 v85 l1) fun v89 => q_rt v89.toInt64) (q_no)))))) (q_rt (0 : Int64)))
theorem M_X13_told_18 (κ : Nat → Nat) (l0 : Option Nat) (l1 : Int32) (l2 : Int32) (s0 : Option Nat) (s1 : Int32) : q_mo (F_X13_told_18 κ l0 l1 l2 s0 s1) := (q_mo_wr (q_mo_rd fun v22 => (q_mo_br (q_mo_br (q_mo_br (M_X13_told_122 κ l0 l1 l2) (q_mo_rd fun v102 => (q_mo_rd fun v106 => (q_mo_br (M_X13_told_122 κ l0 l1 l2) (q_mo_rd fun _ => q_mo_ca (M_X13_digits κ l0 l1 (l2 - (10 : Int32)) (0 : Int32)) fun v118 => q_mo_rt))))) (q_mo_br (q_mo_rd fun v61 => (q_mo_rd fun v65 => q_mo_rt)) (q_mo_br (q_mo_rd fun v69 => (q_mo_rd fun v73 => q_mo_rt)) (q_mo_br (q_mo_rd fun v77 => (q_mo_rd fun v81 => q_mo_rt)) (q_mo_br (q_mo_rd fun v85 => (q_mo_rd fun v89 => q_mo_rt)) q_mo_no))))) q_mo_rt)))
set_option maxRecDepth 100000 in
set_option maxHeartbeats 4000000 in
theorem S_X13_told_18 {E : q_Ev} {Γ : q_Gm} {w : (Int64 ⊕ q_Exn) × q_St} (B : q_Bd E Γ cX13_told yX13_told.cls 3 1 27 (some .long) yX13_told.name w) (hT : q_nT Γ) (l0 : Option Nat) (l1 : Int32) (l2 : Int32) (s0 : Option Nat) (s1 : Int32) (σ : q_St) (h : F_X13_told_18 (q_kap E) l0 l1 l2 s0 s1 σ = some w) : q_W E Γ (q_QF E Γ q_oL w) 3 σ 18 [(0, q_R l0), (1, q_I l1), (2, q_I l2)] [q_I s1, q_R s0] := by
  have C := B.1
  unfold F_X13_told_18 at h
  refine q_putV (pc := 18) (v := q_I s1) C dX13_told_18 ql_X13_138 (Or.inl rfl) rfl rfl h (fun M18 h => ?_)
  refine q_aload_n (pc := 21) C 0 rfl dX13_told_21 rfl ?_
  refine q_getI (pc := 22) C dX13_told_22 ql_X13_138 h (fun v22 h => ?_)
  refine q_if_le (pc := 25) (tgt := 30) C dX13_told_25 (by decide) h (fun _ h => ?_) (fun _ h => ?_)
  · refine q_iload_n (pc := 30) C 2 rfl dX13_told_30 rfl ?_
    by_cases cd : l2.toInt < 0 ∨ 3 < l2.toInt
    · replace h := (q_br_e h).1 cd
      refine q_tabOut (pc := 31) (tgt := 92) C dX13_told_31 cd (by decide) ?_
      refine q_iload_n (pc := 92) C 2 rfl dX13_told_92 rfl ?_
      refine q_bipush (pc := 93) (v := (10 : Int32)) C dX13_told_93 (by decide) ?_
      refine q_icmp_lt (pc := 95) (tgt := 122) C dX13_told_95 (by decide) h (fun _ h => ?_) (fun _ h => ?_)
      · exact S_X13_told_122 B hT l0 l1 l2 _ h
      · refine q_iload_n (pc := 98) C 2 rfl dX13_told_98 rfl ?_
        refine q_bipush (pc := 99) (v := (10 : Int32)) C dX13_told_99 (by decide) ?_
        refine q_aload_n (pc := 101) C 0 rfl dX13_told_101 rfl ?_
        refine q_getA (pc := 102) C dX13_told_102 ql_X13_77 h (fun v102 h => ?_)
        refine q_iload_n (pc := 105) C 1 rfl dX13_told_105 rfl ?_
        refine q_ldI (pc := 106) C dX13_told_106 (Or.inr (Or.inl ⟨rfl, rfl⟩)) h (fun v106 h => ?_)
        refine q_iadd (pc := 107) C dX13_told_107 ?_
        refine q_icmp_ge (pc := 108) (tgt := 122) C dX13_told_108 (by decide) h (fun _ h => ?_) (fun _ h => ?_)
        · exact S_X13_told_122 B hT l0 l1 l2 _ h
        · refine q_aload_n (pc := 111) C 0 rfl dX13_told_111 rfl ?_
          refine q_iload_n (pc := 112) C 1 rfl dX13_told_112 rfl ?_
          refine q_iload_n (pc := 113) C 2 rfl dX13_told_113 rfl ?_
          refine q_bipush (pc := 114) (v := (10 : Int32)) C dX13_told_114 (by decide) ?_
          refine q_isub (pc := 116) C dX13_told_116 ?_
          refine q_iconst (pc := 117) (v := (0 : Int32)) C dX13_told_117 (by decide) ?_
          refine q_callV (pc := 118) (As := [q_I l1, q_I (l2 - (10 : Int32)), q_I (0 : Int32)]) (st := []) (ps := q_psL) C B.2.1 hT q_hpL qm_X13_393 qv_X13_digits dX13_told_118 rfl rfl (Nat.le_of_ble_eq_true rfl) (q_flo B.2.2.1 B.2.2.2.1 (by decide) (by decide)) (K_X13_digits l0 l1 (l2 - (10 : Int32)) (0 : Int32)) (M_X13_digits (q_kap E) l0 l1 (l2 - (10 : Int32)) (0 : Int32)) (fun v118 => q_mo_rt) h (fun v118 σ h => ?_)
          refine q_W.st (st' := [q_L v118]) rfl ?_
          exact q_lret C B.2.2.2.2.1 dX13_told_121 h
    replace h := (q_br_e h).2 cd
    by_cases cv : l2 = 0
    · replace h := (q_br_e h).1 cv
      refine q_tabIn (pc := 31) (tgt := 60) (off := 29) C dX13_told_31 (by rw [cv]; decide) (by rw [cv]; decide) (by rw [cv]; rfl) (by decide) ?_
      refine q_aload_n (pc := 60) C 0 rfl dX13_told_60 rfl ?_
      refine q_getA (pc := 61) C dX13_told_61 ql_X13_77 h (fun v61 h => ?_)
      refine q_iload_n (pc := 64) C 1 rfl dX13_told_64 rfl ?_
      refine q_ldI (pc := 65) C dX13_told_65 (Or.inr (Or.inl ⟨rfl, rfl⟩)) h (fun v65 h => ?_)
      refine q_i2l (pc := 66) C dX13_told_66 ?_
      exact q_lret C B.2.2.2.2.1 dX13_told_67 h
    replace h := (q_br_e h).2 cv
    by_cases cv : l2 = 1
    · replace h := (q_br_e h).1 cv
      refine q_tabIn (pc := 31) (tgt := 68) (off := 37) C dX13_told_31 (by rw [cv]; decide) (by rw [cv]; decide) (by rw [cv]; rfl) (by decide) ?_
      refine q_aload_n (pc := 68) C 0 rfl dX13_told_68 rfl ?_
      refine q_getA (pc := 69) C dX13_told_69 ql_X13_80 h (fun v69 h => ?_)
      refine q_iload_n (pc := 72) C 1 rfl dX13_told_72 rfl ?_
      refine q_ldI (pc := 73) C dX13_told_73 (Or.inr (Or.inl ⟨rfl, rfl⟩)) h (fun v73 h => ?_)
      refine q_i2l (pc := 74) C dX13_told_74 ?_
      exact q_lret C B.2.2.2.2.1 dX13_told_75 h
    replace h := (q_br_e h).2 cv
    by_cases cv : l2 = 2
    · replace h := (q_br_e h).1 cv
      refine q_tabIn (pc := 31) (tgt := 76) (off := 45) C dX13_told_31 (by rw [cv]; decide) (by rw [cv]; decide) (by rw [cv]; rfl) (by decide) ?_
      refine q_aload_n (pc := 76) C 0 rfl dX13_told_76 rfl ?_
      refine q_getA (pc := 77) C dX13_told_77 ql_X13_71 h (fun v77 h => ?_)
      refine q_iload_n (pc := 80) C 1 rfl dX13_told_80 rfl ?_
      refine q_ldI (pc := 81) C dX13_told_81 (Or.inr (Or.inl ⟨rfl, rfl⟩)) h (fun v81 h => ?_)
      refine q_i2l (pc := 82) C dX13_told_82 ?_
      exact q_lret C B.2.2.2.2.1 dX13_told_83 h
    replace h := (q_br_e h).2 cv
    by_cases cv : l2 = 3
    · replace h := (q_br_e h).1 cv
      refine q_tabIn (pc := 31) (tgt := 84) (off := 53) C dX13_told_31 (by rw [cv]; decide) (by rw [cv]; decide) (by rw [cv]; rfl) (by decide) ?_
      refine q_aload_n (pc := 84) C 0 rfl dX13_told_84 rfl ?_
      refine q_getA (pc := 85) C dX13_told_85 ql_X13_74 h (fun v85 h => ?_)
      refine q_iload_n (pc := 88) C 1 rfl dX13_told_88 rfl ?_
      refine q_ldI (pc := 89) C dX13_told_89 (Or.inr (Or.inl ⟨rfl, rfl⟩)) h (fun v89 h => ?_)
      refine q_i2l (pc := 90) C dX13_told_90 ?_
      exact q_lret C B.2.2.2.2.1 dX13_told_91 h
    replace h := (q_br_e h).2 cv
    cases h
  · refine q_lconst (pc := 28) (v := (0 : Int64)) C dX13_told_28 (by decide) ?_
    exact q_lret C B.2.2.2.2.1 dX13_told_29 h
def F_X13_told_13 (κ : Nat → Nat) (l0 : Option Nat) (l1 : Int32) (l2 : Int32) (s0 : Option Nat) : q_X Int64 :=
  F_X13_told_18 κ l0 l1 l2 s0 (1 : Int32)
theorem M_X13_told_13 (κ : Nat → Nat) (l0 : Option Nat) (l1 : Int32) (l2 : Int32) (s0 : Option Nat) : q_mo (F_X13_told_13 κ l0 l1 l2 s0) := (M_X13_told_18 κ l0 l1 l2 s0 (1 : Int32))
set_option maxRecDepth 100000 in
set_option maxHeartbeats 4000000 in
theorem S_X13_told_13 {E : q_Ev} {Γ : q_Gm} {w : (Int64 ⊕ q_Exn) × q_St} (B : q_Bd E Γ cX13_told yX13_told.cls 3 1 27 (some .long) yX13_told.name w) (hT : q_nT Γ) (l0 : Option Nat) (l1 : Int32) (l2 : Int32) (s0 : Option Nat) (σ : q_St) (h : F_X13_told_13 (q_kap E) l0 l1 l2 s0 σ = some w) : q_W E Γ (q_QF E Γ q_oL w) 3 σ 13 [(0, q_R l0), (1, q_I l1), (2, q_I l2)] [q_R s0] := by
  have C := B.1
  unfold F_X13_told_13 at h
  refine q_iconst (pc := 13) (v := (1 : Int32)) C dX13_told_13 (by decide) ?_
  refine q_goto (pc := 14) (tgt := 18) C dX13_told_14 (by decide) ?_
  exact S_X13_told_18 B hT l0 l1 l2 s0 (1 : Int32) _ h
def F_X13_told (κ : Nat → Nat) (l0 : Option Nat) (l1 : Int32) (l2 : Int32) : q_X Int64 :=
  q_br (l1 < 0) (F_X13_told_13 κ l0 l1 l2 l0) (q_rd (q_gI l0 16 23) fun v7 => q_br (l1 < v7) (F_X13_told_18 κ l0 l1 l2 l0 (0 : Int32)) (F_X13_told_13 κ l0 l1 l2 l0))
theorem M_X13_told (κ : Nat → Nat) (l0 : Option Nat) (l1 : Int32) (l2 : Int32) : q_mo (F_X13_told κ l0 l1 l2) := (q_mo_br (M_X13_told_13 κ l0 l1 l2 l0) (q_mo_rd fun v7 => (q_mo_br (M_X13_told_18 κ l0 l1 l2 l0 (0 : Int32)) (M_X13_told_13 κ l0 l1 l2 l0))))
set_option maxRecDepth 100000 in
set_option maxHeartbeats 4000000 in
theorem K_X13_told {E : q_Ev} (l0 : Option Nat) (l1 : Int32) (l2 : Int32) : q_Ct E yX13_told (.code yX13_told cX13_told 3 (some .long)) 1 27 [q_R l0, q_I l1, q_I l2] q_oL (F_X13_told (q_kap E) l0 l1 l2) := by
  refine q_enter (by decide) (Nat.le_of_ble_eq_true rfl) (fun Γ σ w h B hT => ?_)
  have C := B.1
  unfold F_X13_told at h
  refine q_aload_n (pc := 0) C 0 rfl dX13_told_0 rfl ?_
  refine q_iload_n (pc := 1) C 1 rfl dX13_told_1 rfl ?_
  refine q_if_lt (pc := 2) (tgt := 13) C dX13_told_2 (by decide) h (fun _ h => ?_) (fun _ h => ?_)
  · exact S_X13_told_13 B hT l0 l1 l2 l0 _ h
  · refine q_iload_n (pc := 5) C 1 rfl dX13_told_5 rfl ?_
    refine q_aload_n (pc := 6) C 0 rfl dX13_told_6 rfl ?_
    refine q_getI (pc := 7) C dX13_told_7 ql_X13_223 h (fun v7 h => ?_)
    refine q_icmp_lt (pc := 10) (tgt := 17) C dX13_told_10 (by decide) h (fun _ h => ?_) (fun _ h => ?_)
    · refine q_iconst (pc := 17) (v := (0 : Int32)) C dX13_told_17 (by decide) ?_
      exact S_X13_told_18 B hT l0 l1 l2 l0 (0 : Int32) _ h
    · exact S_X13_told_13 B hT l0 l1 l2 l0 _ h
def F_X13_overlap_151 (κ : Nat → Nat) : q_X Int32 :=
  q_rz (1 : Int32)
theorem M_X13_overlap_151 (κ : Nat → Nat) : q_mo (F_X13_overlap_151 κ) := q_mo_rz
set_option maxRecDepth 100000 in
set_option maxHeartbeats 4000000 in
theorem S_X13_overlap_151 {E : q_Ev} {Γ : q_Gm} {w : (Int32 ⊕ q_Exn) × q_St} (B : q_Bd E Γ cX13_overlap yX13_overlap.cls 7 0 0 (some .boolean) yX13_overlap.name w) (hT : q_nT Γ) (σ : q_St) (h : F_X13_overlap_151 (q_kap E) σ = some w) : q_W E Γ (q_QF E Γ q_oI w) 7 σ 151 [] [] := by
  have C := B.1
  unfold F_X13_overlap_151 at h
  refine q_iconst (pc := 151) (v := (1 : Int32)) C dX13_overlap_151 (by decide) ?_
  exact q_zret C B.2.2.2.2.1 dX13_overlap_152 h
def F_X13_overlap_139 (κ : Nat → Nat) (r44 : Option Nat → Int32 → Int32 → Int32 → q_X Int32) (r67 : Option Nat → Int32 → Int32 → Int32 → Int32 → q_X Int32) (l0 : Option Nat) (l1 : Int32) (l2 : Int32) (l3 : Int32) (l4 : Int32) : q_X Int32 :=
  r67 l0 l1 l2 l3 (l4 + (1 : Int32))
theorem M_X13_overlap_139 (κ : Nat → Nat) (r44 : Option Nat → Int32 → Int32 → Int32 → q_X Int32) (mr44 : ∀ (l0 : Option Nat) (l1 : Int32) (l2 : Int32) (l3 : Int32), q_mo (r44 l0 l1 l2 l3)) (r67 : Option Nat → Int32 → Int32 → Int32 → Int32 → q_X Int32) (mr67 : ∀ (l0 : Option Nat) (l1 : Int32) (l2 : Int32) (l3 : Int32) (l4 : Int32), q_mo (r67 l0 l1 l2 l3 l4)) (l0 : Option Nat) (l1 : Int32) (l2 : Int32) (l3 : Int32) (l4 : Int32) : q_mo (F_X13_overlap_139 κ r44 r67 l0 l1 l2 l3 l4) := (mr67 l0 l1 l2 l3 (l4 + (1 : Int32)))
set_option maxRecDepth 100000 in
set_option maxHeartbeats 4000000 in
theorem S_X13_overlap_139 {E : q_Ev} {Γ : q_Gm} {w : (Int32 ⊕ q_Exn) × q_St} (B : q_Bd E Γ cX13_overlap yX13_overlap.cls 7 0 0 (some .boolean) yX13_overlap.name w) (hT : q_nT Γ) (r44 : Option Nat → Int32 → Int32 → Int32 → q_X Int32) (hr44 : ∀ (l0 : Option Nat) (l1 : Int32) (l2 : Int32) (l3 : Int32) (σ : q_St), r44 l0 l1 l2 l3 σ = some w → q_W E Γ (q_QF E Γ q_oI w) 7 σ 44 [(0, q_R l0), (1, q_I l1), (2, q_I l2), (3, q_I l3)] []) (mr44 : ∀ (l0 : Option Nat) (l1 : Int32) (l2 : Int32) (l3 : Int32), q_mo (r44 l0 l1 l2 l3)) (r67 : Option Nat → Int32 → Int32 → Int32 → Int32 → q_X Int32) (hr67 : ∀ (l0 : Option Nat) (l1 : Int32) (l2 : Int32) (l3 : Int32) (l4 : Int32) (σ : q_St), r67 l0 l1 l2 l3 l4 σ = some w → q_W E Γ (q_QF E Γ q_oI w) 7 σ 67 [(0, q_R l0), (1, q_I l1), (2, q_I l2), (3, q_I l3), (4, q_I l4)] []) (mr67 : ∀ (l0 : Option Nat) (l1 : Int32) (l2 : Int32) (l3 : Int32) (l4 : Int32), q_mo (r67 l0 l1 l2 l3 l4)) (l0 : Option Nat) (l1 : Int32) (l2 : Int32) (l3 : Int32) (l4 : Int32) (σ : q_St) (h : F_X13_overlap_139 (q_kap E) r44 r67 l0 l1 l2 l3 l4 σ = some w) : q_W E Γ (q_QF E Γ q_oI w) 7 σ 139 [(0, q_R l0), (1, q_I l1), (2, q_I l2), (3, q_I l3), (4, q_I l4)] [] := by
  have C := B.1
  unfold F_X13_overlap_139 at h
  refine q_iinc (pc := 139) (v := (1 : Int32)) (l' := [(4, q_I (l4 + (1 : Int32))), (0, q_R l0), (1, q_I l1), (2, q_I l2), (3, q_I l3)]) C 4 rfl dX13_overlap_139 (by decide) (by decide) rfl ?_
  refine q_goto (pc := 142) (tgt := 67) C dX13_overlap_142 (by decide) ?_
  refine q_W.sub [1, 2, 3, 4, 0] rfl ?_
  exact hr67 l0 l1 l2 l3 (l4 + (1 : Int32)) _ h
def F_X13_overlap_67B (κ : Nat → Nat) (r44 : Option Nat → Int32 → Int32 → Int32 → q_X Int32) (r67 : Option Nat → Int32 → Int32 → Int32 → Int32 → q_X Int32) (l0 : Option Nat) (l1 : Int32) (l2 : Int32) (l3 : Int32) (l4 : Int32) : q_X Int32 :=
  q_rd (q_gI l0 16 21) fun v70 => q_br (v70 ≤ l4) (r44 l0 l1 l2 (l3 + (1 : Int32))) (q_rd (q_gA l0 16 38) fun v77 => q_rd (q_gI l0 16 21) fun v87 => q_rd (q_lI 1 v77 ((((160 : Int32) * l1) + (l3 * v87)) + l4)) fun v95 => q_rd (q_gA l0 16 38) fun v99 => q_rd (q_gI l0 16 21) fun v109 => q_rd (q_lI 1 v99 ((((160 : Int32) * l2) + (l3 * v109)) + l4)) fun v117 => q_br (0 ≤ v95) (F_X13_overlap_139 κ r44 r67 l0 l1 l2 l3 l4) (q_br (0 ≤ v117) (F_X13_overlap_139 κ r44 r67 l0 l1 l2 l3 l4) (q_br (v95 = v117) (F_X13_overlap_139 κ r44 r67 l0 l1 l2 l3 l4) (q_rz (0 : Int32)))))
theorem M_X13_overlap_67B (κ : Nat → Nat) (r44 : Option Nat → Int32 → Int32 → Int32 → q_X Int32) (mr44 : ∀ (l0 : Option Nat) (l1 : Int32) (l2 : Int32) (l3 : Int32), q_mo (r44 l0 l1 l2 l3)) (r67 : Option Nat → Int32 → Int32 → Int32 → Int32 → q_X Int32) (mr67 : ∀ (l0 : Option Nat) (l1 : Int32) (l2 : Int32) (l3 : Int32) (l4 : Int32), q_mo (r67 l0 l1 l2 l3 l4)) (l0 : Option Nat) (l1 : Int32) (l2 : Int32) (l3 : Int32) (l4 : Int32) : q_mo (F_X13_overlap_67B κ r44 r67 l0 l1 l2 l3 l4) := (q_mo_rd fun v70 => (q_mo_br (mr44 l0 l1 l2 (l3 + (1 : Int32))) (q_mo_rd fun v77 => (q_mo_rd fun v87 => (q_mo_rd fun v95 => (q_mo_rd fun v99 => (q_mo_rd fun v109 => (q_mo_rd fun v117 => (q_mo_br (M_X13_overlap_139 κ r44 mr44 r67 mr67 l0 l1 l2 l3 l4) (q_mo_br (M_X13_overlap_139 κ r44 mr44 r67 mr67 l0 l1 l2 l3 l4) (q_mo_br (M_X13_overlap_139 κ r44 mr44 r67 mr67 l0 l1 l2 l3 l4) q_mo_rz)))))))))))
set_option maxRecDepth 100000 in
set_option maxHeartbeats 4000000 in
theorem S_X13_overlap_67B {E : q_Ev} {Γ : q_Gm} {w : (Int32 ⊕ q_Exn) × q_St} (B : q_Bd E Γ cX13_overlap yX13_overlap.cls 7 0 0 (some .boolean) yX13_overlap.name w) (hT : q_nT Γ) (r44 : Option Nat → Int32 → Int32 → Int32 → q_X Int32) (hr44 : ∀ (l0 : Option Nat) (l1 : Int32) (l2 : Int32) (l3 : Int32) (σ : q_St), r44 l0 l1 l2 l3 σ = some w → q_W E Γ (q_QF E Γ q_oI w) 7 σ 44 [(0, q_R l0), (1, q_I l1), (2, q_I l2), (3, q_I l3)] []) (mr44 : ∀ (l0 : Option Nat) (l1 : Int32) (l2 : Int32) (l3 : Int32), q_mo (r44 l0 l1 l2 l3)) (r67 : Option Nat → Int32 → Int32 → Int32 → Int32 → q_X Int32) (hr67 : ∀ (l0 : Option Nat) (l1 : Int32) (l2 : Int32) (l3 : Int32) (l4 : Int32) (σ : q_St), r67 l0 l1 l2 l3 l4 σ = some w → q_W E Γ (q_QF E Γ q_oI w) 7 σ 67 [(0, q_R l0), (1, q_I l1), (2, q_I l2), (3, q_I l3), (4, q_I l4)] []) (mr67 : ∀ (l0 : Option Nat) (l1 : Int32) (l2 : Int32) (l3 : Int32) (l4 : Int32), q_mo (r67 l0 l1 l2 l3 l4)) (l0 : Option Nat) (l1 : Int32) (l2 : Int32) (l3 : Int32) (l4 : Int32) (σ : q_St) (h : F_X13_overlap_67B (q_kap E) r44 r67 l0 l1 l2 l3 l4 σ = some w) : q_W E Γ (q_QF E Γ q_oI w) 7 σ 67 [(0, q_R l0), (1, q_I l1), (2, q_I l2), (3, q_I l3), (4, q_I l4)] [] := by
  have C := B.1
  unfold F_X13_overlap_67B at h
  refine q_iload (pc := 67) C 4 rfl dX13_overlap_67 ?_
  refine q_aload_n (pc := 69) C 0 rfl dX13_overlap_69 rfl ?_
  refine q_getI (pc := 70) C dX13_overlap_70 ql_X13_217 h (fun v70 h => ?_)
  refine q_icmp_ge (pc := 73) (tgt := 145) C dX13_overlap_73 (by decide) h (fun _ h => ?_) (fun _ h => ?_)
  · refine q_iinc (pc := 145) (v := (1 : Int32)) (l' := [(3, q_I (l3 + (1 : Int32))), (0, q_R l0), (1, q_I l1), (2, q_I l2), (4, q_I l4)]) C 3 rfl dX13_overlap_145 (by decide) (by decide) rfl ?_
    refine q_goto (pc := 148) (tgt := 44) C dX13_overlap_148 (by decide) ?_
    refine q_W.sub [1, 2, 3, 0] rfl ?_
    exact hr44 l0 l1 l2 (l3 + (1 : Int32)) _ h
  · refine q_aload_n (pc := 76) C 0 rfl dX13_overlap_76 rfl ?_
    refine q_getA (pc := 77) C dX13_overlap_77 ql_X13_92 h (fun v77 h => ?_)
    refine q_sipush (pc := 80) (v := (160 : Int32)) C dX13_overlap_80 (by decide) ?_
    refine q_iload_n (pc := 83) C 1 rfl dX13_overlap_83 rfl ?_
    refine q_imul (pc := 84) C dX13_overlap_84 ?_
    refine q_iload_n (pc := 85) C 3 rfl dX13_overlap_85 rfl ?_
    refine q_aload_n (pc := 86) C 0 rfl dX13_overlap_86 rfl ?_
    refine q_getI (pc := 87) C dX13_overlap_87 ql_X13_217 h (fun v87 h => ?_)
    refine q_imul (pc := 90) C dX13_overlap_90 ?_
    refine q_iadd (pc := 91) C dX13_overlap_91 ?_
    refine q_iload (pc := 92) C 4 rfl dX13_overlap_92 ?_
    refine q_iadd (pc := 94) C dX13_overlap_94 ?_
    refine q_ldI (pc := 95) C dX13_overlap_95 (Or.inr (Or.inl ⟨rfl, rfl⟩)) h (fun v95 h => ?_)
    refine q_istore (pc := 96) (l' := [(5, q_I v95), (0, q_R l0), (1, q_I l1), (2, q_I l2), (3, q_I l3), (4, q_I l4)]) C dX13_overlap_96 (by decide) rfl ?_
    refine q_aload_n (pc := 98) C 1 rfl dX13_overlap_98 rfl ?_
    refine q_getA (pc := 99) C dX13_overlap_99 ql_X13_92 h (fun v99 h => ?_)
    refine q_sipush (pc := 102) (v := (160 : Int32)) C dX13_overlap_102 (by decide) ?_
    refine q_iload_n (pc := 105) C 3 rfl dX13_overlap_105 rfl ?_
    refine q_imul (pc := 106) C dX13_overlap_106 ?_
    refine q_iload_n (pc := 107) C 4 rfl dX13_overlap_107 rfl ?_
    refine q_aload_n (pc := 108) C 1 rfl dX13_overlap_108 rfl ?_
    refine q_getI (pc := 109) C dX13_overlap_109 ql_X13_217 h (fun v109 h => ?_)
    refine q_imul (pc := 112) C dX13_overlap_112 ?_
    refine q_iadd (pc := 113) C dX13_overlap_113 ?_
    refine q_iload (pc := 114) C 5 rfl dX13_overlap_114 ?_
    refine q_iadd (pc := 116) C dX13_overlap_116 ?_
    refine q_ldI (pc := 117) C dX13_overlap_117 (Or.inr (Or.inl ⟨rfl, rfl⟩)) h (fun v117 h => ?_)
    refine q_istore (pc := 118) (l' := [(6, q_I v117), (5, q_I v95), (0, q_R l0), (1, q_I l1), (2, q_I l2), (3, q_I l3), (4, q_I l4)]) C dX13_overlap_118 (by decide) rfl ?_
    refine q_iload (pc := 120) C 1 rfl dX13_overlap_120 ?_
    refine q_if_ge (pc := 122) (tgt := 139) C dX13_overlap_122 (by decide) h (fun _ h => ?_) (fun _ h => ?_)
    · refine q_W.sub [2, 3, 4, 5, 6] rfl ?_
      exact S_X13_overlap_139 B hT r44 hr44 mr44 r67 hr67 mr67 l0 l1 l2 l3 l4 _ h
    · refine q_iload (pc := 125) C 0 rfl dX13_overlap_125 ?_
      refine q_if_ge (pc := 127) (tgt := 139) C dX13_overlap_127 (by decide) h (fun _ h => ?_) (fun _ h => ?_)
      · refine q_W.sub [2, 3, 4, 5, 6] rfl ?_
        exact S_X13_overlap_139 B hT r44 hr44 mr44 r67 hr67 mr67 l0 l1 l2 l3 l4 _ h
      · refine q_iload (pc := 130) C 1 rfl dX13_overlap_130 ?_
        refine q_iload (pc := 132) C 0 rfl dX13_overlap_132 ?_
        refine q_icmp_eq (pc := 134) (tgt := 139) C dX13_overlap_134 (by decide) h (fun _ h => ?_) (fun _ h => ?_)
        · refine q_W.sub [2, 3, 4, 5, 6] rfl ?_
          exact S_X13_overlap_139 B hT r44 hr44 mr44 r67 hr67 mr67 l0 l1 l2 l3 l4 _ h
        · refine q_iconst (pc := 137) (v := (0 : Int32)) C dX13_overlap_137 (by decide) ?_
          exact q_zret C B.2.2.2.2.1 dX13_overlap_138 h
def F_X13_overlap_67 (κ : Nat → Nat) (r44 : Option Nat → Int32 → Int32 → Int32 → q_X Int32) : Nat → Option Nat → Int32 → Int32 → Int32 → Int32 → q_X Int32
  | 0, _, _, _, _, _ => q_no
  | n + 1, l0, l1, l2, l3, l4 => F_X13_overlap_67B κ r44 (F_X13_overlap_67 κ r44 n) l0 l1 l2 l3 l4
theorem M_X13_overlap_67 (κ : Nat → Nat) (r44 : Option Nat → Int32 → Int32 → Int32 → q_X Int32) (mr44 : ∀ (l0 : Option Nat) (l1 : Int32) (l2 : Int32) (l3 : Int32), q_mo (r44 l0 l1 l2 l3)) : ∀ (n : Nat) (l0 : Option Nat) (l1 : Int32) (l2 : Int32) (l3 : Int32) (l4 : Int32), q_mo (F_X13_overlap_67 κ r44 n l0 l1 l2 l3 l4)
  | 0, _, _, _, _, _ => q_mo_no
  | n + 1, l0, l1, l2, l3, l4 => M_X13_overlap_67B κ r44 mr44 (F_X13_overlap_67 κ r44 n) (M_X13_overlap_67 κ r44 mr44 n) l0 l1 l2 l3 l4
theorem S_X13_overlap_67 {E : q_Ev} {Γ : q_Gm} {w : (Int32 ⊕ q_Exn) × q_St} (B : q_Bd E Γ cX13_overlap yX13_overlap.cls 7 0 0 (some .boolean) yX13_overlap.name w) (hT : q_nT Γ) (r44 : Option Nat → Int32 → Int32 → Int32 → q_X Int32) (hr44 : ∀ (l0 : Option Nat) (l1 : Int32) (l2 : Int32) (l3 : Int32) (σ : q_St), r44 l0 l1 l2 l3 σ = some w → q_W E Γ (q_QF E Γ q_oI w) 7 σ 44 [(0, q_R l0), (1, q_I l1), (2, q_I l2), (3, q_I l3)] []) (mr44 : ∀ (l0 : Option Nat) (l1 : Int32) (l2 : Int32) (l3 : Int32), q_mo (r44 l0 l1 l2 l3)) : ∀ (n : Nat) (l0 : Option Nat) (l1 : Int32) (l2 : Int32) (l3 : Int32) (l4 : Int32) (σ : q_St), F_X13_overlap_67 (q_kap E) r44 n l0 l1 l2 l3 l4 σ = some w → q_W E Γ (q_QF E Γ q_oI w) 7 σ 67 [(0, q_R l0), (1, q_I l1), (2, q_I l2), (3, q_I l3), (4, q_I l4)] []
  | 0, _, _, _, _, _, _, h => by cases h
  | n + 1, l0, l1, l2, l3, l4, σ, h => S_X13_overlap_67B B hT r44 hr44 mr44 (F_X13_overlap_67 (q_kap E) r44 n) (S_X13_overlap_67 B hT r44 hr44 mr44 n) (M_X13_overlap_67 (q_kap E) r44 mr44 n) l0 l1 l2 l3 l4 σ h
def F_X13_overlap_44B (κ : Nat → Nat) (r44 : Option Nat → Int32 → Int32 → Int32 → q_X Int32) (l0 : Option Nat) (l1 : Int32) (l2 : Int32) (l3 : Int32) : q_X Int32 :=
  q_rd (q_gA l0 16 33) fun v46 => q_rd (q_lI 1 v46 l1) fun v50 => q_br (v50 ≤ l3) (F_X13_overlap_151 κ) (q_rd (q_gA l0 16 33) fun v56 => q_rd (q_lI 1 v56 l2) fun v60 => q_br (v60 ≤ l3) (F_X13_overlap_151 κ) (F_X13_overlap_67 κ r44 q_fu l0 l1 l2 l3 (0 : Int32)))
theorem M_X13_overlap_44B (κ : Nat → Nat) (r44 : Option Nat → Int32 → Int32 → Int32 → q_X Int32) (mr44 : ∀ (l0 : Option Nat) (l1 : Int32) (l2 : Int32) (l3 : Int32), q_mo (r44 l0 l1 l2 l3)) (l0 : Option Nat) (l1 : Int32) (l2 : Int32) (l3 : Int32) : q_mo (F_X13_overlap_44B κ r44 l0 l1 l2 l3) := (q_mo_rd fun v46 => (q_mo_rd fun v50 => (q_mo_br (M_X13_overlap_151 κ) (q_mo_rd fun v56 => (q_mo_rd fun v60 => (q_mo_br (M_X13_overlap_151 κ) (M_X13_overlap_67 κ r44 mr44 q_fu l0 l1 l2 l3 (0 : Int32))))))))
set_option maxRecDepth 100000 in
set_option maxHeartbeats 4000000 in
theorem S_X13_overlap_44B {E : q_Ev} {Γ : q_Gm} {w : (Int32 ⊕ q_Exn) × q_St} (B : q_Bd E Γ cX13_overlap yX13_overlap.cls 7 0 0 (some .boolean) yX13_overlap.name w) (hT : q_nT Γ) (r44 : Option Nat → Int32 → Int32 → Int32 → q_X Int32) (hr44 : ∀ (l0 : Option Nat) (l1 : Int32) (l2 : Int32) (l3 : Int32) (σ : q_St), r44 l0 l1 l2 l3 σ = some w → q_W E Γ (q_QF E Γ q_oI w) 7 σ 44 [(0, q_R l0), (1, q_I l1), (2, q_I l2), (3, q_I l3)] []) (mr44 : ∀ (l0 : Option Nat) (l1 : Int32) (l2 : Int32) (l3 : Int32), q_mo (r44 l0 l1 l2 l3)) (l0 : Option Nat) (l1 : Int32) (l2 : Int32) (l3 : Int32) (σ : q_St) (h : F_X13_overlap_44B (q_kap E) r44 l0 l1 l2 l3 σ = some w) : q_W E Γ (q_QF E Γ q_oI w) 7 σ 44 [(0, q_R l0), (1, q_I l1), (2, q_I l2), (3, q_I l3)] [] := by
  have C := B.1
  unfold F_X13_overlap_44B at h
  refine q_iload_n (pc := 44) C 3 rfl dX13_overlap_44 rfl ?_
  refine q_aload_n (pc := 45) C 0 rfl dX13_overlap_45 rfl ?_
  refine q_getA (pc := 46) C dX13_overlap_46 ql_X13_77 h (fun v46 h => ?_)
  refine q_iload_n (pc := 49) C 1 rfl dX13_overlap_49 rfl ?_
  refine q_ldI (pc := 50) C dX13_overlap_50 (Or.inr (Or.inl ⟨rfl, rfl⟩)) h (fun v50 h => ?_)
  refine q_icmp_ge (pc := 51) (tgt := 151) C dX13_overlap_51 (by decide) h (fun _ h => ?_) (fun _ h => ?_)
  · refine q_W.sub [] rfl ?_
    exact S_X13_overlap_151 B hT _ h
  · refine q_iload_n (pc := 54) C 3 rfl dX13_overlap_54 rfl ?_
    refine q_aload_n (pc := 55) C 0 rfl dX13_overlap_55 rfl ?_
    refine q_getA (pc := 56) C dX13_overlap_56 ql_X13_77 h (fun v56 h => ?_)
    refine q_iload_n (pc := 59) C 2 rfl dX13_overlap_59 rfl ?_
    refine q_ldI (pc := 60) C dX13_overlap_60 (Or.inr (Or.inl ⟨rfl, rfl⟩)) h (fun v60 h => ?_)
    refine q_icmp_ge (pc := 61) (tgt := 151) C dX13_overlap_61 (by decide) h (fun _ h => ?_) (fun _ h => ?_)
    · refine q_W.sub [] rfl ?_
      exact S_X13_overlap_151 B hT _ h
    · refine q_iconst (pc := 64) (v := (0 : Int32)) C dX13_overlap_64 (by decide) ?_
      refine q_istore (pc := 65) (l' := [(4, q_I (0 : Int32)), (0, q_R l0), (1, q_I l1), (2, q_I l2), (3, q_I l3)]) C dX13_overlap_65 (by decide) rfl ?_
      refine q_W.sub [1, 2, 3, 4, 0] rfl ?_
      exact S_X13_overlap_67 B hT r44 hr44 mr44 q_fu l0 l1 l2 l3 (0 : Int32) _ h
def F_X13_overlap_44 (κ : Nat → Nat) : Nat → Option Nat → Int32 → Int32 → Int32 → q_X Int32
  | 0, _, _, _, _ => q_no
  | n + 1, l0, l1, l2, l3 => F_X13_overlap_44B κ (F_X13_overlap_44 κ n) l0 l1 l2 l3
theorem M_X13_overlap_44 (κ : Nat → Nat) : ∀ (n : Nat) (l0 : Option Nat) (l1 : Int32) (l2 : Int32) (l3 : Int32), q_mo (F_X13_overlap_44 κ n l0 l1 l2 l3)
  | 0, _, _, _, _ => q_mo_no
  | n + 1, l0, l1, l2, l3 => M_X13_overlap_44B κ (F_X13_overlap_44 κ n) (M_X13_overlap_44 κ n) l0 l1 l2 l3
theorem S_X13_overlap_44 {E : q_Ev} {Γ : q_Gm} {w : (Int32 ⊕ q_Exn) × q_St} (B : q_Bd E Γ cX13_overlap yX13_overlap.cls 7 0 0 (some .boolean) yX13_overlap.name w) (hT : q_nT Γ) : ∀ (n : Nat) (l0 : Option Nat) (l1 : Int32) (l2 : Int32) (l3 : Int32) (σ : q_St), F_X13_overlap_44 (q_kap E) n l0 l1 l2 l3 σ = some w → q_W E Γ (q_QF E Γ q_oI w) 7 σ 44 [(0, q_R l0), (1, q_I l1), (2, q_I l2), (3, q_I l3)] []
  | 0, _, _, _, _, _, h => by cases h
  | n + 1, l0, l1, l2, l3, σ, h => S_X13_overlap_44B B hT (F_X13_overlap_44 (q_kap E) n) (S_X13_overlap_44 B hT n) (M_X13_overlap_44 (q_kap E) n) l0 l1 l2 l3 σ h
def F_X13_overlap_30 (κ : Nat → Nat) (l0 : Option Nat) (l1 : Int32) (l2 : Int32) (s0 : Option Nat) (s1 : Int32) : q_X Int32 :=
  q_wr (q_pF s0 16 7 (.int s1)) (q_rd (q_gI l0 16 7) fun v34 => q_br (v34 ≤ 0) (F_X13_overlap_44 κ q_fu l0 l1 l2 (0 : Int32)) (q_rz (0 : Int32)))
theorem M_X13_overlap_30 (κ : Nat → Nat) (l0 : Option Nat) (l1 : Int32) (l2 : Int32) (s0 : Option Nat) (s1 : Int32) : q_mo (F_X13_overlap_30 κ l0 l1 l2 s0 s1) := (q_mo_wr (q_mo_rd fun v34 => (q_mo_br (M_X13_overlap_44 κ q_fu l0 l1 l2 (0 : Int32)) q_mo_rz)))
set_option maxRecDepth 100000 in
set_option maxHeartbeats 4000000 in
theorem S_X13_overlap_30 {E : q_Ev} {Γ : q_Gm} {w : (Int32 ⊕ q_Exn) × q_St} (B : q_Bd E Γ cX13_overlap yX13_overlap.cls 7 0 0 (some .boolean) yX13_overlap.name w) (hT : q_nT Γ) (l0 : Option Nat) (l1 : Int32) (l2 : Int32) (s0 : Option Nat) (s1 : Int32) (σ : q_St) (h : F_X13_overlap_30 (q_kap E) l0 l1 l2 s0 s1 σ = some w) : q_W E Γ (q_QF E Γ q_oI w) 7 σ 30 [(0, q_R l0), (1, q_I l1), (2, q_I l2)] [q_I s1, q_R s0] := by
  have C := B.1
  unfold F_X13_overlap_30 at h
  refine q_putV (pc := 30) (v := q_I s1) C dX13_overlap_30 ql_X13_138 (Or.inl rfl) rfl rfl h (fun M30 h => ?_)
  refine q_aload_n (pc := 33) C 0 rfl dX13_overlap_33 rfl ?_
  refine q_getI (pc := 34) C dX13_overlap_34 ql_X13_138 h (fun v34 h => ?_)
  refine q_if_le (pc := 37) (tgt := 42) C dX13_overlap_37 (by decide) h (fun _ h => ?_) (fun _ h => ?_)
  · refine q_iconst (pc := 42) (v := (0 : Int32)) C dX13_overlap_42 (by decide) ?_
    refine q_istore_n (pc := 43) (l' := [(3, q_I (0 : Int32)), (0, q_R l0), (1, q_I l1), (2, q_I l2)]) C dX13_overlap_43 rfl (by decide) rfl ?_
    refine q_W.sub [1, 2, 3, 0] rfl ?_
    exact S_X13_overlap_44 B hT q_fu l0 l1 l2 (0 : Int32) _ h
  · refine q_iconst (pc := 40) (v := (0 : Int32)) C dX13_overlap_40 (by decide) ?_
    exact q_zret C B.2.2.2.2.1 dX13_overlap_41 h
def F_X13_overlap_25 (κ : Nat → Nat) (l0 : Option Nat) (l1 : Int32) (l2 : Int32) (s0 : Option Nat) : q_X Int32 :=
  F_X13_overlap_30 κ l0 l1 l2 s0 (1 : Int32)
theorem M_X13_overlap_25 (κ : Nat → Nat) (l0 : Option Nat) (l1 : Int32) (l2 : Int32) (s0 : Option Nat) : q_mo (F_X13_overlap_25 κ l0 l1 l2 s0) := (M_X13_overlap_30 κ l0 l1 l2 s0 (1 : Int32))
set_option maxRecDepth 100000 in
set_option maxHeartbeats 4000000 in
theorem S_X13_overlap_25 {E : q_Ev} {Γ : q_Gm} {w : (Int32 ⊕ q_Exn) × q_St} (B : q_Bd E Γ cX13_overlap yX13_overlap.cls 7 0 0 (some .boolean) yX13_overlap.name w) (hT : q_nT Γ) (l0 : Option Nat) (l1 : Int32) (l2 : Int32) (s0 : Option Nat) (σ : q_St) (h : F_X13_overlap_25 (q_kap E) l0 l1 l2 s0 σ = some w) : q_W E Γ (q_QF E Γ q_oI w) 7 σ 25 [(0, q_R l0), (1, q_I l1), (2, q_I l2)] [q_R s0] := by
  have C := B.1
  unfold F_X13_overlap_25 at h
  refine q_iconst (pc := 25) (v := (1 : Int32)) C dX13_overlap_25 (by decide) ?_
  refine q_goto (pc := 26) (tgt := 30) C dX13_overlap_26 (by decide) ?_
  exact S_X13_overlap_30 B hT l0 l1 l2 s0 (1 : Int32) _ h
def F_X13_overlap (κ : Nat → Nat) (l0 : Option Nat) (l1 : Int32) (l2 : Int32) : q_X Int32 :=
  q_br (l1 < 0) (F_X13_overlap_25 κ l0 l1 l2 l0) (q_rd (q_gI l0 16 23) fun v7 => q_br (v7 ≤ l1) (F_X13_overlap_25 κ l0 l1 l2 l0) (q_br (l2 < 0) (F_X13_overlap_25 κ l0 l1 l2 l0) (q_rd (q_gI l0 16 23) fun v19 => q_br (l2 < v19) (F_X13_overlap_30 κ l0 l1 l2 l0 (0 : Int32)) (F_X13_overlap_25 κ l0 l1 l2 l0))))
theorem M_X13_overlap (κ : Nat → Nat) (l0 : Option Nat) (l1 : Int32) (l2 : Int32) : q_mo (F_X13_overlap κ l0 l1 l2) := (q_mo_br (M_X13_overlap_25 κ l0 l1 l2 l0) (q_mo_rd fun v7 => (q_mo_br (M_X13_overlap_25 κ l0 l1 l2 l0) (q_mo_br (M_X13_overlap_25 κ l0 l1 l2 l0) (q_mo_rd fun v19 => (q_mo_br (M_X13_overlap_30 κ l0 l1 l2 l0 (0 : Int32)) (M_X13_overlap_25 κ l0 l1 l2 l0)))))))
set_option maxRecDepth 100000 in
set_option maxHeartbeats 4000000 in
theorem K_X13_overlap {E : q_Ev} (l0 : Option Nat) (l1 : Int32) (l2 : Int32) : q_Ct E yX13_overlap (.code yX13_overlap cX13_overlap 7 (some .boolean)) 0 0 [q_R l0, q_I l1, q_I l2] q_oI (F_X13_overlap (q_kap E) l0 l1 l2) := by
  refine q_enter (by decide) (Nat.le_of_ble_eq_true rfl) (fun Γ σ w h B hT => ?_)
  have C := B.1
  unfold F_X13_overlap at h
  refine q_aload_n (pc := 0) C 0 rfl dX13_overlap_0 rfl ?_
  refine q_iload_n (pc := 1) C 1 rfl dX13_overlap_1 rfl ?_
  refine q_if_lt (pc := 2) (tgt := 25) C dX13_overlap_2 (by decide) h (fun _ h => ?_) (fun _ h => ?_)
  · exact S_X13_overlap_25 B hT l0 l1 l2 l0 _ h
  · refine q_iload_n (pc := 5) C 1 rfl dX13_overlap_5 rfl ?_
    refine q_aload_n (pc := 6) C 0 rfl dX13_overlap_6 rfl ?_
    refine q_getI (pc := 7) C dX13_overlap_7 ql_X13_223 h (fun v7 h => ?_)
    refine q_icmp_ge (pc := 10) (tgt := 25) C dX13_overlap_10 (by decide) h (fun _ h => ?_) (fun _ h => ?_)
    · exact S_X13_overlap_25 B hT l0 l1 l2 l0 _ h
    · refine q_iload_n (pc := 13) C 2 rfl dX13_overlap_13 rfl ?_
      refine q_if_lt (pc := 14) (tgt := 25) C dX13_overlap_14 (by decide) h (fun _ h => ?_) (fun _ h => ?_)
      · exact S_X13_overlap_25 B hT l0 l1 l2 l0 _ h
      · refine q_iload_n (pc := 17) C 2 rfl dX13_overlap_17 rfl ?_
        refine q_aload_n (pc := 18) C 0 rfl dX13_overlap_18 rfl ?_
        refine q_getI (pc := 19) C dX13_overlap_19 ql_X13_223 h (fun v19 h => ?_)
        refine q_icmp_lt (pc := 22) (tgt := 29) C dX13_overlap_22 (by decide) h (fun _ h => ?_) (fun _ h => ?_)
        · refine q_iconst (pc := 29) (v := (0 : Int32)) C dX13_overlap_29 (by decide) ?_
          exact S_X13_overlap_30 B hT l0 l1 l2 l0 (0 : Int32) _ h
        · exact S_X13_overlap_25 B hT l0 l1 l2 l0 _ h
def F_X13_count_16 (κ : Nat → Nat) (l0 : Option Nat) (l1 : Int32) (s0 : Option Nat) (s1 : Int32) : q_X Int32 :=
  q_wr (q_pF s0 16 7 (.int s1)) (q_rd (q_gI l0 16 7) fun v20 => q_br (v20 ≤ 0) (q_br (l1.toInt < 0 ∨ 6 < l1.toInt) (q_rd (q_gI l0 16 4) fun v108 => q_rt v108) (q_br (l1 = 0) (q_rd (q_gI l0 16 23) fun v73 => q_rt v73) (q_br (l1 = 1) (q_rd (q_gI l0 16 21) fun v78 => q_rt v78) (q_br (l1 = 2) (q_rd (q_gI l0 16 22) fun v83 => q_rt v83) (q_br (l1 = 3) (q_rd (q_gI l0 16 42) fun v88 => q_rt v88) (q_br (l1 = 4) (q_rd (q_gI l0 16 43) fun v93 => q_rt v93) (q_br (l1 = 5) (q_rd (q_gI l0 16 44) fun v98 => q_rt v98) (q_br (l1 = 6) (q_rd (q_gI l0 16 3) fun v103 => q_rt v103) (q_no))))))))) (q_rt (0 : Int32)))
theorem M_X13_count_16 (κ : Nat → Nat) (l0 : Option Nat) (l1 : Int32) (s0 : Option Nat) (s1 : Int32) : q_mo (F_X13_count_16 κ l0 l1 s0 s1) := (q_mo_wr (q_mo_rd fun v20 => (q_mo_br (q_mo_br (q_mo_rd fun v108 => q_mo_rt) (q_mo_br (q_mo_rd fun v73 => q_mo_rt) (q_mo_br (q_mo_rd fun v78 => q_mo_rt) (q_mo_br (q_mo_rd fun v83 => q_mo_rt) (q_mo_br (q_mo_rd fun v88 => q_mo_rt) (q_mo_br (q_mo_rd fun v93 => q_mo_rt) (q_mo_br (q_mo_rd fun v98 => q_mo_rt) (q_mo_br (q_mo_rd fun v103 => q_mo_rt) q_mo_no)))))))) q_mo_rt)))
set_option maxRecDepth 100000 in
set_option maxHeartbeats 4000000 in
theorem S_X13_count_16 {E : q_Ev} {Γ : q_Gm} {w : (Int32 ⊕ q_Exn) × q_St} (B : q_Bd E Γ cX13_count yX13_count.cls 2 0 0 (some .int) yX13_count.name w) (hT : q_nT Γ) (l0 : Option Nat) (l1 : Int32) (s0 : Option Nat) (s1 : Int32) (σ : q_St) (h : F_X13_count_16 (q_kap E) l0 l1 s0 s1 σ = some w) : q_W E Γ (q_QF E Γ q_oI w) 2 σ 16 [(0, q_R l0), (1, q_I l1)] [q_I s1, q_R s0] := by
  have C := B.1
  unfold F_X13_count_16 at h
  refine q_putV (pc := 16) (v := q_I s1) C dX13_count_16 ql_X13_138 (Or.inl rfl) rfl rfl h (fun M16 h => ?_)
  refine q_aload_n (pc := 19) C 0 rfl dX13_count_19 rfl ?_
  refine q_getI (pc := 20) C dX13_count_20 ql_X13_138 h (fun v20 h => ?_)
  refine q_if_le (pc := 23) (tgt := 28) C dX13_count_23 (by decide) h (fun _ h => ?_) (fun _ h => ?_)
  · refine q_iload_n (pc := 28) C 1 rfl dX13_count_28 rfl ?_
    by_cases cd : l1.toInt < 0 ∨ 6 < l1.toInt
    · replace h := (q_br_e h).1 cd
      refine q_tabOut (pc := 29) (tgt := 107) C dX13_count_29 cd (by decide) ?_
      refine q_aload_n (pc := 107) C 0 rfl dX13_count_107 rfl ?_
      refine q_getI (pc := 108) C dX13_count_108 ql_X13_339 h (fun v108 h => ?_)
      exact q_iret C B.2.2.2.2.1 dX13_count_111 h
    replace h := (q_br_e h).2 cd
    by_cases cv : l1 = 0
    · replace h := (q_br_e h).1 cv
      refine q_tabIn (pc := 29) (tgt := 72) (off := 43) C dX13_count_29 (by rw [cv]; decide) (by rw [cv]; decide) (by rw [cv]; rfl) (by decide) ?_
      refine q_aload_n (pc := 72) C 0 rfl dX13_count_72 rfl ?_
      refine q_getI (pc := 73) C dX13_count_73 ql_X13_223 h (fun v73 h => ?_)
      exact q_iret C B.2.2.2.2.1 dX13_count_76 h
    replace h := (q_br_e h).2 cv
    by_cases cv : l1 = 1
    · replace h := (q_br_e h).1 cv
      refine q_tabIn (pc := 29) (tgt := 77) (off := 48) C dX13_count_29 (by rw [cv]; decide) (by rw [cv]; decide) (by rw [cv]; rfl) (by decide) ?_
      refine q_aload_n (pc := 77) C 0 rfl dX13_count_77 rfl ?_
      refine q_getI (pc := 78) C dX13_count_78 ql_X13_217 h (fun v78 h => ?_)
      exact q_iret C B.2.2.2.2.1 dX13_count_81 h
    replace h := (q_br_e h).2 cv
    by_cases cv : l1 = 2
    · replace h := (q_br_e h).1 cv
      refine q_tabIn (pc := 29) (tgt := 82) (off := 53) C dX13_count_29 (by rw [cv]; decide) (by rw [cv]; decide) (by rw [cv]; rfl) (by decide) ?_
      refine q_aload_n (pc := 82) C 0 rfl dX13_count_82 rfl ?_
      refine q_getI (pc := 83) C dX13_count_83 ql_X13_220 h (fun v83 h => ?_)
      exact q_iret C B.2.2.2.2.1 dX13_count_86 h
    replace h := (q_br_e h).2 cv
    by_cases cv : l1 = 3
    · replace h := (q_br_e h).1 cv
      refine q_tabIn (pc := 29) (tgt := 87) (off := 58) C dX13_count_29 (by rw [cv]; decide) (by rw [cv]; decide) (by rw [cv]; rfl) (by decide) ?_
      refine q_aload_n (pc := 87) C 0 rfl dX13_count_87 rfl ?_
      refine q_getI (pc := 88) C dX13_count_88 ql_X13_283 h (fun v88 h => ?_)
      exact q_iret C B.2.2.2.2.1 dX13_count_91 h
    replace h := (q_br_e h).2 cv
    by_cases cv : l1 = 4
    · replace h := (q_br_e h).1 cv
      refine q_tabIn (pc := 29) (tgt := 92) (off := 63) C dX13_count_29 (by rw [cv]; decide) (by rw [cv]; decide) (by rw [cv]; rfl) (by decide) ?_
      refine q_aload_n (pc := 92) C 0 rfl dX13_count_92 rfl ?_
      refine q_getI (pc := 93) C dX13_count_93 ql_X13_286 h (fun v93 h => ?_)
      exact q_iret C B.2.2.2.2.1 dX13_count_96 h
    replace h := (q_br_e h).2 cv
    by_cases cv : l1 = 5
    · replace h := (q_br_e h).1 cv
      refine q_tabIn (pc := 29) (tgt := 97) (off := 68) C dX13_count_29 (by rw [cv]; decide) (by rw [cv]; decide) (by rw [cv]; rfl) (by decide) ?_
      refine q_aload_n (pc := 97) C 0 rfl dX13_count_97 rfl ?_
      refine q_getI (pc := 98) C dX13_count_98 ql_X13_289 h (fun v98 h => ?_)
      exact q_iret C B.2.2.2.2.1 dX13_count_101 h
    replace h := (q_br_e h).2 cv
    by_cases cv : l1 = 6
    · replace h := (q_br_e h).1 cv
      refine q_tabIn (pc := 29) (tgt := 102) (off := 73) C dX13_count_29 (by rw [cv]; decide) (by rw [cv]; decide) (by rw [cv]; rfl) (by decide) ?_
      refine q_aload_n (pc := 102) C 0 rfl dX13_count_102 rfl ?_
      refine q_getI (pc := 103) C dX13_count_103 ql_X13_364 h (fun v103 h => ?_)
      exact q_iret C B.2.2.2.2.1 dX13_count_106 h
    replace h := (q_br_e h).2 cv
    cases h
  · refine q_iconst (pc := 26) (v := (0 : Int32)) C dX13_count_26 (by decide) ?_
    exact q_iret C B.2.2.2.2.1 dX13_count_27 h
def F_X13_count_11 (κ : Nat → Nat) (l0 : Option Nat) (l1 : Int32) (s0 : Option Nat) : q_X Int32 :=
  F_X13_count_16 κ l0 l1 s0 (1 : Int32)
theorem M_X13_count_11 (κ : Nat → Nat) (l0 : Option Nat) (l1 : Int32) (s0 : Option Nat) : q_mo (F_X13_count_11 κ l0 l1 s0) := (M_X13_count_16 κ l0 l1 s0 (1 : Int32))
set_option maxRecDepth 100000 in
set_option maxHeartbeats 4000000 in
theorem S_X13_count_11 {E : q_Ev} {Γ : q_Gm} {w : (Int32 ⊕ q_Exn) × q_St} (B : q_Bd E Γ cX13_count yX13_count.cls 2 0 0 (some .int) yX13_count.name w) (hT : q_nT Γ) (l0 : Option Nat) (l1 : Int32) (s0 : Option Nat) (σ : q_St) (h : F_X13_count_11 (q_kap E) l0 l1 s0 σ = some w) : q_W E Γ (q_QF E Γ q_oI w) 2 σ 11 [(0, q_R l0), (1, q_I l1)] [q_R s0] := by
  have C := B.1
  unfold F_X13_count_11 at h
  refine q_iconst (pc := 11) (v := (1 : Int32)) C dX13_count_11 (by decide) ?_
  refine q_goto (pc := 12) (tgt := 16) C dX13_count_12 (by decide) ?_
  exact S_X13_count_16 B hT l0 l1 s0 (1 : Int32) _ h
def F_X13_count (κ : Nat → Nat) (l0 : Option Nat) (l1 : Int32) : q_X Int32 :=
  q_br (l1 < 0) (F_X13_count_11 κ l0 l1 l0) (q_br (l1 ≤ (7 : Int32)) (F_X13_count_16 κ l0 l1 l0 (0 : Int32)) (F_X13_count_11 κ l0 l1 l0))
theorem M_X13_count (κ : Nat → Nat) (l0 : Option Nat) (l1 : Int32) : q_mo (F_X13_count κ l0 l1) := (q_mo_br (M_X13_count_11 κ l0 l1 l0) (q_mo_br (M_X13_count_16 κ l0 l1 l0 (0 : Int32)) (M_X13_count_11 κ l0 l1 l0)))
set_option maxRecDepth 100000 in
set_option maxHeartbeats 4000000 in
theorem K_X13_count {E : q_Ev} (l0 : Option Nat) (l1 : Int32) : q_Ct E yX13_count (.code yX13_count cX13_count 2 (some .int)) 0 0 [q_R l0, q_I l1] q_oI (F_X13_count (q_kap E) l0 l1) := by
  refine q_enter (by decide) (Nat.le_of_ble_eq_true rfl) (fun Γ σ w h B hT => ?_)
  have C := B.1
  unfold F_X13_count at h
  refine q_aload_n (pc := 0) C 0 rfl dX13_count_0 rfl ?_
  refine q_iload_n (pc := 1) C 1 rfl dX13_count_1 rfl ?_
  refine q_if_lt (pc := 2) (tgt := 11) C dX13_count_2 (by decide) h (fun _ h => ?_) (fun _ h => ?_)
  · exact S_X13_count_11 B hT l0 l1 l0 _ h
  · refine q_iload_n (pc := 5) C 1 rfl dX13_count_5 rfl ?_
    refine q_bipush (pc := 6) (v := (7 : Int32)) C dX13_count_6 (by decide) ?_
    refine q_icmp_le (pc := 8) (tgt := 15) C dX13_count_8 (by decide) h (fun _ h => ?_) (fun _ h => ?_)
    · refine q_iconst (pc := 15) (v := (0 : Int32)) C dX13_count_15 (by decide) ?_
      exact S_X13_count_16 B hT l0 l1 l0 (0 : Int32) _ h
    · exact S_X13_count_11 B hT l0 l1 l0 _ h
