def F_X13_clear_2B (κ : Nat → Nat) (r2 : Option Nat → Int32 → q_X Unit) (l0 : Option Nat) (l1 : Int32) : q_X Unit :=
  q_br ((4096 : Int32) ≤ l1) (q_wr (q_pF l0 16 42 (.int (0 : Int32))) (q_wr (q_pF l0 16 43 (.int (0 : Int32))) (q_wr (q_pF l0 16 44 (.int (0 : Int32))) (q_rt ())))) (q_rd (q_gA l0 16 41) fun v10 => q_wr (q_sI 3 v10 l1 (vp_nar .boolean (0 : Int32))) (r2 l0 (l1 + (1 : Int32))))
theorem M_X13_clear_2B (κ : Nat → Nat) (r2 : Option Nat → Int32 → q_X Unit) (mr2 : ∀ (l0 : Option Nat) (l1 : Int32), q_mo (r2 l0 l1)) (l0 : Option Nat) (l1 : Int32) : q_mo (F_X13_clear_2B κ r2 l0 l1) := (q_mo_br (q_mo_wr (q_mo_wr (q_mo_wr q_mo_rt))) (q_mo_rd fun v10 => (q_mo_wr (mr2 l0 (l1 + (1 : Int32))))))
set_option maxRecDepth 100000 in
set_option maxHeartbeats 4000000 in
theorem S_X13_clear_2B {E : q_Ev} {Γ : q_Gm} {w : (Unit ⊕ q_Exn) × q_St} (B : q_Bd E Γ cX13_clear yX13_clear.cls 2 0 0 (none) yX13_clear.name w) (hT : q_nT Γ) (r2 : Option Nat → Int32 → q_X Unit) (hr2 : ∀ (l0 : Option Nat) (l1 : Int32) (σ : q_St), r2 l0 l1 σ = some w → q_W E Γ (q_QF E Γ q_oV w) 2 σ 2 [(0, q_R l0), (1, q_I l1)] []) (mr2 : ∀ (l0 : Option Nat) (l1 : Int32), q_mo (r2 l0 l1)) (l0 : Option Nat) (l1 : Int32) (σ : q_St) (h : F_X13_clear_2B (q_kap E) r2 l0 l1 σ = some w) : q_W E Γ (q_QF E Γ q_oV w) 2 σ 2 [(0, q_R l0), (1, q_I l1)] [] := by
  have C := B.1
  unfold F_X13_clear_2B at h
  refine q_iload_n (pc := 2) C 1 rfl dX13_clear_2 rfl ?_
  refine q_sipush (pc := 3) (v := (4096 : Int32)) C dX13_clear_3 (by decide) ?_
  refine q_icmp_ge (pc := 6) (tgt := 22) C dX13_clear_6 (by decide) h (fun _ h => ?_) (fun _ h => ?_)
  · refine q_aload_n (pc := 22) C 0 rfl dX13_clear_22 rfl ?_
    refine q_iconst (pc := 23) (v := (0 : Int32)) C dX13_clear_23 (by decide) ?_
    refine q_putV (pc := 24) (v := q_I (0 : Int32)) C dX13_clear_24 ql_X13_283 (Or.inl rfl) rfl rfl h (fun M24 h => ?_)
    refine q_aload_n (pc := 27) C 0 rfl dX13_clear_27 rfl ?_
    refine q_iconst (pc := 28) (v := (0 : Int32)) C dX13_clear_28 (by decide) ?_
    refine q_putV (pc := 29) (v := q_I (0 : Int32)) C dX13_clear_29 ql_X13_286 (Or.inl rfl) rfl rfl h (fun M29 h => ?_)
    refine q_aload_n (pc := 32) C 0 rfl dX13_clear_32 rfl ?_
    refine q_iconst (pc := 33) (v := (0 : Int32)) C dX13_clear_33 (by decide) ?_
    refine q_putV (pc := 34) (v := q_I (0 : Int32)) C dX13_clear_34 ql_X13_289 (Or.inl rfl) rfl rfl h (fun M34 h => ?_)
    exact q_vret C B.2.2.2.2.1 dX13_clear_37 h
  · refine q_aload_n (pc := 9) C 0 rfl dX13_clear_9 rfl ?_
    refine q_getA (pc := 10) C dX13_clear_10 ql_X13_101 h (fun v10 h => ?_)
    refine q_iload_n (pc := 13) C 1 rfl dX13_clear_13 rfl ?_
    refine q_iconst (pc := 14) (v := (0 : Int32)) C dX13_clear_14 (by decide) ?_
    refine q_stZ (pc := 15) C dX13_clear_15 h (fun M15 h => ?_)
    refine q_iinc (pc := 16) (v := (1 : Int32)) (l' := [(1, q_I (l1 + (1 : Int32))), (0, q_R l0)]) C 1 rfl dX13_clear_16 (by decide) (by decide) rfl ?_
    refine q_goto (pc := 19) (tgt := 2) C dX13_clear_19 (by decide) ?_
    refine q_W.sub [1, 0] rfl ?_
    exact hr2 l0 (l1 + (1 : Int32)) _ h
def F_X13_clear_2 (κ : Nat → Nat) : Nat → Option Nat → Int32 → q_X Unit
  | 0, _, _ => q_no
  | n + 1, l0, l1 => F_X13_clear_2B κ (F_X13_clear_2 κ n) l0 l1
theorem M_X13_clear_2 (κ : Nat → Nat) : ∀ (n : Nat) (l0 : Option Nat) (l1 : Int32), q_mo (F_X13_clear_2 κ n l0 l1)
  | 0, _, _ => q_mo_no
  | n + 1, l0, l1 => M_X13_clear_2B κ (F_X13_clear_2 κ n) (M_X13_clear_2 κ n) l0 l1
theorem S_X13_clear_2 {E : q_Ev} {Γ : q_Gm} {w : (Unit ⊕ q_Exn) × q_St} (B : q_Bd E Γ cX13_clear yX13_clear.cls 2 0 0 (none) yX13_clear.name w) (hT : q_nT Γ) : ∀ (n : Nat) (l0 : Option Nat) (l1 : Int32) (σ : q_St), F_X13_clear_2 (q_kap E) n l0 l1 σ = some w → q_W E Γ (q_QF E Γ q_oV w) 2 σ 2 [(0, q_R l0), (1, q_I l1)] []
  | 0, _, _, _, h => by cases h
  | n + 1, l0, l1, σ, h => S_X13_clear_2B B hT (F_X13_clear_2 (q_kap E) n) (S_X13_clear_2 B hT n) (M_X13_clear_2 (q_kap E) n) l0 l1 σ h
def F_X13_clear (κ : Nat → Nat) (l0 : Option Nat) : q_X Unit :=
  F_X13_clear_2 κ q_fu l0 (0 : Int32)
theorem M_X13_clear (κ : Nat → Nat) (l0 : Option Nat) : q_mo (F_X13_clear κ l0) := (M_X13_clear_2 κ q_fu l0 (0 : Int32))
set_option maxRecDepth 100000 in
set_option maxHeartbeats 4000000 in
theorem K_X13_clear {E : q_Ev} (l0 : Option Nat) : q_Ct E yX13_clear (.code yX13_clear cX13_clear 2 (none)) 0 0 [q_R l0] q_oV (F_X13_clear (q_kap E) l0) := by
  refine q_enter (by decide) (Nat.le_of_ble_eq_true rfl) (fun Γ σ w h B hT => ?_)
  have C := B.1
  unfold F_X13_clear at h
  refine q_iconst (pc := 0) (v := (0 : Int32)) C dX13_clear_0 (by decide) ?_
  refine q_istore_n (pc := 1) (l' := [(1, q_I (0 : Int32)), (0, q_R l0)]) C dX13_clear_1 rfl (by decide) rfl ?_
  refine q_W.sub [1, 0] rfl ?_
  exact S_X13_clear_2 B hT q_fu l0 (0 : Int32) _ h
def F_X13_forget (κ : Nat → Nat) (l0 : Option Nat) : q_X Unit :=
  q_wr (q_pF l0 16 21 (.int (0 : Int32))) (q_wr (q_pF l0 16 22 (.int (0 : Int32))) (q_wr (q_pF l0 16 23 (.int (0 : Int32))) (q_wr (q_pF l0 16 19 (.int (0 : Int32))) (q_wr (q_pF l0 16 20 (.int (0 : Int32))) (q_rd (q_is l0 16) fun _ => q_ca (F_X13_clear κ l0) fun _v26 => q_rt ())))))
theorem M_X13_forget (κ : Nat → Nat) (l0 : Option Nat) : q_mo (F_X13_forget κ l0) := (q_mo_wr (q_mo_wr (q_mo_wr (q_mo_wr (q_mo_wr (q_mo_rd fun _ => q_mo_ca (M_X13_clear κ l0) fun _v26 => q_mo_rt))))))
set_option maxRecDepth 100000 in
set_option maxHeartbeats 4000000 in
theorem K_X13_forget {E : q_Ev} (l0 : Option Nat) : q_Ct E yX13_forget (.code yX13_forget cX13_forget 1 (none)) 1 21 [q_R l0] q_oV (F_X13_forget (q_kap E) l0) := by
  refine q_enter (by decide) (Nat.le_of_ble_eq_true rfl) (fun Γ σ w h B hT => ?_)
  have C := B.1
  unfold F_X13_forget at h
  refine q_aload_n (pc := 0) C 0 rfl dX13_forget_0 rfl ?_
  refine q_iconst (pc := 1) (v := (0 : Int32)) C dX13_forget_1 (by decide) ?_
  refine q_putV (pc := 2) (v := q_I (0 : Int32)) C dX13_forget_2 ql_X13_217 (Or.inl rfl) rfl rfl h (fun M2 h => ?_)
  refine q_aload_n (pc := 5) C 0 rfl dX13_forget_5 rfl ?_
  refine q_iconst (pc := 6) (v := (0 : Int32)) C dX13_forget_6 (by decide) ?_
  refine q_putV (pc := 7) (v := q_I (0 : Int32)) C dX13_forget_7 ql_X13_220 (Or.inl rfl) rfl rfl h (fun M7 h => ?_)
  refine q_aload_n (pc := 10) C 0 rfl dX13_forget_10 rfl ?_
  refine q_iconst (pc := 11) (v := (0 : Int32)) C dX13_forget_11 (by decide) ?_
  refine q_putV (pc := 12) (v := q_I (0 : Int32)) C dX13_forget_12 ql_X13_223 (Or.inl rfl) rfl rfl h (fun M12 h => ?_)
  refine q_aload_n (pc := 15) C 0 rfl dX13_forget_15 rfl ?_
  refine q_iconst (pc := 16) (v := (0 : Int32)) C dX13_forget_16 (by decide) ?_
  refine q_putV (pc := 17) (v := q_I (0 : Int32)) C dX13_forget_17 ql_X13_190 (Or.inl rfl) rfl rfl h (fun M17 h => ?_)
  refine q_aload_n (pc := 20) C 0 rfl dX13_forget_20 rfl ?_
  refine q_iconst (pc := 21) (v := (0 : Int32)) C dX13_forget_21 (by decide) ?_
  refine q_putV (pc := 22) (v := q_I (0 : Int32)) C dX13_forget_22 ql_X13_197 (Or.inl rfl) rfl rfl h (fun M22 h => ?_)
  refine q_aload_n (pc := 25) C 0 rfl dX13_forget_25 rfl ?_
  refine q_callV (pc := 26) (As := []) (st := []) (ps := q_psV) C B.2.1 hT q_hpV qm_X13_226 qv_X13_clear dX13_forget_26 rfl rfl (Nat.le_of_ble_eq_true rfl) (q_flo B.2.2.1 B.2.2.2.1 (by decide) (by decide)) (K_X13_clear l0) (M_X13_clear (q_kap E) l0) (by exact fun _v26 => q_mo_rt) h (fun _v26 σ h => ?_)
  refine q_W.st (st' := []) rfl ?_
  exact q_vret C B.2.2.2.2.1 dX13_forget_29 h
def F_X13_kind_109B (κ : Nat → Nat) (r83 : Option Nat → Int32 → Int32 → Int32 → Int32 → q_X Unit) (r109 : Option Nat → Int32 → Int32 → Int32 → Int32 → Int32 → Int32 → q_X Unit) (l0 : Option Nat) (l1 : Int32) (l3 : Int32) (l4 : Int32) (l5 : Int32) (l6 : Int32) (l7 : Int32) : q_X Unit :=
  q_br (l5 ≤ l7) (q_br (¬ l5 = (32 : Int32)) (q_rd (q_gA l0 16 29) fun v174 => q_wr (q_sI 1 v174 (((32 : Int32) * l4) + l5) l6) (q_rd (q_gI l0 16 15) fun v193 => q_wr (q_pF l0 16 15 (.int (v193 + (1 : Int32)))) (r83 l0 l1 l3 l4 (l5 + (1 : Int32))))) (q_mk (.inr (.inl (15, [.null, .null, .null, .null, .null, .int 0, .int 0, .int 0]))) 8 fun a160 => q_rd (q_gI l0 16 15) fun v166 => q_gd (¬ (some a160) = none) (q_ca (F_X12_init κ (some a160) (3 : Int32) v166) fun _v169 => q_rd (q_is (some a160) 15) fun _ => q_tr RX12 (some a160)))) (q_rd (q_gA l0 16 29) fun v117 => q_rd (q_lI 1 v117 (((32 : Int32) * l4) + l7)) fun v128 => q_br (¬ v128 = l6) (r109 l0 l1 l3 l4 l5 l6 (l7 + (1 : Int32))) (q_mk (.inr (.inl (15, [.null, .null, .null, .null, .null, .int 0, .int 0, .int 0]))) 8 fun a134 => q_rd (q_gI l0 16 15) fun v140 => q_gd (¬ (some a134) = none) (q_ca (F_X12_init κ (some a134) (2 : Int32) v140) fun _v143 => q_rd (q_is (some a134) 15) fun _ => q_tr RX12 (some a134))))
theorem M_X13_kind_109B (κ : Nat → Nat) (r83 : Option Nat → Int32 → Int32 → Int32 → Int32 → q_X Unit) (mr83 : ∀ (l0 : Option Nat) (l1 : Int32) (l3 : Int32) (l4 : Int32) (l5 : Int32), q_mo (r83 l0 l1 l3 l4 l5)) (r109 : Option Nat → Int32 → Int32 → Int32 → Int32 → Int32 → Int32 → q_X Unit) (mr109 : ∀ (l0 : Option Nat) (l1 : Int32) (l3 : Int32) (l4 : Int32) (l5 : Int32) (l6 : Int32) (l7 : Int32), q_mo (r109 l0 l1 l3 l4 l5 l6 l7)) (l0 : Option Nat) (l1 : Int32) (l3 : Int32) (l4 : Int32) (l5 : Int32) (l6 : Int32) (l7 : Int32) : q_mo (F_X13_kind_109B κ r83 r109 l0 l1 l3 l4 l5 l6 l7) := (q_mo_br (q_mo_br (q_mo_rd fun v174 => (q_mo_wr (q_mo_rd fun v193 => (q_mo_wr (mr83 l0 l1 l3 l4 (l5 + (1 : Int32))))))) (q_mo_mk fun a160 => (q_mo_rd fun v166 => (q_mo_gd (q_mo_ca (M_X12_init κ (some a160) (3 : Int32) v166) fun _v169 => (q_mo_rd fun _ => q_mo_tr)))))) (q_mo_rd fun v117 => (q_mo_rd fun v128 => (q_mo_br (mr109 l0 l1 l3 l4 l5 l6 (l7 + (1 : Int32))) (q_mo_mk fun a134 => (q_mo_rd fun v140 => (q_mo_gd (q_mo_ca (M_X12_init κ (some a134) (2 : Int32) v140) fun _v143 => (q_mo_rd fun _ => q_mo_tr)))))))))
set_option maxRecDepth 100000 in
set_option maxHeartbeats 4000000 in
theorem S_X13_kind_109B {E : q_Ev} {Γ : q_Gm} {w : (Unit ⊕ q_Exn) × q_St} (B : q_Bd E Γ cX13_kind yX13_kind.cls 8 6 138 (none) yX13_kind.name w) (hT : q_nT Γ) (r83 : Option Nat → Int32 → Int32 → Int32 → Int32 → q_X Unit) (hr83 : ∀ (l0 : Option Nat) (l1 : Int32) (l3 : Int32) (l4 : Int32) (l5 : Int32) (σ : q_St), r83 l0 l1 l3 l4 l5 σ = some w → q_W E Γ (q_QF E Γ q_oV w) 8 σ 83 [(0, q_R l0), (1, q_I l1), (3, q_I l3), (4, q_I l4), (5, q_I l5)] []) (mr83 : ∀ (l0 : Option Nat) (l1 : Int32) (l3 : Int32) (l4 : Int32) (l5 : Int32), q_mo (r83 l0 l1 l3 l4 l5)) (r109 : Option Nat → Int32 → Int32 → Int32 → Int32 → Int32 → Int32 → q_X Unit) (hr109 : ∀ (l0 : Option Nat) (l1 : Int32) (l3 : Int32) (l4 : Int32) (l5 : Int32) (l6 : Int32) (l7 : Int32) (σ : q_St), r109 l0 l1 l3 l4 l5 l6 l7 σ = some w → q_W E Γ (q_QF E Γ q_oV w) 8 σ 109 [(0, q_R l0), (1, q_I l1), (3, q_I l3), (4, q_I l4), (5, q_I l5), (6, q_I l6), (7, q_I l7)] []) (mr109 : ∀ (l0 : Option Nat) (l1 : Int32) (l3 : Int32) (l4 : Int32) (l5 : Int32) (l6 : Int32) (l7 : Int32), q_mo (r109 l0 l1 l3 l4 l5 l6 l7)) (l0 : Option Nat) (l1 : Int32) (l3 : Int32) (l4 : Int32) (l5 : Int32) (l6 : Int32) (l7 : Int32) (σ : q_St) (h : F_X13_kind_109B (q_kap E) r83 r109 l0 l1 l3 l4 l5 l6 l7 σ = some w) : q_W E Γ (q_QF E Γ q_oV w) 8 σ 109 [(0, q_R l0), (1, q_I l1), (3, q_I l3), (4, q_I l4), (5, q_I l5), (6, q_I l6), (7, q_I l7)] [] := by
  have C := B.1
  unfold F_X13_kind_109B at h
  refine q_iload (pc := 109) C 6 rfl dX13_kind_109 ?_
  refine q_iload (pc := 111) C 4 rfl dX13_kind_111 ?_
  refine q_icmp_ge (pc := 113) (tgt := 153) C dX13_kind_113 (by decide) h (fun _ h => ?_) (fun _ h => ?_)
  · refine q_iload (pc := 153) C 4 rfl dX13_kind_153 ?_
    refine q_bipush (pc := 155) (v := (32 : Int32)) C dX13_kind_155 (by decide) ?_
    refine q_icmp_ne (pc := 157) (tgt := 173) C dX13_kind_157 (by decide) h (fun _ h => ?_) (fun _ h => ?_)
    · refine q_aload_n (pc := 173) C 0 rfl dX13_kind_173 rfl ?_
      refine q_getA (pc := 174) C dX13_kind_174 ql_X13_65 h (fun v174 h => ?_)
      refine q_bipush (pc := 177) (v := (32 : Int32)) C dX13_kind_177 (by decide) ?_
      refine q_iload (pc := 179) C 3 rfl dX13_kind_179 ?_
      refine q_imul (pc := 181) C dX13_kind_181 ?_
      refine q_iload (pc := 182) C 4 rfl dX13_kind_182 ?_
      refine q_iadd (pc := 184) C dX13_kind_184 ?_
      refine q_iload (pc := 185) C 5 rfl dX13_kind_185 ?_
      refine q_stI (pc := 187) C dX13_kind_187 h (fun M187 h => ?_)
      refine q_iinc (pc := 188) (v := (1 : Int32)) (l' := [(5, q_I (l5 + (1 : Int32))), (0, q_R l0), (1, q_I l1), (3, q_I l3), (4, q_I l4), (6, q_I l6), (7, q_I l7)]) C 4 rfl dX13_kind_188 (by decide) (by decide) rfl ?_
      refine q_aload_n (pc := 191) C 1 rfl dX13_kind_191 rfl ?_
      refine q_dup (pc := 192) C dX13_kind_192 rfl ?_
      refine q_getI (pc := 193) C dX13_kind_193 ql_X13_206 h (fun v193 h => ?_)
      refine q_iconst (pc := 196) (v := (1 : Int32)) C dX13_kind_196 (by decide) ?_
      refine q_iadd (pc := 197) C dX13_kind_197 ?_
      refine q_putV (pc := 198) (v := q_I (v193 + (1 : Int32))) C dX13_kind_198 ql_X13_206 (Or.inl rfl) rfl rfl h (fun M198 h => ?_)
      refine q_goto (pc := 201) (tgt := 83) C dX13_kind_201 (by decide) ?_
      refine q_W.sub [1, 2, 3, 4, 0] rfl ?_
      exact hr83 l0 l1 l3 l4 (l5 + (1 : Int32)) _ h
    · refine q_new (pc := 160) C dX13_kind_160 qn_X13_209 (by exact fun a160 => (q_mo_rd fun v166 => (q_mo_gd (q_mo_ca (M_X12_init (q_kap E) (some a160) (3 : Int32) v166) fun _v169 => (q_mo_rd fun _ => q_mo_tr))))) B.2.1 h (fun a160 σ h => ?_)
      refine q_dup (pc := 163) C dX13_kind_163 rfl ?_
      refine q_iconst (pc := 164) (v := (3 : Int32)) C dX13_kind_164 (by decide) ?_
      refine q_aload_n (pc := 165) C 0 rfl dX13_kind_165 rfl ?_
      refine q_getI (pc := 166) C dX13_kind_166 ql_X13_206 h (fun v166 h => ?_)
      refine q_callI (pc := 169) (As := [q_I (3 : Int32), q_I v166]) (st := [q_R (some a160)]) C B.2.1 (fun _ => rfl) qm_X13_211 qI_X12_init dX13_kind_169 rfl rfl (Nat.le_of_ble_eq_true rfl) (q_flo B.2.2.1 B.2.2.2.1 (by decide) (by decide)) (K_X12_init (some a160) (3 : Int32) v166) (M_X12_init (q_kap E) (some a160) (3 : Int32) v166) (N_X12_init (q_kap E) (some a160) (3 : Int32) v166) (by exact fun _v169 => (q_mo_rd fun _ => q_mo_tr)) h (fun _v169 σ h => ?_)
      exact q_athrow (pc := 172) (ci := 15) C hT rfl dX13_kind_172 h
  · refine q_aload_n (pc := 116) C 0 rfl dX13_kind_116 rfl ?_
    refine q_getA (pc := 117) C dX13_kind_117 ql_X13_65 h (fun v117 h => ?_)
    refine q_bipush (pc := 120) (v := (32 : Int32)) C dX13_kind_120 (by decide) ?_
    refine q_iload (pc := 122) C 3 rfl dX13_kind_122 ?_
    refine q_imul (pc := 124) C dX13_kind_124 ?_
    refine q_iload (pc := 125) C 6 rfl dX13_kind_125 ?_
    refine q_iadd (pc := 127) C dX13_kind_127 ?_
    refine q_ldI (pc := 128) C dX13_kind_128 (Or.inr (Or.inl ⟨rfl, rfl⟩)) h (fun v128 h => ?_)
    refine q_iload (pc := 129) C 5 rfl dX13_kind_129 ?_
    refine q_icmp_ne (pc := 131) (tgt := 147) C dX13_kind_131 (by decide) h (fun _ h => ?_) (fun _ h => ?_)
    · refine q_iinc (pc := 147) (v := (1 : Int32)) (l' := [(7, q_I (l7 + (1 : Int32))), (0, q_R l0), (1, q_I l1), (3, q_I l3), (4, q_I l4), (5, q_I l5), (6, q_I l6)]) C 6 rfl dX13_kind_147 (by decide) (by decide) rfl ?_
      refine q_goto (pc := 150) (tgt := 109) C dX13_kind_150 (by decide) ?_
      refine q_W.sub [1, 2, 3, 4, 5, 6, 0] rfl ?_
      exact hr109 l0 l1 l3 l4 l5 l6 (l7 + (1 : Int32)) _ h
    · refine q_new (pc := 134) C dX13_kind_134 qn_X13_209 (by exact fun a134 => (q_mo_rd fun v140 => (q_mo_gd (q_mo_ca (M_X12_init (q_kap E) (some a134) (2 : Int32) v140) fun _v143 => (q_mo_rd fun _ => q_mo_tr))))) B.2.1 h (fun a134 σ h => ?_)
      refine q_dup (pc := 137) C dX13_kind_137 rfl ?_
      refine q_iconst (pc := 138) (v := (2 : Int32)) C dX13_kind_138 (by decide) ?_
      refine q_aload_n (pc := 139) C 0 rfl dX13_kind_139 rfl ?_
      refine q_getI (pc := 140) C dX13_kind_140 ql_X13_206 h (fun v140 h => ?_)
      refine q_callI (pc := 143) (As := [q_I (2 : Int32), q_I v140]) (st := [q_R (some a134)]) C B.2.1 (fun _ => rfl) qm_X13_211 qI_X12_init dX13_kind_143 rfl rfl (Nat.le_of_ble_eq_true rfl) (q_flo B.2.2.1 B.2.2.2.1 (by decide) (by decide)) (K_X12_init (some a134) (2 : Int32) v140) (M_X12_init (q_kap E) (some a134) (2 : Int32) v140) (N_X12_init (q_kap E) (some a134) (2 : Int32) v140) (by exact fun _v143 => (q_mo_rd fun _ => q_mo_tr)) h (fun _v143 σ h => ?_)
      exact q_athrow (pc := 146) (ci := 15) C hT rfl dX13_kind_146 h
def F_X13_kind_109 (κ : Nat → Nat) (r83 : Option Nat → Int32 → Int32 → Int32 → Int32 → q_X Unit) : Nat → Option Nat → Int32 → Int32 → Int32 → Int32 → Int32 → Int32 → q_X Unit
  | 0, _, _, _, _, _, _, _ => q_no
  | n + 1, l0, l1, l3, l4, l5, l6, l7 => F_X13_kind_109B κ r83 (F_X13_kind_109 κ r83 n) l0 l1 l3 l4 l5 l6 l7
theorem M_X13_kind_109 (κ : Nat → Nat) (r83 : Option Nat → Int32 → Int32 → Int32 → Int32 → q_X Unit) (mr83 : ∀ (l0 : Option Nat) (l1 : Int32) (l3 : Int32) (l4 : Int32) (l5 : Int32), q_mo (r83 l0 l1 l3 l4 l5)) : ∀ (n : Nat) (l0 : Option Nat) (l1 : Int32) (l3 : Int32) (l4 : Int32) (l5 : Int32) (l6 : Int32) (l7 : Int32), q_mo (F_X13_kind_109 κ r83 n l0 l1 l3 l4 l5 l6 l7)
  | 0, _, _, _, _, _, _, _ => q_mo_no
  | n + 1, l0, l1, l3, l4, l5, l6, l7 => M_X13_kind_109B κ r83 mr83 (F_X13_kind_109 κ r83 n) (M_X13_kind_109 κ r83 mr83 n) l0 l1 l3 l4 l5 l6 l7
theorem S_X13_kind_109 {E : q_Ev} {Γ : q_Gm} {w : (Unit ⊕ q_Exn) × q_St} (B : q_Bd E Γ cX13_kind yX13_kind.cls 8 6 138 (none) yX13_kind.name w) (hT : q_nT Γ) (r83 : Option Nat → Int32 → Int32 → Int32 → Int32 → q_X Unit) (hr83 : ∀ (l0 : Option Nat) (l1 : Int32) (l3 : Int32) (l4 : Int32) (l5 : Int32) (σ : q_St), r83 l0 l1 l3 l4 l5 σ = some w → q_W E Γ (q_QF E Γ q_oV w) 8 σ 83 [(0, q_R l0), (1, q_I l1), (3, q_I l3), (4, q_I l4), (5, q_I l5)] []) (mr83 : ∀ (l0 : Option Nat) (l1 : Int32) (l3 : Int32) (l4 : Int32) (l5 : Int32), q_mo (r83 l0 l1 l3 l4 l5)) : ∀ (n : Nat) (l0 : Option Nat) (l1 : Int32) (l3 : Int32) (l4 : Int32) (l5 : Int32) (l6 : Int32) (l7 : Int32) (σ : q_St), F_X13_kind_109 (q_kap E) r83 n l0 l1 l3 l4 l5 l6 l7 σ = some w → q_W E Γ (q_QF E Γ q_oV w) 8 σ 109 [(0, q_R l0), (1, q_I l1), (3, q_I l3), (4, q_I l4), (5, q_I l5), (6, q_I l6), (7, q_I l7)] []
  | 0, _, _, _, _, _, _, _, _, h => by cases h
  | n + 1, l0, l1, l3, l4, l5, l6, l7, σ, h => S_X13_kind_109B B hT r83 hr83 mr83 (F_X13_kind_109 (q_kap E) r83 n) (S_X13_kind_109 B hT r83 hr83 mr83 n) (M_X13_kind_109 (q_kap E) r83 mr83 n) l0 l1 l3 l4 l5 l6 l7 σ h
def F_X13_kind_362 (κ : Nat → Nat) (l0 : Option Nat) (l1 : Int32) (l3 : Int32) (l4 : Int32) (l5 : Int32) : q_X Unit :=
  q_rd (q_gA l0 16 24) fun v363 => q_wr (q_sI 1 v363 l4 l3) (q_rd (q_gA l0 16 25) fun v371 => q_wr (q_sI 1 v371 l4 l1) (q_rd (q_gA l0 16 27) fun v379 => q_wr (q_sI 1 v379 l4 l5) (q_rd (q_gI l0 16 15) fun v389 => q_rd (q_is l0 16) fun _ => q_ca (F_X13_isSign κ l0 v389 (59 : Int32)) fun v394 => q_br (¬ v394 = 0) (q_rd (q_gI l0 16 22) fun v415 => q_wr (q_pF l0 16 22 (.int (v415 + (1 : Int32)))) (q_rt ())) (q_mk (.inr (.inl (15, [.null, .null, .null, .null, .null, .int 0, .int 0, .int 0]))) 8 fun a400 => q_rd (q_gI l0 16 15) fun v406 => q_gd (¬ (some a400) = none) (q_ca (F_X12_init κ (some a400) (1 : Int32) v406) fun _v409 => q_rd (q_is (some a400) 15) fun _ => q_tr RX12 (some a400))))))
theorem M_X13_kind_362 (κ : Nat → Nat) (l0 : Option Nat) (l1 : Int32) (l3 : Int32) (l4 : Int32) (l5 : Int32) : q_mo (F_X13_kind_362 κ l0 l1 l3 l4 l5) := (q_mo_rd fun v363 => (q_mo_wr (q_mo_rd fun v371 => (q_mo_wr (q_mo_rd fun v379 => (q_mo_wr (q_mo_rd fun v389 => (q_mo_rd fun _ => q_mo_ca (M_X13_isSign κ l0 v389 (59 : Int32)) fun v394 => (q_mo_br (q_mo_rd fun v415 => (q_mo_wr q_mo_rt)) (q_mo_mk fun a400 => (q_mo_rd fun v406 => (q_mo_gd (q_mo_ca (M_X12_init κ (some a400) (1 : Int32) v406) fun _v409 => (q_mo_rd fun _ => q_mo_tr))))))))))))))
set_option maxRecDepth 100000 in
set_option maxHeartbeats 4000000 in
theorem S_X13_kind_362 {E : q_Ev} {Γ : q_Gm} {w : (Unit ⊕ q_Exn) × q_St} (B : q_Bd E Γ cX13_kind yX13_kind.cls 8 6 138 (none) yX13_kind.name w) (hT : q_nT Γ) (l0 : Option Nat) (l1 : Int32) (l3 : Int32) (l4 : Int32) (l5 : Int32) (σ : q_St) (h : F_X13_kind_362 (q_kap E) l0 l1 l3 l4 l5 σ = some w) : q_W E Γ (q_QF E Γ q_oV w) 8 σ 362 [(0, q_R l0), (1, q_I l1), (3, q_I l3), (4, q_I l4), (5, q_I l5)] [] := by
  have C := B.1
  unfold F_X13_kind_362 at h
  refine q_aload_n (pc := 362) C 0 rfl dX13_kind_362 rfl ?_
  refine q_getA (pc := 363) C dX13_kind_363 ql_X13_50 h (fun v363 h => ?_)
  refine q_iload (pc := 366) C 3 rfl dX13_kind_366 ?_
  refine q_iload_n (pc := 368) C 2 rfl dX13_kind_368 rfl ?_
  refine q_stI (pc := 369) C dX13_kind_369 h (fun M369 h => ?_)
  refine q_aload_n (pc := 370) C 0 rfl dX13_kind_370 rfl ?_
  refine q_getA (pc := 371) C dX13_kind_371 ql_X13_53 h (fun v371 h => ?_)
  refine q_iload (pc := 374) C 3 rfl dX13_kind_374 ?_
  refine q_iload_n (pc := 376) C 1 rfl dX13_kind_376 rfl ?_
  refine q_stI (pc := 377) C dX13_kind_377 h (fun M377 h => ?_)
  refine q_aload_n (pc := 378) C 0 rfl dX13_kind_378 rfl ?_
  refine q_getA (pc := 379) C dX13_kind_379 ql_X13_59 h (fun v379 h => ?_)
  refine q_iload (pc := 382) C 3 rfl dX13_kind_382 ?_
  refine q_iload (pc := 384) C 4 rfl dX13_kind_384 ?_
  refine q_stI (pc := 386) C dX13_kind_386 h (fun M386 h => ?_)
  refine q_aload_n (pc := 387) C 0 rfl dX13_kind_387 rfl ?_
  refine q_aload_n (pc := 388) C 0 rfl dX13_kind_388 rfl ?_
  refine q_getI (pc := 389) C dX13_kind_389 ql_X13_206 h (fun v389 h => ?_)
  refine q_bipush (pc := 392) (v := (59 : Int32)) C dX13_kind_392 (by decide) ?_
  refine q_callV (pc := 394) (As := [q_I v389, q_I (59 : Int32)]) (st := []) (ps := q_psI) C B.2.1 hT q_hpI qm_X13_214 qv_X13_isSign dX13_kind_394 rfl rfl (Nat.le_of_ble_eq_true rfl) (q_flo B.2.2.1 B.2.2.2.1 (by decide) (by decide)) (K_X13_isSign l0 v389 (59 : Int32)) (M_X13_isSign (q_kap E) l0 v389 (59 : Int32)) (by exact fun v394 => (q_mo_br (q_mo_rd fun v415 => (q_mo_wr q_mo_rt)) (q_mo_mk fun a400 => (q_mo_rd fun v406 => (q_mo_gd (q_mo_ca (M_X12_init (q_kap E) (some a400) (1 : Int32) v406) fun _v409 => (q_mo_rd fun _ => q_mo_tr))))))) h (fun v394 σ h => ?_)
  refine q_W.st (st' := [q_I v394]) rfl ?_
  refine q_if_ne (pc := 397) (tgt := 413) C dX13_kind_397 (by decide) h (fun _ h => ?_) (fun _ h => ?_)
  · refine q_aload_n (pc := 413) C 0 rfl dX13_kind_413 rfl ?_
    refine q_dup (pc := 414) C dX13_kind_414 rfl ?_
    refine q_getI (pc := 415) C dX13_kind_415 ql_X13_220 h (fun v415 h => ?_)
    refine q_iconst (pc := 418) (v := (1 : Int32)) C dX13_kind_418 (by decide) ?_
    refine q_iadd (pc := 419) C dX13_kind_419 ?_
    refine q_putV (pc := 420) (v := q_I (v415 + (1 : Int32))) C dX13_kind_420 ql_X13_220 (Or.inl rfl) rfl rfl h (fun M420 h => ?_)
    exact q_vret C B.2.2.2.2.1 dX13_kind_423 h
  · refine q_new (pc := 400) C dX13_kind_400 qn_X13_209 (by exact fun a400 => (q_mo_rd fun v406 => (q_mo_gd (q_mo_ca (M_X12_init (q_kap E) (some a400) (1 : Int32) v406) fun _v409 => (q_mo_rd fun _ => q_mo_tr))))) B.2.1 h (fun a400 σ h => ?_)
    refine q_dup (pc := 403) C dX13_kind_403 rfl ?_
    refine q_iconst (pc := 404) (v := (1 : Int32)) C dX13_kind_404 (by decide) ?_
    refine q_aload_n (pc := 405) C 0 rfl dX13_kind_405 rfl ?_
    refine q_getI (pc := 406) C dX13_kind_406 ql_X13_206 h (fun v406 h => ?_)
    refine q_callI (pc := 409) (As := [q_I (1 : Int32), q_I v406]) (st := [q_R (some a400)]) C B.2.1 (fun _ => rfl) qm_X13_211 qI_X12_init dX13_kind_409 rfl rfl (Nat.le_of_ble_eq_true rfl) (q_flo B.2.2.1 B.2.2.2.1 (by decide) (by decide)) (K_X12_init (some a400) (1 : Int32) v406) (M_X12_init (q_kap E) (some a400) (1 : Int32) v406) (N_X12_init (q_kap E) (some a400) (1 : Int32) v406) (by exact fun _v409 => (q_mo_rd fun _ => q_mo_tr)) h (fun _v409 σ h => ?_)
    exact q_athrow (pc := 412) (ci := 15) C hT rfl dX13_kind_412 h
def F_X13_kind_83B (κ : Nat → Nat) (r83 : Option Nat → Int32 → Int32 → Int32 → Int32 → q_X Unit) (l0 : Option Nat) (l1 : Int32) (l3 : Int32) (l4 : Int32) (l5 : Int32) : q_X Unit :=
  q_rd (q_gA l0 16 9) fun v84 => q_rd (q_gI l0 16 15) fun v88 => q_rd (q_lI 1 v84 v88) fun v91 => q_br (¬ v91 = (1 : Int32)) (q_br ((2 : Int32) ≤ l5) (q_rd (q_gA l0 16 28) fun v224 => q_ca (F_X13_needed κ (l5 - (1 : Int32))) fun v233 => q_wr (q_sI 1 v224 l4 v233) (F_X13_kind_362 κ l0 l1 l3 l4 l5)) (q_mk (.inr (.inl (15, [.null, .null, .null, .null, .null, .int 0, .int 0, .int 0]))) 8 fun a210 => q_rd (q_gI l0 16 15) fun v216 => q_gd (¬ (some a210) = none) (q_ca (F_X12_init κ (some a210) (1 : Int32) v216) fun _v219 => q_rd (q_is (some a210) 15) fun _ => q_tr RX12 (some a210)))) (q_rd (q_gI l0 16 15) fun v98 => q_rd (q_is l0 16) fun _ => q_ca (F_X13_nameOf κ l0 v98) fun v101 => F_X13_kind_109 κ r83 q_fu l0 l1 l3 l4 l5 v101 (0 : Int32))
theorem M_X13_kind_83B (κ : Nat → Nat) (r83 : Option Nat → Int32 → Int32 → Int32 → Int32 → q_X Unit) (mr83 : ∀ (l0 : Option Nat) (l1 : Int32) (l3 : Int32) (l4 : Int32) (l5 : Int32), q_mo (r83 l0 l1 l3 l4 l5)) (l0 : Option Nat) (l1 : Int32) (l3 : Int32) (l4 : Int32) (l5 : Int32) : q_mo (F_X13_kind_83B κ r83 l0 l1 l3 l4 l5) := (q_mo_rd fun v84 => (q_mo_rd fun v88 => (q_mo_rd fun v91 => (q_mo_br (q_mo_br (q_mo_rd fun v224 => (q_mo_ca (M_X13_needed κ (l5 - (1 : Int32))) fun v233 => (q_mo_wr (M_X13_kind_362 κ l0 l1 l3 l4 l5)))) (q_mo_mk fun a210 => (q_mo_rd fun v216 => (q_mo_gd (q_mo_ca (M_X12_init κ (some a210) (1 : Int32) v216) fun _v219 => (q_mo_rd fun _ => q_mo_tr)))))) (q_mo_rd fun v98 => (q_mo_rd fun _ => q_mo_ca (M_X13_nameOf κ l0 v98) fun v101 => (M_X13_kind_109 κ r83 mr83 q_fu l0 l1 l3 l4 l5 v101 (0 : Int32))))))))
set_option maxRecDepth 100000 in
set_option maxHeartbeats 4000000 in
theorem S_X13_kind_83B {E : q_Ev} {Γ : q_Gm} {w : (Unit ⊕ q_Exn) × q_St} (B : q_Bd E Γ cX13_kind yX13_kind.cls 8 6 138 (none) yX13_kind.name w) (hT : q_nT Γ) (r83 : Option Nat → Int32 → Int32 → Int32 → Int32 → q_X Unit) (hr83 : ∀ (l0 : Option Nat) (l1 : Int32) (l3 : Int32) (l4 : Int32) (l5 : Int32) (σ : q_St), r83 l0 l1 l3 l4 l5 σ = some w → q_W E Γ (q_QF E Γ q_oV w) 8 σ 83 [(0, q_R l0), (1, q_I l1), (3, q_I l3), (4, q_I l4), (5, q_I l5)] []) (mr83 : ∀ (l0 : Option Nat) (l1 : Int32) (l3 : Int32) (l4 : Int32) (l5 : Int32), q_mo (r83 l0 l1 l3 l4 l5)) (l0 : Option Nat) (l1 : Int32) (l3 : Int32) (l4 : Int32) (l5 : Int32) (σ : q_St) (h : F_X13_kind_83B (q_kap E) r83 l0 l1 l3 l4 l5 σ = some w) : q_W E Γ (q_QF E Γ q_oV w) 8 σ 83 [(0, q_R l0), (1, q_I l1), (3, q_I l3), (4, q_I l4), (5, q_I l5)] [] := by
  have C := B.1
  unfold F_X13_kind_83B at h
  refine q_aload_n (pc := 83) C 0 rfl dX13_kind_83 rfl ?_
  refine q_getA (pc := 84) C dX13_kind_84 ql_X13_26 h (fun v84 h => ?_)
  refine q_aload_n (pc := 87) C 0 rfl dX13_kind_87 rfl ?_
  refine q_getI (pc := 88) C dX13_kind_88 ql_X13_206 h (fun v88 h => ?_)
  refine q_ldI (pc := 91) C dX13_kind_91 (Or.inr (Or.inl ⟨rfl, rfl⟩)) h (fun v91 h => ?_)
  refine q_iconst (pc := 92) (v := (1 : Int32)) C dX13_kind_92 (by decide) ?_
  refine q_icmp_ne (pc := 93) (tgt := 204) C dX13_kind_93 (by decide) h (fun _ h => ?_) (fun _ h => ?_)
  · refine q_iload (pc := 204) C 4 rfl dX13_kind_204 ?_
    refine q_iconst (pc := 206) (v := (2 : Int32)) C dX13_kind_206 (by decide) ?_
    refine q_icmp_ge (pc := 207) (tgt := 223) C dX13_kind_207 (by decide) h (fun _ h => ?_) (fun _ h => ?_)
    · refine q_aload_n (pc := 223) C 0 rfl dX13_kind_223 rfl ?_
      refine q_getA (pc := 224) C dX13_kind_224 ql_X13_62 h (fun v224 h => ?_)
      refine q_iload (pc := 227) C 3 rfl dX13_kind_227 ?_
      refine q_iload (pc := 229) C 4 rfl dX13_kind_229 ?_
      refine q_iconst (pc := 231) (v := (1 : Int32)) C dX13_kind_231 (by decide) ?_
      refine q_isub (pc := 232) C dX13_kind_232 ?_
      refine q_callS (pc := 233) (As := [q_I (l5 - (1 : Int32))]) (st := [q_I l4, q_R v224]) (ps := q_psI) C B.2.1 hT q_hpI qm_X13_269 qs_X13_needed dX13_kind_233 rfl rfl (Nat.le_of_ble_eq_true rfl) (q_flo B.2.2.1 B.2.2.2.1 (by decide) (by decide)) (K_X13_needed (l5 - (1 : Int32))) (M_X13_needed (q_kap E) (l5 - (1 : Int32))) (by exact fun v233 => (q_mo_wr (M_X13_kind_362 (q_kap E) l0 l1 l3 l4 l5))) h (fun v233 σ h => ?_)
      refine q_W.st (st' := [q_I v233, q_I l4, q_R v224]) rfl ?_
      refine q_stI (pc := 236) C dX13_kind_236 h (fun M236 h => ?_)
      refine q_goto (pc := 237) (tgt := 362) C dX13_kind_237 (by decide) ?_
      exact S_X13_kind_362 B hT l0 l1 l3 l4 l5 _ h
    · refine q_new (pc := 210) C dX13_kind_210 qn_X13_209 (by exact fun a210 => (q_mo_rd fun v216 => (q_mo_gd (q_mo_ca (M_X12_init (q_kap E) (some a210) (1 : Int32) v216) fun _v219 => (q_mo_rd fun _ => q_mo_tr))))) B.2.1 h (fun a210 σ h => ?_)
      refine q_dup (pc := 213) C dX13_kind_213 rfl ?_
      refine q_iconst (pc := 214) (v := (1 : Int32)) C dX13_kind_214 (by decide) ?_
      refine q_aload_n (pc := 215) C 0 rfl dX13_kind_215 rfl ?_
      refine q_getI (pc := 216) C dX13_kind_216 ql_X13_206 h (fun v216 h => ?_)
      refine q_callI (pc := 219) (As := [q_I (1 : Int32), q_I v216]) (st := [q_R (some a210)]) C B.2.1 (fun _ => rfl) qm_X13_211 qI_X12_init dX13_kind_219 rfl rfl (Nat.le_of_ble_eq_true rfl) (q_flo B.2.2.1 B.2.2.2.1 (by decide) (by decide)) (K_X12_init (some a210) (1 : Int32) v216) (M_X12_init (q_kap E) (some a210) (1 : Int32) v216) (N_X12_init (q_kap E) (some a210) (1 : Int32) v216) (by exact fun _v219 => (q_mo_rd fun _ => q_mo_tr)) h (fun _v219 σ h => ?_)
      exact q_athrow (pc := 222) (ci := 15) C hT rfl dX13_kind_222 h
  · refine q_aload_n (pc := 96) C 0 rfl dX13_kind_96 rfl ?_
    refine q_aload_n (pc := 97) C 0 rfl dX13_kind_97 rfl ?_
    refine q_getI (pc := 98) C dX13_kind_98 ql_X13_206 h (fun v98 h => ?_)
    refine q_callV (pc := 101) (As := [q_I v98]) (st := []) (ps := q_psI) C B.2.1 hT q_hpI qm_X13_266 qv_X13_nameOf dX13_kind_101 rfl rfl (Nat.le_of_ble_eq_true rfl) (q_flo B.2.2.1 B.2.2.2.1 (by decide) (by decide)) (K_X13_nameOf l0 v98) (M_X13_nameOf (q_kap E) l0 v98) (by exact fun v101 => (M_X13_kind_109 (q_kap E) r83 mr83 q_fu l0 l1 l3 l4 l5 v101 (0 : Int32))) h (fun v101 σ h => ?_)
    refine q_W.st (st' := [q_I v101]) rfl ?_
    refine q_istore (pc := 104) (l' := [(6, q_I v101), (0, q_R l0), (1, q_I l1), (3, q_I l3), (4, q_I l4), (5, q_I l5)]) C dX13_kind_104 (by decide) rfl ?_
    refine q_iconst (pc := 106) (v := (0 : Int32)) C dX13_kind_106 (by decide) ?_
    refine q_istore (pc := 107) (l' := [(7, q_I (0 : Int32)), (6, q_I v101), (0, q_R l0), (1, q_I l1), (3, q_I l3), (4, q_I l4), (5, q_I l5)]) C dX13_kind_107 (by decide) rfl ?_
    refine q_W.sub [2, 3, 4, 5, 6, 1, 0] rfl ?_
    exact S_X13_kind_109 B hT r83 hr83 mr83 q_fu l0 l1 l3 l4 l5 v101 (0 : Int32) _ h
def F_X13_kind_83 (κ : Nat → Nat) : Nat → Option Nat → Int32 → Int32 → Int32 → Int32 → q_X Unit
  | 0, _, _, _, _, _ => q_no
  | n + 1, l0, l1, l3, l4, l5 => F_X13_kind_83B κ (F_X13_kind_83 κ n) l0 l1 l3 l4 l5
theorem M_X13_kind_83 (κ : Nat → Nat) : ∀ (n : Nat) (l0 : Option Nat) (l1 : Int32) (l3 : Int32) (l4 : Int32) (l5 : Int32), q_mo (F_X13_kind_83 κ n l0 l1 l3 l4 l5)
  | 0, _, _, _, _, _ => q_mo_no
  | n + 1, l0, l1, l3, l4, l5 => M_X13_kind_83B κ (F_X13_kind_83 κ n) (M_X13_kind_83 κ n) l0 l1 l3 l4 l5
theorem S_X13_kind_83 {E : q_Ev} {Γ : q_Gm} {w : (Unit ⊕ q_Exn) × q_St} (B : q_Bd E Γ cX13_kind yX13_kind.cls 8 6 138 (none) yX13_kind.name w) (hT : q_nT Γ) : ∀ (n : Nat) (l0 : Option Nat) (l1 : Int32) (l3 : Int32) (l4 : Int32) (l5 : Int32) (σ : q_St), F_X13_kind_83 (q_kap E) n l0 l1 l3 l4 l5 σ = some w → q_W E Γ (q_QF E Γ q_oV w) 8 σ 83 [(0, q_R l0), (1, q_I l1), (3, q_I l3), (4, q_I l4), (5, q_I l5)] []
  | 0, _, _, _, _, _, _, h => by cases h
  | n + 1, l0, l1, l3, l4, l5, σ, h => S_X13_kind_83B B hT (F_X13_kind_83 (q_kap E) n) (S_X13_kind_83 B hT n) (M_X13_kind_83 (q_kap E) n) l0 l1 l3 l4 l5 σ h
def F_X13_kind_253B (κ : Nat → Nat) (r253 : Option Nat → Int32 → Int32 → Int32 → Int32 → Int32 → q_X Unit) (l0 : Option Nat) (l1 : Int32) (l3 : Int32) (l4 : Int32) (l6 : Int32) (l7 : Int32) : q_X Unit :=
  q_rd (q_gA l0 16 11) fun v256 => q_rd (q_lI 1 v256 l6) fun v261 => q_br (v261 ≤ l7) (q_rd (q_gA l0 16 26) fun v304 => q_rd (q_is l0 16) fun _ => q_ca (F_X13_nameOf κ l0 l6) fun v312 => q_wr (q_sI 1 v304 l4 v312) (q_rd (q_is l0 16) fun _ => q_ca (F_X13_expectNumber κ l0 (1 : Int64) (64 : Int64)) fun v321 => q_rd (q_gA l0 16 28) fun v327 => q_ca (F_X13_needed κ (v321 - (1 : Int32))) fun v336 => q_wr (q_sI 1 v327 l4 v336) (F_X13_kind_362 κ l0 l1 l3 l4 v321))) (q_rd (q_gA l0 16 1) fun v266 => q_rd (q_gA l0 16 10) fun v270 => q_rd (q_lI 1 v270 l6) fun v275 => q_rd (q_lI 0 v266 (v275 + l7)) fun v279 => q_ca (F_X13_isLetter κ v279) fun v280 => q_br (¬ v280 = 0) (r253 l0 l1 l3 l4 l6 (l7 + (1 : Int32))) (q_mk (.inr (.inl (15, [.null, .null, .null, .null, .null, .int 0, .int 0, .int 0]))) 8 fun a286 => q_gd (¬ (some a286) = none) (q_ca (F_X12_init κ (some a286) (1 : Int32) l6) fun _v293 => q_rd (q_is (some a286) 15) fun _ => q_tr RX12 (some a286))))
theorem M_X13_kind_253B (κ : Nat → Nat) (r253 : Option Nat → Int32 → Int32 → Int32 → Int32 → Int32 → q_X Unit) (mr253 : ∀ (l0 : Option Nat) (l1 : Int32) (l3 : Int32) (l4 : Int32) (l6 : Int32) (l7 : Int32), q_mo (r253 l0 l1 l3 l4 l6 l7)) (l0 : Option Nat) (l1 : Int32) (l3 : Int32) (l4 : Int32) (l6 : Int32) (l7 : Int32) : q_mo (F_X13_kind_253B κ r253 l0 l1 l3 l4 l6 l7) := (q_mo_rd fun v256 => (q_mo_rd fun v261 => (q_mo_br (q_mo_rd fun v304 => (q_mo_rd fun _ => q_mo_ca (M_X13_nameOf κ l0 l6) fun v312 => (q_mo_wr (q_mo_rd fun _ => q_mo_ca (M_X13_expectNumber κ l0 (1 : Int64) (64 : Int64)) fun v321 => (q_mo_rd fun v327 => (q_mo_ca (M_X13_needed κ (v321 - (1 : Int32))) fun v336 => (q_mo_wr (M_X13_kind_362 κ l0 l1 l3 l4 v321)))))))) (q_mo_rd fun v266 => (q_mo_rd fun v270 => (q_mo_rd fun v275 => (q_mo_rd fun v279 => (q_mo_ca (M_X13_isLetter κ v279) fun v280 => (q_mo_br (mr253 l0 l1 l3 l4 l6 (l7 + (1 : Int32))) (q_mo_mk fun a286 => (q_mo_gd (q_mo_ca (M_X12_init κ (some a286) (1 : Int32) l6) fun _v293 => (q_mo_rd fun _ => q_mo_tr)))))))))))))
set_option maxRecDepth 100000 in
set_option maxHeartbeats 4000000 in
theorem S_X13_kind_253B {E : q_Ev} {Γ : q_Gm} {w : (Unit ⊕ q_Exn) × q_St} (B : q_Bd E Γ cX13_kind yX13_kind.cls 8 6 138 (none) yX13_kind.name w) (hT : q_nT Γ) (r253 : Option Nat → Int32 → Int32 → Int32 → Int32 → Int32 → q_X Unit) (hr253 : ∀ (l0 : Option Nat) (l1 : Int32) (l3 : Int32) (l4 : Int32) (l6 : Int32) (l7 : Int32) (σ : q_St), r253 l0 l1 l3 l4 l6 l7 σ = some w → q_W E Γ (q_QF E Γ q_oV w) 8 σ 253 [(0, q_R l0), (1, q_I l1), (3, q_I l3), (4, q_I l4), (6, q_I l6), (7, q_I l7)] []) (mr253 : ∀ (l0 : Option Nat) (l1 : Int32) (l3 : Int32) (l4 : Int32) (l6 : Int32) (l7 : Int32), q_mo (r253 l0 l1 l3 l4 l6 l7)) (l0 : Option Nat) (l1 : Int32) (l3 : Int32) (l4 : Int32) (l6 : Int32) (l7 : Int32) (σ : q_St) (h : F_X13_kind_253B (q_kap E) r253 l0 l1 l3 l4 l6 l7 σ = some w) : q_W E Γ (q_QF E Γ q_oV w) 8 σ 253 [(0, q_R l0), (1, q_I l1), (3, q_I l3), (4, q_I l4), (6, q_I l6), (7, q_I l7)] [] := by
  have C := B.1
  unfold F_X13_kind_253B at h
  refine q_iload (pc := 253) C 5 rfl dX13_kind_253 ?_
  refine q_aload_n (pc := 255) C 0 rfl dX13_kind_255 rfl ?_
  refine q_getA (pc := 256) C dX13_kind_256 ql_X13_33 h (fun v256 h => ?_)
  refine q_iload (pc := 259) C 4 rfl dX13_kind_259 ?_
  refine q_ldI (pc := 261) C dX13_kind_261 (Or.inr (Or.inl ⟨rfl, rfl⟩)) h (fun v261 h => ?_)
  refine q_icmp_ge (pc := 262) (tgt := 303) C dX13_kind_262 (by decide) h (fun _ h => ?_) (fun _ h => ?_)
  · refine q_aload_n (pc := 303) C 0 rfl dX13_kind_303 rfl ?_
    refine q_getA (pc := 304) C dX13_kind_304 ql_X13_56 h (fun v304 h => ?_)
    refine q_iload (pc := 307) C 3 rfl dX13_kind_307 ?_
    refine q_aload_n (pc := 309) C 0 rfl dX13_kind_309 rfl ?_
    refine q_iload (pc := 310) C 4 rfl dX13_kind_310 ?_
    refine q_callV (pc := 312) (As := [q_I l6]) (st := [q_I l4, q_R v304]) (ps := q_psI) C B.2.1 hT q_hpI qm_X13_266 qv_X13_nameOf dX13_kind_312 rfl rfl (Nat.le_of_ble_eq_true rfl) (q_flo B.2.2.1 B.2.2.2.1 (by decide) (by decide)) (K_X13_nameOf l0 l6) (M_X13_nameOf (q_kap E) l0 l6) (by exact fun v312 => (q_mo_wr (q_mo_rd fun _ => q_mo_ca (M_X13_expectNumber (q_kap E) l0 (1 : Int64) (64 : Int64)) fun v321 => (q_mo_rd fun v327 => (q_mo_ca (M_X13_needed (q_kap E) (v321 - (1 : Int32))) fun v336 => (q_mo_wr (M_X13_kind_362 (q_kap E) l0 l1 l3 l4 v321))))))) h (fun v312 σ h => ?_)
    refine q_W.st (st' := [q_I v312, q_I l4, q_R v304]) rfl ?_
    refine q_stI (pc := 315) C dX13_kind_315 h (fun M315 h => ?_)
    refine q_aload_n (pc := 316) C 0 rfl dX13_kind_316 rfl ?_
    refine q_lconst (pc := 317) (v := (1 : Int64)) C dX13_kind_317 (by decide) ?_
    refine q_ldc2 (pc := 318) (v := (64 : Int64)) C dX13_kind_318 qc_X13_272 ?_
    refine q_callV (pc := 321) (As := [q_L (1 : Int64), q_L (64 : Int64)]) (st := []) (ps := q_psI) C B.2.1 hT q_hpI qm_X13_274 qv_X13_expectNumber dX13_kind_321 rfl rfl (Nat.le_of_ble_eq_true rfl) (q_flo B.2.2.1 B.2.2.2.1 (by decide) (by decide)) (K_X13_expectNumber l0 (1 : Int64) (64 : Int64)) (M_X13_expectNumber (q_kap E) l0 (1 : Int64) (64 : Int64)) (by exact fun v321 => (q_mo_rd fun v327 => (q_mo_ca (M_X13_needed (q_kap E) (v321 - (1 : Int32))) fun v336 => (q_mo_wr (M_X13_kind_362 (q_kap E) l0 l1 l3 l4 v321))))) h (fun v321 σ h => ?_)
    refine q_W.st (st' := [q_I v321]) rfl ?_
    refine q_istore (pc := 324) (l' := [(5, q_I v321), (0, q_R l0), (1, q_I l1), (3, q_I l3), (4, q_I l4), (6, q_I l6), (7, q_I l7)]) C dX13_kind_324 (by decide) rfl ?_
    refine q_aload_n (pc := 326) C 1 rfl dX13_kind_326 rfl ?_
    refine q_getA (pc := 327) C dX13_kind_327 ql_X13_62 h (fun v327 h => ?_)
    refine q_iload (pc := 330) C 4 rfl dX13_kind_330 ?_
    refine q_iload (pc := 332) C 0 rfl dX13_kind_332 ?_
    refine q_iconst (pc := 334) (v := (1 : Int32)) C dX13_kind_334 (by decide) ?_
    refine q_isub (pc := 335) C dX13_kind_335 ?_
    refine q_callS (pc := 336) (As := [q_I (v321 - (1 : Int32))]) (st := [q_I l4, q_R v327]) (ps := q_psI) C B.2.1 hT q_hpI qm_X13_269 qs_X13_needed dX13_kind_336 rfl rfl (Nat.le_of_ble_eq_true rfl) (q_flo B.2.2.1 B.2.2.2.1 (by decide) (by decide)) (K_X13_needed (v321 - (1 : Int32))) (M_X13_needed (q_kap E) (v321 - (1 : Int32))) (by exact fun v336 => (q_mo_wr (M_X13_kind_362 (q_kap E) l0 l1 l3 l4 v321))) h (fun v336 σ h => ?_)
    refine q_W.st (st' := [q_I v336, q_I l4, q_R v327]) rfl ?_
    refine q_stI (pc := 339) C dX13_kind_339 h (fun M339 h => ?_)
    refine q_goto (pc := 340) (tgt := 362) C dX13_kind_340 (by decide) ?_
    refine q_W.sub [1, 2, 3, 4, 0] rfl ?_
    exact S_X13_kind_362 B hT l0 l1 l3 l4 v321 _ h
  · refine q_aload_n (pc := 265) C 0 rfl dX13_kind_265 rfl ?_
    refine q_getA (pc := 266) C dX13_kind_266 ql_X13_13 h (fun v266 h => ?_)
    refine q_aload_n (pc := 269) C 0 rfl dX13_kind_269 rfl ?_
    refine q_getA (pc := 270) C dX13_kind_270 ql_X13_30 h (fun v270 h => ?_)
    refine q_iload (pc := 273) C 4 rfl dX13_kind_273 ?_
    refine q_ldI (pc := 275) C dX13_kind_275 (Or.inr (Or.inl ⟨rfl, rfl⟩)) h (fun v275 h => ?_)
    refine q_iload (pc := 276) C 5 rfl dX13_kind_276 ?_
    refine q_iadd (pc := 278) C dX13_kind_278 ?_
    refine q_ldI (pc := 279) C dX13_kind_279 (Or.inl ⟨rfl, rfl⟩) h (fun v279 h => ?_)
    refine q_callS (pc := 280) (As := [q_I v279]) (st := []) (ps := q_psI) C B.2.1 hT q_hpI qm_X13_145 qs_X13_isLetter dX13_kind_280 rfl rfl (Nat.le_of_ble_eq_true rfl) (q_flo B.2.2.1 B.2.2.2.1 (by decide) (by decide)) (K_X13_isLetter v279) (M_X13_isLetter (q_kap E) v279) (by exact fun v280 => (q_mo_br (mr253 l0 l1 l3 l4 l6 (l7 + (1 : Int32))) (q_mo_mk fun a286 => (q_mo_gd (q_mo_ca (M_X12_init (q_kap E) (some a286) (1 : Int32) l6) fun _v293 => (q_mo_rd fun _ => q_mo_tr)))))) h (fun v280 σ h => ?_)
    refine q_W.st (st' := [q_I v280]) rfl ?_
    refine q_if_ne (pc := 283) (tgt := 297) C dX13_kind_283 (by decide) h (fun _ h => ?_) (fun _ h => ?_)
    · refine q_iinc (pc := 297) (v := (1 : Int32)) (l' := [(7, q_I (l7 + (1 : Int32))), (0, q_R l0), (1, q_I l1), (3, q_I l3), (4, q_I l4), (6, q_I l6)]) C 5 rfl dX13_kind_297 (by decide) (by decide) rfl ?_
      refine q_goto (pc := 300) (tgt := 253) C dX13_kind_300 (by decide) ?_
      refine q_W.sub [1, 2, 3, 4, 5, 0] rfl ?_
      exact hr253 l0 l1 l3 l4 l6 (l7 + (1 : Int32)) _ h
    · refine q_new (pc := 286) C dX13_kind_286 qn_X13_209 (by exact fun a286 => (q_mo_gd (q_mo_ca (M_X12_init (q_kap E) (some a286) (1 : Int32) l6) fun _v293 => (q_mo_rd fun _ => q_mo_tr)))) B.2.1 h (fun a286 σ h => ?_)
      refine q_dup (pc := 289) C dX13_kind_289 rfl ?_
      refine q_iconst (pc := 290) (v := (1 : Int32)) C dX13_kind_290 (by decide) ?_
      refine q_iload (pc := 291) C 4 rfl dX13_kind_291 ?_
      refine q_callI (pc := 293) (As := [q_I (1 : Int32), q_I l6]) (st := [q_R (some a286)]) C B.2.1 (fun _ => rfl) qm_X13_211 qI_X12_init dX13_kind_293 rfl rfl (Nat.le_of_ble_eq_true rfl) (q_flo B.2.2.1 B.2.2.2.1 (by decide) (by decide)) (K_X12_init (some a286) (1 : Int32) l6) (M_X12_init (q_kap E) (some a286) (1 : Int32) l6) (N_X12_init (q_kap E) (some a286) (1 : Int32) l6) (by exact fun _v293 => (q_mo_rd fun _ => q_mo_tr)) h (fun _v293 σ h => ?_)
      exact q_athrow (pc := 296) (ci := 15) C hT rfl dX13_kind_296 h
def F_X13_kind_253 (κ : Nat → Nat) : Nat → Option Nat → Int32 → Int32 → Int32 → Int32 → Int32 → q_X Unit
  | 0, _, _, _, _, _, _ => q_no
  | n + 1, l0, l1, l3, l4, l6, l7 => F_X13_kind_253B κ (F_X13_kind_253 κ n) l0 l1 l3 l4 l6 l7
theorem M_X13_kind_253 (κ : Nat → Nat) : ∀ (n : Nat) (l0 : Option Nat) (l1 : Int32) (l3 : Int32) (l4 : Int32) (l6 : Int32) (l7 : Int32), q_mo (F_X13_kind_253 κ n l0 l1 l3 l4 l6 l7)
  | 0, _, _, _, _, _, _ => q_mo_no
  | n + 1, l0, l1, l3, l4, l6, l7 => M_X13_kind_253B κ (F_X13_kind_253 κ n) (M_X13_kind_253 κ n) l0 l1 l3 l4 l6 l7
theorem S_X13_kind_253 {E : q_Ev} {Γ : q_Gm} {w : (Unit ⊕ q_Exn) × q_St} (B : q_Bd E Γ cX13_kind yX13_kind.cls 8 6 138 (none) yX13_kind.name w) (hT : q_nT Γ) : ∀ (n : Nat) (l0 : Option Nat) (l1 : Int32) (l3 : Int32) (l4 : Int32) (l6 : Int32) (l7 : Int32) (σ : q_St), F_X13_kind_253 (q_kap E) n l0 l1 l3 l4 l6 l7 σ = some w → q_W E Γ (q_QF E Γ q_oV w) 8 σ 253 [(0, q_R l0), (1, q_I l1), (3, q_I l3), (4, q_I l4), (6, q_I l6), (7, q_I l7)] []
  | 0, _, _, _, _, _, _, _, h => by cases h
  | n + 1, l0, l1, l3, l4, l6, l7, σ, h => S_X13_kind_253B B hT (F_X13_kind_253 (q_kap E) n) (S_X13_kind_253 B hT n) (M_X13_kind_253 (q_kap E) n) l0 l1 l3 l4 l6 l7 σ h
def F_X13_kind_14B (κ : Nat → Nat) (r14 : Option Nat → Int32 → Int32 → Int32 → Int32 → q_X Unit) (l0 : Option Nat) (l1 : Int32) (l2 : Int32) (l3 : Int32) (l4 : Int32) : q_X Unit :=
  q_rd (q_gI l0 16 22) fun v17 => q_br (v17 ≤ l4) (q_rd (q_gI l0 16 22) fun v51 => q_br (¬ v51 = (40 : Int32)) (q_rd (q_gI l0 16 22) fun v70 => q_br (¬ l1 = (4 : Int32)) (q_br (¬ l1 = 0) (q_rd (q_is l0 16) fun _ => q_ca (F_X13_expectNumber κ l0 (1 : Int64) (32 : Int64)) fun v348 => q_rd (q_gA l0 16 28) fun v354 => q_wr (q_sI 1 v354 v70 v348) (F_X13_kind_362 κ l0 l1 l3 v70 v348)) (q_rd (q_is l0 16) fun _ => q_ca (F_X13_expectName κ l0) fun v245 => F_X13_kind_253 κ q_fu l0 l1 l3 v70 v245 (0 : Int32))) (F_X13_kind_83 κ q_fu l0 l1 l3 v70 (0 : Int32))) (q_mk (.inr (.inl (15, [.null, .null, .null, .null, .null, .int 0, .int 0, .int 0]))) 8 fun a59 => q_gd (¬ (some a59) = none) (q_ca (F_X12_init κ (some a59) (3 : Int32) l2) fun _v65 => q_rd (q_is (some a59) 15) fun _ => q_tr RX12 (some a59)))) (q_rd (q_gA l0 16 24) fun v24 => q_rd (q_lI 1 v24 l4) fun v29 => q_br (¬ v29 = l3) (r14 l0 l1 l2 l3 (l4 + (1 : Int32))) (q_mk (.inr (.inl (15, [.null, .null, .null, .null, .null, .int 0, .int 0, .int 0]))) 8 fun a34 => q_gd (¬ (some a34) = none) (q_ca (F_X12_init κ (some a34) (2 : Int32) l2) fun _v40 => q_rd (q_is (some a34) 15) fun _ => q_tr RX12 (some a34))))
theorem M_X13_kind_14B (κ : Nat → Nat) (r14 : Option Nat → Int32 → Int32 → Int32 → Int32 → q_X Unit) (mr14 : ∀ (l0 : Option Nat) (l1 : Int32) (l2 : Int32) (l3 : Int32) (l4 : Int32), q_mo (r14 l0 l1 l2 l3 l4)) (l0 : Option Nat) (l1 : Int32) (l2 : Int32) (l3 : Int32) (l4 : Int32) : q_mo (F_X13_kind_14B κ r14 l0 l1 l2 l3 l4) := (q_mo_rd fun v17 => (q_mo_br (q_mo_rd fun v51 => (q_mo_br (q_mo_rd fun v70 => (q_mo_br (q_mo_br (q_mo_rd fun _ => q_mo_ca (M_X13_expectNumber κ l0 (1 : Int64) (32 : Int64)) fun v348 => (q_mo_rd fun v354 => (q_mo_wr (M_X13_kind_362 κ l0 l1 l3 v70 v348)))) (q_mo_rd fun _ => q_mo_ca (M_X13_expectName κ l0) fun v245 => (M_X13_kind_253 κ q_fu l0 l1 l3 v70 v245 (0 : Int32)))) (M_X13_kind_83 κ q_fu l0 l1 l3 v70 (0 : Int32)))) (q_mo_mk fun a59 => (q_mo_gd (q_mo_ca (M_X12_init κ (some a59) (3 : Int32) l2) fun _v65 => (q_mo_rd fun _ => q_mo_tr)))))) (q_mo_rd fun v24 => (q_mo_rd fun v29 => (q_mo_br (mr14 l0 l1 l2 l3 (l4 + (1 : Int32))) (q_mo_mk fun a34 => (q_mo_gd (q_mo_ca (M_X12_init κ (some a34) (2 : Int32) l2) fun _v40 => (q_mo_rd fun _ => q_mo_tr)))))))))
set_option maxRecDepth 100000 in
set_option maxHeartbeats 4000000 in
theorem S_X13_kind_14B {E : q_Ev} {Γ : q_Gm} {w : (Unit ⊕ q_Exn) × q_St} (B : q_Bd E Γ cX13_kind yX13_kind.cls 8 6 138 (none) yX13_kind.name w) (hT : q_nT Γ) (r14 : Option Nat → Int32 → Int32 → Int32 → Int32 → q_X Unit) (hr14 : ∀ (l0 : Option Nat) (l1 : Int32) (l2 : Int32) (l3 : Int32) (l4 : Int32) (σ : q_St), r14 l0 l1 l2 l3 l4 σ = some w → q_W E Γ (q_QF E Γ q_oV w) 8 σ 14 [(0, q_R l0), (1, q_I l1), (2, q_I l2), (3, q_I l3), (4, q_I l4)] []) (mr14 : ∀ (l0 : Option Nat) (l1 : Int32) (l2 : Int32) (l3 : Int32) (l4 : Int32), q_mo (r14 l0 l1 l2 l3 l4)) (l0 : Option Nat) (l1 : Int32) (l2 : Int32) (l3 : Int32) (l4 : Int32) (σ : q_St) (h : F_X13_kind_14B (q_kap E) r14 l0 l1 l2 l3 l4 σ = some w) : q_W E Γ (q_QF E Γ q_oV w) 8 σ 14 [(0, q_R l0), (1, q_I l1), (2, q_I l2), (3, q_I l3), (4, q_I l4)] [] := by
  have C := B.1
  unfold F_X13_kind_14B at h
  refine q_iload (pc := 14) C 4 rfl dX13_kind_14 ?_
  refine q_aload_n (pc := 16) C 0 rfl dX13_kind_16 rfl ?_
  refine q_getI (pc := 17) C dX13_kind_17 ql_X13_220 h (fun v17 h => ?_)
  refine q_icmp_ge (pc := 20) (tgt := 50) C dX13_kind_20 (by decide) h (fun _ h => ?_) (fun _ h => ?_)
  · refine q_aload_n (pc := 50) C 0 rfl dX13_kind_50 rfl ?_
    refine q_getI (pc := 51) C dX13_kind_51 ql_X13_220 h (fun v51 h => ?_)
    refine q_bipush (pc := 54) (v := (40 : Int32)) C dX13_kind_54 (by decide) ?_
    refine q_icmp_ne (pc := 56) (tgt := 69) C dX13_kind_56 (by decide) h (fun _ h => ?_) (fun _ h => ?_)
    · refine q_aload_n (pc := 69) C 0 rfl dX13_kind_69 rfl ?_
      refine q_getI (pc := 70) C dX13_kind_70 ql_X13_220 h (fun v70 h => ?_)
      refine q_istore (pc := 73) (l' := [(4, q_I v70), (0, q_R l0), (1, q_I l1), (2, q_I l2), (3, q_I l3)]) C dX13_kind_73 (by decide) rfl ?_
      refine q_iconst (pc := 75) (v := (0 : Int32)) C dX13_kind_75 (by decide) ?_
      refine q_istore (pc := 76) (l' := [(5, q_I (0 : Int32)), (4, q_I v70), (0, q_R l0), (1, q_I l1), (2, q_I l2), (3, q_I l3)]) C dX13_kind_76 (by decide) rfl ?_
      refine q_iload_n (pc := 78) C 3 rfl dX13_kind_78 rfl ?_
      refine q_iconst (pc := 79) (v := (4 : Int32)) C dX13_kind_79 (by decide) ?_
      refine q_icmp_ne (pc := 80) (tgt := 240) C dX13_kind_80 (by decide) h (fun _ h => ?_) (fun _ h => ?_)
      · refine q_iload_n (pc := 240) C 3 rfl dX13_kind_240 rfl ?_
        refine q_if_ne (pc := 241) (tgt := 343) C dX13_kind_241 (by decide) h (fun _ h => ?_) (fun _ h => ?_)
        · refine q_aload_n (pc := 343) C 2 rfl dX13_kind_343 rfl ?_
          refine q_lconst (pc := 344) (v := (1 : Int64)) C dX13_kind_344 (by decide) ?_
          refine q_ldc2 (pc := 345) (v := (32 : Int64)) C dX13_kind_345 qc_X13_239 ?_
          refine q_callV (pc := 348) (As := [q_L (1 : Int64), q_L (32 : Int64)]) (st := []) (ps := q_psI) C B.2.1 hT q_hpI qm_X13_274 qv_X13_expectNumber dX13_kind_348 rfl rfl (Nat.le_of_ble_eq_true rfl) (q_flo B.2.2.1 B.2.2.2.1 (by decide) (by decide)) (K_X13_expectNumber l0 (1 : Int64) (32 : Int64)) (M_X13_expectNumber (q_kap E) l0 (1 : Int64) (32 : Int64)) (by exact fun v348 => (q_mo_rd fun v354 => (q_mo_wr (M_X13_kind_362 (q_kap E) l0 l1 l3 v70 v348)))) h (fun v348 σ h => ?_)
          refine q_W.st (st' := [q_I v348]) rfl ?_
          refine q_istore (pc := 351) (l' := [(5, q_I v348), (4, q_I v70), (0, q_R l0), (1, q_I l1), (2, q_I l2), (3, q_I l3)]) C dX13_kind_351 (by decide) rfl ?_
          refine q_aload_n (pc := 353) C 2 rfl dX13_kind_353 rfl ?_
          refine q_getA (pc := 354) C dX13_kind_354 ql_X13_62 h (fun v354 h => ?_)
          refine q_iload (pc := 357) C 1 rfl dX13_kind_357 ?_
          refine q_iload (pc := 359) C 0 rfl dX13_kind_359 ?_
          refine q_stI (pc := 361) C dX13_kind_361 h (fun M361 h => ?_)
          refine q_W.sub [2, 3, 5, 1, 0] rfl ?_
          exact S_X13_kind_362 B hT l0 l1 l3 v70 v348 _ h
        · refine q_aload_n (pc := 244) C 2 rfl dX13_kind_244 rfl ?_
          refine q_callV (pc := 245) (As := []) (st := []) (ps := q_psI) C B.2.1 hT q_hpI qm_X13_263 qv_X13_expectName dX13_kind_245 rfl rfl (Nat.le_of_ble_eq_true rfl) (q_flo B.2.2.1 B.2.2.2.1 (by decide) (by decide)) (K_X13_expectName l0) (M_X13_expectName (q_kap E) l0) (by exact fun v245 => (M_X13_kind_253 (q_kap E) q_fu l0 l1 l3 v70 v245 (0 : Int32))) h (fun v245 σ h => ?_)
          refine q_W.st (st' := [q_I v245]) rfl ?_
          refine q_istore (pc := 248) (l' := [(6, q_I v245), (5, q_I (0 : Int32)), (4, q_I v70), (0, q_R l0), (1, q_I l1), (2, q_I l2), (3, q_I l3)]) C dX13_kind_248 (by decide) rfl ?_
          refine q_iconst (pc := 250) (v := (0 : Int32)) C dX13_kind_250 (by decide) ?_
          refine q_istore (pc := 251) (l' := [(7, q_I (0 : Int32)), (6, q_I v245), (5, q_I (0 : Int32)), (4, q_I v70), (0, q_R l0), (1, q_I l1), (2, q_I l2), (3, q_I l3)]) C dX13_kind_251 (by decide) rfl ?_
          refine q_W.sub [4, 5, 7, 3, 1, 0] rfl ?_
          exact S_X13_kind_253 B hT q_fu l0 l1 l3 v70 v245 (0 : Int32) _ h
      · refine q_W.sub [2, 3, 5, 1, 0] rfl ?_
        exact S_X13_kind_83 B hT q_fu l0 l1 l3 v70 (0 : Int32) _ h
    · refine q_new (pc := 59) C dX13_kind_59 qn_X13_209 (by exact fun a59 => (q_mo_gd (q_mo_ca (M_X12_init (q_kap E) (some a59) (3 : Int32) l2) fun _v65 => (q_mo_rd fun _ => q_mo_tr)))) B.2.1 h (fun a59 σ h => ?_)
      refine q_dup (pc := 62) C dX13_kind_62 rfl ?_
      refine q_iconst (pc := 63) (v := (3 : Int32)) C dX13_kind_63 (by decide) ?_
      refine q_iload_n (pc := 64) C 2 rfl dX13_kind_64 rfl ?_
      refine q_callI (pc := 65) (As := [q_I (3 : Int32), q_I l2]) (st := [q_R (some a59)]) C B.2.1 (fun _ => rfl) qm_X13_211 qI_X12_init dX13_kind_65 rfl rfl (Nat.le_of_ble_eq_true rfl) (q_flo B.2.2.1 B.2.2.2.1 (by decide) (by decide)) (K_X12_init (some a59) (3 : Int32) l2) (M_X12_init (q_kap E) (some a59) (3 : Int32) l2) (N_X12_init (q_kap E) (some a59) (3 : Int32) l2) (by exact fun _v65 => (q_mo_rd fun _ => q_mo_tr)) h (fun _v65 σ h => ?_)
      exact q_athrow (pc := 68) (ci := 15) C hT rfl dX13_kind_68 h
  · refine q_aload_n (pc := 23) C 0 rfl dX13_kind_23 rfl ?_
    refine q_getA (pc := 24) C dX13_kind_24 ql_X13_50 h (fun v24 h => ?_)
    refine q_iload (pc := 27) C 4 rfl dX13_kind_27 ?_
    refine q_ldI (pc := 29) C dX13_kind_29 (Or.inr (Or.inl ⟨rfl, rfl⟩)) h (fun v29 h => ?_)
    refine q_iload_n (pc := 30) C 3 rfl dX13_kind_30 rfl ?_
    refine q_icmp_ne (pc := 31) (tgt := 44) C dX13_kind_31 (by decide) h (fun _ h => ?_) (fun _ h => ?_)
    · refine q_iinc (pc := 44) (v := (1 : Int32)) (l' := [(4, q_I (l4 + (1 : Int32))), (0, q_R l0), (1, q_I l1), (2, q_I l2), (3, q_I l3)]) C 4 rfl dX13_kind_44 (by decide) (by decide) rfl ?_
      refine q_goto (pc := 47) (tgt := 14) C dX13_kind_47 (by decide) ?_
      refine q_W.sub [1, 2, 3, 4, 0] rfl ?_
      exact hr14 l0 l1 l2 l3 (l4 + (1 : Int32)) _ h
    · refine q_new (pc := 34) C dX13_kind_34 qn_X13_209 (by exact fun a34 => (q_mo_gd (q_mo_ca (M_X12_init (q_kap E) (some a34) (2 : Int32) l2) fun _v40 => (q_mo_rd fun _ => q_mo_tr)))) B.2.1 h (fun a34 σ h => ?_)
      refine q_dup (pc := 37) C dX13_kind_37 rfl ?_
      refine q_iconst (pc := 38) (v := (2 : Int32)) C dX13_kind_38 (by decide) ?_
      refine q_iload_n (pc := 39) C 2 rfl dX13_kind_39 rfl ?_
      refine q_callI (pc := 40) (As := [q_I (2 : Int32), q_I l2]) (st := [q_R (some a34)]) C B.2.1 (fun _ => rfl) qm_X13_211 qI_X12_init dX13_kind_40 rfl rfl (Nat.le_of_ble_eq_true rfl) (q_flo B.2.2.1 B.2.2.2.1 (by decide) (by decide)) (K_X12_init (some a34) (2 : Int32) l2) (M_X12_init (q_kap E) (some a34) (2 : Int32) l2) (N_X12_init (q_kap E) (some a34) (2 : Int32) l2) (by exact fun _v40 => (q_mo_rd fun _ => q_mo_tr)) h (fun _v40 σ h => ?_)
      exact q_athrow (pc := 43) (ci := 15) C hT rfl dX13_kind_43 h
def F_X13_kind_14 (κ : Nat → Nat) : Nat → Option Nat → Int32 → Int32 → Int32 → Int32 → q_X Unit
  | 0, _, _, _, _, _ => q_no
  | n + 1, l0, l1, l2, l3, l4 => F_X13_kind_14B κ (F_X13_kind_14 κ n) l0 l1 l2 l3 l4
theorem M_X13_kind_14 (κ : Nat → Nat) : ∀ (n : Nat) (l0 : Option Nat) (l1 : Int32) (l2 : Int32) (l3 : Int32) (l4 : Int32), q_mo (F_X13_kind_14 κ n l0 l1 l2 l3 l4)
  | 0, _, _, _, _, _ => q_mo_no
  | n + 1, l0, l1, l2, l3, l4 => M_X13_kind_14B κ (F_X13_kind_14 κ n) (M_X13_kind_14 κ n) l0 l1 l2 l3 l4
theorem S_X13_kind_14 {E : q_Ev} {Γ : q_Gm} {w : (Unit ⊕ q_Exn) × q_St} (B : q_Bd E Γ cX13_kind yX13_kind.cls 8 6 138 (none) yX13_kind.name w) (hT : q_nT Γ) : ∀ (n : Nat) (l0 : Option Nat) (l1 : Int32) (l2 : Int32) (l3 : Int32) (l4 : Int32) (σ : q_St), F_X13_kind_14 (q_kap E) n l0 l1 l2 l3 l4 σ = some w → q_W E Γ (q_QF E Γ q_oV w) 8 σ 14 [(0, q_R l0), (1, q_I l1), (2, q_I l2), (3, q_I l3), (4, q_I l4)] []
  | 0, _, _, _, _, _, _, h => by cases h
  | n + 1, l0, l1, l2, l3, l4, σ, h => S_X13_kind_14B B hT (F_X13_kind_14 (q_kap E) n) (S_X13_kind_14 B hT n) (M_X13_kind_14 (q_kap E) n) l0 l1 l2 l3 l4 σ h
def F_X13_kind (κ : Nat → Nat) (l0 : Option Nat) (l1 : Int32) : q_X Unit :=
  q_rd (q_is l0 16) fun _ => q_ca (F_X13_expectName κ l0) fun v1 => q_rd (q_is l0 16) fun _ => q_ca (F_X13_nameOf κ l0 v1) fun v7 => F_X13_kind_14 κ q_fu l0 l1 v1 v7 (0 : Int32)
theorem M_X13_kind (κ : Nat → Nat) (l0 : Option Nat) (l1 : Int32) : q_mo (F_X13_kind κ l0 l1) := (q_mo_rd fun _ => q_mo_ca (M_X13_expectName κ l0) fun v1 => (q_mo_rd fun _ => q_mo_ca (M_X13_nameOf κ l0 v1) fun v7 => (M_X13_kind_14 κ q_fu l0 l1 v1 v7 (0 : Int32))))
set_option maxRecDepth 100000 in
set_option maxHeartbeats 4000000 in
theorem K_X13_kind {E : q_Ev} (l0 : Option Nat) (l1 : Int32) : q_Ct E yX13_kind (.code yX13_kind cX13_kind 8 (none)) 6 138 [q_R l0, q_I l1] q_oV (F_X13_kind (q_kap E) l0 l1) := by
  refine q_enter (by decide) (Nat.le_of_ble_eq_true rfl) (fun Γ σ w h B hT => ?_)
  have C := B.1
  unfold F_X13_kind at h
  refine q_aload_n (pc := 0) C 0 rfl dX13_kind_0 rfl ?_
  refine q_callV (pc := 1) (As := []) (st := []) (ps := q_psI) C B.2.1 hT q_hpI qm_X13_263 qv_X13_expectName dX13_kind_1 rfl rfl (Nat.le_of_ble_eq_true rfl) (q_flo B.2.2.1 B.2.2.2.1 (by decide) (by decide)) (K_X13_expectName l0) (M_X13_expectName (q_kap E) l0) (by exact fun v1 => (q_mo_rd fun _ => q_mo_ca (M_X13_nameOf (q_kap E) l0 v1) fun v7 => (M_X13_kind_14 (q_kap E) q_fu l0 l1 v1 v7 (0 : Int32)))) h (fun v1 σ h => ?_)
  refine q_W.st (st' := [q_I v1]) rfl ?_
  refine q_istore_n (pc := 4) (l' := [(2, q_I v1), (0, q_R l0), (1, q_I l1)]) C dX13_kind_4 rfl (by decide) rfl ?_
  refine q_aload_n (pc := 5) C 1 rfl dX13_kind_5 rfl ?_
  refine q_iload_n (pc := 6) C 0 rfl dX13_kind_6 rfl ?_
  refine q_callV (pc := 7) (As := [q_I v1]) (st := []) (ps := q_psI) C B.2.1 hT q_hpI qm_X13_266 qv_X13_nameOf dX13_kind_7 rfl rfl (Nat.le_of_ble_eq_true rfl) (q_flo B.2.2.1 B.2.2.2.1 (by decide) (by decide)) (K_X13_nameOf l0 v1) (M_X13_nameOf (q_kap E) l0 v1) (by exact fun v7 => (M_X13_kind_14 (q_kap E) q_fu l0 l1 v1 v7 (0 : Int32))) h (fun v7 σ h => ?_)
  refine q_W.st (st' := [q_I v7]) rfl ?_
  refine q_istore_n (pc := 10) (l' := [(3, q_I v7), (2, q_I v1), (0, q_R l0), (1, q_I l1)]) C dX13_kind_10 rfl (by decide) rfl ?_
  refine q_iconst (pc := 11) (v := (0 : Int32)) C dX13_kind_11 (by decide) ?_
  refine q_istore (pc := 12) (l' := [(4, q_I (0 : Int32)), (3, q_I v7), (2, q_I v1), (0, q_R l0), (1, q_I l1)]) C dX13_kind_12 (by decide) rfl ?_
  refine q_W.sub [3, 4, 2, 1, 0] rfl ?_
  exact S_X13_kind_14 B hT q_fu l0 l1 v1 v7 (0 : Int32) _ h
def F_X13_words_549B (κ : Nat → Nat) (r535 : Option Nat → Int32 → Int32 → Int32 → Int32 → q_X Unit) (r549 : Option Nat → Int32 → Int32 → Int32 → Int32 → Int32 → q_X Unit) (l0 : Option Nat) (l1 : Int32) (l2 : Int32) (l4 : Int32) (l5 : Int32) (l6 : Int32) : q_X Unit :=
  q_rd (q_gA l0 16 28) fun v552 => q_rd (q_gA l0 16 37) fun v556 => q_rd (q_lI 1 v556 (((5 : Int32) * l1) + l5)) fun v565 => q_rd (q_lI 1 v552 v565) fun v566 => q_br (v566 ≤ l6) (r535 l0 l1 l2 l4 (l5 + (1 : Int32))) (q_rd (q_gA l0 16 39) fun v571 => q_rd (q_lI 1 v571 (((32 : Int32) * l5) + l6)) fun v582 => q_br (v582 = (1 : Int32)) (r549 l0 l1 l2 l4 l5 (l6 + (1 : Int32))) (q_mk (.inr (.inl (15, [.null, .null, .null, .null, .null, .int 0, .int 0, .int 0]))) 8 fun a587 => q_rd (q_gI l0 16 15) fun v593 => q_gd (¬ (some a587) = none) (q_ca (F_X12_init κ (some a587) (5 : Int32) v593) fun _v596 => q_rd (q_is (some a587) 15) fun _ => q_tr RX12 (some a587))))
theorem M_X13_words_549B (κ : Nat → Nat) (r535 : Option Nat → Int32 → Int32 → Int32 → Int32 → q_X Unit) (mr535 : ∀ (l0 : Option Nat) (l1 : Int32) (l2 : Int32) (l4 : Int32) (l5 : Int32), q_mo (r535 l0 l1 l2 l4 l5)) (r549 : Option Nat → Int32 → Int32 → Int32 → Int32 → Int32 → q_X Unit) (mr549 : ∀ (l0 : Option Nat) (l1 : Int32) (l2 : Int32) (l4 : Int32) (l5 : Int32) (l6 : Int32), q_mo (r549 l0 l1 l2 l4 l5 l6)) (l0 : Option Nat) (l1 : Int32) (l2 : Int32) (l4 : Int32) (l5 : Int32) (l6 : Int32) : q_mo (F_X13_words_549B κ r535 r549 l0 l1 l2 l4 l5 l6) := (q_mo_rd fun v552 => (q_mo_rd fun v556 => (q_mo_rd fun v565 => (q_mo_rd fun v566 => (q_mo_br (mr535 l0 l1 l2 l4 (l5 + (1 : Int32))) (q_mo_rd fun v571 => (q_mo_rd fun v582 => (q_mo_br (mr549 l0 l1 l2 l4 l5 (l6 + (1 : Int32))) (q_mo_mk fun a587 => (q_mo_rd fun v593 => (q_mo_gd (q_mo_ca (M_X12_init κ (some a587) (5 : Int32) v593) fun _v596 => (q_mo_rd fun _ => q_mo_tr)))))))))))))
set_option maxRecDepth 100000 in
set_option maxHeartbeats 4000000 in
theorem S_X13_words_549B {E : q_Ev} {Γ : q_Gm} {w : (Unit ⊕ q_Exn) × q_St} (B : q_Bd E Γ cX13_words yX13_words.cls 12 6 138 (none) yX13_words.name w) (hT : q_nT Γ) (r535 : Option Nat → Int32 → Int32 → Int32 → Int32 → q_X Unit) (hr535 : ∀ (l0 : Option Nat) (l1 : Int32) (l2 : Int32) (l4 : Int32) (l5 : Int32) (σ : q_St), r535 l0 l1 l2 l4 l5 σ = some w → q_W E Γ (q_QF E Γ q_oV w) 12 σ 535 [(0, q_R l0), (1, q_I l1), (2, q_I l2), (4, q_I l4), (5, q_I l5)] []) (mr535 : ∀ (l0 : Option Nat) (l1 : Int32) (l2 : Int32) (l4 : Int32) (l5 : Int32), q_mo (r535 l0 l1 l2 l4 l5)) (r549 : Option Nat → Int32 → Int32 → Int32 → Int32 → Int32 → q_X Unit) (hr549 : ∀ (l0 : Option Nat) (l1 : Int32) (l2 : Int32) (l4 : Int32) (l5 : Int32) (l6 : Int32) (σ : q_St), r549 l0 l1 l2 l4 l5 l6 σ = some w → q_W E Γ (q_QF E Γ q_oV w) 12 σ 549 [(0, q_R l0), (1, q_I l1), (2, q_I l2), (4, q_I l4), (5, q_I l5), (6, q_I l6)] []) (mr549 : ∀ (l0 : Option Nat) (l1 : Int32) (l2 : Int32) (l4 : Int32) (l5 : Int32) (l6 : Int32), q_mo (r549 l0 l1 l2 l4 l5 l6)) (l0 : Option Nat) (l1 : Int32) (l2 : Int32) (l4 : Int32) (l5 : Int32) (l6 : Int32) (σ : q_St) (h : F_X13_words_549B (q_kap E) r535 r549 l0 l1 l2 l4 l5 l6 σ = some w) : q_W E Γ (q_QF E Γ q_oV w) 12 σ 549 [(0, q_R l0), (1, q_I l1), (2, q_I l2), (4, q_I l4), (5, q_I l5), (6, q_I l6)] [] := by
  have C := B.1
  unfold F_X13_words_549B at h
  refine q_iload (pc := 549) C 5 rfl dX13_words_549 ?_
  refine q_aload_n (pc := 551) C 0 rfl dX13_words_551 rfl ?_
  refine q_getA (pc := 552) C dX13_words_552 ql_X13_62 h (fun v552 h => ?_)
  refine q_aload_n (pc := 555) C 0 rfl dX13_words_555 rfl ?_
  refine q_getA (pc := 556) C dX13_words_556 ql_X13_89 h (fun v556 h => ?_)
  refine q_iconst (pc := 559) (v := (5 : Int32)) C dX13_words_559 (by decide) ?_
  refine q_iload_n (pc := 560) C 1 rfl dX13_words_560 rfl ?_
  refine q_imul (pc := 561) C dX13_words_561 ?_
  refine q_iload (pc := 562) C 4 rfl dX13_words_562 ?_
  refine q_iadd (pc := 564) C dX13_words_564 ?_
  refine q_ldI (pc := 565) C dX13_words_565 (Or.inr (Or.inl ⟨rfl, rfl⟩)) h (fun v565 h => ?_)
  refine q_ldI (pc := 566) C dX13_words_566 (Or.inr (Or.inl ⟨rfl, rfl⟩)) h (fun v566 h => ?_)
  refine q_icmp_ge (pc := 567) (tgt := 606) C dX13_words_567 (by decide) h (fun _ h => ?_) (fun _ h => ?_)
  · refine q_iinc (pc := 606) (v := (1 : Int32)) (l' := [(5, q_I (l5 + (1 : Int32))), (0, q_R l0), (1, q_I l1), (2, q_I l2), (4, q_I l4), (6, q_I l6)]) C 4 rfl dX13_words_606 (by decide) (by decide) rfl ?_
    refine q_goto (pc := 609) (tgt := 535) C dX13_words_609 (by decide) ?_
    refine q_W.sub [1, 2, 3, 4, 0] rfl ?_
    exact hr535 l0 l1 l2 l4 (l5 + (1 : Int32)) _ h
  · refine q_aload_n (pc := 570) C 0 rfl dX13_words_570 rfl ?_
    refine q_getA (pc := 571) C dX13_words_571 ql_X13_95 h (fun v571 h => ?_)
    refine q_bipush (pc := 574) (v := (32 : Int32)) C dX13_words_574 (by decide) ?_
    refine q_iload (pc := 576) C 4 rfl dX13_words_576 ?_
    refine q_imul (pc := 578) C dX13_words_578 ?_
    refine q_iload (pc := 579) C 5 rfl dX13_words_579 ?_
    refine q_iadd (pc := 581) C dX13_words_581 ?_
    refine q_ldI (pc := 582) C dX13_words_582 (Or.inr (Or.inl ⟨rfl, rfl⟩)) h (fun v582 h => ?_)
    refine q_iconst (pc := 583) (v := (1 : Int32)) C dX13_words_583 (by decide) ?_
    refine q_icmp_eq (pc := 584) (tgt := 600) C dX13_words_584 (by decide) h (fun _ h => ?_) (fun _ h => ?_)
    · refine q_iinc (pc := 600) (v := (1 : Int32)) (l' := [(6, q_I (l6 + (1 : Int32))), (0, q_R l0), (1, q_I l1), (2, q_I l2), (4, q_I l4), (5, q_I l5)]) C 5 rfl dX13_words_600 (by decide) (by decide) rfl ?_
      refine q_goto (pc := 603) (tgt := 549) C dX13_words_603 (by decide) ?_
      refine q_W.sub [1, 2, 3, 4, 5, 0] rfl ?_
      exact hr549 l0 l1 l2 l4 l5 (l6 + (1 : Int32)) _ h
    · refine q_new (pc := 587) C dX13_words_587 qn_X13_209 (by exact fun a587 => (q_mo_rd fun v593 => (q_mo_gd (q_mo_ca (M_X12_init (q_kap E) (some a587) (5 : Int32) v593) fun _v596 => (q_mo_rd fun _ => q_mo_tr))))) B.2.1 h (fun a587 σ h => ?_)
      refine q_dup (pc := 590) C dX13_words_590 rfl ?_
      refine q_iconst (pc := 591) (v := (5 : Int32)) C dX13_words_591 (by decide) ?_
      refine q_aload_n (pc := 592) C 0 rfl dX13_words_592 rfl ?_
      refine q_getI (pc := 593) C dX13_words_593 ql_X13_206 h (fun v593 h => ?_)
      refine q_callI (pc := 596) (As := [q_I (5 : Int32), q_I v593]) (st := [q_R (some a587)]) C B.2.1 (fun _ => rfl) qm_X13_211 qI_X12_init dX13_words_596 rfl rfl (Nat.le_of_ble_eq_true rfl) (q_flo B.2.2.1 B.2.2.2.1 (by decide) (by decide)) (K_X12_init (some a587) (5 : Int32) v593) (M_X12_init (q_kap E) (some a587) (5 : Int32) v593) (N_X12_init (q_kap E) (some a587) (5 : Int32) v593) (by exact fun _v596 => (q_mo_rd fun _ => q_mo_tr)) h (fun _v596 σ h => ?_)
      exact q_athrow (pc := 599) (ci := 15) C hT rfl dX13_words_599 h
def F_X13_words_549 (κ : Nat → Nat) (r535 : Option Nat → Int32 → Int32 → Int32 → Int32 → q_X Unit) : Nat → Option Nat → Int32 → Int32 → Int32 → Int32 → Int32 → q_X Unit
  | 0, _, _, _, _, _, _ => q_no
  | n + 1, l0, l1, l2, l4, l5, l6 => F_X13_words_549B κ r535 (F_X13_words_549 κ r535 n) l0 l1 l2 l4 l5 l6
theorem M_X13_words_549 (κ : Nat → Nat) (r535 : Option Nat → Int32 → Int32 → Int32 → Int32 → q_X Unit) (mr535 : ∀ (l0 : Option Nat) (l1 : Int32) (l2 : Int32) (l4 : Int32) (l5 : Int32), q_mo (r535 l0 l1 l2 l4 l5)) : ∀ (n : Nat) (l0 : Option Nat) (l1 : Int32) (l2 : Int32) (l4 : Int32) (l5 : Int32) (l6 : Int32), q_mo (F_X13_words_549 κ r535 n l0 l1 l2 l4 l5 l6)
  | 0, _, _, _, _, _, _ => q_mo_no
  | n + 1, l0, l1, l2, l4, l5, l6 => M_X13_words_549B κ r535 mr535 (F_X13_words_549 κ r535 n) (M_X13_words_549 κ r535 mr535 n) l0 l1 l2 l4 l5 l6
theorem S_X13_words_549 {E : q_Ev} {Γ : q_Gm} {w : (Unit ⊕ q_Exn) × q_St} (B : q_Bd E Γ cX13_words yX13_words.cls 12 6 138 (none) yX13_words.name w) (hT : q_nT Γ) (r535 : Option Nat → Int32 → Int32 → Int32 → Int32 → q_X Unit) (hr535 : ∀ (l0 : Option Nat) (l1 : Int32) (l2 : Int32) (l4 : Int32) (l5 : Int32) (σ : q_St), r535 l0 l1 l2 l4 l5 σ = some w → q_W E Γ (q_QF E Γ q_oV w) 12 σ 535 [(0, q_R l0), (1, q_I l1), (2, q_I l2), (4, q_I l4), (5, q_I l5)] []) (mr535 : ∀ (l0 : Option Nat) (l1 : Int32) (l2 : Int32) (l4 : Int32) (l5 : Int32), q_mo (r535 l0 l1 l2 l4 l5)) : ∀ (n : Nat) (l0 : Option Nat) (l1 : Int32) (l2 : Int32) (l4 : Int32) (l5 : Int32) (l6 : Int32) (σ : q_St), F_X13_words_549 (q_kap E) r535 n l0 l1 l2 l4 l5 l6 σ = some w → q_W E Γ (q_QF E Γ q_oV w) 12 σ 549 [(0, q_R l0), (1, q_I l1), (2, q_I l2), (4, q_I l4), (5, q_I l5), (6, q_I l6)] []
  | 0, _, _, _, _, _, _, _, h => by cases h
  | n + 1, l0, l1, l2, l4, l5, l6, σ, h => S_X13_words_549B B hT r535 hr535 mr535 (F_X13_words_549 (q_kap E) r535 n) (S_X13_words_549 B hT r535 hr535 mr535 n) (M_X13_words_549 (q_kap E) r535 mr535 n) l0 l1 l2 l4 l5 l6 σ h
def F_X13_words_535B (κ : Nat → Nat) (r535 : Option Nat → Int32 → Int32 → Int32 → Int32 → q_X Unit) (l0 : Option Nat) (l1 : Int32) (l2 : Int32) (l4 : Int32) (l5 : Int32) : q_X Unit :=
  q_rd (q_gA l0 16 32) fun v538 => q_rd (q_lI 1 v538 l1) fun v542 => q_br (v542 ≤ l5) (q_rd (q_gA l0 16 33) fun v613 => q_wr (q_sI 1 v613 l1 l2) (q_rd (q_gA l0 16 34) fun v620 => q_wr (q_sI 1 v620 l1 l4) (q_rt ()))) (F_X13_words_549 κ r535 q_fu l0 l1 l2 l4 l5 (0 : Int32))
theorem M_X13_words_535B (κ : Nat → Nat) (r535 : Option Nat → Int32 → Int32 → Int32 → Int32 → q_X Unit) (mr535 : ∀ (l0 : Option Nat) (l1 : Int32) (l2 : Int32) (l4 : Int32) (l5 : Int32), q_mo (r535 l0 l1 l2 l4 l5)) (l0 : Option Nat) (l1 : Int32) (l2 : Int32) (l4 : Int32) (l5 : Int32) : q_mo (F_X13_words_535B κ r535 l0 l1 l2 l4 l5) := (q_mo_rd fun v538 => (q_mo_rd fun v542 => (q_mo_br (q_mo_rd fun v613 => (q_mo_wr (q_mo_rd fun v620 => (q_mo_wr q_mo_rt)))) (M_X13_words_549 κ r535 mr535 q_fu l0 l1 l2 l4 l5 (0 : Int32)))))
set_option maxRecDepth 100000 in
set_option maxHeartbeats 4000000 in
theorem S_X13_words_535B {E : q_Ev} {Γ : q_Gm} {w : (Unit ⊕ q_Exn) × q_St} (B : q_Bd E Γ cX13_words yX13_words.cls 12 6 138 (none) yX13_words.name w) (hT : q_nT Γ) (r535 : Option Nat → Int32 → Int32 → Int32 → Int32 → q_X Unit) (hr535 : ∀ (l0 : Option Nat) (l1 : Int32) (l2 : Int32) (l4 : Int32) (l5 : Int32) (σ : q_St), r535 l0 l1 l2 l4 l5 σ = some w → q_W E Γ (q_QF E Γ q_oV w) 12 σ 535 [(0, q_R l0), (1, q_I l1), (2, q_I l2), (4, q_I l4), (5, q_I l5)] []) (mr535 : ∀ (l0 : Option Nat) (l1 : Int32) (l2 : Int32) (l4 : Int32) (l5 : Int32), q_mo (r535 l0 l1 l2 l4 l5)) (l0 : Option Nat) (l1 : Int32) (l2 : Int32) (l4 : Int32) (l5 : Int32) (σ : q_St) (h : F_X13_words_535B (q_kap E) r535 l0 l1 l2 l4 l5 σ = some w) : q_W E Γ (q_QF E Γ q_oV w) 12 σ 535 [(0, q_R l0), (1, q_I l1), (2, q_I l2), (4, q_I l4), (5, q_I l5)] [] := by
  have C := B.1
  unfold F_X13_words_535B at h
  refine q_iload (pc := 535) C 4 rfl dX13_words_535 ?_
  refine q_aload_n (pc := 537) C 0 rfl dX13_words_537 rfl ?_
  refine q_getA (pc := 538) C dX13_words_538 ql_X13_74 h (fun v538 h => ?_)
  refine q_iload_n (pc := 541) C 1 rfl dX13_words_541 rfl ?_
  refine q_ldI (pc := 542) C dX13_words_542 (Or.inr (Or.inl ⟨rfl, rfl⟩)) h (fun v542 h => ?_)
  refine q_icmp_ge (pc := 543) (tgt := 612) C dX13_words_543 (by decide) h (fun _ h => ?_) (fun _ h => ?_)
  · refine q_aload_n (pc := 612) C 0 rfl dX13_words_612 rfl ?_
    refine q_getA (pc := 613) C dX13_words_613 ql_X13_77 h (fun v613 h => ?_)
    refine q_iload_n (pc := 616) C 1 rfl dX13_words_616 rfl ?_
    refine q_iload_n (pc := 617) C 2 rfl dX13_words_617 rfl ?_
    refine q_stI (pc := 618) C dX13_words_618 h (fun M618 h => ?_)
    refine q_aload_n (pc := 619) C 0 rfl dX13_words_619 rfl ?_
    refine q_getA (pc := 620) C dX13_words_620 ql_X13_80 h (fun v620 h => ?_)
    refine q_iload_n (pc := 623) C 1 rfl dX13_words_623 rfl ?_
    refine q_iload (pc := 624) C 3 rfl dX13_words_624 ?_
    refine q_stI (pc := 626) C dX13_words_626 h (fun M626 h => ?_)
    exact q_vret C B.2.2.2.2.1 dX13_words_627 h
  · refine q_iconst (pc := 546) (v := (0 : Int32)) C dX13_words_546 (by decide) ?_
    refine q_istore (pc := 547) (l' := [(6, q_I (0 : Int32)), (0, q_R l0), (1, q_I l1), (2, q_I l2), (4, q_I l4), (5, q_I l5)]) C dX13_words_547 (by decide) rfl ?_
    refine q_W.sub [1, 2, 3, 4, 5, 0] rfl ?_
    exact S_X13_words_549 B hT r535 hr535 mr535 q_fu l0 l1 l2 l4 l5 (0 : Int32) _ h
def F_X13_words_535 (κ : Nat → Nat) : Nat → Option Nat → Int32 → Int32 → Int32 → Int32 → q_X Unit
  | 0, _, _, _, _, _ => q_no
  | n + 1, l0, l1, l2, l4, l5 => F_X13_words_535B κ (F_X13_words_535 κ n) l0 l1 l2 l4 l5
theorem M_X13_words_535 (κ : Nat → Nat) : ∀ (n : Nat) (l0 : Option Nat) (l1 : Int32) (l2 : Int32) (l4 : Int32) (l5 : Int32), q_mo (F_X13_words_535 κ n l0 l1 l2 l4 l5)
  | 0, _, _, _, _, _ => q_mo_no
  | n + 1, l0, l1, l2, l4, l5 => M_X13_words_535B κ (F_X13_words_535 κ n) (M_X13_words_535 κ n) l0 l1 l2 l4 l5
theorem S_X13_words_535 {E : q_Ev} {Γ : q_Gm} {w : (Unit ⊕ q_Exn) × q_St} (B : q_Bd E Γ cX13_words yX13_words.cls 12 6 138 (none) yX13_words.name w) (hT : q_nT Γ) : ∀ (n : Nat) (l0 : Option Nat) (l1 : Int32) (l2 : Int32) (l4 : Int32) (l5 : Int32) (σ : q_St), F_X13_words_535 (q_kap E) n l0 l1 l2 l4 l5 σ = some w → q_W E Γ (q_QF E Γ q_oV w) 12 σ 535 [(0, q_R l0), (1, q_I l1), (2, q_I l2), (4, q_I l4), (5, q_I l5)] []
  | 0, _, _, _, _, _, _, h => by cases h
  | n + 1, l0, l1, l2, l4, l5, σ, h => S_X13_words_535B B hT (F_X13_words_535 (q_kap E) n) (S_X13_words_535 B hT n) (M_X13_words_535 (q_kap E) n) l0 l1 l2 l4 l5 σ h
def F_X13_words_92 (κ : Nat → Nat) (r31 : Option Nat → Int32 → Int32 → Int32 → Int32 → q_X Unit) (l0 : Option Nat) (l1 : Int32) (l2 : Int32) (l3 : Int32) (l4 : Int32) (l5 : Int32) : q_X Unit :=
  q_rd (q_gI l0 16 21) fun v94 => q_br (l3 = v94) (q_br (¬ l5 = 0) (q_rd (q_gI l0 16 15) fun v128 => q_wr (q_pF l0 16 15 (.int (v128 + (1 : Int32)))) (r31 l0 l1 (l2 + (1 : Int32)) (0 : Int32) l4)) (F_X13_words_535 κ q_fu l0 l1 (l2 + (1 : Int32)) l4 (0 : Int32))) (q_mk (.inr (.inl (15, [.null, .null, .null, .null, .null, .int 0, .int 0, .int 0]))) 8 fun a100 => q_rd (q_gI l0 16 15) fun v106 => q_gd (¬ (some a100) = none) (q_ca (F_X12_init κ (some a100) (4 : Int32) v106) fun _v109 => q_rd (q_is (some a100) 15) fun _ => q_tr RX12 (some a100)))
theorem M_X13_words_92 (κ : Nat → Nat) (r31 : Option Nat → Int32 → Int32 → Int32 → Int32 → q_X Unit) (mr31 : ∀ (l0 : Option Nat) (l1 : Int32) (l2 : Int32) (l3 : Int32) (l4 : Int32), q_mo (r31 l0 l1 l2 l3 l4)) (l0 : Option Nat) (l1 : Int32) (l2 : Int32) (l3 : Int32) (l4 : Int32) (l5 : Int32) : q_mo (F_X13_words_92 κ r31 l0 l1 l2 l3 l4 l5) := (q_mo_rd fun v94 => (q_mo_br (q_mo_br (q_mo_rd fun v128 => (q_mo_wr (mr31 l0 l1 (l2 + (1 : Int32)) (0 : Int32) l4))) (M_X13_words_535 κ q_fu l0 l1 (l2 + (1 : Int32)) l4 (0 : Int32))) (q_mo_mk fun a100 => (q_mo_rd fun v106 => (q_mo_gd (q_mo_ca (M_X12_init κ (some a100) (4 : Int32) v106) fun _v109 => (q_mo_rd fun _ => q_mo_tr)))))))
set_option maxRecDepth 100000 in
set_option maxHeartbeats 4000000 in
theorem S_X13_words_92 {E : q_Ev} {Γ : q_Gm} {w : (Unit ⊕ q_Exn) × q_St} (B : q_Bd E Γ cX13_words yX13_words.cls 12 6 138 (none) yX13_words.name w) (hT : q_nT Γ) (r31 : Option Nat → Int32 → Int32 → Int32 → Int32 → q_X Unit) (hr31 : ∀ (l0 : Option Nat) (l1 : Int32) (l2 : Int32) (l3 : Int32) (l4 : Int32) (σ : q_St), r31 l0 l1 l2 l3 l4 σ = some w → q_W E Γ (q_QF E Γ q_oV w) 12 σ 31 [(0, q_R l0), (1, q_I l1), (2, q_I l2), (3, q_I l3), (4, q_I l4)] []) (mr31 : ∀ (l0 : Option Nat) (l1 : Int32) (l2 : Int32) (l3 : Int32) (l4 : Int32), q_mo (r31 l0 l1 l2 l3 l4)) (l0 : Option Nat) (l1 : Int32) (l2 : Int32) (l3 : Int32) (l4 : Int32) (l5 : Int32) (σ : q_St) (h : F_X13_words_92 (q_kap E) r31 l0 l1 l2 l3 l4 l5 σ = some w) : q_W E Γ (q_QF E Γ q_oV w) 12 σ 92 [(0, q_R l0), (1, q_I l1), (2, q_I l2), (3, q_I l3), (4, q_I l4), (5, q_I l5)] [] := by
  have C := B.1
  unfold F_X13_words_92 at h
  refine q_iload_n (pc := 92) C 3 rfl dX13_words_92 rfl ?_
  refine q_aload_n (pc := 93) C 0 rfl dX13_words_93 rfl ?_
  refine q_getI (pc := 94) C dX13_words_94 ql_X13_217 h (fun v94 h => ?_)
  refine q_icmp_eq (pc := 97) (tgt := 113) C dX13_words_97 (by decide) h (fun _ h => ?_) (fun _ h => ?_)
  · refine q_iinc (pc := 113) (v := (1 : Int32)) (l' := [(2, q_I (l2 + (1 : Int32))), (0, q_R l0), (1, q_I l1), (3, q_I l3), (4, q_I l4), (5, q_I l5)]) C 2 rfl dX13_words_113 (by decide) (by decide) rfl ?_
    refine q_iconst (pc := 116) (v := (0 : Int32)) C dX13_words_116 (by decide) ?_
    refine q_istore_n (pc := 117) (l' := [(3, q_I (0 : Int32)), (2, q_I (l2 + (1 : Int32))), (0, q_R l0), (1, q_I l1), (4, q_I l4), (5, q_I l5)]) C dX13_words_117 rfl (by decide) rfl ?_
    refine q_iload (pc := 118) C 5 rfl dX13_words_118 ?_
    refine q_if_ne (pc := 120) (tgt := 126) C dX13_words_120 (by decide) h (fun _ h => ?_) (fun _ h => ?_)
    · refine q_aload_n (pc := 126) C 2 rfl dX13_words_126 rfl ?_
      refine q_dup (pc := 127) C dX13_words_127 rfl ?_
      refine q_getI (pc := 128) C dX13_words_128 ql_X13_206 h (fun v128 h => ?_)
      refine q_iconst (pc := 131) (v := (1 : Int32)) C dX13_words_131 (by decide) ?_
      refine q_iadd (pc := 132) C dX13_words_132 ?_
      refine q_putV (pc := 133) (v := q_I (v128 + (1 : Int32))) C dX13_words_133 ql_X13_206 (Or.inl rfl) rfl rfl h (fun M133 h => ?_)
      refine q_goto (pc := 136) (tgt := 31) C dX13_words_136 (by decide) ?_
      refine q_W.sub [2, 3, 1, 0, 4] rfl ?_
      exact hr31 l0 l1 (l2 + (1 : Int32)) (0 : Int32) l4 _ h
    · refine q_goto (pc := 123) (tgt := 532) C dX13_words_123 (by decide) ?_
      refine q_iconst (pc := 532) (v := (0 : Int32)) C dX13_words_532 (by decide) ?_
      refine q_istore (pc := 533) (l' := [(5, q_I (0 : Int32)), (3, q_I (0 : Int32)), (2, q_I (l2 + (1 : Int32))), (0, q_R l0), (1, q_I l1), (4, q_I l4)]) C dX13_words_533 (by decide) rfl ?_
      refine q_W.sub [3, 4, 2, 5, 0] rfl ?_
      exact S_X13_words_535 B hT q_fu l0 l1 (l2 + (1 : Int32)) l4 (0 : Int32) _ h
  · refine q_new (pc := 100) C dX13_words_100 qn_X13_209 (by exact fun a100 => (q_mo_rd fun v106 => (q_mo_gd (q_mo_ca (M_X12_init (q_kap E) (some a100) (4 : Int32) v106) fun _v109 => (q_mo_rd fun _ => q_mo_tr))))) B.2.1 h (fun a100 σ h => ?_)
    refine q_dup (pc := 103) C dX13_words_103 rfl ?_
    refine q_iconst (pc := 104) (v := (4 : Int32)) C dX13_words_104 (by decide) ?_
    refine q_aload_n (pc := 105) C 0 rfl dX13_words_105 rfl ?_
    refine q_getI (pc := 106) C dX13_words_106 ql_X13_206 h (fun v106 h => ?_)
    refine q_callI (pc := 109) (As := [q_I (4 : Int32), q_I v106]) (st := [q_R (some a100)]) C B.2.1 (fun _ => rfl) qm_X13_211 qI_X12_init dX13_words_109 rfl rfl (Nat.le_of_ble_eq_true rfl) (q_flo B.2.2.1 B.2.2.2.1 (by decide) (by decide)) (K_X12_init (some a100) (4 : Int32) v106) (M_X12_init (q_kap E) (some a100) (4 : Int32) v106) (N_X12_init (q_kap E) (some a100) (4 : Int32) v106) (by exact fun _v109 => (q_mo_rd fun _ => q_mo_tr)) h (fun _v109 σ h => ?_)
    exact q_athrow (pc := 112) (ci := 15) C hT rfl dX13_words_112 h
def F_X13_words_57 (κ : Nat → Nat) (r31 : Option Nat → Int32 → Int32 → Int32 → Int32 → q_X Unit) (l0 : Option Nat) (l1 : Int32) (l2 : Int32) (l3 : Int32) (l4 : Int32) : q_X Unit :=
  q_rd (q_gI l0 16 15) fun v59 => q_rd (q_is l0 16) fun _ => q_ca (F_X13_isSign κ l0 v59 (124 : Int32)) fun v64 => q_br (v64 = 0) (F_X13_words_92 κ r31 l0 l1 l2 l3 l4 v64) (q_br (¬ l2 = (3 : Int32)) (F_X13_words_92 κ r31 l0 l1 l2 l3 l4 v64) (q_mk (.inr (.inl (15, [.null, .null, .null, .null, .null, .int 0, .int 0, .int 0]))) 8 fun a79 => q_rd (q_gI l0 16 15) fun v85 => q_gd (¬ (some a79) = none) (q_ca (F_X12_init κ (some a79) (3 : Int32) v85) fun _v88 => q_rd (q_is (some a79) 15) fun _ => q_tr RX12 (some a79))))
theorem M_X13_words_57 (κ : Nat → Nat) (r31 : Option Nat → Int32 → Int32 → Int32 → Int32 → q_X Unit) (mr31 : ∀ (l0 : Option Nat) (l1 : Int32) (l2 : Int32) (l3 : Int32) (l4 : Int32), q_mo (r31 l0 l1 l2 l3 l4)) (l0 : Option Nat) (l1 : Int32) (l2 : Int32) (l3 : Int32) (l4 : Int32) : q_mo (F_X13_words_57 κ r31 l0 l1 l2 l3 l4) := (q_mo_rd fun v59 => (q_mo_rd fun _ => q_mo_ca (M_X13_isSign κ l0 v59 (124 : Int32)) fun v64 => (q_mo_br (M_X13_words_92 κ r31 mr31 l0 l1 l2 l3 l4 v64) (q_mo_br (M_X13_words_92 κ r31 mr31 l0 l1 l2 l3 l4 v64) (q_mo_mk fun a79 => (q_mo_rd fun v85 => (q_mo_gd (q_mo_ca (M_X12_init κ (some a79) (3 : Int32) v85) fun _v88 => (q_mo_rd fun _ => q_mo_tr)))))))))
set_option maxRecDepth 100000 in
set_option maxHeartbeats 4000000 in
theorem S_X13_words_57 {E : q_Ev} {Γ : q_Gm} {w : (Unit ⊕ q_Exn) × q_St} (B : q_Bd E Γ cX13_words yX13_words.cls 12 6 138 (none) yX13_words.name w) (hT : q_nT Γ) (r31 : Option Nat → Int32 → Int32 → Int32 → Int32 → q_X Unit) (hr31 : ∀ (l0 : Option Nat) (l1 : Int32) (l2 : Int32) (l3 : Int32) (l4 : Int32) (σ : q_St), r31 l0 l1 l2 l3 l4 σ = some w → q_W E Γ (q_QF E Γ q_oV w) 12 σ 31 [(0, q_R l0), (1, q_I l1), (2, q_I l2), (3, q_I l3), (4, q_I l4)] []) (mr31 : ∀ (l0 : Option Nat) (l1 : Int32) (l2 : Int32) (l3 : Int32) (l4 : Int32), q_mo (r31 l0 l1 l2 l3 l4)) (l0 : Option Nat) (l1 : Int32) (l2 : Int32) (l3 : Int32) (l4 : Int32) (σ : q_St) (h : F_X13_words_57 (q_kap E) r31 l0 l1 l2 l3 l4 σ = some w) : q_W E Γ (q_QF E Γ q_oV w) 12 σ 57 [(0, q_R l0), (1, q_I l1), (2, q_I l2), (3, q_I l3), (4, q_I l4)] [] := by
  have C := B.1
  unfold F_X13_words_57 at h
  refine q_aload_n (pc := 57) C 0 rfl dX13_words_57 rfl ?_
  refine q_aload_n (pc := 58) C 0 rfl dX13_words_58 rfl ?_
  refine q_getI (pc := 59) C dX13_words_59 ql_X13_206 h (fun v59 h => ?_)
  refine q_bipush (pc := 62) (v := (124 : Int32)) C dX13_words_62 (by decide) ?_
  refine q_callV (pc := 64) (As := [q_I v59, q_I (124 : Int32)]) (st := []) (ps := q_psI) C B.2.1 hT q_hpI qm_X13_214 qv_X13_isSign dX13_words_64 rfl rfl (Nat.le_of_ble_eq_true rfl) (q_flo B.2.2.1 B.2.2.2.1 (by decide) (by decide)) (K_X13_isSign l0 v59 (124 : Int32)) (M_X13_isSign (q_kap E) l0 v59 (124 : Int32)) (by exact fun v64 => (q_mo_br (M_X13_words_92 (q_kap E) r31 mr31 l0 l1 l2 l3 l4 v64) (q_mo_br (M_X13_words_92 (q_kap E) r31 mr31 l0 l1 l2 l3 l4 v64) (q_mo_mk fun a79 => (q_mo_rd fun v85 => (q_mo_gd (q_mo_ca (M_X12_init (q_kap E) (some a79) (3 : Int32) v85) fun _v88 => (q_mo_rd fun _ => q_mo_tr)))))))) h (fun v64 σ h => ?_)
  refine q_W.st (st' := [q_I v64]) rfl ?_
  refine q_istore (pc := 67) (l' := [(5, q_I v64), (0, q_R l0), (1, q_I l1), (2, q_I l2), (3, q_I l3), (4, q_I l4)]) C dX13_words_67 (by decide) rfl ?_
  refine q_iload (pc := 69) C 0 rfl dX13_words_69 ?_
  refine q_if_eq (pc := 71) (tgt := 92) C dX13_words_71 (by decide) h (fun _ h => ?_) (fun _ h => ?_)
  · refine q_W.sub [1, 2, 3, 4, 5, 0] rfl ?_
    exact S_X13_words_92 B hT r31 hr31 mr31 l0 l1 l2 l3 l4 v64 _ h
  · refine q_iload_n (pc := 74) C 3 rfl dX13_words_74 rfl ?_
    refine q_iconst (pc := 75) (v := (3 : Int32)) C dX13_words_75 (by decide) ?_
    refine q_icmp_ne (pc := 76) (tgt := 92) C dX13_words_76 (by decide) h (fun _ h => ?_) (fun _ h => ?_)
    · refine q_W.sub [1, 2, 3, 4, 5, 0] rfl ?_
      exact S_X13_words_92 B hT r31 hr31 mr31 l0 l1 l2 l3 l4 v64 _ h
    · refine q_new (pc := 79) C dX13_words_79 qn_X13_209 (by exact fun a79 => (q_mo_rd fun v85 => (q_mo_gd (q_mo_ca (M_X12_init (q_kap E) (some a79) (3 : Int32) v85) fun _v88 => (q_mo_rd fun _ => q_mo_tr))))) B.2.1 h (fun a79 σ h => ?_)
      refine q_dup (pc := 82) C dX13_words_82 rfl ?_
      refine q_iconst (pc := 83) (v := (3 : Int32)) C dX13_words_83 (by decide) ?_
      refine q_aload_n (pc := 84) C 1 rfl dX13_words_84 rfl ?_
      refine q_getI (pc := 85) C dX13_words_85 ql_X13_206 h (fun v85 h => ?_)
      refine q_callI (pc := 88) (As := [q_I (3 : Int32), q_I v85]) (st := [q_R (some a79)]) C B.2.1 (fun _ => rfl) qm_X13_211 qI_X12_init dX13_words_88 rfl rfl (Nat.le_of_ble_eq_true rfl) (q_flo B.2.2.1 B.2.2.2.1 (by decide) (by decide)) (K_X12_init (some a79) (3 : Int32) v85) (M_X12_init (q_kap E) (some a79) (3 : Int32) v85) (N_X12_init (q_kap E) (some a79) (3 : Int32) v85) (by exact fun _v88 => (q_mo_rd fun _ => q_mo_tr)) h (fun _v88 σ h => ?_)
      exact q_athrow (pc := 91) (ci := 15) C hT rfl dX13_words_91 h
def F_X13_words_255 (κ : Nat → Nat) (r31 : Option Nat → Int32 → Int32 → Int32 → Int32 → q_X Unit) (r155 : Option Nat → Int32 → Int32 → Int32 → Int32 → Int32 → q_X Unit) (l0 : Option Nat) (l1 : Int32) (l2 : Int32) (l3 : Int32) (l4 : Int32) (l5 : Int32) : q_X Unit :=
  r155 l0 l1 l2 (l3 + (1 : Int32)) (l4 + (1 : Int32)) (l5 + (1 : Int32))
theorem M_X13_words_255 (κ : Nat → Nat) (r31 : Option Nat → Int32 → Int32 → Int32 → Int32 → q_X Unit) (mr31 : ∀ (l0 : Option Nat) (l1 : Int32) (l2 : Int32) (l3 : Int32) (l4 : Int32), q_mo (r31 l0 l1 l2 l3 l4)) (r155 : Option Nat → Int32 → Int32 → Int32 → Int32 → Int32 → q_X Unit) (mr155 : ∀ (l0 : Option Nat) (l1 : Int32) (l2 : Int32) (l3 : Int32) (l4 : Int32) (l5 : Int32), q_mo (r155 l0 l1 l2 l3 l4 l5)) (l0 : Option Nat) (l1 : Int32) (l2 : Int32) (l3 : Int32) (l4 : Int32) (l5 : Int32) : q_mo (F_X13_words_255 κ r31 r155 l0 l1 l2 l3 l4 l5) := (mr155 l0 l1 l2 (l3 + (1 : Int32)) (l4 + (1 : Int32)) (l5 + (1 : Int32)))
set_option maxRecDepth 100000 in
set_option maxHeartbeats 4000000 in
theorem S_X13_words_255 {E : q_Ev} {Γ : q_Gm} {w : (Unit ⊕ q_Exn) × q_St} (B : q_Bd E Γ cX13_words yX13_words.cls 12 6 138 (none) yX13_words.name w) (hT : q_nT Γ) (r31 : Option Nat → Int32 → Int32 → Int32 → Int32 → q_X Unit) (hr31 : ∀ (l0 : Option Nat) (l1 : Int32) (l2 : Int32) (l3 : Int32) (l4 : Int32) (σ : q_St), r31 l0 l1 l2 l3 l4 σ = some w → q_W E Γ (q_QF E Γ q_oV w) 12 σ 31 [(0, q_R l0), (1, q_I l1), (2, q_I l2), (3, q_I l3), (4, q_I l4)] []) (mr31 : ∀ (l0 : Option Nat) (l1 : Int32) (l2 : Int32) (l3 : Int32) (l4 : Int32), q_mo (r31 l0 l1 l2 l3 l4)) (r155 : Option Nat → Int32 → Int32 → Int32 → Int32 → Int32 → q_X Unit) (hr155 : ∀ (l0 : Option Nat) (l1 : Int32) (l2 : Int32) (l3 : Int32) (l4 : Int32) (l5 : Int32) (σ : q_St), r155 l0 l1 l2 l3 l4 l5 σ = some w → q_W E Γ (q_QF E Γ q_oV w) 12 σ 155 [(0, q_R l0), (1, q_I l1), (2, q_I l2), (3, q_I l3), (4, q_I l4), (5, q_I l5)] []) (mr155 : ∀ (l0 : Option Nat) (l1 : Int32) (l2 : Int32) (l3 : Int32) (l4 : Int32) (l5 : Int32), q_mo (r155 l0 l1 l2 l3 l4 l5)) (l0 : Option Nat) (l1 : Int32) (l2 : Int32) (l3 : Int32) (l4 : Int32) (l5 : Int32) (σ : q_St) (h : F_X13_words_255 (q_kap E) r31 r155 l0 l1 l2 l3 l4 l5 σ = some w) : q_W E Γ (q_QF E Γ q_oV w) 12 σ 255 [(0, q_R l0), (1, q_I l1), (2, q_I l2), (3, q_I l3), (4, q_I l4), (5, q_I l5)] [] := by
  have C := B.1
  unfold F_X13_words_255 at h
  refine q_iinc (pc := 255) (v := (1 : Int32)) (l' := [(3, q_I (l3 + (1 : Int32))), (0, q_R l0), (1, q_I l1), (2, q_I l2), (4, q_I l4), (5, q_I l5)]) C 3 rfl dX13_words_255 (by decide) (by decide) rfl ?_
  refine q_iinc (pc := 258) (v := (1 : Int32)) (l' := [(4, q_I (l4 + (1 : Int32))), (3, q_I (l3 + (1 : Int32))), (0, q_R l0), (1, q_I l1), (2, q_I l2), (5, q_I l5)]) C 4 rfl dX13_words_258 (by decide) (by decide) rfl ?_
  refine q_iinc (pc := 261) (v := (1 : Int32)) (l' := [(5, q_I (l5 + (1 : Int32))), (4, q_I (l4 + (1 : Int32))), (3, q_I (l3 + (1 : Int32))), (0, q_R l0), (1, q_I l1), (2, q_I l2)]) C 5 rfl dX13_words_261 (by decide) (by decide) rfl ?_
  refine q_goto (pc := 264) (tgt := 155) C dX13_words_264 (by decide) ?_
  refine q_W.sub [3, 4, 5, 2, 1, 0] rfl ?_
  exact hr155 l0 l1 l2 (l3 + (1 : Int32)) (l4 + (1 : Int32)) (l5 + (1 : Int32)) _ h
def F_X13_words_254 (κ : Nat → Nat) (r31 : Option Nat → Int32 → Int32 → Int32 → Int32 → q_X Unit) (r155 : Option Nat → Int32 → Int32 → Int32 → Int32 → Int32 → q_X Unit) (l0 : Option Nat) (l1 : Int32) (l2 : Int32) (l3 : Int32) (l4 : Int32) (l5 : Int32) (s0 : Option Nat) (s1 : Int32) (s2 : Int32) : q_X Unit :=
  q_wr (q_sI 1 s0 s1 s2) (F_X13_words_255 κ r31 r155 l0 l1 l2 l3 l4 l5)
theorem M_X13_words_254 (κ : Nat → Nat) (r31 : Option Nat → Int32 → Int32 → Int32 → Int32 → q_X Unit) (mr31 : ∀ (l0 : Option Nat) (l1 : Int32) (l2 : Int32) (l3 : Int32) (l4 : Int32), q_mo (r31 l0 l1 l2 l3 l4)) (r155 : Option Nat → Int32 → Int32 → Int32 → Int32 → Int32 → q_X Unit) (mr155 : ∀ (l0 : Option Nat) (l1 : Int32) (l2 : Int32) (l3 : Int32) (l4 : Int32) (l5 : Int32), q_mo (r155 l0 l1 l2 l3 l4 l5)) (l0 : Option Nat) (l1 : Int32) (l2 : Int32) (l3 : Int32) (l4 : Int32) (l5 : Int32) (s0 : Option Nat) (s1 : Int32) (s2 : Int32) : q_mo (F_X13_words_254 κ r31 r155 l0 l1 l2 l3 l4 l5 s0 s1 s2) := (q_mo_wr (M_X13_words_255 κ r31 mr31 r155 mr155 l0 l1 l2 l3 l4 l5))
set_option maxRecDepth 100000 in
set_option maxHeartbeats 4000000 in
theorem S_X13_words_254 {E : q_Ev} {Γ : q_Gm} {w : (Unit ⊕ q_Exn) × q_St} (B : q_Bd E Γ cX13_words yX13_words.cls 12 6 138 (none) yX13_words.name w) (hT : q_nT Γ) (r31 : Option Nat → Int32 → Int32 → Int32 → Int32 → q_X Unit) (hr31 : ∀ (l0 : Option Nat) (l1 : Int32) (l2 : Int32) (l3 : Int32) (l4 : Int32) (σ : q_St), r31 l0 l1 l2 l3 l4 σ = some w → q_W E Γ (q_QF E Γ q_oV w) 12 σ 31 [(0, q_R l0), (1, q_I l1), (2, q_I l2), (3, q_I l3), (4, q_I l4)] []) (mr31 : ∀ (l0 : Option Nat) (l1 : Int32) (l2 : Int32) (l3 : Int32) (l4 : Int32), q_mo (r31 l0 l1 l2 l3 l4)) (r155 : Option Nat → Int32 → Int32 → Int32 → Int32 → Int32 → q_X Unit) (hr155 : ∀ (l0 : Option Nat) (l1 : Int32) (l2 : Int32) (l3 : Int32) (l4 : Int32) (l5 : Int32) (σ : q_St), r155 l0 l1 l2 l3 l4 l5 σ = some w → q_W E Γ (q_QF E Γ q_oV w) 12 σ 155 [(0, q_R l0), (1, q_I l1), (2, q_I l2), (3, q_I l3), (4, q_I l4), (5, q_I l5)] []) (mr155 : ∀ (l0 : Option Nat) (l1 : Int32) (l2 : Int32) (l3 : Int32) (l4 : Int32) (l5 : Int32), q_mo (r155 l0 l1 l2 l3 l4 l5)) (l0 : Option Nat) (l1 : Int32) (l2 : Int32) (l3 : Int32) (l4 : Int32) (l5 : Int32) (s0 : Option Nat) (s1 : Int32) (s2 : Int32) (σ : q_St) (h : F_X13_words_254 (q_kap E) r31 r155 l0 l1 l2 l3 l4 l5 s0 s1 s2 σ = some w) : q_W E Γ (q_QF E Γ q_oV w) 12 σ 254 [(0, q_R l0), (1, q_I l1), (2, q_I l2), (3, q_I l3), (4, q_I l4), (5, q_I l5)] [q_I s2, q_I s1, q_R s0] := by
  have C := B.1
  unfold F_X13_words_254 at h
  refine q_stI (pc := 254) C dX13_words_254 h (fun M254 h => ?_)
  exact S_X13_words_255 B hT r31 hr31 mr31 r155 hr155 mr155 l0 l1 l2 l3 l4 l5 _ h
def F_X13_words_215 (κ : Nat → Nat) (r31 : Option Nat → Int32 → Int32 → Int32 → Int32 → q_X Unit) (r155 : Option Nat → Int32 → Int32 → Int32 → Int32 → Int32 → q_X Unit) (l0 : Option Nat) (l1 : Int32) (l2 : Int32) (l3 : Int32) (l4 : Int32) (l5 : Int32) (l6 : Int32) : q_X Unit :=
  q_rd (q_gI l0 16 21) fun v217 => q_br (v217 ≤ l3) (F_X13_words_255 κ r31 r155 l0 l1 l2 l3 l4 l5) (q_rd (q_gA l0 16 38) fun v224 => q_rd (q_gI l0 16 21) fun v234 => q_br (¬ l6 = (48 : Int32)) (F_X13_words_254 κ r31 r155 l0 l1 l2 l3 l4 l5 v224 ((((160 : Int32) * l1) + (l2 * v234)) + l3) (-2 : Int32)) (F_X13_words_254 κ r31 r155 l0 l1 l2 l3 l4 l5 v224 ((((160 : Int32) * l1) + (l2 * v234)) + l3) (-1 : Int32)))
theorem M_X13_words_215 (κ : Nat → Nat) (r31 : Option Nat → Int32 → Int32 → Int32 → Int32 → q_X Unit) (mr31 : ∀ (l0 : Option Nat) (l1 : Int32) (l2 : Int32) (l3 : Int32) (l4 : Int32), q_mo (r31 l0 l1 l2 l3 l4)) (r155 : Option Nat → Int32 → Int32 → Int32 → Int32 → Int32 → q_X Unit) (mr155 : ∀ (l0 : Option Nat) (l1 : Int32) (l2 : Int32) (l3 : Int32) (l4 : Int32) (l5 : Int32), q_mo (r155 l0 l1 l2 l3 l4 l5)) (l0 : Option Nat) (l1 : Int32) (l2 : Int32) (l3 : Int32) (l4 : Int32) (l5 : Int32) (l6 : Int32) : q_mo (F_X13_words_215 κ r31 r155 l0 l1 l2 l3 l4 l5 l6) := (q_mo_rd fun v217 => (q_mo_br (M_X13_words_255 κ r31 mr31 r155 mr155 l0 l1 l2 l3 l4 l5) (q_mo_rd fun v224 => (q_mo_rd fun v234 => (q_mo_br (M_X13_words_254 κ r31 mr31 r155 mr155 l0 l1 l2 l3 l4 l5 v224 ((((160 : Int32) * l1) + (l2 * v234)) + l3) (-2 : Int32)) (M_X13_words_254 κ r31 mr31 r155 mr155 l0 l1 l2 l3 l4 l5 v224 ((((160 : Int32) * l1) + (l2 * v234)) + l3) (-1 : Int32)))))))
set_option maxRecDepth 100000 in
set_option maxHeartbeats 4000000 in
theorem S_X13_words_215 {E : q_Ev} {Γ : q_Gm} {w : (Unit ⊕ q_Exn) × q_St} (B : q_Bd E Γ cX13_words yX13_words.cls 12 6 138 (none) yX13_words.name w) (hT : q_nT Γ) (r31 : Option Nat → Int32 → Int32 → Int32 → Int32 → q_X Unit) (hr31 : ∀ (l0 : Option Nat) (l1 : Int32) (l2 : Int32) (l3 : Int32) (l4 : Int32) (σ : q_St), r31 l0 l1 l2 l3 l4 σ = some w → q_W E Γ (q_QF E Γ q_oV w) 12 σ 31 [(0, q_R l0), (1, q_I l1), (2, q_I l2), (3, q_I l3), (4, q_I l4)] []) (mr31 : ∀ (l0 : Option Nat) (l1 : Int32) (l2 : Int32) (l3 : Int32) (l4 : Int32), q_mo (r31 l0 l1 l2 l3 l4)) (r155 : Option Nat → Int32 → Int32 → Int32 → Int32 → Int32 → q_X Unit) (hr155 : ∀ (l0 : Option Nat) (l1 : Int32) (l2 : Int32) (l3 : Int32) (l4 : Int32) (l5 : Int32) (σ : q_St), r155 l0 l1 l2 l3 l4 l5 σ = some w → q_W E Γ (q_QF E Γ q_oV w) 12 σ 155 [(0, q_R l0), (1, q_I l1), (2, q_I l2), (3, q_I l3), (4, q_I l4), (5, q_I l5)] []) (mr155 : ∀ (l0 : Option Nat) (l1 : Int32) (l2 : Int32) (l3 : Int32) (l4 : Int32) (l5 : Int32), q_mo (r155 l0 l1 l2 l3 l4 l5)) (l0 : Option Nat) (l1 : Int32) (l2 : Int32) (l3 : Int32) (l4 : Int32) (l5 : Int32) (l6 : Int32) (σ : q_St) (h : F_X13_words_215 (q_kap E) r31 r155 l0 l1 l2 l3 l4 l5 l6 σ = some w) : q_W E Γ (q_QF E Γ q_oV w) 12 σ 215 [(0, q_R l0), (1, q_I l1), (2, q_I l2), (3, q_I l3), (4, q_I l4), (5, q_I l5), (6, q_I l6)] [] := by
  have C := B.1
  unfold F_X13_words_215 at h
  refine q_iload_n (pc := 215) C 3 rfl dX13_words_215 rfl ?_
  refine q_aload_n (pc := 216) C 0 rfl dX13_words_216 rfl ?_
  refine q_getI (pc := 217) C dX13_words_217 ql_X13_217 h (fun v217 h => ?_)
  refine q_icmp_ge (pc := 220) (tgt := 255) C dX13_words_220 (by decide) h (fun _ h => ?_) (fun _ h => ?_)
  · refine q_W.sub [0, 1, 2, 3, 4, 5] rfl ?_
    exact S_X13_words_255 B hT r31 hr31 mr31 r155 hr155 mr155 l0 l1 l2 l3 l4 l5 _ h
  · refine q_aload_n (pc := 223) C 0 rfl dX13_words_223 rfl ?_
    refine q_getA (pc := 224) C dX13_words_224 ql_X13_92 h (fun v224 h => ?_)
    refine q_sipush (pc := 227) (v := (160 : Int32)) C dX13_words_227 (by decide) ?_
    refine q_iload_n (pc := 230) C 1 rfl dX13_words_230 rfl ?_
    refine q_imul (pc := 231) C dX13_words_231 ?_
    refine q_iload_n (pc := 232) C 2 rfl dX13_words_232 rfl ?_
    refine q_aload_n (pc := 233) C 0 rfl dX13_words_233 rfl ?_
    refine q_getI (pc := 234) C dX13_words_234 ql_X13_217 h (fun v234 h => ?_)
    refine q_imul (pc := 237) C dX13_words_237 ?_
    refine q_iadd (pc := 238) C dX13_words_238 ?_
    refine q_iload_n (pc := 239) C 3 rfl dX13_words_239 rfl ?_
    refine q_iadd (pc := 240) C dX13_words_240 ?_
    refine q_iload (pc := 241) C 6 rfl dX13_words_241 ?_
    refine q_bipush (pc := 243) (v := (48 : Int32)) C dX13_words_243 (by decide) ?_
    refine q_icmp_ne (pc := 245) (tgt := 252) C dX13_words_245 (by decide) h (fun _ h => ?_) (fun _ h => ?_)
    · refine q_bipush (pc := 252) (v := (-2 : Int32)) C dX13_words_252 (by decide) ?_
      refine q_W.sub [0, 1, 2, 3, 4, 5] rfl ?_
      exact S_X13_words_254 B hT r31 hr31 mr31 r155 hr155 mr155 l0 l1 l2 l3 l4 l5 v224 ((((160 : Int32) * l1) + (l2 * v234)) + l3) (-2 : Int32) _ h
    · refine q_iconst (pc := 248) (v := (-1 : Int32)) C dX13_words_248 (by decide) ?_
      refine q_goto (pc := 249) (tgt := 254) C dX13_words_249 (by decide) ?_
      refine q_W.sub [0, 1, 2, 3, 4, 5] rfl ?_
      exact S_X13_words_254 B hT r31 hr31 mr31 r155 hr155 mr155 l0 l1 l2 l3 l4 l5 v224 ((((160 : Int32) * l1) + (l2 * v234)) + l3) (-1 : Int32) _ h
def F_X13_words_155B (κ : Nat → Nat) (r31 : Option Nat → Int32 → Int32 → Int32 → Int32 → q_X Unit) (r155 : Option Nat → Int32 → Int32 → Int32 → Int32 → Int32 → q_X Unit) (l0 : Option Nat) (l1 : Int32) (l2 : Int32) (l3 : Int32) (l4 : Int32) (l5 : Int32) : q_X Unit :=
  q_rd (q_gA l0 16 11) fun v158 => q_rd (q_gI l0 16 15) fun v162 => q_rd (q_lI 1 v158 v162) fun v165 => q_br (v165 ≤ l5) (q_rd (q_gI l0 16 15) fun v269 => q_wr (q_pF l0 16 15 (.int (v269 + (1 : Int32)))) (r31 l0 l1 l2 l3 l4)) (q_rd (q_gA l0 16 1) fun v170 => q_rd (q_gA l0 16 10) fun v174 => q_rd (q_gI l0 16 15) fun v178 => q_rd (q_lI 1 v174 v178) fun v181 => q_rd (q_lI 0 v170 (v181 + l5)) fun v185 => q_br (v185 = (48 : Int32)) (F_X13_words_215 κ r31 r155 l0 l1 l2 l3 l4 l5 v185) (q_br (v185 = (49 : Int32)) (F_X13_words_215 κ r31 r155 l0 l1 l2 l3 l4 l5 v185) (q_mk (.inr (.inl (15, [.null, .null, .null, .null, .null, .int 0, .int 0, .int 0]))) 8 fun a202 => q_rd (q_gI l0 16 15) fun v208 => q_gd (¬ (some a202) = none) (q_ca (F_X12_init κ (some a202) (3 : Int32) v208) fun _v211 => q_rd (q_is (some a202) 15) fun _ => q_tr RX12 (some a202)))))
theorem M_X13_words_155B (κ : Nat → Nat) (r31 : Option Nat → Int32 → Int32 → Int32 → Int32 → q_X Unit) (mr31 : ∀ (l0 : Option Nat) (l1 : Int32) (l2 : Int32) (l3 : Int32) (l4 : Int32), q_mo (r31 l0 l1 l2 l3 l4)) (r155 : Option Nat → Int32 → Int32 → Int32 → Int32 → Int32 → q_X Unit) (mr155 : ∀ (l0 : Option Nat) (l1 : Int32) (l2 : Int32) (l3 : Int32) (l4 : Int32) (l5 : Int32), q_mo (r155 l0 l1 l2 l3 l4 l5)) (l0 : Option Nat) (l1 : Int32) (l2 : Int32) (l3 : Int32) (l4 : Int32) (l5 : Int32) : q_mo (F_X13_words_155B κ r31 r155 l0 l1 l2 l3 l4 l5) := (q_mo_rd fun v158 => (q_mo_rd fun v162 => (q_mo_rd fun v165 => (q_mo_br (q_mo_rd fun v269 => (q_mo_wr (mr31 l0 l1 l2 l3 l4))) (q_mo_rd fun v170 => (q_mo_rd fun v174 => (q_mo_rd fun v178 => (q_mo_rd fun v181 => (q_mo_rd fun v185 => (q_mo_br (M_X13_words_215 κ r31 mr31 r155 mr155 l0 l1 l2 l3 l4 l5 v185) (q_mo_br (M_X13_words_215 κ r31 mr31 r155 mr155 l0 l1 l2 l3 l4 l5 v185) (q_mo_mk fun a202 => (q_mo_rd fun v208 => (q_mo_gd (q_mo_ca (M_X12_init κ (some a202) (3 : Int32) v208) fun _v211 => (q_mo_rd fun _ => q_mo_tr))))))))))))))))
set_option maxRecDepth 100000 in
set_option maxHeartbeats 4000000 in
theorem S_X13_words_155B {E : q_Ev} {Γ : q_Gm} {w : (Unit ⊕ q_Exn) × q_St} (B : q_Bd E Γ cX13_words yX13_words.cls 12 6 138 (none) yX13_words.name w) (hT : q_nT Γ) (r31 : Option Nat → Int32 → Int32 → Int32 → Int32 → q_X Unit) (hr31 : ∀ (l0 : Option Nat) (l1 : Int32) (l2 : Int32) (l3 : Int32) (l4 : Int32) (σ : q_St), r31 l0 l1 l2 l3 l4 σ = some w → q_W E Γ (q_QF E Γ q_oV w) 12 σ 31 [(0, q_R l0), (1, q_I l1), (2, q_I l2), (3, q_I l3), (4, q_I l4)] []) (mr31 : ∀ (l0 : Option Nat) (l1 : Int32) (l2 : Int32) (l3 : Int32) (l4 : Int32), q_mo (r31 l0 l1 l2 l3 l4)) (r155 : Option Nat → Int32 → Int32 → Int32 → Int32 → Int32 → q_X Unit) (hr155 : ∀ (l0 : Option Nat) (l1 : Int32) (l2 : Int32) (l3 : Int32) (l4 : Int32) (l5 : Int32) (σ : q_St), r155 l0 l1 l2 l3 l4 l5 σ = some w → q_W E Γ (q_QF E Γ q_oV w) 12 σ 155 [(0, q_R l0), (1, q_I l1), (2, q_I l2), (3, q_I l3), (4, q_I l4), (5, q_I l5)] []) (mr155 : ∀ (l0 : Option Nat) (l1 : Int32) (l2 : Int32) (l3 : Int32) (l4 : Int32) (l5 : Int32), q_mo (r155 l0 l1 l2 l3 l4 l5)) (l0 : Option Nat) (l1 : Int32) (l2 : Int32) (l3 : Int32) (l4 : Int32) (l5 : Int32) (σ : q_St) (h : F_X13_words_155B (q_kap E) r31 r155 l0 l1 l2 l3 l4 l5 σ = some w) : q_W E Γ (q_QF E Γ q_oV w) 12 σ 155 [(0, q_R l0), (1, q_I l1), (2, q_I l2), (3, q_I l3), (4, q_I l4), (5, q_I l5)] [] := by
  have C := B.1
  unfold F_X13_words_155B at h
  refine q_iload (pc := 155) C 5 rfl dX13_words_155 ?_
  refine q_aload_n (pc := 157) C 0 rfl dX13_words_157 rfl ?_
  refine q_getA (pc := 158) C dX13_words_158 ql_X13_33 h (fun v158 h => ?_)
  refine q_aload_n (pc := 161) C 0 rfl dX13_words_161 rfl ?_
  refine q_getI (pc := 162) C dX13_words_162 ql_X13_206 h (fun v162 h => ?_)
  refine q_ldI (pc := 165) C dX13_words_165 (Or.inr (Or.inl ⟨rfl, rfl⟩)) h (fun v165 h => ?_)
  refine q_icmp_ge (pc := 166) (tgt := 267) C dX13_words_166 (by decide) h (fun _ h => ?_) (fun _ h => ?_)
  · refine q_aload_n (pc := 267) C 0 rfl dX13_words_267 rfl ?_
    refine q_dup (pc := 268) C dX13_words_268 rfl ?_
    refine q_getI (pc := 269) C dX13_words_269 ql_X13_206 h (fun v269 h => ?_)
    refine q_iconst (pc := 272) (v := (1 : Int32)) C dX13_words_272 (by decide) ?_
    refine q_iadd (pc := 273) C dX13_words_273 ?_
    refine q_putV (pc := 274) (v := q_I (v269 + (1 : Int32))) C dX13_words_274 ql_X13_206 (Or.inl rfl) rfl rfl h (fun M274 h => ?_)
    refine q_goto (pc := 277) (tgt := 31) C dX13_words_277 (by decide) ?_
    refine q_W.sub [0, 1, 2, 3, 4] rfl ?_
    exact hr31 l0 l1 l2 l3 l4 _ h
  · refine q_aload_n (pc := 169) C 0 rfl dX13_words_169 rfl ?_
    refine q_getA (pc := 170) C dX13_words_170 ql_X13_13 h (fun v170 h => ?_)
    refine q_aload_n (pc := 173) C 0 rfl dX13_words_173 rfl ?_
    refine q_getA (pc := 174) C dX13_words_174 ql_X13_30 h (fun v174 h => ?_)
    refine q_aload_n (pc := 177) C 0 rfl dX13_words_177 rfl ?_
    refine q_getI (pc := 178) C dX13_words_178 ql_X13_206 h (fun v178 h => ?_)
    refine q_ldI (pc := 181) C dX13_words_181 (Or.inr (Or.inl ⟨rfl, rfl⟩)) h (fun v181 h => ?_)
    refine q_iload (pc := 182) C 5 rfl dX13_words_182 ?_
    refine q_iadd (pc := 184) C dX13_words_184 ?_
    refine q_ldI (pc := 185) C dX13_words_185 (Or.inl ⟨rfl, rfl⟩) h (fun v185 h => ?_)
    refine q_istore (pc := 186) (l' := [(6, q_I v185), (0, q_R l0), (1, q_I l1), (2, q_I l2), (3, q_I l3), (4, q_I l4), (5, q_I l5)]) C dX13_words_186 (by decide) rfl ?_
    refine q_iload (pc := 188) C 0 rfl dX13_words_188 ?_
    refine q_bipush (pc := 190) (v := (48 : Int32)) C dX13_words_190 (by decide) ?_
    refine q_icmp_eq (pc := 192) (tgt := 215) C dX13_words_192 (by decide) h (fun _ h => ?_) (fun _ h => ?_)
    · refine q_W.sub [1, 2, 3, 4, 5, 6, 0] rfl ?_
      exact S_X13_words_215 B hT r31 hr31 mr31 r155 hr155 mr155 l0 l1 l2 l3 l4 l5 v185 _ h
    · refine q_iload (pc := 195) C 0 rfl dX13_words_195 ?_
      refine q_bipush (pc := 197) (v := (49 : Int32)) C dX13_words_197 (by decide) ?_
      refine q_icmp_eq (pc := 199) (tgt := 215) C dX13_words_199 (by decide) h (fun _ h => ?_) (fun _ h => ?_)
      · refine q_W.sub [1, 2, 3, 4, 5, 6, 0] rfl ?_
        exact S_X13_words_215 B hT r31 hr31 mr31 r155 hr155 mr155 l0 l1 l2 l3 l4 l5 v185 _ h
      · refine q_new (pc := 202) C dX13_words_202 qn_X13_209 (by exact fun a202 => (q_mo_rd fun v208 => (q_mo_gd (q_mo_ca (M_X12_init (q_kap E) (some a202) (3 : Int32) v208) fun _v211 => (q_mo_rd fun _ => q_mo_tr))))) B.2.1 h (fun a202 σ h => ?_)
        refine q_dup (pc := 205) C dX13_words_205 rfl ?_
        refine q_iconst (pc := 206) (v := (3 : Int32)) C dX13_words_206 (by decide) ?_
        refine q_aload_n (pc := 207) C 1 rfl dX13_words_207 rfl ?_
        refine q_getI (pc := 208) C dX13_words_208 ql_X13_206 h (fun v208 h => ?_)
        refine q_callI (pc := 211) (As := [q_I (3 : Int32), q_I v208]) (st := [q_R (some a202)]) C B.2.1 (fun _ => rfl) qm_X13_211 qI_X12_init dX13_words_211 rfl rfl (Nat.le_of_ble_eq_true rfl) (q_flo B.2.2.1 B.2.2.2.1 (by decide) (by decide)) (K_X12_init (some a202) (3 : Int32) v208) (M_X12_init (q_kap E) (some a202) (3 : Int32) v208) (N_X12_init (q_kap E) (some a202) (3 : Int32) v208) (by exact fun _v211 => (q_mo_rd fun _ => q_mo_tr)) h (fun _v211 σ h => ?_)
        exact q_athrow (pc := 214) (ci := 15) C hT rfl dX13_words_214 h
def F_X13_words_155 (κ : Nat → Nat) (r31 : Option Nat → Int32 → Int32 → Int32 → Int32 → q_X Unit) : Nat → Option Nat → Int32 → Int32 → Int32 → Int32 → Int32 → q_X Unit
  | 0, _, _, _, _, _, _ => q_no
  | n + 1, l0, l1, l2, l3, l4, l5 => F_X13_words_155B κ r31 (F_X13_words_155 κ r31 n) l0 l1 l2 l3 l4 l5
theorem M_X13_words_155 (κ : Nat → Nat) (r31 : Option Nat → Int32 → Int32 → Int32 → Int32 → q_X Unit) (mr31 : ∀ (l0 : Option Nat) (l1 : Int32) (l2 : Int32) (l3 : Int32) (l4 : Int32), q_mo (r31 l0 l1 l2 l3 l4)) : ∀ (n : Nat) (l0 : Option Nat) (l1 : Int32) (l2 : Int32) (l3 : Int32) (l4 : Int32) (l5 : Int32), q_mo (F_X13_words_155 κ r31 n l0 l1 l2 l3 l4 l5)
  | 0, _, _, _, _, _, _ => q_mo_no
  | n + 1, l0, l1, l2, l3, l4, l5 => M_X13_words_155B κ r31 mr31 (F_X13_words_155 κ r31 n) (M_X13_words_155 κ r31 mr31 n) l0 l1 l2 l3 l4 l5
theorem S_X13_words_155 {E : q_Ev} {Γ : q_Gm} {w : (Unit ⊕ q_Exn) × q_St} (B : q_Bd E Γ cX13_words yX13_words.cls 12 6 138 (none) yX13_words.name w) (hT : q_nT Γ) (r31 : Option Nat → Int32 → Int32 → Int32 → Int32 → q_X Unit) (hr31 : ∀ (l0 : Option Nat) (l1 : Int32) (l2 : Int32) (l3 : Int32) (l4 : Int32) (σ : q_St), r31 l0 l1 l2 l3 l4 σ = some w → q_W E Γ (q_QF E Γ q_oV w) 12 σ 31 [(0, q_R l0), (1, q_I l1), (2, q_I l2), (3, q_I l3), (4, q_I l4)] []) (mr31 : ∀ (l0 : Option Nat) (l1 : Int32) (l2 : Int32) (l3 : Int32) (l4 : Int32), q_mo (r31 l0 l1 l2 l3 l4)) : ∀ (n : Nat) (l0 : Option Nat) (l1 : Int32) (l2 : Int32) (l3 : Int32) (l4 : Int32) (l5 : Int32) (σ : q_St), F_X13_words_155 (q_kap E) r31 n l0 l1 l2 l3 l4 l5 σ = some w → q_W E Γ (q_QF E Γ q_oV w) 12 σ 155 [(0, q_R l0), (1, q_I l1), (2, q_I l2), (3, q_I l3), (4, q_I l4), (5, q_I l5)] []
  | 0, _, _, _, _, _, _, _, h => by cases h
  | n + 1, l0, l1, l2, l3, l4, l5, σ, h => S_X13_words_155B B hT r31 hr31 mr31 (F_X13_words_155 (q_kap E) r31 n) (S_X13_words_155 B hT r31 hr31 mr31 n) (M_X13_words_155 (q_kap E) r31 mr31 n) l0 l1 l2 l3 l4 l5 σ h
def F_X13_words_520 (κ : Nat → Nat) (r31 : Option Nat → Int32 → Int32 → Int32 → Int32 → q_X Unit) (r461 : Option Nat → Int32 → Int32 → Int32 → Int32 → Int32 → Int32 → Int32 → q_X Unit) (l0 : Option Nat) (l1 : Int32) (l2 : Int32) (l3 : Int32) (l4 : Int32) (l7 : Int32) (l10 : Int32) (l11 : Int32) : q_X Unit :=
  r461 l0 l1 l2 (l3 + (1 : Int32)) l4 l7 l10 (l11 + (-1 : Int32))
theorem M_X13_words_520 (κ : Nat → Nat) (r31 : Option Nat → Int32 → Int32 → Int32 → Int32 → q_X Unit) (mr31 : ∀ (l0 : Option Nat) (l1 : Int32) (l2 : Int32) (l3 : Int32) (l4 : Int32), q_mo (r31 l0 l1 l2 l3 l4)) (r461 : Option Nat → Int32 → Int32 → Int32 → Int32 → Int32 → Int32 → Int32 → q_X Unit) (mr461 : ∀ (l0 : Option Nat) (l1 : Int32) (l2 : Int32) (l3 : Int32) (l4 : Int32) (l7 : Int32) (l10 : Int32) (l11 : Int32), q_mo (r461 l0 l1 l2 l3 l4 l7 l10 l11)) (l0 : Option Nat) (l1 : Int32) (l2 : Int32) (l3 : Int32) (l4 : Int32) (l7 : Int32) (l10 : Int32) (l11 : Int32) : q_mo (F_X13_words_520 κ r31 r461 l0 l1 l2 l3 l4 l7 l10 l11) := (mr461 l0 l1 l2 (l3 + (1 : Int32)) l4 l7 l10 (l11 + (-1 : Int32)))
set_option maxRecDepth 100000 in
set_option maxHeartbeats 4000000 in
theorem S_X13_words_520 {E : q_Ev} {Γ : q_Gm} {w : (Unit ⊕ q_Exn) × q_St} (B : q_Bd E Γ cX13_words yX13_words.cls 12 6 138 (none) yX13_words.name w) (hT : q_nT Γ) (r31 : Option Nat → Int32 → Int32 → Int32 → Int32 → q_X Unit) (hr31 : ∀ (l0 : Option Nat) (l1 : Int32) (l2 : Int32) (l3 : Int32) (l4 : Int32) (σ : q_St), r31 l0 l1 l2 l3 l4 σ = some w → q_W E Γ (q_QF E Γ q_oV w) 12 σ 31 [(0, q_R l0), (1, q_I l1), (2, q_I l2), (3, q_I l3), (4, q_I l4)] []) (mr31 : ∀ (l0 : Option Nat) (l1 : Int32) (l2 : Int32) (l3 : Int32) (l4 : Int32), q_mo (r31 l0 l1 l2 l3 l4)) (r461 : Option Nat → Int32 → Int32 → Int32 → Int32 → Int32 → Int32 → Int32 → q_X Unit) (hr461 : ∀ (l0 : Option Nat) (l1 : Int32) (l2 : Int32) (l3 : Int32) (l4 : Int32) (l7 : Int32) (l10 : Int32) (l11 : Int32) (σ : q_St), r461 l0 l1 l2 l3 l4 l7 l10 l11 σ = some w → q_W E Γ (q_QF E Γ q_oV w) 12 σ 461 [(0, q_R l0), (1, q_I l1), (2, q_I l2), (3, q_I l3), (4, q_I l4), (7, q_I l7), (10, q_I l10), (11, q_I l11)] []) (mr461 : ∀ (l0 : Option Nat) (l1 : Int32) (l2 : Int32) (l3 : Int32) (l4 : Int32) (l7 : Int32) (l10 : Int32) (l11 : Int32), q_mo (r461 l0 l1 l2 l3 l4 l7 l10 l11)) (l0 : Option Nat) (l1 : Int32) (l2 : Int32) (l3 : Int32) (l4 : Int32) (l7 : Int32) (l10 : Int32) (l11 : Int32) (σ : q_St) (h : F_X13_words_520 (q_kap E) r31 r461 l0 l1 l2 l3 l4 l7 l10 l11 σ = some w) : q_W E Γ (q_QF E Γ q_oV w) 12 σ 520 [(0, q_R l0), (1, q_I l1), (2, q_I l2), (3, q_I l3), (4, q_I l4), (7, q_I l7), (10, q_I l10), (11, q_I l11)] [] := by
  have C := B.1
  unfold F_X13_words_520 at h
  refine q_iinc (pc := 520) (v := (1 : Int32)) (l' := [(3, q_I (l3 + (1 : Int32))), (0, q_R l0), (1, q_I l1), (2, q_I l2), (4, q_I l4), (7, q_I l7), (10, q_I l10), (11, q_I l11)]) C 3 rfl dX13_words_520 (by decide) (by decide) rfl ?_
  refine q_iinc (pc := 523) (v := (-1 : Int32)) (l' := [(11, q_I (l11 + (-1 : Int32))), (3, q_I (l3 + (1 : Int32))), (0, q_R l0), (1, q_I l1), (2, q_I l2), (4, q_I l4), (7, q_I l7), (10, q_I l10)]) C 7 rfl dX13_words_523 (by decide) (by decide) rfl ?_
  refine q_goto (pc := 526) (tgt := 461) C dX13_words_526 (by decide) ?_
  refine q_W.sub [2, 3, 4, 1, 5, 6, 7, 0] rfl ?_
  exact hr461 l0 l1 l2 (l3 + (1 : Int32)) l4 l7 l10 (l11 + (-1 : Int32)) _ h
def F_X13_words_461B (κ : Nat → Nat) (r31 : Option Nat → Int32 → Int32 → Int32 → Int32 → q_X Unit) (r461 : Option Nat → Int32 → Int32 → Int32 → Int32 → Int32 → Int32 → Int32 → q_X Unit) (l0 : Option Nat) (l1 : Int32) (l2 : Int32) (l3 : Int32) (l4 : Int32) (l7 : Int32) (l10 : Int32) (l11 : Int32) : q_X Unit :=
  q_br (l11 < l10) (r31 l0 l1 l2 l3 l4) (q_rd (q_gA l0 16 39) fun v469 => q_rd (q_lI 1 v469 (((32 : Int32) * l7) + l11)) fun v481 => q_wr (q_sI 1 v469 (((32 : Int32) * l7) + l11) (v481 + (1 : Int32))) (q_rd (q_gI l0 16 21) fun v487 => q_br (v487 ≤ l3) (F_X13_words_520 κ r31 r461 l0 l1 l2 l3 l4 l7 l10 l11) (q_rd (q_gA l0 16 38) fun v494 => q_rd (q_gI l0 16 21) fun v504 => q_wr (q_sI 1 v494 ((((160 : Int32) * l1) + (l2 * v504)) + l3) (((32 : Int32) * l7) + l11)) (F_X13_words_520 κ r31 r461 l0 l1 l2 l3 l4 l7 l10 l11))))
theorem M_X13_words_461B (κ : Nat → Nat) (r31 : Option Nat → Int32 → Int32 → Int32 → Int32 → q_X Unit) (mr31 : ∀ (l0 : Option Nat) (l1 : Int32) (l2 : Int32) (l3 : Int32) (l4 : Int32), q_mo (r31 l0 l1 l2 l3 l4)) (r461 : Option Nat → Int32 → Int32 → Int32 → Int32 → Int32 → Int32 → Int32 → q_X Unit) (mr461 : ∀ (l0 : Option Nat) (l1 : Int32) (l2 : Int32) (l3 : Int32) (l4 : Int32) (l7 : Int32) (l10 : Int32) (l11 : Int32), q_mo (r461 l0 l1 l2 l3 l4 l7 l10 l11)) (l0 : Option Nat) (l1 : Int32) (l2 : Int32) (l3 : Int32) (l4 : Int32) (l7 : Int32) (l10 : Int32) (l11 : Int32) : q_mo (F_X13_words_461B κ r31 r461 l0 l1 l2 l3 l4 l7 l10 l11) := (q_mo_br (mr31 l0 l1 l2 l3 l4) (q_mo_rd fun v469 => (q_mo_rd fun v481 => (q_mo_wr (q_mo_rd fun v487 => (q_mo_br (M_X13_words_520 κ r31 mr31 r461 mr461 l0 l1 l2 l3 l4 l7 l10 l11) (q_mo_rd fun v494 => (q_mo_rd fun v504 => (q_mo_wr (M_X13_words_520 κ r31 mr31 r461 mr461 l0 l1 l2 l3 l4 l7 l10 l11))))))))))
set_option maxRecDepth 100000 in
set_option maxHeartbeats 4000000 in
theorem S_X13_words_461B {E : q_Ev} {Γ : q_Gm} {w : (Unit ⊕ q_Exn) × q_St} (B : q_Bd E Γ cX13_words yX13_words.cls 12 6 138 (none) yX13_words.name w) (hT : q_nT Γ) (r31 : Option Nat → Int32 → Int32 → Int32 → Int32 → q_X Unit) (hr31 : ∀ (l0 : Option Nat) (l1 : Int32) (l2 : Int32) (l3 : Int32) (l4 : Int32) (σ : q_St), r31 l0 l1 l2 l3 l4 σ = some w → q_W E Γ (q_QF E Γ q_oV w) 12 σ 31 [(0, q_R l0), (1, q_I l1), (2, q_I l2), (3, q_I l3), (4, q_I l4)] []) (mr31 : ∀ (l0 : Option Nat) (l1 : Int32) (l2 : Int32) (l3 : Int32) (l4 : Int32), q_mo (r31 l0 l1 l2 l3 l4)) (r461 : Option Nat → Int32 → Int32 → Int32 → Int32 → Int32 → Int32 → Int32 → q_X Unit) (hr461 : ∀ (l0 : Option Nat) (l1 : Int32) (l2 : Int32) (l3 : Int32) (l4 : Int32) (l7 : Int32) (l10 : Int32) (l11 : Int32) (σ : q_St), r461 l0 l1 l2 l3 l4 l7 l10 l11 σ = some w → q_W E Γ (q_QF E Γ q_oV w) 12 σ 461 [(0, q_R l0), (1, q_I l1), (2, q_I l2), (3, q_I l3), (4, q_I l4), (7, q_I l7), (10, q_I l10), (11, q_I l11)] []) (mr461 : ∀ (l0 : Option Nat) (l1 : Int32) (l2 : Int32) (l3 : Int32) (l4 : Int32) (l7 : Int32) (l10 : Int32) (l11 : Int32), q_mo (r461 l0 l1 l2 l3 l4 l7 l10 l11)) (l0 : Option Nat) (l1 : Int32) (l2 : Int32) (l3 : Int32) (l4 : Int32) (l7 : Int32) (l10 : Int32) (l11 : Int32) (σ : q_St) (h : F_X13_words_461B (q_kap E) r31 r461 l0 l1 l2 l3 l4 l7 l10 l11 σ = some w) : q_W E Γ (q_QF E Γ q_oV w) 12 σ 461 [(0, q_R l0), (1, q_I l1), (2, q_I l2), (3, q_I l3), (4, q_I l4), (7, q_I l7), (10, q_I l10), (11, q_I l11)] [] := by
  have C := B.1
  unfold F_X13_words_461B at h
  refine q_iload (pc := 461) C 7 rfl dX13_words_461 ?_
  refine q_iload (pc := 463) C 6 rfl dX13_words_463 ?_
  refine q_icmp_lt (pc := 465) (tgt := 529) C dX13_words_465 (by decide) h (fun _ h => ?_) (fun _ h => ?_)
  · refine q_goto (pc := 529) (tgt := 31) C dX13_words_529 (by decide) ?_
    refine q_W.sub [0, 1, 2, 3, 4] rfl ?_
    exact hr31 l0 l1 l2 l3 l4 _ h
  · refine q_aload_n (pc := 468) C 0 rfl dX13_words_468 rfl ?_
    refine q_getA (pc := 469) C dX13_words_469 ql_X13_95 h (fun v469 h => ?_)
    refine q_bipush (pc := 472) (v := (32 : Int32)) C dX13_words_472 (by decide) ?_
    refine q_iload (pc := 474) C 5 rfl dX13_words_474 ?_
    refine q_imul (pc := 476) C dX13_words_476 ?_
    refine q_iload (pc := 477) C 7 rfl dX13_words_477 ?_
    refine q_iadd (pc := 479) C dX13_words_479 ?_
    refine q_dup2_11 (pc := 480) C dX13_words_480 rfl rfl ?_
    refine q_ldI (pc := 481) C dX13_words_481 (Or.inr (Or.inl ⟨rfl, rfl⟩)) h (fun v481 h => ?_)
    refine q_iconst (pc := 482) (v := (1 : Int32)) C dX13_words_482 (by decide) ?_
    refine q_iadd (pc := 483) C dX13_words_483 ?_
    refine q_stI (pc := 484) C dX13_words_484 h (fun M484 h => ?_)
    refine q_iload_n (pc := 485) C 3 rfl dX13_words_485 rfl ?_
    refine q_aload_n (pc := 486) C 0 rfl dX13_words_486 rfl ?_
    refine q_getI (pc := 487) C dX13_words_487 ql_X13_217 h (fun v487 h => ?_)
    refine q_icmp_ge (pc := 490) (tgt := 520) C dX13_words_490 (by decide) h (fun _ h => ?_) (fun _ h => ?_)
    · exact S_X13_words_520 B hT r31 hr31 mr31 r461 hr461 mr461 l0 l1 l2 l3 l4 l7 l10 l11 _ h
    · refine q_aload_n (pc := 493) C 0 rfl dX13_words_493 rfl ?_
      refine q_getA (pc := 494) C dX13_words_494 ql_X13_92 h (fun v494 h => ?_)
      refine q_sipush (pc := 497) (v := (160 : Int32)) C dX13_words_497 (by decide) ?_
      refine q_iload_n (pc := 500) C 1 rfl dX13_words_500 rfl ?_
      refine q_imul (pc := 501) C dX13_words_501 ?_
      refine q_iload_n (pc := 502) C 2 rfl dX13_words_502 rfl ?_
      refine q_aload_n (pc := 503) C 0 rfl dX13_words_503 rfl ?_
      refine q_getI (pc := 504) C dX13_words_504 ql_X13_217 h (fun v504 h => ?_)
      refine q_imul (pc := 507) C dX13_words_507 ?_
      refine q_iadd (pc := 508) C dX13_words_508 ?_
      refine q_iload_n (pc := 509) C 3 rfl dX13_words_509 rfl ?_
      refine q_iadd (pc := 510) C dX13_words_510 ?_
      refine q_bipush (pc := 511) (v := (32 : Int32)) C dX13_words_511 (by decide) ?_
      refine q_iload (pc := 513) C 5 rfl dX13_words_513 ?_
      refine q_imul (pc := 515) C dX13_words_515 ?_
      refine q_iload (pc := 516) C 7 rfl dX13_words_516 ?_
      refine q_iadd (pc := 518) C dX13_words_518 ?_
      refine q_stI (pc := 519) C dX13_words_519 h (fun M519 h => ?_)
      exact S_X13_words_520 B hT r31 hr31 mr31 r461 hr461 mr461 l0 l1 l2 l3 l4 l7 l10 l11 _ h
def F_X13_words_461 (κ : Nat → Nat) (r31 : Option Nat → Int32 → Int32 → Int32 → Int32 → q_X Unit) : Nat → Option Nat → Int32 → Int32 → Int32 → Int32 → Int32 → Int32 → Int32 → q_X Unit
  | 0, _, _, _, _, _, _, _, _ => q_no
  | n + 1, l0, l1, l2, l3, l4, l7, l10, l11 => F_X13_words_461B κ r31 (F_X13_words_461 κ r31 n) l0 l1 l2 l3 l4 l7 l10 l11
theorem M_X13_words_461 (κ : Nat → Nat) (r31 : Option Nat → Int32 → Int32 → Int32 → Int32 → q_X Unit) (mr31 : ∀ (l0 : Option Nat) (l1 : Int32) (l2 : Int32) (l3 : Int32) (l4 : Int32), q_mo (r31 l0 l1 l2 l3 l4)) : ∀ (n : Nat) (l0 : Option Nat) (l1 : Int32) (l2 : Int32) (l3 : Int32) (l4 : Int32) (l7 : Int32) (l10 : Int32) (l11 : Int32), q_mo (F_X13_words_461 κ r31 n l0 l1 l2 l3 l4 l7 l10 l11)
  | 0, _, _, _, _, _, _, _, _ => q_mo_no
  | n + 1, l0, l1, l2, l3, l4, l7, l10, l11 => M_X13_words_461B κ r31 mr31 (F_X13_words_461 κ r31 n) (M_X13_words_461 κ r31 mr31 n) l0 l1 l2 l3 l4 l7 l10 l11
theorem S_X13_words_461 {E : q_Ev} {Γ : q_Gm} {w : (Unit ⊕ q_Exn) × q_St} (B : q_Bd E Γ cX13_words yX13_words.cls 12 6 138 (none) yX13_words.name w) (hT : q_nT Γ) (r31 : Option Nat → Int32 → Int32 → Int32 → Int32 → q_X Unit) (hr31 : ∀ (l0 : Option Nat) (l1 : Int32) (l2 : Int32) (l3 : Int32) (l4 : Int32) (σ : q_St), r31 l0 l1 l2 l3 l4 σ = some w → q_W E Γ (q_QF E Γ q_oV w) 12 σ 31 [(0, q_R l0), (1, q_I l1), (2, q_I l2), (3, q_I l3), (4, q_I l4)] []) (mr31 : ∀ (l0 : Option Nat) (l1 : Int32) (l2 : Int32) (l3 : Int32) (l4 : Int32), q_mo (r31 l0 l1 l2 l3 l4)) : ∀ (n : Nat) (l0 : Option Nat) (l1 : Int32) (l2 : Int32) (l3 : Int32) (l4 : Int32) (l7 : Int32) (l10 : Int32) (l11 : Int32) (σ : q_St), F_X13_words_461 (q_kap E) r31 n l0 l1 l2 l3 l4 l7 l10 l11 σ = some w → q_W E Γ (q_QF E Γ q_oV w) 12 σ 461 [(0, q_R l0), (1, q_I l1), (2, q_I l2), (3, q_I l3), (4, q_I l4), (7, q_I l7), (10, q_I l10), (11, q_I l11)] []
  | 0, _, _, _, _, _, _, _, _, _, h => by cases h
  | n + 1, l0, l1, l2, l3, l4, l7, l10, l11, σ, h => S_X13_words_461B B hT r31 hr31 mr31 (F_X13_words_461 (q_kap E) r31 n) (S_X13_words_461 B hT r31 hr31 mr31 n) (M_X13_words_461 (q_kap E) r31 mr31 n) l0 l1 l2 l3 l4 l7 l10 l11 σ h
def F_X13_words_457 (κ : Nat → Nat) (r31 : Option Nat → Int32 → Int32 → Int32 → Int32 → q_X Unit) (l0 : Option Nat) (l1 : Int32) (l2 : Int32) (l3 : Int32) (l4 : Int32) (l7 : Int32) (l9 : Int32) (l10 : Int32) : q_X Unit :=
  F_X13_words_461 κ r31 q_fu l0 l1 l2 l3 l4 l7 l10 l9
theorem M_X13_words_457 (κ : Nat → Nat) (r31 : Option Nat → Int32 → Int32 → Int32 → Int32 → q_X Unit) (mr31 : ∀ (l0 : Option Nat) (l1 : Int32) (l2 : Int32) (l3 : Int32) (l4 : Int32), q_mo (r31 l0 l1 l2 l3 l4)) (l0 : Option Nat) (l1 : Int32) (l2 : Int32) (l3 : Int32) (l4 : Int32) (l7 : Int32) (l9 : Int32) (l10 : Int32) : q_mo (F_X13_words_457 κ r31 l0 l1 l2 l3 l4 l7 l9 l10) := (M_X13_words_461 κ r31 mr31 q_fu l0 l1 l2 l3 l4 l7 l10 l9)
set_option maxRecDepth 100000 in
set_option maxHeartbeats 4000000 in
theorem S_X13_words_457 {E : q_Ev} {Γ : q_Gm} {w : (Unit ⊕ q_Exn) × q_St} (B : q_Bd E Γ cX13_words yX13_words.cls 12 6 138 (none) yX13_words.name w) (hT : q_nT Γ) (r31 : Option Nat → Int32 → Int32 → Int32 → Int32 → q_X Unit) (hr31 : ∀ (l0 : Option Nat) (l1 : Int32) (l2 : Int32) (l3 : Int32) (l4 : Int32) (σ : q_St), r31 l0 l1 l2 l3 l4 σ = some w → q_W E Γ (q_QF E Γ q_oV w) 12 σ 31 [(0, q_R l0), (1, q_I l1), (2, q_I l2), (3, q_I l3), (4, q_I l4)] []) (mr31 : ∀ (l0 : Option Nat) (l1 : Int32) (l2 : Int32) (l3 : Int32) (l4 : Int32), q_mo (r31 l0 l1 l2 l3 l4)) (l0 : Option Nat) (l1 : Int32) (l2 : Int32) (l3 : Int32) (l4 : Int32) (l7 : Int32) (l9 : Int32) (l10 : Int32) (σ : q_St) (h : F_X13_words_457 (q_kap E) r31 l0 l1 l2 l3 l4 l7 l9 l10 σ = some w) : q_W E Γ (q_QF E Γ q_oV w) 12 σ 457 [(0, q_R l0), (1, q_I l1), (2, q_I l2), (3, q_I l3), (4, q_I l4), (7, q_I l7), (9, q_I l9), (10, q_I l10)] [] := by
  have C := B.1
  unfold F_X13_words_457 at h
  refine q_iload (pc := 457) C 6 rfl dX13_words_457 ?_
  refine q_istore (pc := 459) (l' := [(11, q_I l9), (0, q_R l0), (1, q_I l1), (2, q_I l2), (3, q_I l3), (4, q_I l4), (7, q_I l7), (9, q_I l9), (10, q_I l10)]) C dX13_words_459 (by decide) rfl ?_
  refine q_W.sub [1, 2, 3, 4, 5, 6, 8, 0] rfl ?_
  exact S_X13_words_461 B hT r31 hr31 mr31 q_fu l0 l1 l2 l3 l4 l7 l10 l9 _ h
def F_X13_words_451 (κ : Nat → Nat) (r31 : Option Nat → Int32 → Int32 → Int32 → Int32 → q_X Unit) (l0 : Option Nat) (l1 : Int32) (l2 : Int32) (l3 : Int32) (l4 : Int32) (l7 : Int32) (l9 : Int32) (l10 : Int32) : q_X Unit :=
  q_rd (q_is l0 16) fun _ => q_ca (F_X13_expect κ l0 (93 : Int32)) fun _v454 => F_X13_words_457 κ r31 l0 l1 l2 l3 l4 l7 l9 l10
theorem M_X13_words_451 (κ : Nat → Nat) (r31 : Option Nat → Int32 → Int32 → Int32 → Int32 → q_X Unit) (mr31 : ∀ (l0 : Option Nat) (l1 : Int32) (l2 : Int32) (l3 : Int32) (l4 : Int32), q_mo (r31 l0 l1 l2 l3 l4)) (l0 : Option Nat) (l1 : Int32) (l2 : Int32) (l3 : Int32) (l4 : Int32) (l7 : Int32) (l9 : Int32) (l10 : Int32) : q_mo (F_X13_words_451 κ r31 l0 l1 l2 l3 l4 l7 l9 l10) := (q_mo_rd fun _ => q_mo_ca (M_X13_expect κ l0 (93 : Int32)) fun _v454 => (M_X13_words_457 κ r31 mr31 l0 l1 l2 l3 l4 l7 l9 l10))
set_option maxRecDepth 100000 in
set_option maxHeartbeats 4000000 in
theorem S_X13_words_451 {E : q_Ev} {Γ : q_Gm} {w : (Unit ⊕ q_Exn) × q_St} (B : q_Bd E Γ cX13_words yX13_words.cls 12 6 138 (none) yX13_words.name w) (hT : q_nT Γ) (r31 : Option Nat → Int32 → Int32 → Int32 → Int32 → q_X Unit) (hr31 : ∀ (l0 : Option Nat) (l1 : Int32) (l2 : Int32) (l3 : Int32) (l4 : Int32) (σ : q_St), r31 l0 l1 l2 l3 l4 σ = some w → q_W E Γ (q_QF E Γ q_oV w) 12 σ 31 [(0, q_R l0), (1, q_I l1), (2, q_I l2), (3, q_I l3), (4, q_I l4)] []) (mr31 : ∀ (l0 : Option Nat) (l1 : Int32) (l2 : Int32) (l3 : Int32) (l4 : Int32), q_mo (r31 l0 l1 l2 l3 l4)) (l0 : Option Nat) (l1 : Int32) (l2 : Int32) (l3 : Int32) (l4 : Int32) (l7 : Int32) (l9 : Int32) (l10 : Int32) (σ : q_St) (h : F_X13_words_451 (q_kap E) r31 l0 l1 l2 l3 l4 l7 l9 l10 σ = some w) : q_W E Γ (q_QF E Γ q_oV w) 12 σ 451 [(0, q_R l0), (1, q_I l1), (2, q_I l2), (3, q_I l3), (4, q_I l4), (7, q_I l7), (9, q_I l9), (10, q_I l10)] [] := by
  have C := B.1
  unfold F_X13_words_451 at h
  refine q_aload_n (pc := 451) C 0 rfl dX13_words_451 rfl ?_
  refine q_bipush (pc := 452) (v := (93 : Int32)) C dX13_words_452 (by decide) ?_
  refine q_callV (pc := 454) (As := [q_I (93 : Int32)]) (st := []) (ps := q_psV) C B.2.1 hT q_hpV qm_X13_241 qv_X13_expect dX13_words_454 rfl rfl (Nat.le_of_ble_eq_true rfl) (q_flo B.2.2.1 B.2.2.2.1 (by decide) (by decide)) (K_X13_expect l0 (93 : Int32)) (M_X13_expect (q_kap E) l0 (93 : Int32)) (by exact fun _v454 => (M_X13_words_457 (q_kap E) r31 mr31 l0 l1 l2 l3 l4 l7 l9 l10)) h (fun _v454 σ h => ?_)
  refine q_W.st (st' := []) rfl ?_
  exact S_X13_words_457 B hT r31 hr31 mr31 l0 l1 l2 l3 l4 l7 l9 l10 _ h
def F_X13_words_330 (κ : Nat → Nat) (r31 : Option Nat → Int32 → Int32 → Int32 → Int32 → q_X Unit) (l0 : Option Nat) (l1 : Int32) (l2 : Int32) (l3 : Int32) (l4 : Int32) (l5 : Int32) (l7 : Int32) : q_X Unit :=
  q_rd (q_gA l0 16 32) fun v333 => q_rd (q_lI 1 v333 l1) fun v337 => q_br (¬ l7 = v337) (q_rd (q_gA l0 16 28) fun v353 => q_rd (q_gA l0 16 37) fun v357 => q_rd (q_lI 1 v357 (((5 : Int32) * l1) + l7)) fun v366 => q_rd (q_lI 1 v353 v366) fun v367 => q_rd (q_gI l0 16 15) fun v381 => q_rd (q_is l0 16) fun _ => q_ca (F_X13_isSign κ l0 v381 (91 : Int32)) fun v386 => q_br (v386 = 0) (F_X13_words_457 κ r31 l0 l1 l2 l3 l4 l7 (v367 - (1 : Int32)) (0 : Int32)) (q_rd (q_gI l0 16 15) fun v394 => q_wr (q_pF l0 16 15 (.int (v394 + (1 : Int32)))) (q_rd (q_is l0 16) fun _ => q_ca (F_X13_expectNumber κ l0 (0 : Int64) ((v367 - (1 : Int32)).toInt64)) fun v409 => q_rd (q_gI l0 16 15) fun v420 => q_rd (q_is l0 16) fun _ => q_ca (F_X13_isSign κ l0 v420 (58 : Int32)) fun v425 => q_br (v425 = 0) (F_X13_words_451 κ r31 l0 l1 l2 l3 l4 l7 v409 v409) (q_rd (q_gI l0 16 15) fun v433 => q_wr (q_pF l0 16 15 (.int (v433 + (1 : Int32)))) (q_rd (q_is l0 16) fun _ => q_ca (F_X13_expectNumber κ l0 (0 : Int64) v409.toInt64) fun v446 => F_X13_words_451 κ r31 l0 l1 l2 l3 l4 l7 v409 v446))))) (q_mk (.inr (.inl (15, [.null, .null, .null, .null, .null, .int 0, .int 0, .int 0]))) 8 fun a341 => q_gd (¬ (some a341) = none) (q_ca (F_X12_init κ (some a341) (2 : Int32) l5) fun _v348 => q_rd (q_is (some a341) 15) fun _ => q_tr RX12 (some a341)))
theorem M_X13_words_330 (κ : Nat → Nat) (r31 : Option Nat → Int32 → Int32 → Int32 → Int32 → q_X Unit) (mr31 : ∀ (l0 : Option Nat) (l1 : Int32) (l2 : Int32) (l3 : Int32) (l4 : Int32), q_mo (r31 l0 l1 l2 l3 l4)) (l0 : Option Nat) (l1 : Int32) (l2 : Int32) (l3 : Int32) (l4 : Int32) (l5 : Int32) (l7 : Int32) : q_mo (F_X13_words_330 κ r31 l0 l1 l2 l3 l4 l5 l7) := (q_mo_rd fun v333 => (q_mo_rd fun v337 => (q_mo_br (q_mo_rd fun v353 => (q_mo_rd fun v357 => (q_mo_rd fun v366 => (q_mo_rd fun v367 => (q_mo_rd fun v381 => (q_mo_rd fun _ => q_mo_ca (M_X13_isSign κ l0 v381 (91 : Int32)) fun v386 => (q_mo_br (M_X13_words_457 κ r31 mr31 l0 l1 l2 l3 l4 l7 (v367 - (1 : Int32)) (0 : Int32)) (q_mo_rd fun v394 => (q_mo_wr (q_mo_rd fun _ => q_mo_ca (M_X13_expectNumber κ l0 (0 : Int64) ((v367 - (1 : Int32)).toInt64)) fun v409 => (q_mo_rd fun v420 => (q_mo_rd fun _ => q_mo_ca (M_X13_isSign κ l0 v420 (58 : Int32)) fun v425 => (q_mo_br (M_X13_words_451 κ r31 mr31 l0 l1 l2 l3 l4 l7 v409 v409) (q_mo_rd fun v433 => (q_mo_wr (q_mo_rd fun _ => q_mo_ca (M_X13_expectNumber κ l0 (0 : Int64) v409.toInt64) fun v446 => (M_X13_words_451 κ r31 mr31 l0 l1 l2 l3 l4 l7 v409 v446))))))))))))))))) (q_mo_mk fun a341 => (q_mo_gd (q_mo_ca (M_X12_init κ (some a341) (2 : Int32) l5) fun _v348 => (q_mo_rd fun _ => q_mo_tr)))))))
set_option maxRecDepth 100000 in
set_option maxHeartbeats 4000000 in
theorem S_X13_words_330 {E : q_Ev} {Γ : q_Gm} {w : (Unit ⊕ q_Exn) × q_St} (B : q_Bd E Γ cX13_words yX13_words.cls 12 6 138 (none) yX13_words.name w) (hT : q_nT Γ) (r31 : Option Nat → Int32 → Int32 → Int32 → Int32 → q_X Unit) (hr31 : ∀ (l0 : Option Nat) (l1 : Int32) (l2 : Int32) (l3 : Int32) (l4 : Int32) (σ : q_St), r31 l0 l1 l2 l3 l4 σ = some w → q_W E Γ (q_QF E Γ q_oV w) 12 σ 31 [(0, q_R l0), (1, q_I l1), (2, q_I l2), (3, q_I l3), (4, q_I l4)] []) (mr31 : ∀ (l0 : Option Nat) (l1 : Int32) (l2 : Int32) (l3 : Int32) (l4 : Int32), q_mo (r31 l0 l1 l2 l3 l4)) (l0 : Option Nat) (l1 : Int32) (l2 : Int32) (l3 : Int32) (l4 : Int32) (l5 : Int32) (l7 : Int32) (σ : q_St) (h : F_X13_words_330 (q_kap E) r31 l0 l1 l2 l3 l4 l5 l7 σ = some w) : q_W E Γ (q_QF E Γ q_oV w) 12 σ 330 [(0, q_R l0), (1, q_I l1), (2, q_I l2), (3, q_I l3), (4, q_I l4), (5, q_I l5), (7, q_I l7)] [] := by
  have C := B.1
  unfold F_X13_words_330 at h
  refine q_iload (pc := 330) C 6 rfl dX13_words_330 ?_
  refine q_aload_n (pc := 332) C 0 rfl dX13_words_332 rfl ?_
  refine q_getA (pc := 333) C dX13_words_333 ql_X13_74 h (fun v333 h => ?_)
  refine q_iload_n (pc := 336) C 1 rfl dX13_words_336 rfl ?_
  refine q_ldI (pc := 337) C dX13_words_337 (Or.inr (Or.inl ⟨rfl, rfl⟩)) h (fun v337 h => ?_)
  refine q_icmp_ne (pc := 338) (tgt := 352) C dX13_words_338 (by decide) h (fun _ h => ?_) (fun _ h => ?_)
  · refine q_aload_n (pc := 352) C 0 rfl dX13_words_352 rfl ?_
    refine q_getA (pc := 353) C dX13_words_353 ql_X13_62 h (fun v353 h => ?_)
    refine q_aload_n (pc := 356) C 0 rfl dX13_words_356 rfl ?_
    refine q_getA (pc := 357) C dX13_words_357 ql_X13_89 h (fun v357 h => ?_)
    refine q_iconst (pc := 360) (v := (5 : Int32)) C dX13_words_360 (by decide) ?_
    refine q_iload_n (pc := 361) C 1 rfl dX13_words_361 rfl ?_
    refine q_imul (pc := 362) C dX13_words_362 ?_
    refine q_iload (pc := 363) C 6 rfl dX13_words_363 ?_
    refine q_iadd (pc := 365) C dX13_words_365 ?_
    refine q_ldI (pc := 366) C dX13_words_366 (Or.inr (Or.inl ⟨rfl, rfl⟩)) h (fun v366 h => ?_)
    refine q_ldI (pc := 367) C dX13_words_367 (Or.inr (Or.inl ⟨rfl, rfl⟩)) h (fun v367 h => ?_)
    refine q_istore (pc := 368) (l' := [(8, q_I v367), (0, q_R l0), (1, q_I l1), (2, q_I l2), (3, q_I l3), (4, q_I l4), (5, q_I l5), (7, q_I l7)]) C dX13_words_368 (by decide) rfl ?_
    refine q_iload (pc := 370) C 0 rfl dX13_words_370 ?_
    refine q_iconst (pc := 372) (v := (1 : Int32)) C dX13_words_372 (by decide) ?_
    refine q_isub (pc := 373) C dX13_words_373 ?_
    refine q_istore (pc := 374) (l' := [(9, q_I (v367 - (1 : Int32))), (8, q_I v367), (0, q_R l0), (1, q_I l1), (2, q_I l2), (3, q_I l3), (4, q_I l4), (5, q_I l5), (7, q_I l7)]) C dX13_words_374 (by decide) rfl ?_
    refine q_iconst (pc := 376) (v := (0 : Int32)) C dX13_words_376 (by decide) ?_
    refine q_istore (pc := 377) (l' := [(10, q_I (0 : Int32)), (9, q_I (v367 - (1 : Int32))), (8, q_I v367), (0, q_R l0), (1, q_I l1), (2, q_I l2), (3, q_I l3), (4, q_I l4), (5, q_I l5), (7, q_I l7)]) C dX13_words_377 (by decide) rfl ?_
    refine q_aload_n (pc := 379) C 3 rfl dX13_words_379 rfl ?_
    refine q_aload_n (pc := 380) C 3 rfl dX13_words_380 rfl ?_
    refine q_getI (pc := 381) C dX13_words_381 ql_X13_206 h (fun v381 h => ?_)
    refine q_bipush (pc := 384) (v := (91 : Int32)) C dX13_words_384 (by decide) ?_
    refine q_callV (pc := 386) (As := [q_I v381, q_I (91 : Int32)]) (st := []) (ps := q_psI) C B.2.1 hT q_hpI qm_X13_214 qv_X13_isSign dX13_words_386 rfl rfl (Nat.le_of_ble_eq_true rfl) (q_flo B.2.2.1 B.2.2.2.1 (by decide) (by decide)) (K_X13_isSign l0 v381 (91 : Int32)) (M_X13_isSign (q_kap E) l0 v381 (91 : Int32)) (by exact fun v386 => (q_mo_br (M_X13_words_457 (q_kap E) r31 mr31 l0 l1 l2 l3 l4 l7 (v367 - (1 : Int32)) (0 : Int32)) (q_mo_rd fun v394 => (q_mo_wr (q_mo_rd fun _ => q_mo_ca (M_X13_expectNumber (q_kap E) l0 (0 : Int64) ((v367 - (1 : Int32)).toInt64)) fun v409 => (q_mo_rd fun v420 => (q_mo_rd fun _ => q_mo_ca (M_X13_isSign (q_kap E) l0 v420 (58 : Int32)) fun v425 => (q_mo_br (M_X13_words_451 (q_kap E) r31 mr31 l0 l1 l2 l3 l4 l7 v409 v409) (q_mo_rd fun v433 => (q_mo_wr (q_mo_rd fun _ => q_mo_ca (M_X13_expectNumber (q_kap E) l0 (0 : Int64) v409.toInt64) fun v446 => (M_X13_words_451 (q_kap E) r31 mr31 l0 l1 l2 l3 l4 l7 v409 v446)))))))))))) h (fun v386 σ h => ?_)
    refine q_W.st (st' := [q_I v386]) rfl ?_
    refine q_if_eq (pc := 389) (tgt := 457) C dX13_words_389 (by decide) h (fun _ h => ?_) (fun _ h => ?_)
    · refine q_W.sub [3, 4, 5, 6, 7, 9, 1, 0] rfl ?_
      exact S_X13_words_457 B hT r31 hr31 mr31 l0 l1 l2 l3 l4 l7 (v367 - (1 : Int32)) (0 : Int32) _ h
    · refine q_aload_n (pc := 392) C 3 rfl dX13_words_392 rfl ?_
      refine q_dup (pc := 393) C dX13_words_393 rfl ?_
      refine q_getI (pc := 394) C dX13_words_394 ql_X13_206 h (fun v394 h => ?_)
      refine q_iconst (pc := 397) (v := (1 : Int32)) C dX13_words_397 (by decide) ?_
      refine q_iadd (pc := 398) C dX13_words_398 ?_
      refine q_putV (pc := 399) (v := q_I (v394 + (1 : Int32))) C dX13_words_399 ql_X13_206 (Or.inl rfl) rfl rfl h (fun M399 h => ?_)
      refine q_aload_n (pc := 402) C 3 rfl dX13_words_402 rfl ?_
      refine q_lconst (pc := 403) (v := (0 : Int64)) C dX13_words_403 (by decide) ?_
      refine q_iload (pc := 404) C 2 rfl dX13_words_404 ?_
      refine q_iconst (pc := 406) (v := (1 : Int32)) C dX13_words_406 (by decide) ?_
      refine q_isub (pc := 407) C dX13_words_407 ?_
      refine q_i2l (pc := 408) C dX13_words_408 ?_
      refine q_callV (pc := 409) (As := [q_L (0 : Int64), q_L ((v367 - (1 : Int32)).toInt64)]) (st := []) (ps := q_psI) C B.2.1 hT q_hpI qm_X13_274 qv_X13_expectNumber dX13_words_409 rfl rfl (Nat.le_of_ble_eq_true rfl) (q_flo B.2.2.1 B.2.2.2.1 (by decide) (by decide)) (K_X13_expectNumber l0 (0 : Int64) ((v367 - (1 : Int32)).toInt64)) (M_X13_expectNumber (q_kap E) l0 (0 : Int64) ((v367 - (1 : Int32)).toInt64)) (by exact fun v409 => (q_mo_rd fun v420 => (q_mo_rd fun _ => q_mo_ca (M_X13_isSign (q_kap E) l0 v420 (58 : Int32)) fun v425 => (q_mo_br (M_X13_words_451 (q_kap E) r31 mr31 l0 l1 l2 l3 l4 l7 v409 v409) (q_mo_rd fun v433 => (q_mo_wr (q_mo_rd fun _ => q_mo_ca (M_X13_expectNumber (q_kap E) l0 (0 : Int64) v409.toInt64) fun v446 => (M_X13_words_451 (q_kap E) r31 mr31 l0 l1 l2 l3 l4 l7 v409 v446)))))))) h (fun v409 σ h => ?_)
      refine q_W.st (st' := [q_I v409]) rfl ?_
      refine q_istore (pc := 412) (l' := [(9, q_I v409), (10, q_I (0 : Int32)), (8, q_I v367), (0, q_R l0), (1, q_I l1), (2, q_I l2), (3, q_I l3), (4, q_I l4), (5, q_I l5), (7, q_I l7)]) C dX13_words_412 (by decide) rfl ?_
      refine q_iload (pc := 414) C 0 rfl dX13_words_414 ?_
      refine q_istore (pc := 416) (l' := [(10, q_I v409), (9, q_I v409), (8, q_I v367), (0, q_R l0), (1, q_I l1), (2, q_I l2), (3, q_I l3), (4, q_I l4), (5, q_I l5), (7, q_I l7)]) C dX13_words_416 (by decide) rfl ?_
      refine q_aload_n (pc := 418) C 3 rfl dX13_words_418 rfl ?_
      refine q_aload_n (pc := 419) C 3 rfl dX13_words_419 rfl ?_
      refine q_getI (pc := 420) C dX13_words_420 ql_X13_206 h (fun v420 h => ?_)
      refine q_bipush (pc := 423) (v := (58 : Int32)) C dX13_words_423 (by decide) ?_
      refine q_callV (pc := 425) (As := [q_I v420, q_I (58 : Int32)]) (st := []) (ps := q_psI) C B.2.1 hT q_hpI qm_X13_214 qv_X13_isSign dX13_words_425 rfl rfl (Nat.le_of_ble_eq_true rfl) (q_flo B.2.2.1 B.2.2.2.1 (by decide) (by decide)) (K_X13_isSign l0 v420 (58 : Int32)) (M_X13_isSign (q_kap E) l0 v420 (58 : Int32)) (by exact fun v425 => (q_mo_br (M_X13_words_451 (q_kap E) r31 mr31 l0 l1 l2 l3 l4 l7 v409 v409) (q_mo_rd fun v433 => (q_mo_wr (q_mo_rd fun _ => q_mo_ca (M_X13_expectNumber (q_kap E) l0 (0 : Int64) v409.toInt64) fun v446 => (M_X13_words_451 (q_kap E) r31 mr31 l0 l1 l2 l3 l4 l7 v409 v446)))))) h (fun v425 σ h => ?_)
      refine q_W.st (st' := [q_I v425]) rfl ?_
      refine q_if_eq (pc := 428) (tgt := 451) C dX13_words_428 (by decide) h (fun _ h => ?_) (fun _ h => ?_)
      · refine q_W.sub [3, 4, 5, 6, 7, 9, 1, 0] rfl ?_
        exact S_X13_words_451 B hT r31 hr31 mr31 l0 l1 l2 l3 l4 l7 v409 v409 _ h
      · refine q_aload_n (pc := 431) C 3 rfl dX13_words_431 rfl ?_
        refine q_dup (pc := 432) C dX13_words_432 rfl ?_
        refine q_getI (pc := 433) C dX13_words_433 ql_X13_206 h (fun v433 h => ?_)
        refine q_iconst (pc := 436) (v := (1 : Int32)) C dX13_words_436 (by decide) ?_
        refine q_iadd (pc := 437) C dX13_words_437 ?_
        refine q_putV (pc := 438) (v := q_I (v433 + (1 : Int32))) C dX13_words_438 ql_X13_206 (Or.inl rfl) rfl rfl h (fun M438 h => ?_)
        refine q_aload_n (pc := 441) C 3 rfl dX13_words_441 rfl ?_
        refine q_lconst (pc := 442) (v := (0 : Int64)) C dX13_words_442 (by decide) ?_
        refine q_iload (pc := 443) C 1 rfl dX13_words_443 ?_
        refine q_i2l (pc := 445) C dX13_words_445 ?_
        refine q_callV (pc := 446) (As := [q_L (0 : Int64), q_L v409.toInt64]) (st := []) (ps := q_psI) C B.2.1 hT q_hpI qm_X13_274 qv_X13_expectNumber dX13_words_446 rfl rfl (Nat.le_of_ble_eq_true rfl) (q_flo B.2.2.1 B.2.2.2.1 (by decide) (by decide)) (K_X13_expectNumber l0 (0 : Int64) v409.toInt64) (M_X13_expectNumber (q_kap E) l0 (0 : Int64) v409.toInt64) (by exact fun v446 => (M_X13_words_451 (q_kap E) r31 mr31 l0 l1 l2 l3 l4 l7 v409 v446)) h (fun v446 σ h => ?_)
        refine q_W.st (st' := [q_I v446]) rfl ?_
        refine q_istore (pc := 449) (l' := [(10, q_I v446), (9, q_I v409), (8, q_I v367), (0, q_R l0), (1, q_I l1), (2, q_I l2), (3, q_I l3), (4, q_I l4), (5, q_I l5), (7, q_I l7)]) C dX13_words_449 (by decide) rfl ?_
        refine q_W.sub [3, 4, 5, 6, 7, 9, 1, 0] rfl ?_
        exact S_X13_words_451 B hT r31 hr31 mr31 l0 l1 l2 l3 l4 l7 v409 v446 _ h
  · refine q_new (pc := 341) C dX13_words_341 qn_X13_209 (by exact fun a341 => (q_mo_gd (q_mo_ca (M_X12_init (q_kap E) (some a341) (2 : Int32) l5) fun _v348 => (q_mo_rd fun _ => q_mo_tr)))) B.2.1 h (fun a341 σ h => ?_)
    refine q_dup (pc := 344) C dX13_words_344 rfl ?_
    refine q_iconst (pc := 345) (v := (2 : Int32)) C dX13_words_345 (by decide) ?_
    refine q_iload (pc := 346) C 5 rfl dX13_words_346 ?_
    refine q_callI (pc := 348) (As := [q_I (2 : Int32), q_I l5]) (st := [q_R (some a341)]) C B.2.1 (fun _ => rfl) qm_X13_211 qI_X12_init dX13_words_348 rfl rfl (Nat.le_of_ble_eq_true rfl) (q_flo B.2.2.1 B.2.2.2.1 (by decide) (by decide)) (K_X12_init (some a341) (2 : Int32) l5) (M_X12_init (q_kap E) (some a341) (2 : Int32) l5) (N_X12_init (q_kap E) (some a341) (2 : Int32) l5) (by exact fun _v348 => (q_mo_rd fun _ => q_mo_tr)) h (fun _v348 σ h => ?_)
    exact q_athrow (pc := 351) (ci := 15) C hT rfl dX13_words_351 h
def F_X13_words_297B (κ : Nat → Nat) (r31 : Option Nat → Int32 → Int32 → Int32 → Int32 → q_X Unit) (r297 : Option Nat → Int32 → Int32 → Int32 → Int32 → Int32 → Int32 → Int32 → q_X Unit) (l0 : Option Nat) (l1 : Int32) (l2 : Int32) (l3 : Int32) (l4 : Int32) (l5 : Int32) (l6 : Int32) (l7 : Int32) : q_X Unit :=
  q_rd (q_gA l0 16 32) fun v300 => q_rd (q_lI 1 v300 l1) fun v304 => q_br (v304 ≤ l7) (F_X13_words_330 κ r31 l0 l1 l2 l3 l4 l5 l7) (q_rd (q_gA l0 16 36) fun v309 => q_rd (q_lI 1 v309 (((5 : Int32) * l1) + l7)) fun v318 => q_br (v318 = l6) (F_X13_words_330 κ r31 l0 l1 l2 l3 l4 l5 l7) (r297 l0 l1 l2 l3 l4 l5 l6 (l7 + (1 : Int32))))
theorem M_X13_words_297B (κ : Nat → Nat) (r31 : Option Nat → Int32 → Int32 → Int32 → Int32 → q_X Unit) (mr31 : ∀ (l0 : Option Nat) (l1 : Int32) (l2 : Int32) (l3 : Int32) (l4 : Int32), q_mo (r31 l0 l1 l2 l3 l4)) (r297 : Option Nat → Int32 → Int32 → Int32 → Int32 → Int32 → Int32 → Int32 → q_X Unit) (mr297 : ∀ (l0 : Option Nat) (l1 : Int32) (l2 : Int32) (l3 : Int32) (l4 : Int32) (l5 : Int32) (l6 : Int32) (l7 : Int32), q_mo (r297 l0 l1 l2 l3 l4 l5 l6 l7)) (l0 : Option Nat) (l1 : Int32) (l2 : Int32) (l3 : Int32) (l4 : Int32) (l5 : Int32) (l6 : Int32) (l7 : Int32) : q_mo (F_X13_words_297B κ r31 r297 l0 l1 l2 l3 l4 l5 l6 l7) := (q_mo_rd fun v300 => (q_mo_rd fun v304 => (q_mo_br (M_X13_words_330 κ r31 mr31 l0 l1 l2 l3 l4 l5 l7) (q_mo_rd fun v309 => (q_mo_rd fun v318 => (q_mo_br (M_X13_words_330 κ r31 mr31 l0 l1 l2 l3 l4 l5 l7) (mr297 l0 l1 l2 l3 l4 l5 l6 (l7 + (1 : Int32)))))))))
set_option maxRecDepth 100000 in
set_option maxHeartbeats 4000000 in
theorem S_X13_words_297B {E : q_Ev} {Γ : q_Gm} {w : (Unit ⊕ q_Exn) × q_St} (B : q_Bd E Γ cX13_words yX13_words.cls 12 6 138 (none) yX13_words.name w) (hT : q_nT Γ) (r31 : Option Nat → Int32 → Int32 → Int32 → Int32 → q_X Unit) (hr31 : ∀ (l0 : Option Nat) (l1 : Int32) (l2 : Int32) (l3 : Int32) (l4 : Int32) (σ : q_St), r31 l0 l1 l2 l3 l4 σ = some w → q_W E Γ (q_QF E Γ q_oV w) 12 σ 31 [(0, q_R l0), (1, q_I l1), (2, q_I l2), (3, q_I l3), (4, q_I l4)] []) (mr31 : ∀ (l0 : Option Nat) (l1 : Int32) (l2 : Int32) (l3 : Int32) (l4 : Int32), q_mo (r31 l0 l1 l2 l3 l4)) (r297 : Option Nat → Int32 → Int32 → Int32 → Int32 → Int32 → Int32 → Int32 → q_X Unit) (hr297 : ∀ (l0 : Option Nat) (l1 : Int32) (l2 : Int32) (l3 : Int32) (l4 : Int32) (l5 : Int32) (l6 : Int32) (l7 : Int32) (σ : q_St), r297 l0 l1 l2 l3 l4 l5 l6 l7 σ = some w → q_W E Γ (q_QF E Γ q_oV w) 12 σ 297 [(0, q_R l0), (1, q_I l1), (2, q_I l2), (3, q_I l3), (4, q_I l4), (5, q_I l5), (6, q_I l6), (7, q_I l7)] []) (mr297 : ∀ (l0 : Option Nat) (l1 : Int32) (l2 : Int32) (l3 : Int32) (l4 : Int32) (l5 : Int32) (l6 : Int32) (l7 : Int32), q_mo (r297 l0 l1 l2 l3 l4 l5 l6 l7)) (l0 : Option Nat) (l1 : Int32) (l2 : Int32) (l3 : Int32) (l4 : Int32) (l5 : Int32) (l6 : Int32) (l7 : Int32) (σ : q_St) (h : F_X13_words_297B (q_kap E) r31 r297 l0 l1 l2 l3 l4 l5 l6 l7 σ = some w) : q_W E Γ (q_QF E Γ q_oV w) 12 σ 297 [(0, q_R l0), (1, q_I l1), (2, q_I l2), (3, q_I l3), (4, q_I l4), (5, q_I l5), (6, q_I l6), (7, q_I l7)] [] := by
  have C := B.1
  unfold F_X13_words_297B at h
  refine q_iload (pc := 297) C 7 rfl dX13_words_297 ?_
  refine q_aload_n (pc := 299) C 0 rfl dX13_words_299 rfl ?_
  refine q_getA (pc := 300) C dX13_words_300 ql_X13_74 h (fun v300 h => ?_)
  refine q_iload_n (pc := 303) C 1 rfl dX13_words_303 rfl ?_
  refine q_ldI (pc := 304) C dX13_words_304 (Or.inr (Or.inl ⟨rfl, rfl⟩)) h (fun v304 h => ?_)
  refine q_icmp_ge (pc := 305) (tgt := 330) C dX13_words_305 (by decide) h (fun _ h => ?_) (fun _ h => ?_)
  · refine q_W.sub [0, 1, 2, 3, 4, 5, 7] rfl ?_
    exact S_X13_words_330 B hT r31 hr31 mr31 l0 l1 l2 l3 l4 l5 l7 _ h
  · refine q_aload_n (pc := 308) C 0 rfl dX13_words_308 rfl ?_
    refine q_getA (pc := 309) C dX13_words_309 ql_X13_86 h (fun v309 h => ?_)
    refine q_iconst (pc := 312) (v := (5 : Int32)) C dX13_words_312 (by decide) ?_
    refine q_iload_n (pc := 313) C 1 rfl dX13_words_313 rfl ?_
    refine q_imul (pc := 314) C dX13_words_314 ?_
    refine q_iload (pc := 315) C 7 rfl dX13_words_315 ?_
    refine q_iadd (pc := 317) C dX13_words_317 ?_
    refine q_ldI (pc := 318) C dX13_words_318 (Or.inr (Or.inl ⟨rfl, rfl⟩)) h (fun v318 h => ?_)
    refine q_iload (pc := 319) C 6 rfl dX13_words_319 ?_
    refine q_icmp_eq (pc := 321) (tgt := 330) C dX13_words_321 (by decide) h (fun _ h => ?_) (fun _ h => ?_)
    · refine q_W.sub [0, 1, 2, 3, 4, 5, 7] rfl ?_
      exact S_X13_words_330 B hT r31 hr31 mr31 l0 l1 l2 l3 l4 l5 l7 _ h
    · refine q_iinc (pc := 324) (v := (1 : Int32)) (l' := [(7, q_I (l7 + (1 : Int32))), (0, q_R l0), (1, q_I l1), (2, q_I l2), (3, q_I l3), (4, q_I l4), (5, q_I l5), (6, q_I l6)]) C 7 rfl dX13_words_324 (by decide) (by decide) rfl ?_
      refine q_goto (pc := 327) (tgt := 297) C dX13_words_327 (by decide) ?_
      refine q_W.sub [1, 2, 3, 4, 5, 6, 7, 0] rfl ?_
      exact hr297 l0 l1 l2 l3 l4 l5 l6 (l7 + (1 : Int32)) _ h
def F_X13_words_297 (κ : Nat → Nat) (r31 : Option Nat → Int32 → Int32 → Int32 → Int32 → q_X Unit) : Nat → Option Nat → Int32 → Int32 → Int32 → Int32 → Int32 → Int32 → Int32 → q_X Unit
  | 0, _, _, _, _, _, _, _, _ => q_no
  | n + 1, l0, l1, l2, l3, l4, l5, l6, l7 => F_X13_words_297B κ r31 (F_X13_words_297 κ r31 n) l0 l1 l2 l3 l4 l5 l6 l7
theorem M_X13_words_297 (κ : Nat → Nat) (r31 : Option Nat → Int32 → Int32 → Int32 → Int32 → q_X Unit) (mr31 : ∀ (l0 : Option Nat) (l1 : Int32) (l2 : Int32) (l3 : Int32) (l4 : Int32), q_mo (r31 l0 l1 l2 l3 l4)) : ∀ (n : Nat) (l0 : Option Nat) (l1 : Int32) (l2 : Int32) (l3 : Int32) (l4 : Int32) (l5 : Int32) (l6 : Int32) (l7 : Int32), q_mo (F_X13_words_297 κ r31 n l0 l1 l2 l3 l4 l5 l6 l7)
  | 0, _, _, _, _, _, _, _, _ => q_mo_no
  | n + 1, l0, l1, l2, l3, l4, l5, l6, l7 => M_X13_words_297B κ r31 mr31 (F_X13_words_297 κ r31 n) (M_X13_words_297 κ r31 mr31 n) l0 l1 l2 l3 l4 l5 l6 l7
theorem S_X13_words_297 {E : q_Ev} {Γ : q_Gm} {w : (Unit ⊕ q_Exn) × q_St} (B : q_Bd E Γ cX13_words yX13_words.cls 12 6 138 (none) yX13_words.name w) (hT : q_nT Γ) (r31 : Option Nat → Int32 → Int32 → Int32 → Int32 → q_X Unit) (hr31 : ∀ (l0 : Option Nat) (l1 : Int32) (l2 : Int32) (l3 : Int32) (l4 : Int32) (σ : q_St), r31 l0 l1 l2 l3 l4 σ = some w → q_W E Γ (q_QF E Γ q_oV w) 12 σ 31 [(0, q_R l0), (1, q_I l1), (2, q_I l2), (3, q_I l3), (4, q_I l4)] []) (mr31 : ∀ (l0 : Option Nat) (l1 : Int32) (l2 : Int32) (l3 : Int32) (l4 : Int32), q_mo (r31 l0 l1 l2 l3 l4)) : ∀ (n : Nat) (l0 : Option Nat) (l1 : Int32) (l2 : Int32) (l3 : Int32) (l4 : Int32) (l5 : Int32) (l6 : Int32) (l7 : Int32) (σ : q_St), F_X13_words_297 (q_kap E) r31 n l0 l1 l2 l3 l4 l5 l6 l7 σ = some w → q_W E Γ (q_QF E Γ q_oV w) 12 σ 297 [(0, q_R l0), (1, q_I l1), (2, q_I l2), (3, q_I l3), (4, q_I l4), (5, q_I l5), (6, q_I l6), (7, q_I l7)] []
  | 0, _, _, _, _, _, _, _, _, _, h => by cases h
  | n + 1, l0, l1, l2, l3, l4, l5, l6, l7, σ, h => S_X13_words_297B B hT r31 hr31 mr31 (F_X13_words_297 (q_kap E) r31 n) (S_X13_words_297 B hT r31 hr31 mr31 n) (M_X13_words_297 (q_kap E) r31 mr31 n) l0 l1 l2 l3 l4 l5 l6 l7 σ h
def F_X13_words_31B (κ : Nat → Nat) (r31 : Option Nat → Int32 → Int32 → Int32 → Int32 → q_X Unit) (l0 : Option Nat) (l1 : Int32) (l2 : Int32) (l3 : Int32) (l4 : Int32) : q_X Unit :=
  q_rd (q_gI l0 16 15) fun v33 => q_rd (q_is l0 16) fun _ => q_ca (F_X13_isSign κ l0 v33 (124 : Int32)) fun v38 => q_br (¬ v38 = 0) (F_X13_words_57 κ r31 l0 l1 l2 l3 l4) (q_rd (q_gI l0 16 15) fun v46 => q_rd (q_is l0 16) fun _ => q_ca (F_X13_isSign κ l0 v46 (59 : Int32)) fun v51 => q_br (v51 = 0) (q_rd (q_gA l0 16 9) fun v140 => q_rd (q_gI l0 16 15) fun v144 => q_rd (q_lI 1 v140 v144) fun v147 => q_br (¬ v147 = (2 : Int32)) (q_rd (q_is l0 16) fun _ => q_ca (F_X13_expectName κ l0) fun v281 => q_rd (q_is l0 16) fun _ => q_ca (F_X13_nameOf κ l0 v281) fun v289 => F_X13_words_297 κ r31 q_fu l0 l1 l2 l3 l4 v281 v289 (0 : Int32)) (F_X13_words_155 κ r31 q_fu l0 l1 l2 l3 l4 (0 : Int32))) (F_X13_words_57 κ r31 l0 l1 l2 l3 l4))
theorem M_X13_words_31B (κ : Nat → Nat) (r31 : Option Nat → Int32 → Int32 → Int32 → Int32 → q_X Unit) (mr31 : ∀ (l0 : Option Nat) (l1 : Int32) (l2 : Int32) (l3 : Int32) (l4 : Int32), q_mo (r31 l0 l1 l2 l3 l4)) (l0 : Option Nat) (l1 : Int32) (l2 : Int32) (l3 : Int32) (l4 : Int32) : q_mo (F_X13_words_31B κ r31 l0 l1 l2 l3 l4) := (q_mo_rd fun v33 => (q_mo_rd fun _ => q_mo_ca (M_X13_isSign κ l0 v33 (124 : Int32)) fun v38 => (q_mo_br (M_X13_words_57 κ r31 mr31 l0 l1 l2 l3 l4) (q_mo_rd fun v46 => (q_mo_rd fun _ => q_mo_ca (M_X13_isSign κ l0 v46 (59 : Int32)) fun v51 => (q_mo_br (q_mo_rd fun v140 => (q_mo_rd fun v144 => (q_mo_rd fun v147 => (q_mo_br (q_mo_rd fun _ => q_mo_ca (M_X13_expectName κ l0) fun v281 => (q_mo_rd fun _ => q_mo_ca (M_X13_nameOf κ l0 v281) fun v289 => (M_X13_words_297 κ r31 mr31 q_fu l0 l1 l2 l3 l4 v281 v289 (0 : Int32)))) (M_X13_words_155 κ r31 mr31 q_fu l0 l1 l2 l3 l4 (0 : Int32)))))) (M_X13_words_57 κ r31 mr31 l0 l1 l2 l3 l4)))))))
set_option maxRecDepth 100000 in
set_option maxHeartbeats 4000000 in
theorem S_X13_words_31B {E : q_Ev} {Γ : q_Gm} {w : (Unit ⊕ q_Exn) × q_St} (B : q_Bd E Γ cX13_words yX13_words.cls 12 6 138 (none) yX13_words.name w) (hT : q_nT Γ) (r31 : Option Nat → Int32 → Int32 → Int32 → Int32 → q_X Unit) (hr31 : ∀ (l0 : Option Nat) (l1 : Int32) (l2 : Int32) (l3 : Int32) (l4 : Int32) (σ : q_St), r31 l0 l1 l2 l3 l4 σ = some w → q_W E Γ (q_QF E Γ q_oV w) 12 σ 31 [(0, q_R l0), (1, q_I l1), (2, q_I l2), (3, q_I l3), (4, q_I l4)] []) (mr31 : ∀ (l0 : Option Nat) (l1 : Int32) (l2 : Int32) (l3 : Int32) (l4 : Int32), q_mo (r31 l0 l1 l2 l3 l4)) (l0 : Option Nat) (l1 : Int32) (l2 : Int32) (l3 : Int32) (l4 : Int32) (σ : q_St) (h : F_X13_words_31B (q_kap E) r31 l0 l1 l2 l3 l4 σ = some w) : q_W E Γ (q_QF E Γ q_oV w) 12 σ 31 [(0, q_R l0), (1, q_I l1), (2, q_I l2), (3, q_I l3), (4, q_I l4)] [] := by
  have C := B.1
  unfold F_X13_words_31B at h
  refine q_aload_n (pc := 31) C 0 rfl dX13_words_31 rfl ?_
  refine q_aload_n (pc := 32) C 0 rfl dX13_words_32 rfl ?_
  refine q_getI (pc := 33) C dX13_words_33 ql_X13_206 h (fun v33 h => ?_)
  refine q_bipush (pc := 36) (v := (124 : Int32)) C dX13_words_36 (by decide) ?_
  refine q_callV (pc := 38) (As := [q_I v33, q_I (124 : Int32)]) (st := []) (ps := q_psI) C B.2.1 hT q_hpI qm_X13_214 qv_X13_isSign dX13_words_38 rfl rfl (Nat.le_of_ble_eq_true rfl) (q_flo B.2.2.1 B.2.2.2.1 (by decide) (by decide)) (K_X13_isSign l0 v33 (124 : Int32)) (M_X13_isSign (q_kap E) l0 v33 (124 : Int32)) (by exact fun v38 => (q_mo_br (M_X13_words_57 (q_kap E) r31 mr31 l0 l1 l2 l3 l4) (q_mo_rd fun v46 => (q_mo_rd fun _ => q_mo_ca (M_X13_isSign (q_kap E) l0 v46 (59 : Int32)) fun v51 => (q_mo_br (q_mo_rd fun v140 => (q_mo_rd fun v144 => (q_mo_rd fun v147 => (q_mo_br (q_mo_rd fun _ => q_mo_ca (M_X13_expectName (q_kap E) l0) fun v281 => (q_mo_rd fun _ => q_mo_ca (M_X13_nameOf (q_kap E) l0 v281) fun v289 => (M_X13_words_297 (q_kap E) r31 mr31 q_fu l0 l1 l2 l3 l4 v281 v289 (0 : Int32)))) (M_X13_words_155 (q_kap E) r31 mr31 q_fu l0 l1 l2 l3 l4 (0 : Int32)))))) (M_X13_words_57 (q_kap E) r31 mr31 l0 l1 l2 l3 l4)))))) h (fun v38 σ h => ?_)
  refine q_W.st (st' := [q_I v38]) rfl ?_
  refine q_if_ne (pc := 41) (tgt := 57) C dX13_words_41 (by decide) h (fun _ h => ?_) (fun _ h => ?_)
  · exact S_X13_words_57 B hT r31 hr31 mr31 l0 l1 l2 l3 l4 _ h
  · refine q_aload_n (pc := 44) C 0 rfl dX13_words_44 rfl ?_
    refine q_aload_n (pc := 45) C 0 rfl dX13_words_45 rfl ?_
    refine q_getI (pc := 46) C dX13_words_46 ql_X13_206 h (fun v46 h => ?_)
    refine q_bipush (pc := 49) (v := (59 : Int32)) C dX13_words_49 (by decide) ?_
    refine q_callV (pc := 51) (As := [q_I v46, q_I (59 : Int32)]) (st := []) (ps := q_psI) C B.2.1 hT q_hpI qm_X13_214 qv_X13_isSign dX13_words_51 rfl rfl (Nat.le_of_ble_eq_true rfl) (q_flo B.2.2.1 B.2.2.2.1 (by decide) (by decide)) (K_X13_isSign l0 v46 (59 : Int32)) (M_X13_isSign (q_kap E) l0 v46 (59 : Int32)) (by exact fun v51 => (q_mo_br (q_mo_rd fun v140 => (q_mo_rd fun v144 => (q_mo_rd fun v147 => (q_mo_br (q_mo_rd fun _ => q_mo_ca (M_X13_expectName (q_kap E) l0) fun v281 => (q_mo_rd fun _ => q_mo_ca (M_X13_nameOf (q_kap E) l0 v281) fun v289 => (M_X13_words_297 (q_kap E) r31 mr31 q_fu l0 l1 l2 l3 l4 v281 v289 (0 : Int32)))) (M_X13_words_155 (q_kap E) r31 mr31 q_fu l0 l1 l2 l3 l4 (0 : Int32)))))) (M_X13_words_57 (q_kap E) r31 mr31 l0 l1 l2 l3 l4))) h (fun v51 σ h => ?_)
    refine q_W.st (st' := [q_I v51]) rfl ?_
    refine q_if_eq (pc := 54) (tgt := 139) C dX13_words_54 (by decide) h (fun _ h => ?_) (fun _ h => ?_)
    · refine q_aload_n (pc := 139) C 0 rfl dX13_words_139 rfl ?_
      refine q_getA (pc := 140) C dX13_words_140 ql_X13_26 h (fun v140 h => ?_)
      refine q_aload_n (pc := 143) C 0 rfl dX13_words_143 rfl ?_
      refine q_getI (pc := 144) C dX13_words_144 ql_X13_206 h (fun v144 h => ?_)
      refine q_ldI (pc := 147) C dX13_words_147 (Or.inr (Or.inl ⟨rfl, rfl⟩)) h (fun v147 h => ?_)
      refine q_iconst (pc := 148) (v := (2 : Int32)) C dX13_words_148 (by decide) ?_
      refine q_icmp_ne (pc := 149) (tgt := 280) C dX13_words_149 (by decide) h (fun _ h => ?_) (fun _ h => ?_)
      · refine q_aload_n (pc := 280) C 0 rfl dX13_words_280 rfl ?_
        refine q_callV (pc := 281) (As := []) (st := []) (ps := q_psI) C B.2.1 hT q_hpI qm_X13_263 qv_X13_expectName dX13_words_281 rfl rfl (Nat.le_of_ble_eq_true rfl) (q_flo B.2.2.1 B.2.2.2.1 (by decide) (by decide)) (K_X13_expectName l0) (M_X13_expectName (q_kap E) l0) (by exact fun v281 => (q_mo_rd fun _ => q_mo_ca (M_X13_nameOf (q_kap E) l0 v281) fun v289 => (M_X13_words_297 (q_kap E) r31 mr31 q_fu l0 l1 l2 l3 l4 v281 v289 (0 : Int32)))) h (fun v281 σ h => ?_)
        refine q_W.st (st' := [q_I v281]) rfl ?_
        refine q_istore (pc := 284) (l' := [(5, q_I v281), (0, q_R l0), (1, q_I l1), (2, q_I l2), (3, q_I l3), (4, q_I l4)]) C dX13_words_284 (by decide) rfl ?_
        refine q_aload_n (pc := 286) C 1 rfl dX13_words_286 rfl ?_
        refine q_iload (pc := 287) C 0 rfl dX13_words_287 ?_
        refine q_callV (pc := 289) (As := [q_I v281]) (st := []) (ps := q_psI) C B.2.1 hT q_hpI qm_X13_266 qv_X13_nameOf dX13_words_289 rfl rfl (Nat.le_of_ble_eq_true rfl) (q_flo B.2.2.1 B.2.2.2.1 (by decide) (by decide)) (K_X13_nameOf l0 v281) (M_X13_nameOf (q_kap E) l0 v281) (by exact fun v289 => (M_X13_words_297 (q_kap E) r31 mr31 q_fu l0 l1 l2 l3 l4 v281 v289 (0 : Int32))) h (fun v289 σ h => ?_)
        refine q_W.st (st' := [q_I v289]) rfl ?_
        refine q_istore (pc := 292) (l' := [(6, q_I v289), (5, q_I v281), (0, q_R l0), (1, q_I l1), (2, q_I l2), (3, q_I l3), (4, q_I l4)]) C dX13_words_292 (by decide) rfl ?_
        refine q_iconst (pc := 294) (v := (0 : Int32)) C dX13_words_294 (by decide) ?_
        refine q_istore (pc := 295) (l' := [(7, q_I (0 : Int32)), (6, q_I v289), (5, q_I v281), (0, q_R l0), (1, q_I l1), (2, q_I l2), (3, q_I l3), (4, q_I l4)]) C dX13_words_295 (by decide) rfl ?_
        refine q_W.sub [3, 4, 5, 6, 7, 2, 1, 0] rfl ?_
        exact S_X13_words_297 B hT r31 hr31 mr31 q_fu l0 l1 l2 l3 l4 v281 v289 (0 : Int32) _ h
      · refine q_iconst (pc := 152) (v := (0 : Int32)) C dX13_words_152 (by decide) ?_
        refine q_istore (pc := 153) (l' := [(5, q_I (0 : Int32)), (0, q_R l0), (1, q_I l1), (2, q_I l2), (3, q_I l3), (4, q_I l4)]) C dX13_words_153 (by decide) rfl ?_
        refine q_W.sub [1, 2, 3, 4, 5, 0] rfl ?_
        exact S_X13_words_155 B hT r31 hr31 mr31 q_fu l0 l1 l2 l3 l4 (0 : Int32) _ h
    · exact S_X13_words_57 B hT r31 hr31 mr31 l0 l1 l2 l3 l4 _ h
def F_X13_words_31 (κ : Nat → Nat) : Nat → Option Nat → Int32 → Int32 → Int32 → Int32 → q_X Unit
  | 0, _, _, _, _, _ => q_no
  | n + 1, l0, l1, l2, l3, l4 => F_X13_words_31B κ (F_X13_words_31 κ n) l0 l1 l2 l3 l4
theorem M_X13_words_31 (κ : Nat → Nat) : ∀ (n : Nat) (l0 : Option Nat) (l1 : Int32) (l2 : Int32) (l3 : Int32) (l4 : Int32), q_mo (F_X13_words_31 κ n l0 l1 l2 l3 l4)
  | 0, _, _, _, _, _ => q_mo_no
  | n + 1, l0, l1, l2, l3, l4 => M_X13_words_31B κ (F_X13_words_31 κ n) (M_X13_words_31 κ n) l0 l1 l2 l3 l4
theorem S_X13_words_31 {E : q_Ev} {Γ : q_Gm} {w : (Unit ⊕ q_Exn) × q_St} (B : q_Bd E Γ cX13_words yX13_words.cls 12 6 138 (none) yX13_words.name w) (hT : q_nT Γ) : ∀ (n : Nat) (l0 : Option Nat) (l1 : Int32) (l2 : Int32) (l3 : Int32) (l4 : Int32) (σ : q_St), F_X13_words_31 (q_kap E) n l0 l1 l2 l3 l4 σ = some w → q_W E Γ (q_QF E Γ q_oV w) 12 σ 31 [(0, q_R l0), (1, q_I l1), (2, q_I l2), (3, q_I l3), (4, q_I l4)] []
  | 0, _, _, _, _, _, _, h => by cases h
  | n + 1, l0, l1, l2, l3, l4, σ, h => S_X13_words_31B B hT (F_X13_words_31 (q_kap E) n) (S_X13_words_31 B hT n) (M_X13_words_31 (q_kap E) n) l0 l1 l2 l3 l4 σ h
def F_X13_words_2B (κ : Nat → Nat) (r2 : Option Nat → Int32 → Int32 → q_X Unit) (l0 : Option Nat) (l1 : Int32) (l2 : Int32) : q_X Unit :=
  q_rd (q_gA l0 16 39) fun v4 => q_rd (q_ln v4) fun v7 => q_br (v7 ≤ l2) (F_X13_words_31 κ q_fu l0 l1 (0 : Int32) (0 : Int32) (0 : Int32)) (q_rd (q_gA l0 16 39) fun v12 => q_wr (q_sI 1 v12 l2 (0 : Int32)) (r2 l0 l1 (l2 + (1 : Int32))))
theorem M_X13_words_2B (κ : Nat → Nat) (r2 : Option Nat → Int32 → Int32 → q_X Unit) (mr2 : ∀ (l0 : Option Nat) (l1 : Int32) (l2 : Int32), q_mo (r2 l0 l1 l2)) (l0 : Option Nat) (l1 : Int32) (l2 : Int32) : q_mo (F_X13_words_2B κ r2 l0 l1 l2) := (q_mo_rd fun v4 => (q_mo_rd fun v7 => (q_mo_br (M_X13_words_31 κ q_fu l0 l1 (0 : Int32) (0 : Int32) (0 : Int32)) (q_mo_rd fun v12 => (q_mo_wr (mr2 l0 l1 (l2 + (1 : Int32))))))))
set_option maxRecDepth 100000 in
set_option maxHeartbeats 4000000 in
theorem S_X13_words_2B {E : q_Ev} {Γ : q_Gm} {w : (Unit ⊕ q_Exn) × q_St} (B : q_Bd E Γ cX13_words yX13_words.cls 12 6 138 (none) yX13_words.name w) (hT : q_nT Γ) (r2 : Option Nat → Int32 → Int32 → q_X Unit) (hr2 : ∀ (l0 : Option Nat) (l1 : Int32) (l2 : Int32) (σ : q_St), r2 l0 l1 l2 σ = some w → q_W E Γ (q_QF E Γ q_oV w) 12 σ 2 [(0, q_R l0), (1, q_I l1), (2, q_I l2)] []) (mr2 : ∀ (l0 : Option Nat) (l1 : Int32) (l2 : Int32), q_mo (r2 l0 l1 l2)) (l0 : Option Nat) (l1 : Int32) (l2 : Int32) (σ : q_St) (h : F_X13_words_2B (q_kap E) r2 l0 l1 l2 σ = some w) : q_W E Γ (q_QF E Γ q_oV w) 12 σ 2 [(0, q_R l0), (1, q_I l1), (2, q_I l2)] [] := by
  have C := B.1
  unfold F_X13_words_2B at h
  refine q_iload_n (pc := 2) C 2 rfl dX13_words_2 rfl ?_
  refine q_aload_n (pc := 3) C 0 rfl dX13_words_3 rfl ?_
  refine q_getA (pc := 4) C dX13_words_4 ql_X13_95 h (fun v4 h => ?_)
  refine q_aln (pc := 7) C dX13_words_7 h (fun v7 h => ?_)
  refine q_icmp_ge (pc := 8) (tgt := 24) C dX13_words_8 (by decide) h (fun _ h => ?_) (fun _ h => ?_)
  · refine q_iconst (pc := 24) (v := (0 : Int32)) C dX13_words_24 (by decide) ?_
    refine q_istore_n (pc := 25) (l' := [(2, q_I (0 : Int32)), (0, q_R l0), (1, q_I l1)]) C dX13_words_25 rfl (by decide) rfl ?_
    refine q_iconst (pc := 26) (v := (0 : Int32)) C dX13_words_26 (by decide) ?_
    refine q_istore_n (pc := 27) (l' := [(3, q_I (0 : Int32)), (2, q_I (0 : Int32)), (0, q_R l0), (1, q_I l1)]) C dX13_words_27 rfl (by decide) rfl ?_
    refine q_iconst (pc := 28) (v := (0 : Int32)) C dX13_words_28 (by decide) ?_
    refine q_istore (pc := 29) (l' := [(4, q_I (0 : Int32)), (3, q_I (0 : Int32)), (2, q_I (0 : Int32)), (0, q_R l0), (1, q_I l1)]) C dX13_words_29 (by decide) rfl ?_
    refine q_W.sub [3, 4, 2, 1, 0] rfl ?_
    exact S_X13_words_31 B hT q_fu l0 l1 (0 : Int32) (0 : Int32) (0 : Int32) _ h
  · refine q_aload_n (pc := 11) C 0 rfl dX13_words_11 rfl ?_
    refine q_getA (pc := 12) C dX13_words_12 ql_X13_95 h (fun v12 h => ?_)
    refine q_iload_n (pc := 15) C 2 rfl dX13_words_15 rfl ?_
    refine q_iconst (pc := 16) (v := (0 : Int32)) C dX13_words_16 (by decide) ?_
    refine q_stI (pc := 17) C dX13_words_17 h (fun M17 h => ?_)
    refine q_iinc (pc := 18) (v := (1 : Int32)) (l' := [(2, q_I (l2 + (1 : Int32))), (0, q_R l0), (1, q_I l1)]) C 2 rfl dX13_words_18 (by decide) (by decide) rfl ?_
    refine q_goto (pc := 21) (tgt := 2) C dX13_words_21 (by decide) ?_
    refine q_W.sub [1, 2, 0] rfl ?_
    exact hr2 l0 l1 (l2 + (1 : Int32)) _ h
def F_X13_words_2 (κ : Nat → Nat) : Nat → Option Nat → Int32 → Int32 → q_X Unit
  | 0, _, _, _ => q_no
  | n + 1, l0, l1, l2 => F_X13_words_2B κ (F_X13_words_2 κ n) l0 l1 l2
theorem M_X13_words_2 (κ : Nat → Nat) : ∀ (n : Nat) (l0 : Option Nat) (l1 : Int32) (l2 : Int32), q_mo (F_X13_words_2 κ n l0 l1 l2)
  | 0, _, _, _ => q_mo_no
  | n + 1, l0, l1, l2 => M_X13_words_2B κ (F_X13_words_2 κ n) (M_X13_words_2 κ n) l0 l1 l2
theorem S_X13_words_2 {E : q_Ev} {Γ : q_Gm} {w : (Unit ⊕ q_Exn) × q_St} (B : q_Bd E Γ cX13_words yX13_words.cls 12 6 138 (none) yX13_words.name w) (hT : q_nT Γ) : ∀ (n : Nat) (l0 : Option Nat) (l1 : Int32) (l2 : Int32) (σ : q_St), F_X13_words_2 (q_kap E) n l0 l1 l2 σ = some w → q_W E Γ (q_QF E Γ q_oV w) 12 σ 2 [(0, q_R l0), (1, q_I l1), (2, q_I l2)] []
  | 0, _, _, _, _, h => by cases h
  | n + 1, l0, l1, l2, σ, h => S_X13_words_2B B hT (F_X13_words_2 (q_kap E) n) (S_X13_words_2 B hT n) (M_X13_words_2 (q_kap E) n) l0 l1 l2 σ h
def F_X13_words (κ : Nat → Nat) (l0 : Option Nat) (l1 : Int32) : q_X Unit :=
  F_X13_words_2 κ q_fu l0 l1 (0 : Int32)
theorem M_X13_words (κ : Nat → Nat) (l0 : Option Nat) (l1 : Int32) : q_mo (F_X13_words κ l0 l1) := (M_X13_words_2 κ q_fu l0 l1 (0 : Int32))
set_option maxRecDepth 100000 in
set_option maxHeartbeats 4000000 in
theorem K_X13_words {E : q_Ev} (l0 : Option Nat) (l1 : Int32) : q_Ct E yX13_words (.code yX13_words cX13_words 12 (none)) 6 138 [q_R l0, q_I l1] q_oV (F_X13_words (q_kap E) l0 l1) := by
  refine q_enter (by decide) (Nat.le_of_ble_eq_true rfl) (fun Γ σ w h B hT => ?_)
  have C := B.1
  unfold F_X13_words at h
  refine q_iconst (pc := 0) (v := (0 : Int32)) C dX13_words_0 (by decide) ?_
  refine q_istore_n (pc := 1) (l' := [(2, q_I (0 : Int32)), (0, q_R l0), (1, q_I l1)]) C dX13_words_1 rfl (by decide) rfl ?_
  refine q_W.sub [1, 2, 0] rfl ?_
  exact S_X13_words_2 B hT q_fu l0 l1 (0 : Int32) _ h
def F_X13_instruction_212 (κ : Nat → Nat) (l5 : Int32) : q_X Unit :=
  q_mk (.inr (.inl (15, [.null, .null, .null, .null, .null, .int 0, .int 0, .int 0]))) 8 fun a212 => q_gd (¬ (some a212) = none) (q_ca (F_X12_init κ (some a212) (3 : Int32) l5) fun _v219 => q_rd (q_is (some a212) 15) fun _ => q_tr RX12 (some a212))
theorem M_X13_instruction_212 (κ : Nat → Nat) (l5 : Int32) : q_mo (F_X13_instruction_212 κ l5) := (q_mo_mk fun a212 => (q_mo_gd (q_mo_ca (M_X12_init κ (some a212) (3 : Int32) l5) fun _v219 => (q_mo_rd fun _ => q_mo_tr))))
set_option maxRecDepth 100000 in
set_option maxHeartbeats 4000000 in
theorem S_X13_instruction_212 {E : q_Ev} {Γ : q_Gm} {w : (Unit ⊕ q_Exn) × q_St} (B : q_Bd E Γ cX13_instruction yX13_instruction.cls 10 7 169 (none) yX13_instruction.name w) (hT : q_nT Γ) (l5 : Int32) (σ : q_St) (h : F_X13_instruction_212 (q_kap E) l5 σ = some w) : q_W E Γ (q_QF E Γ q_oV w) 10 σ 212 [(5, q_I l5)] [] := by
  have C := B.1
  unfold F_X13_instruction_212 at h
  refine q_new (pc := 212) C dX13_instruction_212 qn_X13_209 (by exact fun a212 => (q_mo_gd (q_mo_ca (M_X12_init (q_kap E) (some a212) (3 : Int32) l5) fun _v219 => (q_mo_rd fun _ => q_mo_tr)))) B.2.1 h (fun a212 σ h => ?_)
  refine q_dup (pc := 215) C dX13_instruction_215 rfl ?_
  refine q_iconst (pc := 216) (v := (3 : Int32)) C dX13_instruction_216 (by decide) ?_
  refine q_iload (pc := 217) C 0 rfl dX13_instruction_217 ?_
  refine q_callI (pc := 219) (As := [q_I (3 : Int32), q_I l5]) (st := [q_R (some a212)]) C B.2.1 (fun _ => rfl) qm_X13_211 qI_X12_init dX13_instruction_219 rfl rfl (Nat.le_of_ble_eq_true rfl) (q_flo B.2.2.1 B.2.2.2.1 (by decide) (by decide)) (K_X12_init (some a212) (3 : Int32) l5) (M_X12_init (q_kap E) (some a212) (3 : Int32) l5) (N_X12_init (q_kap E) (some a212) (3 : Int32) l5) (by exact fun _v219 => (q_mo_rd fun _ => q_mo_tr)) h (fun _v219 σ h => ?_)
  exact q_athrow (pc := 222) (ci := 15) C hT rfl dX13_instruction_222 h
def F_X13_instruction_273 (κ : Nat → Nat) (r42 : Option Nat → Int32 → Int32 → Int32 → q_X Unit) (l0 : Option Nat) (l2 : Int32) (l3 : Int32) (l4 : Int32) (l6 : Int32) (l7 : Int32) (l9 : Int32) : q_X Unit :=
  q_rd (q_gI l0 16 22) fun v276 => q_br (¬ l9 = v276) (q_rd (q_gA l0 16 36) fun v294 => q_wr (q_sI 1 v294 (((5 : Int32) * l2) + l4) l6) (q_rd (q_gA l0 16 37) fun v307 => q_wr (q_sI 1 v307 (((5 : Int32) * l2) + l4) l9) (q_rd (q_gA l0 16 35) fun v320 => q_wr (q_sI 1 v320 (((12 : Int32) * l2) + l3) ((-1 : Int32) - l4)) (r42 l0 l2 (l3 + (1 : Int32)) (l4 + (1 : Int32)))))) (q_mk (.inr (.inl (15, [.null, .null, .null, .null, .null, .int 0, .int 0, .int 0]))) 8 fun a282 => q_gd (¬ (some a282) = none) (q_ca (F_X12_init κ (some a282) (2 : Int32) l7) fun _v289 => q_rd (q_is (some a282) 15) fun _ => q_tr RX12 (some a282)))
theorem M_X13_instruction_273 (κ : Nat → Nat) (r42 : Option Nat → Int32 → Int32 → Int32 → q_X Unit) (mr42 : ∀ (l0 : Option Nat) (l2 : Int32) (l3 : Int32) (l4 : Int32), q_mo (r42 l0 l2 l3 l4)) (l0 : Option Nat) (l2 : Int32) (l3 : Int32) (l4 : Int32) (l6 : Int32) (l7 : Int32) (l9 : Int32) : q_mo (F_X13_instruction_273 κ r42 l0 l2 l3 l4 l6 l7 l9) := (q_mo_rd fun v276 => (q_mo_br (q_mo_rd fun v294 => (q_mo_wr (q_mo_rd fun v307 => (q_mo_wr (q_mo_rd fun v320 => (q_mo_wr (mr42 l0 l2 (l3 + (1 : Int32)) (l4 + (1 : Int32))))))))) (q_mo_mk fun a282 => (q_mo_gd (q_mo_ca (M_X12_init κ (some a282) (2 : Int32) l7) fun _v289 => (q_mo_rd fun _ => q_mo_tr))))))
set_option maxRecDepth 100000 in
set_option maxHeartbeats 4000000 in
theorem S_X13_instruction_273 {E : q_Ev} {Γ : q_Gm} {w : (Unit ⊕ q_Exn) × q_St} (B : q_Bd E Γ cX13_instruction yX13_instruction.cls 10 7 169 (none) yX13_instruction.name w) (hT : q_nT Γ) (r42 : Option Nat → Int32 → Int32 → Int32 → q_X Unit) (hr42 : ∀ (l0 : Option Nat) (l2 : Int32) (l3 : Int32) (l4 : Int32) (σ : q_St), r42 l0 l2 l3 l4 σ = some w → q_W E Γ (q_QF E Γ q_oV w) 10 σ 42 [(0, q_R l0), (2, q_I l2), (3, q_I l3), (4, q_I l4)] []) (mr42 : ∀ (l0 : Option Nat) (l2 : Int32) (l3 : Int32) (l4 : Int32), q_mo (r42 l0 l2 l3 l4)) (l0 : Option Nat) (l2 : Int32) (l3 : Int32) (l4 : Int32) (l6 : Int32) (l7 : Int32) (l9 : Int32) (σ : q_St) (h : F_X13_instruction_273 (q_kap E) r42 l0 l2 l3 l4 l6 l7 l9 σ = some w) : q_W E Γ (q_QF E Γ q_oV w) 10 σ 273 [(0, q_R l0), (2, q_I l2), (3, q_I l3), (4, q_I l4), (6, q_I l6), (7, q_I l7), (9, q_I l9)] [] := by
  have C := B.1
  unfold F_X13_instruction_273 at h
  refine q_iload (pc := 273) C 6 rfl dX13_instruction_273 ?_
  refine q_aload_n (pc := 275) C 0 rfl dX13_instruction_275 rfl ?_
  refine q_getI (pc := 276) C dX13_instruction_276 ql_X13_220 h (fun v276 h => ?_)
  refine q_icmp_ne (pc := 279) (tgt := 293) C dX13_instruction_279 (by decide) h (fun _ h => ?_) (fun _ h => ?_)
  · refine q_aload_n (pc := 293) C 0 rfl dX13_instruction_293 rfl ?_
    refine q_getA (pc := 294) C dX13_instruction_294 ql_X13_86 h (fun v294 h => ?_)
    refine q_iconst (pc := 297) (v := (5 : Int32)) C dX13_instruction_297 (by decide) ?_
    refine q_iload_n (pc := 298) C 1 rfl dX13_instruction_298 rfl ?_
    refine q_imul (pc := 299) C dX13_instruction_299 ?_
    refine q_iload (pc := 300) C 3 rfl dX13_instruction_300 ?_
    refine q_iadd (pc := 302) C dX13_instruction_302 ?_
    refine q_iload (pc := 303) C 4 rfl dX13_instruction_303 ?_
    refine q_stI (pc := 305) C dX13_instruction_305 h (fun M305 h => ?_)
    refine q_aload_n (pc := 306) C 0 rfl dX13_instruction_306 rfl ?_
    refine q_getA (pc := 307) C dX13_instruction_307 ql_X13_89 h (fun v307 h => ?_)
    refine q_iconst (pc := 310) (v := (5 : Int32)) C dX13_instruction_310 (by decide) ?_
    refine q_iload_n (pc := 311) C 1 rfl dX13_instruction_311 rfl ?_
    refine q_imul (pc := 312) C dX13_instruction_312 ?_
    refine q_iload (pc := 313) C 3 rfl dX13_instruction_313 ?_
    refine q_iadd (pc := 315) C dX13_instruction_315 ?_
    refine q_iload (pc := 316) C 6 rfl dX13_instruction_316 ?_
    refine q_stI (pc := 318) C dX13_instruction_318 h (fun M318 h => ?_)
    refine q_aload_n (pc := 319) C 0 rfl dX13_instruction_319 rfl ?_
    refine q_getA (pc := 320) C dX13_instruction_320 ql_X13_83 h (fun v320 h => ?_)
    refine q_bipush (pc := 323) (v := (12 : Int32)) C dX13_instruction_323 (by decide) ?_
    refine q_iload_n (pc := 325) C 1 rfl dX13_instruction_325 rfl ?_
    refine q_imul (pc := 326) C dX13_instruction_326 ?_
    refine q_iload_n (pc := 327) C 2 rfl dX13_instruction_327 rfl ?_
    refine q_iadd (pc := 328) C dX13_instruction_328 ?_
    refine q_iconst (pc := 329) (v := (-1 : Int32)) C dX13_instruction_329 (by decide) ?_
    refine q_iload (pc := 330) C 3 rfl dX13_instruction_330 ?_
    refine q_isub (pc := 332) C dX13_instruction_332 ?_
    refine q_stI (pc := 333) C dX13_instruction_333 h (fun M333 h => ?_)
    refine q_iinc (pc := 334) (v := (1 : Int32)) (l' := [(4, q_I (l4 + (1 : Int32))), (0, q_R l0), (2, q_I l2), (3, q_I l3), (6, q_I l6), (7, q_I l7), (9, q_I l9)]) C 3 rfl dX13_instruction_334 (by decide) (by decide) rfl ?_
    refine q_iinc (pc := 337) (v := (1 : Int32)) (l' := [(3, q_I (l3 + (1 : Int32))), (4, q_I (l4 + (1 : Int32))), (0, q_R l0), (2, q_I l2), (6, q_I l6), (7, q_I l7), (9, q_I l9)]) C 3 rfl dX13_instruction_337 (by decide) (by decide) rfl ?_
    refine q_goto (pc := 340) (tgt := 42) C dX13_instruction_340 (by decide) ?_
    refine q_W.sub [2, 3, 0, 1] rfl ?_
    exact hr42 l0 l2 (l3 + (1 : Int32)) (l4 + (1 : Int32)) _ h
  · refine q_new (pc := 282) C dX13_instruction_282 qn_X13_209 (by exact fun a282 => (q_mo_gd (q_mo_ca (M_X12_init (q_kap E) (some a282) (2 : Int32) l7) fun _v289 => (q_mo_rd fun _ => q_mo_tr)))) B.2.1 h (fun a282 σ h => ?_)
    refine q_dup (pc := 285) C dX13_instruction_285 rfl ?_
    refine q_iconst (pc := 286) (v := (2 : Int32)) C dX13_instruction_286 (by decide) ?_
    refine q_iload (pc := 287) C 5 rfl dX13_instruction_287 ?_
    refine q_callI (pc := 289) (As := [q_I (2 : Int32), q_I l7]) (st := [q_R (some a282)]) C B.2.1 (fun _ => rfl) qm_X13_211 qI_X12_init dX13_instruction_289 rfl rfl (Nat.le_of_ble_eq_true rfl) (q_flo B.2.2.1 B.2.2.2.1 (by decide) (by decide)) (K_X12_init (some a282) (2 : Int32) l7) (M_X12_init (q_kap E) (some a282) (2 : Int32) l7) (N_X12_init (q_kap E) (some a282) (2 : Int32) l7) (by exact fun _v289 => (q_mo_rd fun _ => q_mo_tr)) h (fun _v289 σ h => ?_)
    exact q_athrow (pc := 292) (ci := 15) C hT rfl dX13_instruction_292 h
def F_X13_instruction_246B (κ : Nat → Nat) (r42 : Option Nat → Int32 → Int32 → Int32 → q_X Unit) (r246 : Option Nat → Int32 → Int32 → Int32 → Int32 → Int32 → Int32 → Int32 → q_X Unit) (l0 : Option Nat) (l2 : Int32) (l3 : Int32) (l4 : Int32) (l6 : Int32) (l7 : Int32) (l8 : Int32) (l9 : Int32) : q_X Unit :=
  q_rd (q_gI l0 16 22) fun v249 => q_br (v249 ≤ l9) (F_X13_instruction_273 κ r42 l0 l2 l3 l4 l6 l7 l9) (q_rd (q_gA l0 16 24) fun v256 => q_rd (q_lI 1 v256 l9) fun v261 => q_br (v261 = l8) (F_X13_instruction_273 κ r42 l0 l2 l3 l4 l6 l7 l9) (r246 l0 l2 l3 l4 l6 l7 l8 (l9 + (1 : Int32))))
theorem M_X13_instruction_246B (κ : Nat → Nat) (r42 : Option Nat → Int32 → Int32 → Int32 → q_X Unit) (mr42 : ∀ (l0 : Option Nat) (l2 : Int32) (l3 : Int32) (l4 : Int32), q_mo (r42 l0 l2 l3 l4)) (r246 : Option Nat → Int32 → Int32 → Int32 → Int32 → Int32 → Int32 → Int32 → q_X Unit) (mr246 : ∀ (l0 : Option Nat) (l2 : Int32) (l3 : Int32) (l4 : Int32) (l6 : Int32) (l7 : Int32) (l8 : Int32) (l9 : Int32), q_mo (r246 l0 l2 l3 l4 l6 l7 l8 l9)) (l0 : Option Nat) (l2 : Int32) (l3 : Int32) (l4 : Int32) (l6 : Int32) (l7 : Int32) (l8 : Int32) (l9 : Int32) : q_mo (F_X13_instruction_246B κ r42 r246 l0 l2 l3 l4 l6 l7 l8 l9) := (q_mo_rd fun v249 => (q_mo_br (M_X13_instruction_273 κ r42 mr42 l0 l2 l3 l4 l6 l7 l9) (q_mo_rd fun v256 => (q_mo_rd fun v261 => (q_mo_br (M_X13_instruction_273 κ r42 mr42 l0 l2 l3 l4 l6 l7 l9) (mr246 l0 l2 l3 l4 l6 l7 l8 (l9 + (1 : Int32))))))))
set_option maxRecDepth 100000 in
set_option maxHeartbeats 4000000 in
theorem S_X13_instruction_246B {E : q_Ev} {Γ : q_Gm} {w : (Unit ⊕ q_Exn) × q_St} (B : q_Bd E Γ cX13_instruction yX13_instruction.cls 10 7 169 (none) yX13_instruction.name w) (hT : q_nT Γ) (r42 : Option Nat → Int32 → Int32 → Int32 → q_X Unit) (hr42 : ∀ (l0 : Option Nat) (l2 : Int32) (l3 : Int32) (l4 : Int32) (σ : q_St), r42 l0 l2 l3 l4 σ = some w → q_W E Γ (q_QF E Γ q_oV w) 10 σ 42 [(0, q_R l0), (2, q_I l2), (3, q_I l3), (4, q_I l4)] []) (mr42 : ∀ (l0 : Option Nat) (l2 : Int32) (l3 : Int32) (l4 : Int32), q_mo (r42 l0 l2 l3 l4)) (r246 : Option Nat → Int32 → Int32 → Int32 → Int32 → Int32 → Int32 → Int32 → q_X Unit) (hr246 : ∀ (l0 : Option Nat) (l2 : Int32) (l3 : Int32) (l4 : Int32) (l6 : Int32) (l7 : Int32) (l8 : Int32) (l9 : Int32) (σ : q_St), r246 l0 l2 l3 l4 l6 l7 l8 l9 σ = some w → q_W E Γ (q_QF E Γ q_oV w) 10 σ 246 [(0, q_R l0), (2, q_I l2), (3, q_I l3), (4, q_I l4), (6, q_I l6), (7, q_I l7), (8, q_I l8), (9, q_I l9)] []) (mr246 : ∀ (l0 : Option Nat) (l2 : Int32) (l3 : Int32) (l4 : Int32) (l6 : Int32) (l7 : Int32) (l8 : Int32) (l9 : Int32), q_mo (r246 l0 l2 l3 l4 l6 l7 l8 l9)) (l0 : Option Nat) (l2 : Int32) (l3 : Int32) (l4 : Int32) (l6 : Int32) (l7 : Int32) (l8 : Int32) (l9 : Int32) (σ : q_St) (h : F_X13_instruction_246B (q_kap E) r42 r246 l0 l2 l3 l4 l6 l7 l8 l9 σ = some w) : q_W E Γ (q_QF E Γ q_oV w) 10 σ 246 [(0, q_R l0), (2, q_I l2), (3, q_I l3), (4, q_I l4), (6, q_I l6), (7, q_I l7), (8, q_I l8), (9, q_I l9)] [] := by
  have C := B.1
  unfold F_X13_instruction_246B at h
  refine q_iload (pc := 246) C 7 rfl dX13_instruction_246 ?_
  refine q_aload_n (pc := 248) C 0 rfl dX13_instruction_248 rfl ?_
  refine q_getI (pc := 249) C dX13_instruction_249 ql_X13_220 h (fun v249 h => ?_)
  refine q_icmp_ge (pc := 252) (tgt := 273) C dX13_instruction_252 (by decide) h (fun _ h => ?_) (fun _ h => ?_)
  · refine q_W.sub [0, 1, 2, 3, 4, 5, 7] rfl ?_
    exact S_X13_instruction_273 B hT r42 hr42 mr42 l0 l2 l3 l4 l6 l7 l9 _ h
  · refine q_aload_n (pc := 255) C 0 rfl dX13_instruction_255 rfl ?_
    refine q_getA (pc := 256) C dX13_instruction_256 ql_X13_50 h (fun v256 h => ?_)
    refine q_iload (pc := 259) C 7 rfl dX13_instruction_259 ?_
    refine q_ldI (pc := 261) C dX13_instruction_261 (Or.inr (Or.inl ⟨rfl, rfl⟩)) h (fun v261 h => ?_)
    refine q_iload (pc := 262) C 6 rfl dX13_instruction_262 ?_
    refine q_icmp_eq (pc := 264) (tgt := 273) C dX13_instruction_264 (by decide) h (fun _ h => ?_) (fun _ h => ?_)
    · refine q_W.sub [0, 1, 2, 3, 4, 5, 7] rfl ?_
      exact S_X13_instruction_273 B hT r42 hr42 mr42 l0 l2 l3 l4 l6 l7 l9 _ h
    · refine q_iinc (pc := 267) (v := (1 : Int32)) (l' := [(9, q_I (l9 + (1 : Int32))), (0, q_R l0), (2, q_I l2), (3, q_I l3), (4, q_I l4), (6, q_I l6), (7, q_I l7), (8, q_I l8)]) C 7 rfl dX13_instruction_267 (by decide) (by decide) rfl ?_
      refine q_goto (pc := 270) (tgt := 246) C dX13_instruction_270 (by decide) ?_
      refine q_W.sub [1, 2, 3, 4, 5, 6, 7, 0] rfl ?_
      exact hr246 l0 l2 l3 l4 l6 l7 l8 (l9 + (1 : Int32)) _ h
def F_X13_instruction_246 (κ : Nat → Nat) (r42 : Option Nat → Int32 → Int32 → Int32 → q_X Unit) : Nat → Option Nat → Int32 → Int32 → Int32 → Int32 → Int32 → Int32 → Int32 → q_X Unit
  | 0, _, _, _, _, _, _, _, _ => q_no
  | n + 1, l0, l2, l3, l4, l6, l7, l8, l9 => F_X13_instruction_246B κ r42 (F_X13_instruction_246 κ r42 n) l0 l2 l3 l4 l6 l7 l8 l9
theorem M_X13_instruction_246 (κ : Nat → Nat) (r42 : Option Nat → Int32 → Int32 → Int32 → q_X Unit) (mr42 : ∀ (l0 : Option Nat) (l2 : Int32) (l3 : Int32) (l4 : Int32), q_mo (r42 l0 l2 l3 l4)) : ∀ (n : Nat) (l0 : Option Nat) (l2 : Int32) (l3 : Int32) (l4 : Int32) (l6 : Int32) (l7 : Int32) (l8 : Int32) (l9 : Int32), q_mo (F_X13_instruction_246 κ r42 n l0 l2 l3 l4 l6 l7 l8 l9)
  | 0, _, _, _, _, _, _, _, _ => q_mo_no
  | n + 1, l0, l2, l3, l4, l6, l7, l8, l9 => M_X13_instruction_246B κ r42 mr42 (F_X13_instruction_246 κ r42 n) (M_X13_instruction_246 κ r42 mr42 n) l0 l2 l3 l4 l6 l7 l8 l9
theorem S_X13_instruction_246 {E : q_Ev} {Γ : q_Gm} {w : (Unit ⊕ q_Exn) × q_St} (B : q_Bd E Γ cX13_instruction yX13_instruction.cls 10 7 169 (none) yX13_instruction.name w) (hT : q_nT Γ) (r42 : Option Nat → Int32 → Int32 → Int32 → q_X Unit) (hr42 : ∀ (l0 : Option Nat) (l2 : Int32) (l3 : Int32) (l4 : Int32) (σ : q_St), r42 l0 l2 l3 l4 σ = some w → q_W E Γ (q_QF E Γ q_oV w) 10 σ 42 [(0, q_R l0), (2, q_I l2), (3, q_I l3), (4, q_I l4)] []) (mr42 : ∀ (l0 : Option Nat) (l2 : Int32) (l3 : Int32) (l4 : Int32), q_mo (r42 l0 l2 l3 l4)) : ∀ (n : Nat) (l0 : Option Nat) (l2 : Int32) (l3 : Int32) (l4 : Int32) (l6 : Int32) (l7 : Int32) (l8 : Int32) (l9 : Int32) (σ : q_St), F_X13_instruction_246 (q_kap E) r42 n l0 l2 l3 l4 l6 l7 l8 l9 σ = some w → q_W E Γ (q_QF E Γ q_oV w) 10 σ 246 [(0, q_R l0), (2, q_I l2), (3, q_I l3), (4, q_I l4), (6, q_I l6), (7, q_I l7), (8, q_I l8), (9, q_I l9)] []
  | 0, _, _, _, _, _, _, _, _, _, h => by cases h
  | n + 1, l0, l2, l3, l4, l6, l7, l8, l9, σ, h => S_X13_instruction_246B B hT r42 hr42 mr42 (F_X13_instruction_246 (q_kap E) r42 n) (S_X13_instruction_246 B hT r42 hr42 mr42 n) (M_X13_instruction_246 (q_kap E) r42 mr42 n) l0 l2 l3 l4 l6 l7 l8 l9 σ h
def F_X13_instruction_160B (κ : Nat → Nat) (r42 : Option Nat → Int32 → Int32 → Int32 → q_X Unit) (r160 : Option Nat → Int32 → Int32 → Int32 → Int32 → Int32 → Int32 → q_X Unit) (l0 : Option Nat) (l2 : Int32) (l3 : Int32) (l4 : Int32) (l5 : Int32) (l6 : Int32) (l7 : Int32) : q_X Unit :=
  q_br (l4 ≤ l7) (q_br (l3 = (12 : Int32)) (F_X13_instruction_212 κ l5) (q_br (¬ l4 = (5 : Int32)) (q_rd (q_is l0 16) fun _ => q_ca (F_X13_expect κ l0 (58 : Int32)) fun _v226 => q_rd (q_is l0 16) fun _ => q_ca (F_X13_expectName κ l0) fun v230 => q_rd (q_is l0 16) fun _ => q_ca (F_X13_nameOf κ l0 v230) fun v238 => F_X13_instruction_246 κ r42 q_fu l0 l2 l3 l4 l6 v230 v238 (0 : Int32)) (F_X13_instruction_212 κ l5))) (q_rd (q_gA l0 16 36) fun v168 => q_rd (q_lI 1 v168 (((5 : Int32) * l2) + l7)) fun v177 => q_br (¬ v177 = l6) (r160 l0 l2 l3 l4 l5 l6 (l7 + (1 : Int32))) (q_mk (.inr (.inl (15, [.null, .null, .null, .null, .null, .int 0, .int 0, .int 0]))) 8 fun a183 => q_gd (¬ (some a183) = none) (q_ca (F_X12_init κ (some a183) (2 : Int32) l5) fun _v190 => q_rd (q_is (some a183) 15) fun _ => q_tr RX12 (some a183))))
theorem M_X13_instruction_160B (κ : Nat → Nat) (r42 : Option Nat → Int32 → Int32 → Int32 → q_X Unit) (mr42 : ∀ (l0 : Option Nat) (l2 : Int32) (l3 : Int32) (l4 : Int32), q_mo (r42 l0 l2 l3 l4)) (r160 : Option Nat → Int32 → Int32 → Int32 → Int32 → Int32 → Int32 → q_X Unit) (mr160 : ∀ (l0 : Option Nat) (l2 : Int32) (l3 : Int32) (l4 : Int32) (l5 : Int32) (l6 : Int32) (l7 : Int32), q_mo (r160 l0 l2 l3 l4 l5 l6 l7)) (l0 : Option Nat) (l2 : Int32) (l3 : Int32) (l4 : Int32) (l5 : Int32) (l6 : Int32) (l7 : Int32) : q_mo (F_X13_instruction_160B κ r42 r160 l0 l2 l3 l4 l5 l6 l7) := (q_mo_br (q_mo_br (M_X13_instruction_212 κ l5) (q_mo_br (q_mo_rd fun _ => q_mo_ca (M_X13_expect κ l0 (58 : Int32)) fun _v226 => (q_mo_rd fun _ => q_mo_ca (M_X13_expectName κ l0) fun v230 => (q_mo_rd fun _ => q_mo_ca (M_X13_nameOf κ l0 v230) fun v238 => (M_X13_instruction_246 κ r42 mr42 q_fu l0 l2 l3 l4 l6 v230 v238 (0 : Int32))))) (M_X13_instruction_212 κ l5))) (q_mo_rd fun v168 => (q_mo_rd fun v177 => (q_mo_br (mr160 l0 l2 l3 l4 l5 l6 (l7 + (1 : Int32))) (q_mo_mk fun a183 => (q_mo_gd (q_mo_ca (M_X12_init κ (some a183) (2 : Int32) l5) fun _v190 => (q_mo_rd fun _ => q_mo_tr))))))))
set_option maxRecDepth 100000 in
set_option maxHeartbeats 4000000 in
theorem S_X13_instruction_160B {E : q_Ev} {Γ : q_Gm} {w : (Unit ⊕ q_Exn) × q_St} (B : q_Bd E Γ cX13_instruction yX13_instruction.cls 10 7 169 (none) yX13_instruction.name w) (hT : q_nT Γ) (r42 : Option Nat → Int32 → Int32 → Int32 → q_X Unit) (hr42 : ∀ (l0 : Option Nat) (l2 : Int32) (l3 : Int32) (l4 : Int32) (σ : q_St), r42 l0 l2 l3 l4 σ = some w → q_W E Γ (q_QF E Γ q_oV w) 10 σ 42 [(0, q_R l0), (2, q_I l2), (3, q_I l3), (4, q_I l4)] []) (mr42 : ∀ (l0 : Option Nat) (l2 : Int32) (l3 : Int32) (l4 : Int32), q_mo (r42 l0 l2 l3 l4)) (r160 : Option Nat → Int32 → Int32 → Int32 → Int32 → Int32 → Int32 → q_X Unit) (hr160 : ∀ (l0 : Option Nat) (l2 : Int32) (l3 : Int32) (l4 : Int32) (l5 : Int32) (l6 : Int32) (l7 : Int32) (σ : q_St), r160 l0 l2 l3 l4 l5 l6 l7 σ = some w → q_W E Γ (q_QF E Γ q_oV w) 10 σ 160 [(0, q_R l0), (2, q_I l2), (3, q_I l3), (4, q_I l4), (5, q_I l5), (6, q_I l6), (7, q_I l7)] []) (mr160 : ∀ (l0 : Option Nat) (l2 : Int32) (l3 : Int32) (l4 : Int32) (l5 : Int32) (l6 : Int32) (l7 : Int32), q_mo (r160 l0 l2 l3 l4 l5 l6 l7)) (l0 : Option Nat) (l2 : Int32) (l3 : Int32) (l4 : Int32) (l5 : Int32) (l6 : Int32) (l7 : Int32) (σ : q_St) (h : F_X13_instruction_160B (q_kap E) r42 r160 l0 l2 l3 l4 l5 l6 l7 σ = some w) : q_W E Γ (q_QF E Γ q_oV w) 10 σ 160 [(0, q_R l0), (2, q_I l2), (3, q_I l3), (4, q_I l4), (5, q_I l5), (6, q_I l6), (7, q_I l7)] [] := by
  have C := B.1
  unfold F_X13_instruction_160B at h
  refine q_iload (pc := 160) C 6 rfl dX13_instruction_160 ?_
  refine q_iload (pc := 162) C 3 rfl dX13_instruction_162 ?_
  refine q_icmp_ge (pc := 164) (tgt := 200) C dX13_instruction_164 (by decide) h (fun _ h => ?_) (fun _ h => ?_)
  · refine q_iload_n (pc := 200) C 2 rfl dX13_instruction_200 rfl ?_
    refine q_bipush (pc := 201) (v := (12 : Int32)) C dX13_instruction_201 (by decide) ?_
    refine q_icmp_eq (pc := 203) (tgt := 212) C dX13_instruction_203 (by decide) h (fun _ h => ?_) (fun _ h => ?_)
    · refine q_W.sub [4] rfl ?_
      exact S_X13_instruction_212 B hT l5 _ h
    · refine q_iload (pc := 206) C 3 rfl dX13_instruction_206 ?_
      refine q_iconst (pc := 208) (v := (5 : Int32)) C dX13_instruction_208 (by decide) ?_
      refine q_icmp_ne (pc := 209) (tgt := 223) C dX13_instruction_209 (by decide) h (fun _ h => ?_) (fun _ h => ?_)
      · refine q_aload_n (pc := 223) C 0 rfl dX13_instruction_223 rfl ?_
        refine q_bipush (pc := 224) (v := (58 : Int32)) C dX13_instruction_224 (by decide) ?_
        refine q_callV (pc := 226) (As := [q_I (58 : Int32)]) (st := []) (ps := q_psV) C B.2.1 hT q_hpV qm_X13_241 qv_X13_expect dX13_instruction_226 rfl rfl (Nat.le_of_ble_eq_true rfl) (q_flo B.2.2.1 B.2.2.2.1 (by decide) (by decide)) (K_X13_expect l0 (58 : Int32)) (M_X13_expect (q_kap E) l0 (58 : Int32)) (by exact fun _v226 => (q_mo_rd fun _ => q_mo_ca (M_X13_expectName (q_kap E) l0) fun v230 => (q_mo_rd fun _ => q_mo_ca (M_X13_nameOf (q_kap E) l0 v230) fun v238 => (M_X13_instruction_246 (q_kap E) r42 mr42 q_fu l0 l2 l3 l4 l6 v230 v238 (0 : Int32))))) h (fun _v226 σ h => ?_)
        refine q_W.st (st' := []) rfl ?_
        refine q_aload_n (pc := 229) C 0 rfl dX13_instruction_229 rfl ?_
        refine q_callV (pc := 230) (As := []) (st := []) (ps := q_psI) C B.2.1 hT q_hpI qm_X13_263 qv_X13_expectName dX13_instruction_230 rfl rfl (Nat.le_of_ble_eq_true rfl) (q_flo B.2.2.1 B.2.2.2.1 (by decide) (by decide)) (K_X13_expectName l0) (M_X13_expectName (q_kap E) l0) (by exact fun v230 => (q_mo_rd fun _ => q_mo_ca (M_X13_nameOf (q_kap E) l0 v230) fun v238 => (M_X13_instruction_246 (q_kap E) r42 mr42 q_fu l0 l2 l3 l4 l6 v230 v238 (0 : Int32)))) h (fun v230 σ h => ?_)
        refine q_W.st (st' := [q_I v230]) rfl ?_
        refine q_istore (pc := 233) (l' := [(7, q_I v230), (0, q_R l0), (2, q_I l2), (3, q_I l3), (4, q_I l4), (5, q_I l5), (6, q_I l6)]) C dX13_instruction_233 (by decide) rfl ?_
        refine q_aload_n (pc := 235) C 1 rfl dX13_instruction_235 rfl ?_
        refine q_iload (pc := 236) C 0 rfl dX13_instruction_236 ?_
        refine q_callV (pc := 238) (As := [q_I v230]) (st := []) (ps := q_psI) C B.2.1 hT q_hpI qm_X13_266 qv_X13_nameOf dX13_instruction_238 rfl rfl (Nat.le_of_ble_eq_true rfl) (q_flo B.2.2.1 B.2.2.2.1 (by decide) (by decide)) (K_X13_nameOf l0 v230) (M_X13_nameOf (q_kap E) l0 v230) (by exact fun v238 => (M_X13_instruction_246 (q_kap E) r42 mr42 q_fu l0 l2 l3 l4 l6 v230 v238 (0 : Int32))) h (fun v238 σ h => ?_)
        refine q_W.st (st' := [q_I v238]) rfl ?_
        refine q_istore (pc := 241) (l' := [(8, q_I v238), (7, q_I v230), (0, q_R l0), (2, q_I l2), (3, q_I l3), (4, q_I l4), (5, q_I l5), (6, q_I l6)]) C dX13_instruction_241 (by decide) rfl ?_
        refine q_iconst (pc := 243) (v := (0 : Int32)) C dX13_instruction_243 (by decide) ?_
        refine q_istore (pc := 244) (l' := [(9, q_I (0 : Int32)), (8, q_I v238), (7, q_I v230), (0, q_R l0), (2, q_I l2), (3, q_I l3), (4, q_I l4), (5, q_I l5), (6, q_I l6)]) C dX13_instruction_244 (by decide) rfl ?_
        refine q_W.sub [3, 4, 5, 6, 8, 2, 1, 0] rfl ?_
        exact S_X13_instruction_246 B hT r42 hr42 mr42 q_fu l0 l2 l3 l4 l6 v230 v238 (0 : Int32) _ h
      · refine q_W.sub [4] rfl ?_
        exact S_X13_instruction_212 B hT l5 _ h
  · refine q_aload_n (pc := 167) C 0 rfl dX13_instruction_167 rfl ?_
    refine q_getA (pc := 168) C dX13_instruction_168 ql_X13_86 h (fun v168 h => ?_)
    refine q_iconst (pc := 171) (v := (5 : Int32)) C dX13_instruction_171 (by decide) ?_
    refine q_iload_n (pc := 172) C 1 rfl dX13_instruction_172 rfl ?_
    refine q_imul (pc := 173) C dX13_instruction_173 ?_
    refine q_iload (pc := 174) C 6 rfl dX13_instruction_174 ?_
    refine q_iadd (pc := 176) C dX13_instruction_176 ?_
    refine q_ldI (pc := 177) C dX13_instruction_177 (Or.inr (Or.inl ⟨rfl, rfl⟩)) h (fun v177 h => ?_)
    refine q_iload (pc := 178) C 5 rfl dX13_instruction_178 ?_
    refine q_icmp_ne (pc := 180) (tgt := 194) C dX13_instruction_180 (by decide) h (fun _ h => ?_) (fun _ h => ?_)
    · refine q_iinc (pc := 194) (v := (1 : Int32)) (l' := [(7, q_I (l7 + (1 : Int32))), (0, q_R l0), (2, q_I l2), (3, q_I l3), (4, q_I l4), (5, q_I l5), (6, q_I l6)]) C 6 rfl dX13_instruction_194 (by decide) (by decide) rfl ?_
      refine q_goto (pc := 197) (tgt := 160) C dX13_instruction_197 (by decide) ?_
      refine q_W.sub [1, 2, 3, 4, 5, 6, 0] rfl ?_
      exact hr160 l0 l2 l3 l4 l5 l6 (l7 + (1 : Int32)) _ h
    · refine q_new (pc := 183) C dX13_instruction_183 qn_X13_209 (by exact fun a183 => (q_mo_gd (q_mo_ca (M_X12_init (q_kap E) (some a183) (2 : Int32) l5) fun _v190 => (q_mo_rd fun _ => q_mo_tr)))) B.2.1 h (fun a183 σ h => ?_)
      refine q_dup (pc := 186) C dX13_instruction_186 rfl ?_
      refine q_iconst (pc := 187) (v := (2 : Int32)) C dX13_instruction_187 (by decide) ?_
      refine q_iload (pc := 188) C 4 rfl dX13_instruction_188 ?_
      refine q_callI (pc := 190) (As := [q_I (2 : Int32), q_I l5]) (st := [q_R (some a183)]) C B.2.1 (fun _ => rfl) qm_X13_211 qI_X12_init dX13_instruction_190 rfl rfl (Nat.le_of_ble_eq_true rfl) (q_flo B.2.2.1 B.2.2.2.1 (by decide) (by decide)) (K_X12_init (some a183) (2 : Int32) l5) (M_X12_init (q_kap E) (some a183) (2 : Int32) l5) (N_X12_init (q_kap E) (some a183) (2 : Int32) l5) (by exact fun _v190 => (q_mo_rd fun _ => q_mo_tr)) h (fun _v190 σ h => ?_)
      exact q_athrow (pc := 193) (ci := 15) C hT rfl dX13_instruction_193 h
def F_X13_instruction_160 (κ : Nat → Nat) (r42 : Option Nat → Int32 → Int32 → Int32 → q_X Unit) : Nat → Option Nat → Int32 → Int32 → Int32 → Int32 → Int32 → Int32 → q_X Unit
  | 0, _, _, _, _, _, _, _ => q_no
  | n + 1, l0, l2, l3, l4, l5, l6, l7 => F_X13_instruction_160B κ r42 (F_X13_instruction_160 κ r42 n) l0 l2 l3 l4 l5 l6 l7
theorem M_X13_instruction_160 (κ : Nat → Nat) (r42 : Option Nat → Int32 → Int32 → Int32 → q_X Unit) (mr42 : ∀ (l0 : Option Nat) (l2 : Int32) (l3 : Int32) (l4 : Int32), q_mo (r42 l0 l2 l3 l4)) : ∀ (n : Nat) (l0 : Option Nat) (l2 : Int32) (l3 : Int32) (l4 : Int32) (l5 : Int32) (l6 : Int32) (l7 : Int32), q_mo (F_X13_instruction_160 κ r42 n l0 l2 l3 l4 l5 l6 l7)
  | 0, _, _, _, _, _, _, _ => q_mo_no
  | n + 1, l0, l2, l3, l4, l5, l6, l7 => M_X13_instruction_160B κ r42 mr42 (F_X13_instruction_160 κ r42 n) (M_X13_instruction_160 κ r42 mr42 n) l0 l2 l3 l4 l5 l6 l7
theorem S_X13_instruction_160 {E : q_Ev} {Γ : q_Gm} {w : (Unit ⊕ q_Exn) × q_St} (B : q_Bd E Γ cX13_instruction yX13_instruction.cls 10 7 169 (none) yX13_instruction.name w) (hT : q_nT Γ) (r42 : Option Nat → Int32 → Int32 → Int32 → q_X Unit) (hr42 : ∀ (l0 : Option Nat) (l2 : Int32) (l3 : Int32) (l4 : Int32) (σ : q_St), r42 l0 l2 l3 l4 σ = some w → q_W E Γ (q_QF E Γ q_oV w) 10 σ 42 [(0, q_R l0), (2, q_I l2), (3, q_I l3), (4, q_I l4)] []) (mr42 : ∀ (l0 : Option Nat) (l2 : Int32) (l3 : Int32) (l4 : Int32), q_mo (r42 l0 l2 l3 l4)) : ∀ (n : Nat) (l0 : Option Nat) (l2 : Int32) (l3 : Int32) (l4 : Int32) (l5 : Int32) (l6 : Int32) (l7 : Int32) (σ : q_St), F_X13_instruction_160 (q_kap E) r42 n l0 l2 l3 l4 l5 l6 l7 σ = some w → q_W E Γ (q_QF E Γ q_oV w) 10 σ 160 [(0, q_R l0), (2, q_I l2), (3, q_I l3), (4, q_I l4), (5, q_I l5), (6, q_I l6), (7, q_I l7)] []
  | 0, _, _, _, _, _, _, _, _, h => by cases h
  | n + 1, l0, l2, l3, l4, l5, l6, l7, σ, h => S_X13_instruction_160B B hT r42 hr42 mr42 (F_X13_instruction_160 (q_kap E) r42 n) (S_X13_instruction_160 B hT r42 hr42 mr42 n) (M_X13_instruction_160 (q_kap E) r42 mr42 n) l0 l2 l3 l4 l5 l6 l7 σ h
def F_X13_instruction_143 (κ : Nat → Nat) (r42 : Option Nat → Int32 → Int32 → Int32 → q_X Unit) (l0 : Option Nat) (l2 : Int32) (l3 : Int32) (l4 : Int32) : q_X Unit :=
  q_rd (q_is l0 16) fun _ => q_ca (F_X13_expectName κ l0) fun v144 => q_rd (q_is l0 16) fun _ => q_ca (F_X13_nameOf κ l0 v144) fun v152 => F_X13_instruction_160 κ r42 q_fu l0 l2 l3 l4 v144 v152 (0 : Int32)
theorem M_X13_instruction_143 (κ : Nat → Nat) (r42 : Option Nat → Int32 → Int32 → Int32 → q_X Unit) (mr42 : ∀ (l0 : Option Nat) (l2 : Int32) (l3 : Int32) (l4 : Int32), q_mo (r42 l0 l2 l3 l4)) (l0 : Option Nat) (l2 : Int32) (l3 : Int32) (l4 : Int32) : q_mo (F_X13_instruction_143 κ r42 l0 l2 l3 l4) := (q_mo_rd fun _ => q_mo_ca (M_X13_expectName κ l0) fun v144 => (q_mo_rd fun _ => q_mo_ca (M_X13_nameOf κ l0 v144) fun v152 => (M_X13_instruction_160 κ r42 mr42 q_fu l0 l2 l3 l4 v144 v152 (0 : Int32))))
set_option maxRecDepth 100000 in
set_option maxHeartbeats 4000000 in
theorem S_X13_instruction_143 {E : q_Ev} {Γ : q_Gm} {w : (Unit ⊕ q_Exn) × q_St} (B : q_Bd E Γ cX13_instruction yX13_instruction.cls 10 7 169 (none) yX13_instruction.name w) (hT : q_nT Γ) (r42 : Option Nat → Int32 → Int32 → Int32 → q_X Unit) (hr42 : ∀ (l0 : Option Nat) (l2 : Int32) (l3 : Int32) (l4 : Int32) (σ : q_St), r42 l0 l2 l3 l4 σ = some w → q_W E Γ (q_QF E Γ q_oV w) 10 σ 42 [(0, q_R l0), (2, q_I l2), (3, q_I l3), (4, q_I l4)] []) (mr42 : ∀ (l0 : Option Nat) (l2 : Int32) (l3 : Int32) (l4 : Int32), q_mo (r42 l0 l2 l3 l4)) (l0 : Option Nat) (l2 : Int32) (l3 : Int32) (l4 : Int32) (σ : q_St) (h : F_X13_instruction_143 (q_kap E) r42 l0 l2 l3 l4 σ = some w) : q_W E Γ (q_QF E Γ q_oV w) 10 σ 143 [(0, q_R l0), (2, q_I l2), (3, q_I l3), (4, q_I l4)] [] := by
  have C := B.1
  unfold F_X13_instruction_143 at h
  refine q_aload_n (pc := 143) C 0 rfl dX13_instruction_143 rfl ?_
  refine q_callV (pc := 144) (As := []) (st := []) (ps := q_psI) C B.2.1 hT q_hpI qm_X13_263 qv_X13_expectName dX13_instruction_144 rfl rfl (Nat.le_of_ble_eq_true rfl) (q_flo B.2.2.1 B.2.2.2.1 (by decide) (by decide)) (K_X13_expectName l0) (M_X13_expectName (q_kap E) l0) (by exact fun v144 => (q_mo_rd fun _ => q_mo_ca (M_X13_nameOf (q_kap E) l0 v144) fun v152 => (M_X13_instruction_160 (q_kap E) r42 mr42 q_fu l0 l2 l3 l4 v144 v152 (0 : Int32)))) h (fun v144 σ h => ?_)
  refine q_W.st (st' := [q_I v144]) rfl ?_
  refine q_istore (pc := 147) (l' := [(5, q_I v144), (0, q_R l0), (2, q_I l2), (3, q_I l3), (4, q_I l4)]) C dX13_instruction_147 (by decide) rfl ?_
  refine q_aload_n (pc := 149) C 1 rfl dX13_instruction_149 rfl ?_
  refine q_iload (pc := 150) C 0 rfl dX13_instruction_150 ?_
  refine q_callV (pc := 152) (As := [q_I v144]) (st := []) (ps := q_psI) C B.2.1 hT q_hpI qm_X13_266 qv_X13_nameOf dX13_instruction_152 rfl rfl (Nat.le_of_ble_eq_true rfl) (q_flo B.2.2.1 B.2.2.2.1 (by decide) (by decide)) (K_X13_nameOf l0 v144) (M_X13_nameOf (q_kap E) l0 v144) (by exact fun v152 => (M_X13_instruction_160 (q_kap E) r42 mr42 q_fu l0 l2 l3 l4 v144 v152 (0 : Int32))) h (fun v152 σ h => ?_)
  refine q_W.st (st' := [q_I v152]) rfl ?_
  refine q_istore (pc := 155) (l' := [(6, q_I v152), (5, q_I v144), (0, q_R l0), (2, q_I l2), (3, q_I l3), (4, q_I l4)]) C dX13_instruction_155 (by decide) rfl ?_
  refine q_iconst (pc := 157) (v := (0 : Int32)) C dX13_instruction_157 (by decide) ?_
  refine q_istore (pc := 158) (l' := [(7, q_I (0 : Int32)), (6, q_I v152), (5, q_I v144), (0, q_R l0), (2, q_I l2), (3, q_I l3), (4, q_I l4)]) C dX13_instruction_158 (by decide) rfl ?_
  refine q_W.sub [3, 4, 5, 6, 2, 1, 0] rfl ?_
  exact S_X13_instruction_160 B hT r42 hr42 mr42 q_fu l0 l2 l3 l4 v144 v152 (0 : Int32) _ h
def F_X13_instruction_42B (κ : Nat → Nat) (r42 : Option Nat → Int32 → Int32 → Int32 → q_X Unit) (l0 : Option Nat) (l2 : Int32) (l3 : Int32) (l4 : Int32) : q_X Unit :=
  q_rd (q_gI l0 16 15) fun v44 => q_rd (q_is l0 16) fun _ => q_ca (F_X13_isSign κ l0 v44 (61 : Int32)) fun v49 => q_br (¬ v49 = 0) (q_rd (q_gI l0 16 15) fun v345 => q_wr (q_pF l0 16 15 (.int (v345 + (1 : Int32)))) (q_rd (q_gA l0 16 31) fun v354 => q_wr (q_sI 1 v354 l2 l3) (q_rd (q_gA l0 16 32) fun v361 => q_wr (q_sI 1 v361 l2 l4) (q_rd (q_is l0 16) fun _ => q_ca (F_X13_words κ l0 l2) fun _v370 => q_rd (q_gI l0 16 23) fun v375 => q_wr (q_pF l0 16 23 (.int (v375 + (1 : Int32)))) (q_rt ()))))) (q_rd (q_gA l0 16 9) fun v56 => q_rd (q_gI l0 16 15) fun v60 => q_rd (q_lI 1 v56 v60) fun v63 => q_br (¬ v63 = (3 : Int32)) (F_X13_instruction_143 κ r42 l0 l2 l3 l4) (q_rd (q_gA l0 16 12) fun v72 => q_rd (q_gI l0 16 15) fun v76 => q_rd (q_lL v72 v76) fun v79 => q_rd (q_sp (some (κ 10)) 0) fun _ => q_ca (F_J0_indexOf_0f7a4 κ (some (κ 10)) v79.toInt32) fun v81 => q_br (v81 < 0) (F_X13_instruction_143 κ r42 l0 l2 l3 l4) (q_br (¬ l3 = (12 : Int32)) (q_rd (q_gA l0 16 35) fun v107 => q_rd (q_gA l0 16 12) fun v117 => q_rd (q_gI l0 16 15) fun v121 => q_rd (q_lL v117 v121) fun v124 => q_wr (q_sI 1 v107 (((12 : Int32) * l2) + l3) v124.toInt32) (q_rd (q_gI l0 16 15) fun v132 => q_wr (q_pF l0 16 15 (.int (v132 + (1 : Int32)))) (r42 l0 l2 (l3 + (1 : Int32)) l4))) (q_mk (.inr (.inl (15, [.null, .null, .null, .null, .null, .int 0, .int 0, .int 0]))) 8 fun a93 => q_rd (q_gI l0 16 15) fun v99 => q_gd (¬ (some a93) = none) (q_ca (F_X12_init κ (some a93) (3 : Int32) v99) fun _v102 => q_rd (q_is (some a93) 15) fun _ => q_tr RX12 (some a93))))))
theorem M_X13_instruction_42B (κ : Nat → Nat) (r42 : Option Nat → Int32 → Int32 → Int32 → q_X Unit) (mr42 : ∀ (l0 : Option Nat) (l2 : Int32) (l3 : Int32) (l4 : Int32), q_mo (r42 l0 l2 l3 l4)) (l0 : Option Nat) (l2 : Int32) (l3 : Int32) (l4 : Int32) : q_mo (F_X13_instruction_42B κ r42 l0 l2 l3 l4) := (q_mo_rd fun v44 => (q_mo_rd fun _ => q_mo_ca (M_X13_isSign κ l0 v44 (61 : Int32)) fun v49 => (q_mo_br (q_mo_rd fun v345 => (q_mo_wr (q_mo_rd fun v354 => (q_mo_wr (q_mo_rd fun v361 => (q_mo_wr (q_mo_rd fun _ => q_mo_ca (M_X13_words κ l0 l2) fun _v370 => (q_mo_rd fun v375 => (q_mo_wr q_mo_rt))))))))) (q_mo_rd fun v56 => (q_mo_rd fun v60 => (q_mo_rd fun v63 => (q_mo_br (M_X13_instruction_143 κ r42 mr42 l0 l2 l3 l4) (q_mo_rd fun v72 => (q_mo_rd fun v76 => (q_mo_rd fun v79 => (q_mo_rd fun _ => q_mo_ca (M_J0_indexOf_0f7a4 κ (some (κ 10)) v79.toInt32) fun v81 => (q_mo_br (M_X13_instruction_143 κ r42 mr42 l0 l2 l3 l4) (q_mo_br (q_mo_rd fun v107 => (q_mo_rd fun v117 => (q_mo_rd fun v121 => (q_mo_rd fun v124 => (q_mo_wr (q_mo_rd fun v132 => (q_mo_wr (mr42 l0 l2 (l3 + (1 : Int32)) l4)))))))) (q_mo_mk fun a93 => (q_mo_rd fun v99 => (q_mo_gd (q_mo_ca (M_X12_init κ (some a93) (3 : Int32) v99) fun _v102 => (q_mo_rd fun _ => q_mo_tr))))))))))))))))))
set_option maxRecDepth 100000 in
set_option maxHeartbeats 4000000 in
theorem S_X13_instruction_42B {E : q_Ev} {Γ : q_Gm} {w : (Unit ⊕ q_Exn) × q_St} (B : q_Bd E Γ cX13_instruction yX13_instruction.cls 10 7 169 (none) yX13_instruction.name w) (hT : q_nT Γ) (r42 : Option Nat → Int32 → Int32 → Int32 → q_X Unit) (hr42 : ∀ (l0 : Option Nat) (l2 : Int32) (l3 : Int32) (l4 : Int32) (σ : q_St), r42 l0 l2 l3 l4 σ = some w → q_W E Γ (q_QF E Γ q_oV w) 10 σ 42 [(0, q_R l0), (2, q_I l2), (3, q_I l3), (4, q_I l4)] []) (mr42 : ∀ (l0 : Option Nat) (l2 : Int32) (l3 : Int32) (l4 : Int32), q_mo (r42 l0 l2 l3 l4)) (l0 : Option Nat) (l2 : Int32) (l3 : Int32) (l4 : Int32) (σ : q_St) (h : F_X13_instruction_42B (q_kap E) r42 l0 l2 l3 l4 σ = some w) : q_W E Γ (q_QF E Γ q_oV w) 10 σ 42 [(0, q_R l0), (2, q_I l2), (3, q_I l3), (4, q_I l4)] [] := by
  have C := B.1
  unfold F_X13_instruction_42B at h
  refine q_aload_n (pc := 42) C 0 rfl dX13_instruction_42 rfl ?_
  refine q_aload_n (pc := 43) C 0 rfl dX13_instruction_43 rfl ?_
  refine q_getI (pc := 44) C dX13_instruction_44 ql_X13_206 h (fun v44 h => ?_)
  refine q_bipush (pc := 47) (v := (61 : Int32)) C dX13_instruction_47 (by decide) ?_
  refine q_callV (pc := 49) (As := [q_I v44, q_I (61 : Int32)]) (st := []) (ps := q_psI) C B.2.1 hT q_hpI qm_X13_214 qv_X13_isSign dX13_instruction_49 rfl rfl (Nat.le_of_ble_eq_true rfl) (q_flo B.2.2.1 B.2.2.2.1 (by decide) (by decide)) (K_X13_isSign l0 v44 (61 : Int32)) (M_X13_isSign (q_kap E) l0 v44 (61 : Int32)) (by exact fun v49 => (q_mo_br (q_mo_rd fun v345 => (q_mo_wr (q_mo_rd fun v354 => (q_mo_wr (q_mo_rd fun v361 => (q_mo_wr (q_mo_rd fun _ => q_mo_ca (M_X13_words (q_kap E) l0 l2) fun _v370 => (q_mo_rd fun v375 => (q_mo_wr q_mo_rt))))))))) (q_mo_rd fun v56 => (q_mo_rd fun v60 => (q_mo_rd fun v63 => (q_mo_br (M_X13_instruction_143 (q_kap E) r42 mr42 l0 l2 l3 l4) (q_mo_rd fun v72 => (q_mo_rd fun v76 => (q_mo_rd fun v79 => (q_mo_rd fun _ => q_mo_ca (M_J0_indexOf_0f7a4 (q_kap E) (some ((q_kap E) 10)) v79.toInt32) fun v81 => (q_mo_br (M_X13_instruction_143 (q_kap E) r42 mr42 l0 l2 l3 l4) (q_mo_br (q_mo_rd fun v107 => (q_mo_rd fun v117 => (q_mo_rd fun v121 => (q_mo_rd fun v124 => (q_mo_wr (q_mo_rd fun v132 => (q_mo_wr (mr42 l0 l2 (l3 + (1 : Int32)) l4)))))))) (q_mo_mk fun a93 => (q_mo_rd fun v99 => (q_mo_gd (q_mo_ca (M_X12_init (q_kap E) (some a93) (3 : Int32) v99) fun _v102 => (q_mo_rd fun _ => q_mo_tr))))))))))))))))) h (fun v49 σ h => ?_)
  refine q_W.st (st' := [q_I v49]) rfl ?_
  refine q_if_ne (pc := 52) (tgt := 343) C dX13_instruction_52 (by decide) h (fun _ h => ?_) (fun _ h => ?_)
  · refine q_aload_n (pc := 343) C 0 rfl dX13_instruction_343 rfl ?_
    refine q_dup (pc := 344) C dX13_instruction_344 rfl ?_
    refine q_getI (pc := 345) C dX13_instruction_345 ql_X13_206 h (fun v345 h => ?_)
    refine q_iconst (pc := 348) (v := (1 : Int32)) C dX13_instruction_348 (by decide) ?_
    refine q_iadd (pc := 349) C dX13_instruction_349 ?_
    refine q_putV (pc := 350) (v := q_I (v345 + (1 : Int32))) C dX13_instruction_350 ql_X13_206 (Or.inl rfl) rfl rfl h (fun M350 h => ?_)
    refine q_aload_n (pc := 353) C 0 rfl dX13_instruction_353 rfl ?_
    refine q_getA (pc := 354) C dX13_instruction_354 ql_X13_71 h (fun v354 h => ?_)
    refine q_iload_n (pc := 357) C 1 rfl dX13_instruction_357 rfl ?_
    refine q_iload_n (pc := 358) C 2 rfl dX13_instruction_358 rfl ?_
    refine q_stI (pc := 359) C dX13_instruction_359 h (fun M359 h => ?_)
    refine q_aload_n (pc := 360) C 0 rfl dX13_instruction_360 rfl ?_
    refine q_getA (pc := 361) C dX13_instruction_361 ql_X13_74 h (fun v361 h => ?_)
    refine q_iload_n (pc := 364) C 1 rfl dX13_instruction_364 rfl ?_
    refine q_iload (pc := 365) C 3 rfl dX13_instruction_365 ?_
    refine q_stI (pc := 367) C dX13_instruction_367 h (fun M367 h => ?_)
    refine q_aload_n (pc := 368) C 0 rfl dX13_instruction_368 rfl ?_
    refine q_iload_n (pc := 369) C 1 rfl dX13_instruction_369 rfl ?_
    refine q_callV (pc := 370) (As := [q_I l2]) (st := []) (ps := q_psV) C B.2.1 hT q_hpV qm_X13_280 qv_X13_words dX13_instruction_370 rfl rfl (Nat.le_of_ble_eq_true rfl) (q_flo B.2.2.1 B.2.2.2.1 (by decide) (by decide)) (K_X13_words l0 l2) (M_X13_words (q_kap E) l0 l2) (by exact fun _v370 => (q_mo_rd fun v375 => (q_mo_wr q_mo_rt))) h (fun _v370 σ h => ?_)
    refine q_W.st (st' := []) rfl ?_
    refine q_aload_n (pc := 373) C 0 rfl dX13_instruction_373 rfl ?_
    refine q_dup (pc := 374) C dX13_instruction_374 rfl ?_
    refine q_getI (pc := 375) C dX13_instruction_375 ql_X13_223 h (fun v375 h => ?_)
    refine q_iconst (pc := 378) (v := (1 : Int32)) C dX13_instruction_378 (by decide) ?_
    refine q_iadd (pc := 379) C dX13_instruction_379 ?_
    refine q_putV (pc := 380) (v := q_I (v375 + (1 : Int32))) C dX13_instruction_380 ql_X13_223 (Or.inl rfl) rfl rfl h (fun M380 h => ?_)
    exact q_vret C B.2.2.2.2.1 dX13_instruction_383 h
  · refine q_aload_n (pc := 55) C 0 rfl dX13_instruction_55 rfl ?_
    refine q_getA (pc := 56) C dX13_instruction_56 ql_X13_26 h (fun v56 h => ?_)
    refine q_aload_n (pc := 59) C 0 rfl dX13_instruction_59 rfl ?_
    refine q_getI (pc := 60) C dX13_instruction_60 ql_X13_206 h (fun v60 h => ?_)
    refine q_ldI (pc := 63) C dX13_instruction_63 (Or.inr (Or.inl ⟨rfl, rfl⟩)) h (fun v63 h => ?_)
    refine q_iconst (pc := 64) (v := (3 : Int32)) C dX13_instruction_64 (by decide) ?_
    refine q_icmp_ne (pc := 65) (tgt := 143) C dX13_instruction_65 (by decide) h (fun _ h => ?_) (fun _ h => ?_)
    · exact S_X13_instruction_143 B hT r42 hr42 mr42 l0 l2 l3 l4 _ h
    · refine q_ldcTw (pc := 68) (k := 10) (tx := ",()[]+-@") C dX13_instruction_68 (by decide +kernel) (by decide) ?_
      refine q_aload_n (pc := 71) C 0 rfl dX13_instruction_71 rfl ?_
      refine q_getA (pc := 72) C dX13_instruction_72 ql_X13_36 h (fun v72 h => ?_)
      refine q_aload_n (pc := 75) C 0 rfl dX13_instruction_75 rfl ?_
      refine q_getI (pc := 76) C dX13_instruction_76 ql_X13_206 h (fun v76 h => ?_)
      refine q_ldL (pc := 79) C dX13_instruction_79 h (fun v79 h => ?_)
      refine q_l2i (pc := 80) C dX13_instruction_80 ?_
      refine q_callVS (pc := 81) (As := [q_I v79.toInt32]) (st := []) (ps := q_psI) C B.2.1 hT q_hpI qm_X13_163 qv_J0_indexOf_0f7a4 dX13_instruction_81 rfl rfl (Nat.le_of_ble_eq_true rfl) (q_flo B.2.2.1 B.2.2.2.1 (by decide) (by decide)) (K_J0_indexOf_0f7a4 (some ((q_kap E) 10)) v79.toInt32) (M_J0_indexOf_0f7a4 (q_kap E) (some ((q_kap E) 10)) v79.toInt32) (by exact fun v81 => (q_mo_br (M_X13_instruction_143 (q_kap E) r42 mr42 l0 l2 l3 l4) (q_mo_br (q_mo_rd fun v107 => (q_mo_rd fun v117 => (q_mo_rd fun v121 => (q_mo_rd fun v124 => (q_mo_wr (q_mo_rd fun v132 => (q_mo_wr (mr42 l0 l2 (l3 + (1 : Int32)) l4)))))))) (q_mo_mk fun a93 => (q_mo_rd fun v99 => (q_mo_gd (q_mo_ca (M_X12_init (q_kap E) (some a93) (3 : Int32) v99) fun _v102 => (q_mo_rd fun _ => q_mo_tr)))))))) h (fun v81 σ h => ?_)
      refine q_W.st (st' := [q_I v81]) rfl ?_
      refine q_if_lt (pc := 84) (tgt := 143) C dX13_instruction_84 (by decide) h (fun _ h => ?_) (fun _ h => ?_)
      · exact S_X13_instruction_143 B hT r42 hr42 mr42 l0 l2 l3 l4 _ h
      · refine q_iload_n (pc := 87) C 2 rfl dX13_instruction_87 rfl ?_
        refine q_bipush (pc := 88) (v := (12 : Int32)) C dX13_instruction_88 (by decide) ?_
        refine q_icmp_ne (pc := 90) (tgt := 106) C dX13_instruction_90 (by decide) h (fun _ h => ?_) (fun _ h => ?_)
        · refine q_aload_n (pc := 106) C 0 rfl dX13_instruction_106 rfl ?_
          refine q_getA (pc := 107) C dX13_instruction_107 ql_X13_83 h (fun v107 h => ?_)
          refine q_bipush (pc := 110) (v := (12 : Int32)) C dX13_instruction_110 (by decide) ?_
          refine q_iload_n (pc := 112) C 1 rfl dX13_instruction_112 rfl ?_
          refine q_imul (pc := 113) C dX13_instruction_113 ?_
          refine q_iload_n (pc := 114) C 2 rfl dX13_instruction_114 rfl ?_
          refine q_iadd (pc := 115) C dX13_instruction_115 ?_
          refine q_aload_n (pc := 116) C 0 rfl dX13_instruction_116 rfl ?_
          refine q_getA (pc := 117) C dX13_instruction_117 ql_X13_36 h (fun v117 h => ?_)
          refine q_aload_n (pc := 120) C 0 rfl dX13_instruction_120 rfl ?_
          refine q_getI (pc := 121) C dX13_instruction_121 ql_X13_206 h (fun v121 h => ?_)
          refine q_ldL (pc := 124) C dX13_instruction_124 h (fun v124 h => ?_)
          refine q_l2i (pc := 125) C dX13_instruction_125 ?_
          refine q_stI (pc := 126) C dX13_instruction_126 h (fun M126 h => ?_)
          refine q_iinc (pc := 127) (v := (1 : Int32)) (l' := [(3, q_I (l3 + (1 : Int32))), (0, q_R l0), (2, q_I l2), (4, q_I l4)]) C 2 rfl dX13_instruction_127 (by decide) (by decide) rfl ?_
          refine q_aload_n (pc := 130) C 1 rfl dX13_instruction_130 rfl ?_
          refine q_dup (pc := 131) C dX13_instruction_131 rfl ?_
          refine q_getI (pc := 132) C dX13_instruction_132 ql_X13_206 h (fun v132 h => ?_)
          refine q_iconst (pc := 135) (v := (1 : Int32)) C dX13_instruction_135 (by decide) ?_
          refine q_iadd (pc := 136) C dX13_instruction_136 ?_
          refine q_putV (pc := 137) (v := q_I (v132 + (1 : Int32))) C dX13_instruction_137 ql_X13_206 (Or.inl rfl) rfl rfl h (fun M137 h => ?_)
          refine q_goto (pc := 140) (tgt := 42) C dX13_instruction_140 (by decide) ?_
          refine q_W.sub [1, 2, 0, 3] rfl ?_
          exact hr42 l0 l2 (l3 + (1 : Int32)) l4 _ h
        · refine q_new (pc := 93) C dX13_instruction_93 qn_X13_209 (by exact fun a93 => (q_mo_rd fun v99 => (q_mo_gd (q_mo_ca (M_X12_init (q_kap E) (some a93) (3 : Int32) v99) fun _v102 => (q_mo_rd fun _ => q_mo_tr))))) B.2.1 h (fun a93 σ h => ?_)
          refine q_dup (pc := 96) C dX13_instruction_96 rfl ?_
          refine q_iconst (pc := 97) (v := (3 : Int32)) C dX13_instruction_97 (by decide) ?_
          refine q_aload_n (pc := 98) C 0 rfl dX13_instruction_98 rfl ?_
          refine q_getI (pc := 99) C dX13_instruction_99 ql_X13_206 h (fun v99 h => ?_)
          refine q_callI (pc := 102) (As := [q_I (3 : Int32), q_I v99]) (st := [q_R (some a93)]) C B.2.1 (fun _ => rfl) qm_X13_211 qI_X12_init dX13_instruction_102 rfl rfl (Nat.le_of_ble_eq_true rfl) (q_flo B.2.2.1 B.2.2.2.1 (by decide) (by decide)) (K_X12_init (some a93) (3 : Int32) v99) (M_X12_init (q_kap E) (some a93) (3 : Int32) v99) (N_X12_init (q_kap E) (some a93) (3 : Int32) v99) (by exact fun _v102 => (q_mo_rd fun _ => q_mo_tr)) h (fun _v102 σ h => ?_)
          exact q_athrow (pc := 105) (ci := 15) C hT rfl dX13_instruction_105 h
def F_X13_instruction_42 (κ : Nat → Nat) : Nat → Option Nat → Int32 → Int32 → Int32 → q_X Unit
  | 0, _, _, _, _ => q_no
  | n + 1, l0, l2, l3, l4 => F_X13_instruction_42B κ (F_X13_instruction_42 κ n) l0 l2 l3 l4
theorem M_X13_instruction_42 (κ : Nat → Nat) : ∀ (n : Nat) (l0 : Option Nat) (l2 : Int32) (l3 : Int32) (l4 : Int32), q_mo (F_X13_instruction_42 κ n l0 l2 l3 l4)
  | 0, _, _, _, _ => q_mo_no
  | n + 1, l0, l2, l3, l4 => M_X13_instruction_42B κ (F_X13_instruction_42 κ n) (M_X13_instruction_42 κ n) l0 l2 l3 l4
theorem S_X13_instruction_42 {E : q_Ev} {Γ : q_Gm} {w : (Unit ⊕ q_Exn) × q_St} (B : q_Bd E Γ cX13_instruction yX13_instruction.cls 10 7 169 (none) yX13_instruction.name w) (hT : q_nT Γ) : ∀ (n : Nat) (l0 : Option Nat) (l2 : Int32) (l3 : Int32) (l4 : Int32) (σ : q_St), F_X13_instruction_42 (q_kap E) n l0 l2 l3 l4 σ = some w → q_W E Γ (q_QF E Γ q_oV w) 10 σ 42 [(0, q_R l0), (2, q_I l2), (3, q_I l3), (4, q_I l4)] []
  | 0, _, _, _, _, _, h => by cases h
  | n + 1, l0, l2, l3, l4, σ, h => S_X13_instruction_42B B hT (F_X13_instruction_42 (q_kap E) n) (S_X13_instruction_42 B hT n) (M_X13_instruction_42 (q_kap E) n) l0 l2 l3 l4 σ h
def F_X13_instruction (κ : Nat → Nat) (l0 : Option Nat) : q_X Unit :=
  q_rd (q_is l0 16) fun _ => q_ca (F_X13_expectName κ l0) fun v1 => q_rd (q_gI l0 16 23) fun v6 => q_br (¬ v6 = (96 : Int32)) (q_rd (q_gA l0 16 30) fun v32 => q_rd (q_is l0 16) fun _ => q_ca (F_X13_nameOf κ l0 v1) fun v38 => q_wr (q_sI 1 v32 v6 v38) (F_X13_instruction_42 κ q_fu l0 v6 (0 : Int32) (0 : Int32))) (q_mk (.inr (.inl (15, [.null, .null, .null, .null, .null, .int 0, .int 0, .int 0]))) 8 fun a21 => q_gd (¬ (some a21) = none) (q_ca (F_X12_init κ (some a21) (3 : Int32) v1) fun _v27 => q_rd (q_is (some a21) 15) fun _ => q_tr RX12 (some a21)))
theorem M_X13_instruction (κ : Nat → Nat) (l0 : Option Nat) : q_mo (F_X13_instruction κ l0) := (q_mo_rd fun _ => q_mo_ca (M_X13_expectName κ l0) fun v1 => (q_mo_rd fun v6 => (q_mo_br (q_mo_rd fun v32 => (q_mo_rd fun _ => q_mo_ca (M_X13_nameOf κ l0 v1) fun v38 => (q_mo_wr (M_X13_instruction_42 κ q_fu l0 v6 (0 : Int32) (0 : Int32))))) (q_mo_mk fun a21 => (q_mo_gd (q_mo_ca (M_X12_init κ (some a21) (3 : Int32) v1) fun _v27 => (q_mo_rd fun _ => q_mo_tr)))))))
set_option maxRecDepth 100000 in
set_option maxHeartbeats 4000000 in
theorem K_X13_instruction {E : q_Ev} (l0 : Option Nat) : q_Ct E yX13_instruction (.code yX13_instruction cX13_instruction 10 (none)) 7 169 [q_R l0] q_oV (F_X13_instruction (q_kap E) l0) := by
  refine q_enter (by decide) (Nat.le_of_ble_eq_true rfl) (fun Γ σ w h B hT => ?_)
  have C := B.1
  unfold F_X13_instruction at h
  refine q_aload_n (pc := 0) C 0 rfl dX13_instruction_0 rfl ?_
  refine q_callV (pc := 1) (As := []) (st := []) (ps := q_psI) C B.2.1 hT q_hpI qm_X13_263 qv_X13_expectName dX13_instruction_1 rfl rfl (Nat.le_of_ble_eq_true rfl) (q_flo B.2.2.1 B.2.2.2.1 (by decide) (by decide)) (K_X13_expectName l0) (M_X13_expectName (q_kap E) l0) (by exact fun v1 => (q_mo_rd fun v6 => (q_mo_br (q_mo_rd fun v32 => (q_mo_rd fun _ => q_mo_ca (M_X13_nameOf (q_kap E) l0 v1) fun v38 => (q_mo_wr (M_X13_instruction_42 (q_kap E) q_fu l0 v6 (0 : Int32) (0 : Int32))))) (q_mo_mk fun a21 => (q_mo_gd (q_mo_ca (M_X12_init (q_kap E) (some a21) (3 : Int32) v1) fun _v27 => (q_mo_rd fun _ => q_mo_tr))))))) h (fun v1 σ h => ?_)
  refine q_W.st (st' := [q_I v1]) rfl ?_
  refine q_istore_n (pc := 4) (l' := [(1, q_I v1), (0, q_R l0)]) C dX13_instruction_4 rfl (by decide) rfl ?_
  refine q_aload_n (pc := 5) C 1 rfl dX13_instruction_5 rfl ?_
  refine q_getI (pc := 6) C dX13_instruction_6 ql_X13_223 h (fun v6 h => ?_)
  refine q_istore_n (pc := 9) (l' := [(2, q_I v6), (1, q_I v1), (0, q_R l0)]) C dX13_instruction_9 rfl (by decide) rfl ?_
  refine q_iconst (pc := 10) (v := (0 : Int32)) C dX13_instruction_10 (by decide) ?_
  refine q_istore_n (pc := 11) (l' := [(3, q_I (0 : Int32)), (2, q_I v6), (1, q_I v1), (0, q_R l0)]) C dX13_instruction_11 rfl (by decide) rfl ?_
  refine q_iconst (pc := 12) (v := (0 : Int32)) C dX13_instruction_12 (by decide) ?_
  refine q_istore (pc := 13) (l' := [(4, q_I (0 : Int32)), (3, q_I (0 : Int32)), (2, q_I v6), (1, q_I v1), (0, q_R l0)]) C dX13_instruction_13 (by decide) rfl ?_
  refine q_iload_n (pc := 15) C 2 rfl dX13_instruction_15 rfl ?_
  refine q_bipush (pc := 16) (v := (96 : Int32)) C dX13_instruction_16 (by decide) ?_
  refine q_icmp_ne (pc := 18) (tgt := 31) C dX13_instruction_18 (by decide) h (fun _ h => ?_) (fun _ h => ?_)
  · refine q_aload_n (pc := 31) C 4 rfl dX13_instruction_31 rfl ?_
    refine q_getA (pc := 32) C dX13_instruction_32 ql_X13_68 h (fun v32 h => ?_)
    refine q_iload_n (pc := 35) C 2 rfl dX13_instruction_35 rfl ?_
    refine q_aload_n (pc := 36) C 4 rfl dX13_instruction_36 rfl ?_
    refine q_iload_n (pc := 37) C 3 rfl dX13_instruction_37 rfl ?_
    refine q_callV (pc := 38) (As := [q_I v1]) (st := [q_I v6, q_R v32]) (ps := q_psI) C B.2.1 hT q_hpI qm_X13_266 qv_X13_nameOf dX13_instruction_38 rfl rfl (Nat.le_of_ble_eq_true rfl) (q_flo B.2.2.1 B.2.2.2.1 (by decide) (by decide)) (K_X13_nameOf l0 v1) (M_X13_nameOf (q_kap E) l0 v1) (by exact fun v38 => (q_mo_wr (M_X13_instruction_42 (q_kap E) q_fu l0 v6 (0 : Int32) (0 : Int32)))) h (fun v38 σ h => ?_)
    refine q_W.st (st' := [q_I v38, q_I v6, q_R v32]) rfl ?_
    refine q_stI (pc := 41) C dX13_instruction_41 h (fun M41 h => ?_)
    refine q_W.sub [4, 2, 1, 0] rfl ?_
    exact S_X13_instruction_42 B hT q_fu l0 v6 (0 : Int32) (0 : Int32) _ h
  · refine q_new (pc := 21) C dX13_instruction_21 qn_X13_209 (by exact fun a21 => (q_mo_gd (q_mo_ca (M_X12_init (q_kap E) (some a21) (3 : Int32) v1) fun _v27 => (q_mo_rd fun _ => q_mo_tr)))) B.2.1 h (fun a21 σ h => ?_)
    refine q_dup (pc := 24) C dX13_instruction_24 rfl ?_
    refine q_iconst (pc := 25) (v := (3 : Int32)) C dX13_instruction_25 (by decide) ?_
    refine q_iload_n (pc := 26) C 3 rfl dX13_instruction_26 rfl ?_
    refine q_callI (pc := 27) (As := [q_I (3 : Int32), q_I v1]) (st := [q_R (some a21)]) C B.2.1 (fun _ => rfl) qm_X13_211 qI_X12_init dX13_instruction_27 rfl rfl (Nat.le_of_ble_eq_true rfl) (q_flo B.2.2.1 B.2.2.2.1 (by decide) (by decide)) (K_X12_init (some a21) (3 : Int32) v1) (M_X12_init (q_kap E) (some a21) (3 : Int32) v1) (N_X12_init (q_kap E) (some a21) (3 : Int32) v1) (by exact fun _v27 => (q_mo_rd fun _ => q_mo_tr)) h (fun _v27 σ h => ?_)
    exact q_athrow (pc := 30) (ci := 15) C hT rfl dX13_instruction_30 h
def F_X13_described_311 (κ : Nat → Nat) (r148 : Option Nat → q_X Unit) (l0 : Option Nat) : q_X Unit :=
  q_rd (q_is l0 16) fun _ => q_ca (F_X13_expect κ l0 (59 : Int32)) fun _v314 => r148 l0
theorem M_X13_described_311 (κ : Nat → Nat) (r148 : Option Nat → q_X Unit) (mr148 : ∀ (l0 : Option Nat), q_mo (r148 l0)) (l0 : Option Nat) : q_mo (F_X13_described_311 κ r148 l0) := (q_mo_rd fun _ => q_mo_ca (M_X13_expect κ l0 (59 : Int32)) fun _v314 => (mr148 l0))
set_option maxRecDepth 100000 in
set_option maxHeartbeats 4000000 in
theorem S_X13_described_311 {E : q_Ev} {Γ : q_Gm} {w : (Unit ⊕ q_Exn) × q_St} (B : q_Bd E Γ cX13_described yX13_described.cls 3 8 198 (none) yX13_described.name w) (hT : q_nT Γ) (r148 : Option Nat → q_X Unit) (hr148 : ∀ (l0 : Option Nat) (σ : q_St), r148 l0 σ = some w → q_W E Γ (q_QF E Γ q_oV w) 3 σ 148 [(0, q_R l0)] []) (mr148 : ∀ (l0 : Option Nat), q_mo (r148 l0)) (l0 : Option Nat) (σ : q_St) (h : F_X13_described_311 (q_kap E) r148 l0 σ = some w) : q_W E Γ (q_QF E Γ q_oV w) 3 σ 311 [(0, q_R l0)] [] := by
  have C := B.1
  unfold F_X13_described_311 at h
  refine q_aload_n (pc := 311) C 0 rfl dX13_described_311 rfl ?_
  refine q_bipush (pc := 312) (v := (59 : Int32)) C dX13_described_312 (by decide) ?_
  refine q_callV (pc := 314) (As := [q_I (59 : Int32)]) (st := []) (ps := q_psV) C B.2.1 hT q_hpV qm_X13_241 qv_X13_expect dX13_described_314 rfl rfl (Nat.le_of_ble_eq_true rfl) (q_flo B.2.2.1 B.2.2.2.1 (by decide) (by decide)) (K_X13_expect l0 (59 : Int32)) (M_X13_expect (q_kap E) l0 (59 : Int32)) (by exact fun _v314 => (mr148 l0)) h (fun _v314 σ h => ?_)
  refine q_W.st (st' := []) rfl ?_
  refine q_goto (pc := 317) (tgt := 148) C dX13_described_317 (by decide) ?_
  exact hr148 l0 _ h
def F_X13_described_278 (κ : Nat → Nat) (r148 : Option Nat → q_X Unit) (l0 : Option Nat) (s0 : Int32) : q_X Unit :=
  q_br (0 ≤ s0) (q_rd (q_gI l0 16 15) fun v298 => q_wr (q_pF l0 16 15 (.int (v298 + (1 : Int32)))) (q_rd (q_is l0 16) fun _ => q_ca (F_X13_kind κ l0 s0) fun _v308 => F_X13_described_311 κ r148 l0)) (q_mk (.inr (.inl (15, [.null, .null, .null, .null, .null, .int 0, .int 0, .int 0]))) 8 fun a283 => q_rd (q_gI l0 16 15) fun v289 => q_gd (¬ (some a283) = none) (q_ca (F_X12_init κ (some a283) (1 : Int32) v289) fun _v292 => q_rd (q_is (some a283) 15) fun _ => q_tr RX12 (some a283)))
theorem M_X13_described_278 (κ : Nat → Nat) (r148 : Option Nat → q_X Unit) (mr148 : ∀ (l0 : Option Nat), q_mo (r148 l0)) (l0 : Option Nat) (s0 : Int32) : q_mo (F_X13_described_278 κ r148 l0 s0) := (q_mo_br (q_mo_rd fun v298 => (q_mo_wr (q_mo_rd fun _ => q_mo_ca (M_X13_kind κ l0 s0) fun _v308 => (M_X13_described_311 κ r148 mr148 l0)))) (q_mo_mk fun a283 => (q_mo_rd fun v289 => (q_mo_gd (q_mo_ca (M_X12_init κ (some a283) (1 : Int32) v289) fun _v292 => (q_mo_rd fun _ => q_mo_tr))))))
set_option maxRecDepth 100000 in
set_option maxHeartbeats 4000000 in
theorem S_X13_described_278 {E : q_Ev} {Γ : q_Gm} {w : (Unit ⊕ q_Exn) × q_St} (B : q_Bd E Γ cX13_described yX13_described.cls 3 8 198 (none) yX13_described.name w) (hT : q_nT Γ) (r148 : Option Nat → q_X Unit) (hr148 : ∀ (l0 : Option Nat) (σ : q_St), r148 l0 σ = some w → q_W E Γ (q_QF E Γ q_oV w) 3 σ 148 [(0, q_R l0)] []) (mr148 : ∀ (l0 : Option Nat), q_mo (r148 l0)) (l0 : Option Nat) (s0 : Int32) (σ : q_St) (h : F_X13_described_278 (q_kap E) r148 l0 s0 σ = some w) : q_W E Γ (q_QF E Γ q_oV w) 3 σ 278 [(0, q_R l0)] [q_I s0] := by
  have C := B.1
  unfold F_X13_described_278 at h
  refine q_istore_n (pc := 278) (l' := [(2, q_I s0), (0, q_R l0)]) C dX13_described_278 rfl (by decide) rfl ?_
  refine q_iload_n (pc := 279) C 0 rfl dX13_described_279 rfl ?_
  refine q_if_ge (pc := 280) (tgt := 296) C dX13_described_280 (by decide) h (fun _ h => ?_) (fun _ h => ?_)
  · refine q_aload_n (pc := 296) C 1 rfl dX13_described_296 rfl ?_
    refine q_dup (pc := 297) C dX13_described_297 rfl ?_
    refine q_getI (pc := 298) C dX13_described_298 ql_X13_206 h (fun v298 h => ?_)
    refine q_iconst (pc := 301) (v := (1 : Int32)) C dX13_described_301 (by decide) ?_
    refine q_iadd (pc := 302) C dX13_described_302 ?_
    refine q_putV (pc := 303) (v := q_I (v298 + (1 : Int32))) C dX13_described_303 ql_X13_206 (Or.inl rfl) rfl rfl h (fun M303 h => ?_)
    refine q_aload_n (pc := 306) C 1 rfl dX13_described_306 rfl ?_
    refine q_iload_n (pc := 307) C 0 rfl dX13_described_307 rfl ?_
    refine q_callV (pc := 308) (As := [q_I s0]) (st := []) (ps := q_psV) C B.2.1 hT q_hpV qm_X13_260 qv_X13_kind dX13_described_308 rfl rfl (Nat.le_of_ble_eq_true rfl) (q_flo B.2.2.1 B.2.2.2.1 (by decide) (by decide)) (K_X13_kind l0 s0) (M_X13_kind (q_kap E) l0 s0) (by exact fun _v308 => (M_X13_described_311 (q_kap E) r148 mr148 l0)) h (fun _v308 σ h => ?_)
    refine q_W.st (st' := []) rfl ?_
    refine q_W.sub [1] rfl ?_
    exact S_X13_described_311 B hT r148 hr148 mr148 l0 _ h
  · refine q_new (pc := 283) C dX13_described_283 qn_X13_209 (by exact fun a283 => (q_mo_rd fun v289 => (q_mo_gd (q_mo_ca (M_X12_init (q_kap E) (some a283) (1 : Int32) v289) fun _v292 => (q_mo_rd fun _ => q_mo_tr))))) B.2.1 h (fun a283 σ h => ?_)
    refine q_dup (pc := 286) C dX13_described_286 rfl ?_
    refine q_iconst (pc := 287) (v := (1 : Int32)) C dX13_described_287 (by decide) ?_
    refine q_aload_n (pc := 288) C 1 rfl dX13_described_288 rfl ?_
    refine q_getI (pc := 289) C dX13_described_289 ql_X13_206 h (fun v289 h => ?_)
    refine q_callI (pc := 292) (As := [q_I (1 : Int32), q_I v289]) (st := [q_R (some a283)]) C B.2.1 (fun _ => rfl) qm_X13_211 qI_X12_init dX13_described_292 rfl rfl (Nat.le_of_ble_eq_true rfl) (q_flo B.2.2.1 B.2.2.2.1 (by decide) (by decide)) (K_X12_init (some a283) (1 : Int32) v289) (M_X12_init (q_kap E) (some a283) (1 : Int32) v289) (N_X12_init (q_kap E) (some a283) (1 : Int32) v289) (by exact fun _v292 => (q_mo_rd fun _ => q_mo_tr)) h (fun _v292 σ h => ?_)
    exact q_athrow (pc := 295) (ci := 15) C hT rfl dX13_described_295 h
def F_X13_described_148B (κ : Nat → Nat) (r148 : Option Nat → q_X Unit) (l0 : Option Nat) : q_X Unit :=
  q_rd (q_gA l0 16 9) fun v149 => q_rd (q_gI l0 16 15) fun v153 => q_rd (q_lI 1 v149 v153) fun v156 => q_br (v156 = 0) (q_rt ()) (q_rd (q_gI l0 16 15) fun v162 => q_rd (q_is l0 16) fun _ => q_ca (F_X13_isWord κ l0 v162 (some (κ 9))) fun v167 => q_br (v167 = 0) (q_rd (q_gI l0 16 15) fun v192 => q_rd (q_is l0 16) fun _ => q_ca (F_X13_isWord κ l0 v192 (some (κ 4))) fun v197 => q_br (v197 = 0) (q_rd (q_gI l0 16 15) fun v209 => q_rd (q_is l0 16) fun _ => q_ca (F_X13_isWord κ l0 v209 (some (κ 5))) fun v214 => q_br (v214 = 0) (q_rd (q_gI l0 16 15) fun v226 => q_rd (q_is l0 16) fun _ => q_ca (F_X13_isWord κ l0 v226 (some (κ 6))) fun v231 => q_br (v231 = 0) (q_rd (q_gI l0 16 15) fun v243 => q_rd (q_is l0 16) fun _ => q_ca (F_X13_isWord κ l0 v243 (some (κ 7))) fun v249 => q_br (v249 = 0) (q_rd (q_gI l0 16 15) fun v261 => q_rd (q_is l0 16) fun _ => q_ca (F_X13_isWord κ l0 v261 (some (κ 8))) fun v267 => q_br (v267 = 0) (F_X13_described_278 κ r148 l0 (-1 : Int32)) (F_X13_described_278 κ r148 l0 (4 : Int32))) (F_X13_described_278 κ r148 l0 (3 : Int32))) (F_X13_described_278 κ r148 l0 (2 : Int32))) (F_X13_described_278 κ r148 l0 (1 : Int32))) (F_X13_described_278 κ r148 l0 (0 : Int32))) (q_rd (q_gI l0 16 15) fun v175 => q_wr (q_pF l0 16 15 (.int (v175 + (1 : Int32)))) (q_rd (q_is l0 16) fun _ => q_ca (F_X13_instruction κ l0) fun _v184 => F_X13_described_311 κ r148 l0)))
theorem M_X13_described_148B (κ : Nat → Nat) (r148 : Option Nat → q_X Unit) (mr148 : ∀ (l0 : Option Nat), q_mo (r148 l0)) (l0 : Option Nat) : q_mo (F_X13_described_148B κ r148 l0) := (q_mo_rd fun v149 => (q_mo_rd fun v153 => (q_mo_rd fun v156 => (q_mo_br q_mo_rt (q_mo_rd fun v162 => (q_mo_rd fun _ => q_mo_ca (M_X13_isWord κ l0 v162 (some (κ 9))) fun v167 => (q_mo_br (q_mo_rd fun v192 => (q_mo_rd fun _ => q_mo_ca (M_X13_isWord κ l0 v192 (some (κ 4))) fun v197 => (q_mo_br (q_mo_rd fun v209 => (q_mo_rd fun _ => q_mo_ca (M_X13_isWord κ l0 v209 (some (κ 5))) fun v214 => (q_mo_br (q_mo_rd fun v226 => (q_mo_rd fun _ => q_mo_ca (M_X13_isWord κ l0 v226 (some (κ 6))) fun v231 => (q_mo_br (q_mo_rd fun v243 => (q_mo_rd fun _ => q_mo_ca (M_X13_isWord κ l0 v243 (some (κ 7))) fun v249 => (q_mo_br (q_mo_rd fun v261 => (q_mo_rd fun _ => q_mo_ca (M_X13_isWord κ l0 v261 (some (κ 8))) fun v267 => (q_mo_br (M_X13_described_278 κ r148 mr148 l0 (-1 : Int32)) (M_X13_described_278 κ r148 mr148 l0 (4 : Int32))))) (M_X13_described_278 κ r148 mr148 l0 (3 : Int32))))) (M_X13_described_278 κ r148 mr148 l0 (2 : Int32))))) (M_X13_described_278 κ r148 mr148 l0 (1 : Int32))))) (M_X13_described_278 κ r148 mr148 l0 (0 : Int32))))) (q_mo_rd fun v175 => (q_mo_wr (q_mo_rd fun _ => q_mo_ca (M_X13_instruction κ l0) fun _v184 => (M_X13_described_311 κ r148 mr148 l0)))))))))))
set_option maxRecDepth 100000 in
set_option maxHeartbeats 4000000 in
theorem S_X13_described_148B {E : q_Ev} {Γ : q_Gm} {w : (Unit ⊕ q_Exn) × q_St} (B : q_Bd E Γ cX13_described yX13_described.cls 3 8 198 (none) yX13_described.name w) (hT : q_nT Γ) (r148 : Option Nat → q_X Unit) (hr148 : ∀ (l0 : Option Nat) (σ : q_St), r148 l0 σ = some w → q_W E Γ (q_QF E Γ q_oV w) 3 σ 148 [(0, q_R l0)] []) (mr148 : ∀ (l0 : Option Nat), q_mo (r148 l0)) (l0 : Option Nat) (σ : q_St) (h : F_X13_described_148B (q_kap E) r148 l0 σ = some w) : q_W E Γ (q_QF E Γ q_oV w) 3 σ 148 [(0, q_R l0)] [] := by
  have C := B.1
  unfold F_X13_described_148B at h
  refine q_aload_n (pc := 148) C 0 rfl dX13_described_148 rfl ?_
  refine q_getA (pc := 149) C dX13_described_149 ql_X13_26 h (fun v149 h => ?_)
  refine q_aload_n (pc := 152) C 0 rfl dX13_described_152 rfl ?_
  refine q_getI (pc := 153) C dX13_described_153 ql_X13_206 h (fun v153 h => ?_)
  refine q_ldI (pc := 156) C dX13_described_156 (Or.inr (Or.inl ⟨rfl, rfl⟩)) h (fun v156 h => ?_)
  refine q_if_eq (pc := 157) (tgt := 320) C dX13_described_157 (by decide) h (fun _ h => ?_) (fun _ h => ?_)
  · exact q_vret C B.2.2.2.2.1 dX13_described_320 h
  · refine q_aload_n (pc := 160) C 0 rfl dX13_described_160 rfl ?_
    refine q_aload_n (pc := 161) C 0 rfl dX13_described_161 rfl ?_
    refine q_getI (pc := 162) C dX13_described_162 ql_X13_206 h (fun v162 h => ?_)
    refine q_ldcT (pc := 165) (k := 9) (tx := "ins") C dX13_described_165 (by decide +kernel) (by decide) ?_
    refine q_callV (pc := 167) (As := [q_I v162, q_R (some ((q_kap E) 9))]) (st := []) (ps := q_psI) C B.2.1 hT q_hpI qm_X13_233 qv_X13_isWord dX13_described_167 rfl rfl (Nat.le_of_ble_eq_true rfl) (q_flo B.2.2.1 B.2.2.2.1 (by decide) (by decide)) (K_X13_isWord l0 v162 (some ((q_kap E) 9))) (M_X13_isWord (q_kap E) l0 v162 (some ((q_kap E) 9))) (by exact fun v167 => (q_mo_br (q_mo_rd fun v192 => (q_mo_rd fun _ => q_mo_ca (M_X13_isWord (q_kap E) l0 v192 (some ((q_kap E) 4))) fun v197 => (q_mo_br (q_mo_rd fun v209 => (q_mo_rd fun _ => q_mo_ca (M_X13_isWord (q_kap E) l0 v209 (some ((q_kap E) 5))) fun v214 => (q_mo_br (q_mo_rd fun v226 => (q_mo_rd fun _ => q_mo_ca (M_X13_isWord (q_kap E) l0 v226 (some ((q_kap E) 6))) fun v231 => (q_mo_br (q_mo_rd fun v243 => (q_mo_rd fun _ => q_mo_ca (M_X13_isWord (q_kap E) l0 v243 (some ((q_kap E) 7))) fun v249 => (q_mo_br (q_mo_rd fun v261 => (q_mo_rd fun _ => q_mo_ca (M_X13_isWord (q_kap E) l0 v261 (some ((q_kap E) 8))) fun v267 => (q_mo_br (M_X13_described_278 (q_kap E) r148 mr148 l0 (-1 : Int32)) (M_X13_described_278 (q_kap E) r148 mr148 l0 (4 : Int32))))) (M_X13_described_278 (q_kap E) r148 mr148 l0 (3 : Int32))))) (M_X13_described_278 (q_kap E) r148 mr148 l0 (2 : Int32))))) (M_X13_described_278 (q_kap E) r148 mr148 l0 (1 : Int32))))) (M_X13_described_278 (q_kap E) r148 mr148 l0 (0 : Int32))))) (q_mo_rd fun v175 => (q_mo_wr (q_mo_rd fun _ => q_mo_ca (M_X13_instruction (q_kap E) l0) fun _v184 => (M_X13_described_311 (q_kap E) r148 mr148 l0)))))) h (fun v167 σ h => ?_)
    refine q_W.st (st' := [q_I v167]) rfl ?_
    refine q_if_eq (pc := 170) (tgt := 190) C dX13_described_170 (by decide) h (fun _ h => ?_) (fun _ h => ?_)
    · refine q_aload_n (pc := 190) C 0 rfl dX13_described_190 rfl ?_
      refine q_aload_n (pc := 191) C 0 rfl dX13_described_191 rfl ?_
      refine q_getI (pc := 192) C dX13_described_192 ql_X13_206 h (fun v192 h => ?_)
      refine q_ldcT (pc := 195) (k := 4) (tx := "reg") C dX13_described_195 (by decide +kernel) (by decide) ?_
      refine q_callV (pc := 197) (As := [q_I v192, q_R (some ((q_kap E) 4))]) (st := []) (ps := q_psI) C B.2.1 hT q_hpI qm_X13_233 qv_X13_isWord dX13_described_197 rfl rfl (Nat.le_of_ble_eq_true rfl) (q_flo B.2.2.1 B.2.2.2.1 (by decide) (by decide)) (K_X13_isWord l0 v192 (some ((q_kap E) 4))) (M_X13_isWord (q_kap E) l0 v192 (some ((q_kap E) 4))) (by exact fun v197 => (q_mo_br (q_mo_rd fun v209 => (q_mo_rd fun _ => q_mo_ca (M_X13_isWord (q_kap E) l0 v209 (some ((q_kap E) 5))) fun v214 => (q_mo_br (q_mo_rd fun v226 => (q_mo_rd fun _ => q_mo_ca (M_X13_isWord (q_kap E) l0 v226 (some ((q_kap E) 6))) fun v231 => (q_mo_br (q_mo_rd fun v243 => (q_mo_rd fun _ => q_mo_ca (M_X13_isWord (q_kap E) l0 v243 (some ((q_kap E) 7))) fun v249 => (q_mo_br (q_mo_rd fun v261 => (q_mo_rd fun _ => q_mo_ca (M_X13_isWord (q_kap E) l0 v261 (some ((q_kap E) 8))) fun v267 => (q_mo_br (M_X13_described_278 (q_kap E) r148 mr148 l0 (-1 : Int32)) (M_X13_described_278 (q_kap E) r148 mr148 l0 (4 : Int32))))) (M_X13_described_278 (q_kap E) r148 mr148 l0 (3 : Int32))))) (M_X13_described_278 (q_kap E) r148 mr148 l0 (2 : Int32))))) (M_X13_described_278 (q_kap E) r148 mr148 l0 (1 : Int32))))) (M_X13_described_278 (q_kap E) r148 mr148 l0 (0 : Int32)))) h (fun v197 σ h => ?_)
      refine q_W.st (st' := [q_I v197]) rfl ?_
      refine q_if_eq (pc := 200) (tgt := 207) C dX13_described_200 (by decide) h (fun _ h => ?_) (fun _ h => ?_)
      · refine q_aload_n (pc := 207) C 0 rfl dX13_described_207 rfl ?_
        refine q_aload_n (pc := 208) C 0 rfl dX13_described_208 rfl ?_
        refine q_getI (pc := 209) C dX13_described_209 ql_X13_206 h (fun v209 h => ?_)
        refine q_ldcT (pc := 212) (k := 5) (tx := "num") C dX13_described_212 (by decide +kernel) (by decide) ?_
        refine q_callV (pc := 214) (As := [q_I v209, q_R (some ((q_kap E) 5))]) (st := []) (ps := q_psI) C B.2.1 hT q_hpI qm_X13_233 qv_X13_isWord dX13_described_214 rfl rfl (Nat.le_of_ble_eq_true rfl) (q_flo B.2.2.1 B.2.2.2.1 (by decide) (by decide)) (K_X13_isWord l0 v209 (some ((q_kap E) 5))) (M_X13_isWord (q_kap E) l0 v209 (some ((q_kap E) 5))) (by exact fun v214 => (q_mo_br (q_mo_rd fun v226 => (q_mo_rd fun _ => q_mo_ca (M_X13_isWord (q_kap E) l0 v226 (some ((q_kap E) 6))) fun v231 => (q_mo_br (q_mo_rd fun v243 => (q_mo_rd fun _ => q_mo_ca (M_X13_isWord (q_kap E) l0 v243 (some ((q_kap E) 7))) fun v249 => (q_mo_br (q_mo_rd fun v261 => (q_mo_rd fun _ => q_mo_ca (M_X13_isWord (q_kap E) l0 v261 (some ((q_kap E) 8))) fun v267 => (q_mo_br (M_X13_described_278 (q_kap E) r148 mr148 l0 (-1 : Int32)) (M_X13_described_278 (q_kap E) r148 mr148 l0 (4 : Int32))))) (M_X13_described_278 (q_kap E) r148 mr148 l0 (3 : Int32))))) (M_X13_described_278 (q_kap E) r148 mr148 l0 (2 : Int32))))) (M_X13_described_278 (q_kap E) r148 mr148 l0 (1 : Int32)))) h (fun v214 σ h => ?_)
        refine q_W.st (st' := [q_I v214]) rfl ?_
        refine q_if_eq (pc := 217) (tgt := 224) C dX13_described_217 (by decide) h (fun _ h => ?_) (fun _ h => ?_)
        · refine q_aload_n (pc := 224) C 0 rfl dX13_described_224 rfl ?_
          refine q_aload_n (pc := 225) C 0 rfl dX13_described_225 rfl ?_
          refine q_getI (pc := 226) C dX13_described_226 ql_X13_206 h (fun v226 h => ?_)
          refine q_ldcT (pc := 229) (k := 6) (tx := "int") C dX13_described_229 (by decide +kernel) (by decide) ?_
          refine q_callV (pc := 231) (As := [q_I v226, q_R (some ((q_kap E) 6))]) (st := []) (ps := q_psI) C B.2.1 hT q_hpI qm_X13_233 qv_X13_isWord dX13_described_231 rfl rfl (Nat.le_of_ble_eq_true rfl) (q_flo B.2.2.1 B.2.2.2.1 (by decide) (by decide)) (K_X13_isWord l0 v226 (some ((q_kap E) 6))) (M_X13_isWord (q_kap E) l0 v226 (some ((q_kap E) 6))) (by exact fun v231 => (q_mo_br (q_mo_rd fun v243 => (q_mo_rd fun _ => q_mo_ca (M_X13_isWord (q_kap E) l0 v243 (some ((q_kap E) 7))) fun v249 => (q_mo_br (q_mo_rd fun v261 => (q_mo_rd fun _ => q_mo_ca (M_X13_isWord (q_kap E) l0 v261 (some ((q_kap E) 8))) fun v267 => (q_mo_br (M_X13_described_278 (q_kap E) r148 mr148 l0 (-1 : Int32)) (M_X13_described_278 (q_kap E) r148 mr148 l0 (4 : Int32))))) (M_X13_described_278 (q_kap E) r148 mr148 l0 (3 : Int32))))) (M_X13_described_278 (q_kap E) r148 mr148 l0 (2 : Int32)))) h (fun v231 σ h => ?_)
          refine q_W.st (st' := [q_I v231]) rfl ?_
          refine q_if_eq (pc := 234) (tgt := 241) C dX13_described_234 (by decide) h (fun _ h => ?_) (fun _ h => ?_)
          · refine q_aload_n (pc := 241) C 0 rfl dX13_described_241 rfl ?_
            refine q_aload_n (pc := 242) C 0 rfl dX13_described_242 rfl ?_
            refine q_getI (pc := 243) C dX13_described_243 ql_X13_206 h (fun v243 h => ?_)
            refine q_ldcTw (pc := 246) (k := 7) (tx := "rel") C dX13_described_246 (by decide +kernel) (by decide) ?_
            refine q_callV (pc := 249) (As := [q_I v243, q_R (some ((q_kap E) 7))]) (st := []) (ps := q_psI) C B.2.1 hT q_hpI qm_X13_233 qv_X13_isWord dX13_described_249 rfl rfl (Nat.le_of_ble_eq_true rfl) (q_flo B.2.2.1 B.2.2.2.1 (by decide) (by decide)) (K_X13_isWord l0 v243 (some ((q_kap E) 7))) (M_X13_isWord (q_kap E) l0 v243 (some ((q_kap E) 7))) (by exact fun v249 => (q_mo_br (q_mo_rd fun v261 => (q_mo_rd fun _ => q_mo_ca (M_X13_isWord (q_kap E) l0 v261 (some ((q_kap E) 8))) fun v267 => (q_mo_br (M_X13_described_278 (q_kap E) r148 mr148 l0 (-1 : Int32)) (M_X13_described_278 (q_kap E) r148 mr148 l0 (4 : Int32))))) (M_X13_described_278 (q_kap E) r148 mr148 l0 (3 : Int32)))) h (fun v249 σ h => ?_)
            refine q_W.st (st' := [q_I v249]) rfl ?_
            refine q_if_eq (pc := 252) (tgt := 259) C dX13_described_252 (by decide) h (fun _ h => ?_) (fun _ h => ?_)
            · refine q_aload_n (pc := 259) C 0 rfl dX13_described_259 rfl ?_
              refine q_aload_n (pc := 260) C 0 rfl dX13_described_260 rfl ?_
              refine q_getI (pc := 261) C dX13_described_261 ql_X13_206 h (fun v261 h => ?_)
              refine q_ldcTw (pc := 264) (k := 8) (tx := "set") C dX13_described_264 (by decide +kernel) (by decide) ?_
              refine q_callV (pc := 267) (As := [q_I v261, q_R (some ((q_kap E) 8))]) (st := []) (ps := q_psI) C B.2.1 hT q_hpI qm_X13_233 qv_X13_isWord dX13_described_267 rfl rfl (Nat.le_of_ble_eq_true rfl) (q_flo B.2.2.1 B.2.2.2.1 (by decide) (by decide)) (K_X13_isWord l0 v261 (some ((q_kap E) 8))) (M_X13_isWord (q_kap E) l0 v261 (some ((q_kap E) 8))) (by exact fun v267 => (q_mo_br (M_X13_described_278 (q_kap E) r148 mr148 l0 (-1 : Int32)) (M_X13_described_278 (q_kap E) r148 mr148 l0 (4 : Int32)))) h (fun v267 σ h => ?_)
              refine q_W.st (st' := [q_I v267]) rfl ?_
              refine q_if_eq (pc := 270) (tgt := 277) C dX13_described_270 (by decide) h (fun _ h => ?_) (fun _ h => ?_)
              · refine q_iconst (pc := 277) (v := (-1 : Int32)) C dX13_described_277 (by decide) ?_
                exact S_X13_described_278 B hT r148 hr148 mr148 l0 (-1 : Int32) _ h
              · refine q_iconst (pc := 273) (v := (4 : Int32)) C dX13_described_273 (by decide) ?_
                refine q_goto (pc := 274) (tgt := 278) C dX13_described_274 (by decide) ?_
                exact S_X13_described_278 B hT r148 hr148 mr148 l0 (4 : Int32) _ h
            · refine q_iconst (pc := 255) (v := (3 : Int32)) C dX13_described_255 (by decide) ?_
              refine q_goto (pc := 256) (tgt := 278) C dX13_described_256 (by decide) ?_
              exact S_X13_described_278 B hT r148 hr148 mr148 l0 (3 : Int32) _ h
          · refine q_iconst (pc := 237) (v := (2 : Int32)) C dX13_described_237 (by decide) ?_
            refine q_goto (pc := 238) (tgt := 278) C dX13_described_238 (by decide) ?_
            exact S_X13_described_278 B hT r148 hr148 mr148 l0 (2 : Int32) _ h
        · refine q_iconst (pc := 220) (v := (1 : Int32)) C dX13_described_220 (by decide) ?_
          refine q_goto (pc := 221) (tgt := 278) C dX13_described_221 (by decide) ?_
          exact S_X13_described_278 B hT r148 hr148 mr148 l0 (1 : Int32) _ h
      · refine q_iconst (pc := 203) (v := (0 : Int32)) C dX13_described_203 (by decide) ?_
        refine q_goto (pc := 204) (tgt := 278) C dX13_described_204 (by decide) ?_
        exact S_X13_described_278 B hT r148 hr148 mr148 l0 (0 : Int32) _ h
    · refine q_aload_n (pc := 173) C 0 rfl dX13_described_173 rfl ?_
      refine q_dup (pc := 174) C dX13_described_174 rfl ?_
      refine q_getI (pc := 175) C dX13_described_175 ql_X13_206 h (fun v175 h => ?_)
      refine q_iconst (pc := 178) (v := (1 : Int32)) C dX13_described_178 (by decide) ?_
      refine q_iadd (pc := 179) C dX13_described_179 ?_
      refine q_putV (pc := 180) (v := q_I (v175 + (1 : Int32))) C dX13_described_180 ql_X13_206 (Or.inl rfl) rfl rfl h (fun M180 h => ?_)
      refine q_aload_n (pc := 183) C 0 rfl dX13_described_183 rfl ?_
      refine q_callV (pc := 184) (As := []) (st := []) (ps := q_psV) C B.2.1 hT q_hpV qm_X13_247 qv_X13_instruction dX13_described_184 rfl rfl (Nat.le_of_ble_eq_true rfl) (q_flo B.2.2.1 B.2.2.2.1 (by decide) (by decide)) (K_X13_instruction l0) (M_X13_instruction (q_kap E) l0) (by exact fun _v184 => (M_X13_described_311 (q_kap E) r148 mr148 l0)) h (fun _v184 σ h => ?_)
      refine q_W.st (st' := []) rfl ?_
      refine q_goto (pc := 187) (tgt := 311) C dX13_described_187 (by decide) ?_
      exact S_X13_described_311 B hT r148 hr148 mr148 l0 _ h
def F_X13_described_148 (κ : Nat → Nat) : Nat → Option Nat → q_X Unit
  | 0, _ => q_no
  | n + 1, l0 => F_X13_described_148B κ (F_X13_described_148 κ n) l0
theorem M_X13_described_148 (κ : Nat → Nat) : ∀ (n : Nat) (l0 : Option Nat), q_mo (F_X13_described_148 κ n l0)
  | 0, _ => q_mo_no
  | n + 1, l0 => M_X13_described_148B κ (F_X13_described_148 κ n) (M_X13_described_148 κ n) l0
theorem S_X13_described_148 {E : q_Ev} {Γ : q_Gm} {w : (Unit ⊕ q_Exn) × q_St} (B : q_Bd E Γ cX13_described yX13_described.cls 3 8 198 (none) yX13_described.name w) (hT : q_nT Γ) : ∀ (n : Nat) (l0 : Option Nat) (σ : q_St), F_X13_described_148 (q_kap E) n l0 σ = some w → q_W E Γ (q_QF E Γ q_oV w) 3 σ 148 [(0, q_R l0)] []
  | 0, _, _, h => by cases h
  | n + 1, l0, σ, h => S_X13_described_148B B hT (F_X13_described_148 (q_kap E) n) (S_X13_described_148 B hT n) (M_X13_described_148 (q_kap E) n) l0 σ h
def F_X13_described_116 (κ : Nat → Nat) (l0 : Option Nat) : q_X Unit :=
  q_rd (q_gA l0 16 12) fun v117 => q_rd (q_gI l0 16 15) fun v121 => q_rd (q_lL v117 v121) fun v124 => q_rd (q_gI l0 16 15) fun v129 => q_wr (q_pF l0 16 15 (.int (v129 + (1 : Int32)))) (q_rd (q_is l0 16) fun _ => q_ca (F_X13_expect κ l0 (59 : Int32)) fun _v140 => q_wr (q_pF l0 16 21 (.int v124.toInt32)) (F_X13_described_148 κ q_fu l0))
theorem M_X13_described_116 (κ : Nat → Nat) (l0 : Option Nat) : q_mo (F_X13_described_116 κ l0) := (q_mo_rd fun v117 => (q_mo_rd fun v121 => (q_mo_rd fun v124 => (q_mo_rd fun v129 => (q_mo_wr (q_mo_rd fun _ => q_mo_ca (M_X13_expect κ l0 (59 : Int32)) fun _v140 => (q_mo_wr (M_X13_described_148 κ q_fu l0))))))))
set_option maxRecDepth 100000 in
set_option maxHeartbeats 4000000 in
theorem S_X13_described_116 {E : q_Ev} {Γ : q_Gm} {w : (Unit ⊕ q_Exn) × q_St} (B : q_Bd E Γ cX13_described yX13_described.cls 3 8 198 (none) yX13_described.name w) (hT : q_nT Γ) (l0 : Option Nat) (σ : q_St) (h : F_X13_described_116 (q_kap E) l0 σ = some w) : q_W E Γ (q_QF E Γ q_oV w) 3 σ 116 [(0, q_R l0)] [] := by
  have C := B.1
  unfold F_X13_described_116 at h
  refine q_aload_n (pc := 116) C 0 rfl dX13_described_116 rfl ?_
  refine q_getA (pc := 117) C dX13_described_117 ql_X13_36 h (fun v117 h => ?_)
  refine q_aload_n (pc := 120) C 0 rfl dX13_described_120 rfl ?_
  refine q_getI (pc := 121) C dX13_described_121 ql_X13_206 h (fun v121 h => ?_)
  refine q_ldL (pc := 124) C dX13_described_124 h (fun v124 h => ?_)
  refine q_l2i (pc := 125) C dX13_described_125 ?_
  refine q_istore_n (pc := 126) (l' := [(1, q_I v124.toInt32), (0, q_R l0)]) C dX13_described_126 rfl (by decide) rfl ?_
  refine q_aload_n (pc := 127) C 1 rfl dX13_described_127 rfl ?_
  refine q_dup (pc := 128) C dX13_described_128 rfl ?_
  refine q_getI (pc := 129) C dX13_described_129 ql_X13_206 h (fun v129 h => ?_)
  refine q_iconst (pc := 132) (v := (1 : Int32)) C dX13_described_132 (by decide) ?_
  refine q_iadd (pc := 133) C dX13_described_133 ?_
  refine q_putV (pc := 134) (v := q_I (v129 + (1 : Int32))) C dX13_described_134 ql_X13_206 (Or.inl rfl) rfl rfl h (fun M134 h => ?_)
  refine q_aload_n (pc := 137) C 1 rfl dX13_described_137 rfl ?_
  refine q_bipush (pc := 138) (v := (59 : Int32)) C dX13_described_138 (by decide) ?_
  refine q_callV (pc := 140) (As := [q_I (59 : Int32)]) (st := []) (ps := q_psV) C B.2.1 hT q_hpV qm_X13_241 qv_X13_expect dX13_described_140 rfl rfl (Nat.le_of_ble_eq_true rfl) (q_flo B.2.2.1 B.2.2.2.1 (by decide) (by decide)) (K_X13_expect l0 (59 : Int32)) (M_X13_expect (q_kap E) l0 (59 : Int32)) (by exact fun _v140 => (q_mo_wr (M_X13_described_148 (q_kap E) q_fu l0))) h (fun _v140 σ h => ?_)
  refine q_W.st (st' := []) rfl ?_
  refine q_aload_n (pc := 143) C 1 rfl dX13_described_143 rfl ?_
  refine q_iload_n (pc := 144) C 0 rfl dX13_described_144 rfl ?_
  refine q_putV (pc := 145) (v := q_I v124.toInt32) C dX13_described_145 ql_X13_217 (Or.inl rfl) rfl rfl h (fun M145 h => ?_)
  refine q_W.sub [1] rfl ?_
  exact S_X13_described_148 B hT q_fu l0 _ h
def F_X13_described (κ : Nat → Nat) (l0 : Option Nat) : q_X Unit :=
  q_rd (q_is l0 16) fun _ => q_ca (F_X13_forget κ l0) fun _v1 => q_rd (q_is l0 16) fun _ => q_ca (F_X13_isWord κ l0 (0 : Int32) (some (κ 3))) fun v8 => q_br (¬ v8 = 0) (q_wr (q_pF l0 16 15 (.int (1 : Int32))) (q_rd (q_gA l0 16 9) fun v30 => q_rd (q_gI l0 16 15) fun v34 => q_rd (q_lI 1 v30 v34) fun v37 => q_br (v37 = (2 : Int32)) (q_rd (q_gA l0 16 12) fun v56 => q_rd (q_gI l0 16 15) fun v60 => q_rd (q_lL v56 v60) fun v63 => q_br ((lg_cmp v63 (8 : Int64)) = 0) (F_X13_described_116 κ l0) (q_rd (q_gA l0 16 12) fun v72 => q_rd (q_gI l0 16 15) fun v76 => q_rd (q_lL v72 v76) fun v79 => q_br ((lg_cmp v79 (16 : Int64)) = 0) (F_X13_described_116 κ l0) (q_rd (q_gA l0 16 12) fun v88 => q_rd (q_gI l0 16 15) fun v92 => q_rd (q_lL v88 v92) fun v95 => q_br ((lg_cmp v95 (32 : Int64)) = 0) (F_X13_described_116 κ l0) (q_mk (.inr (.inl (15, [.null, .null, .null, .null, .null, .int 0, .int 0, .int 0]))) 8 fun a103 => q_rd (q_gI l0 16 15) fun v109 => q_gd (¬ (some a103) = none) (q_ca (F_X12_init κ (some a103) (3 : Int32) v109) fun _v112 => q_rd (q_is (some a103) 15) fun _ => q_tr RX12 (some a103)))))) (q_mk (.inr (.inl (15, [.null, .null, .null, .null, .null, .int 0, .int 0, .int 0]))) 8 fun a42 => q_rd (q_gI l0 16 15) fun v48 => q_gd (¬ (some a42) = none) (q_ca (F_X12_init κ (some a42) (1 : Int32) v48) fun _v51 => q_rd (q_is (some a42) 15) fun _ => q_tr RX12 (some a42))))) (q_mk (.inr (.inl (15, [.null, .null, .null, .null, .null, .int 0, .int 0, .int 0]))) 8 fun a14 => q_gd (¬ (some a14) = none) (q_ca (F_X12_init κ (some a14) (1 : Int32) (0 : Int32)) fun _v20 => q_rd (q_is (some a14) 15) fun _ => q_tr RX12 (some a14)))
theorem M_X13_described (κ : Nat → Nat) (l0 : Option Nat) : q_mo (F_X13_described κ l0) := (q_mo_rd fun _ => q_mo_ca (M_X13_forget κ l0) fun _v1 => (q_mo_rd fun _ => q_mo_ca (M_X13_isWord κ l0 (0 : Int32) (some (κ 3))) fun v8 => (q_mo_br (q_mo_wr (q_mo_rd fun v30 => (q_mo_rd fun v34 => (q_mo_rd fun v37 => (q_mo_br (q_mo_rd fun v56 => (q_mo_rd fun v60 => (q_mo_rd fun v63 => (q_mo_br (M_X13_described_116 κ l0) (q_mo_rd fun v72 => (q_mo_rd fun v76 => (q_mo_rd fun v79 => (q_mo_br (M_X13_described_116 κ l0) (q_mo_rd fun v88 => (q_mo_rd fun v92 => (q_mo_rd fun v95 => (q_mo_br (M_X13_described_116 κ l0) (q_mo_mk fun a103 => (q_mo_rd fun v109 => (q_mo_gd (q_mo_ca (M_X12_init κ (some a103) (3 : Int32) v109) fun _v112 => (q_mo_rd fun _ => q_mo_tr))))))))))))))))) (q_mo_mk fun a42 => (q_mo_rd fun v48 => (q_mo_gd (q_mo_ca (M_X12_init κ (some a42) (1 : Int32) v48) fun _v51 => (q_mo_rd fun _ => q_mo_tr)))))))))) (q_mo_mk fun a14 => (q_mo_gd (q_mo_ca (M_X12_init κ (some a14) (1 : Int32) (0 : Int32)) fun _v20 => (q_mo_rd fun _ => q_mo_tr)))))))
set_option maxRecDepth 100000 in
set_option maxHeartbeats 4000000 in
theorem K_X13_described {E : q_Ev} (l0 : Option Nat) : q_Ct E yX13_described (.code yX13_described cX13_described 3 (none)) 8 198 [q_R l0] q_oV (F_X13_described (q_kap E) l0) := by
  refine q_enter (by decide) (Nat.le_of_ble_eq_true rfl) (fun Γ σ w h B hT => ?_)
  have C := B.1
  unfold F_X13_described at h
  refine q_aload_n (pc := 0) C 0 rfl dX13_described_0 rfl ?_
  refine q_callV (pc := 1) (As := []) (st := []) (ps := q_psV) C B.2.1 hT q_hpV qm_X13_229 qv_X13_forget dX13_described_1 rfl rfl (Nat.le_of_ble_eq_true rfl) (q_flo B.2.2.1 B.2.2.2.1 (by decide) (by decide)) (K_X13_forget l0) (M_X13_forget (q_kap E) l0) (by exact fun _v1 => (q_mo_rd fun _ => q_mo_ca (M_X13_isWord (q_kap E) l0 (0 : Int32) (some ((q_kap E) 3))) fun v8 => (q_mo_br (q_mo_wr (q_mo_rd fun v30 => (q_mo_rd fun v34 => (q_mo_rd fun v37 => (q_mo_br (q_mo_rd fun v56 => (q_mo_rd fun v60 => (q_mo_rd fun v63 => (q_mo_br (M_X13_described_116 (q_kap E) l0) (q_mo_rd fun v72 => (q_mo_rd fun v76 => (q_mo_rd fun v79 => (q_mo_br (M_X13_described_116 (q_kap E) l0) (q_mo_rd fun v88 => (q_mo_rd fun v92 => (q_mo_rd fun v95 => (q_mo_br (M_X13_described_116 (q_kap E) l0) (q_mo_mk fun a103 => (q_mo_rd fun v109 => (q_mo_gd (q_mo_ca (M_X12_init (q_kap E) (some a103) (3 : Int32) v109) fun _v112 => (q_mo_rd fun _ => q_mo_tr))))))))))))))))) (q_mo_mk fun a42 => (q_mo_rd fun v48 => (q_mo_gd (q_mo_ca (M_X12_init (q_kap E) (some a42) (1 : Int32) v48) fun _v51 => (q_mo_rd fun _ => q_mo_tr)))))))))) (q_mo_mk fun a14 => (q_mo_gd (q_mo_ca (M_X12_init (q_kap E) (some a14) (1 : Int32) (0 : Int32)) fun _v20 => (q_mo_rd fun _ => q_mo_tr))))))) h (fun _v1 σ h => ?_)
  refine q_W.st (st' := []) rfl ?_
  refine q_aload_n (pc := 4) C 0 rfl dX13_described_4 rfl ?_
  refine q_iconst (pc := 5) (v := (0 : Int32)) C dX13_described_5 (by decide) ?_
  refine q_ldcT (pc := 6) (k := 3) (tx := "word") C dX13_described_6 (by decide +kernel) (by decide) ?_
  refine q_callV (pc := 8) (As := [q_I (0 : Int32), q_R (some ((q_kap E) 3))]) (st := []) (ps := q_psI) C B.2.1 hT q_hpI qm_X13_233 qv_X13_isWord dX13_described_8 rfl rfl (Nat.le_of_ble_eq_true rfl) (q_flo B.2.2.1 B.2.2.2.1 (by decide) (by decide)) (K_X13_isWord l0 (0 : Int32) (some ((q_kap E) 3))) (M_X13_isWord (q_kap E) l0 (0 : Int32) (some ((q_kap E) 3))) (by exact fun v8 => (q_mo_br (q_mo_wr (q_mo_rd fun v30 => (q_mo_rd fun v34 => (q_mo_rd fun v37 => (q_mo_br (q_mo_rd fun v56 => (q_mo_rd fun v60 => (q_mo_rd fun v63 => (q_mo_br (M_X13_described_116 (q_kap E) l0) (q_mo_rd fun v72 => (q_mo_rd fun v76 => (q_mo_rd fun v79 => (q_mo_br (M_X13_described_116 (q_kap E) l0) (q_mo_rd fun v88 => (q_mo_rd fun v92 => (q_mo_rd fun v95 => (q_mo_br (M_X13_described_116 (q_kap E) l0) (q_mo_mk fun a103 => (q_mo_rd fun v109 => (q_mo_gd (q_mo_ca (M_X12_init (q_kap E) (some a103) (3 : Int32) v109) fun _v112 => (q_mo_rd fun _ => q_mo_tr))))))))))))))))) (q_mo_mk fun a42 => (q_mo_rd fun v48 => (q_mo_gd (q_mo_ca (M_X12_init (q_kap E) (some a42) (1 : Int32) v48) fun _v51 => (q_mo_rd fun _ => q_mo_tr)))))))))) (q_mo_mk fun a14 => (q_mo_gd (q_mo_ca (M_X12_init (q_kap E) (some a14) (1 : Int32) (0 : Int32)) fun _v20 => (q_mo_rd fun _ => q_mo_tr)))))) h (fun v8 σ h => ?_)
  refine q_W.st (st' := [q_I v8]) rfl ?_
  refine q_if_ne (pc := 11) (tgt := 24) C dX13_described_11 (by decide) h (fun _ h => ?_) (fun _ h => ?_)
  · refine q_aload_n (pc := 24) C 0 rfl dX13_described_24 rfl ?_
    refine q_iconst (pc := 25) (v := (1 : Int32)) C dX13_described_25 (by decide) ?_
    refine q_putV (pc := 26) (v := q_I (1 : Int32)) C dX13_described_26 ql_X13_206 (Or.inl rfl) rfl rfl h (fun M26 h => ?_)
    refine q_aload_n (pc := 29) C 0 rfl dX13_described_29 rfl ?_
    refine q_getA (pc := 30) C dX13_described_30 ql_X13_26 h (fun v30 h => ?_)
    refine q_aload_n (pc := 33) C 0 rfl dX13_described_33 rfl ?_
    refine q_getI (pc := 34) C dX13_described_34 ql_X13_206 h (fun v34 h => ?_)
    refine q_ldI (pc := 37) C dX13_described_37 (Or.inr (Or.inl ⟨rfl, rfl⟩)) h (fun v37 h => ?_)
    refine q_iconst (pc := 38) (v := (2 : Int32)) C dX13_described_38 (by decide) ?_
    refine q_icmp_eq (pc := 39) (tgt := 55) C dX13_described_39 (by decide) h (fun _ h => ?_) (fun _ h => ?_)
    · refine q_aload_n (pc := 55) C 0 rfl dX13_described_55 rfl ?_
      refine q_getA (pc := 56) C dX13_described_56 ql_X13_36 h (fun v56 h => ?_)
      refine q_aload_n (pc := 59) C 0 rfl dX13_described_59 rfl ?_
      refine q_getI (pc := 60) C dX13_described_60 ql_X13_206 h (fun v60 h => ?_)
      refine q_ldL (pc := 63) C dX13_described_63 h (fun v63 h => ?_)
      refine q_ldc2 (pc := 64) (v := (8 : Int64)) C dX13_described_64 qc_X13_237 ?_
      refine q_lcmp (pc := 67) C dX13_described_67 ?_
      refine q_if_eq (pc := 68) (tgt := 116) C dX13_described_68 (by decide) h (fun _ h => ?_) (fun _ h => ?_)
      · exact S_X13_described_116 B hT l0 _ h
      · refine q_aload_n (pc := 71) C 0 rfl dX13_described_71 rfl ?_
        refine q_getA (pc := 72) C dX13_described_72 ql_X13_36 h (fun v72 h => ?_)
        refine q_aload_n (pc := 75) C 0 rfl dX13_described_75 rfl ?_
        refine q_getI (pc := 76) C dX13_described_76 ql_X13_206 h (fun v76 h => ?_)
        refine q_ldL (pc := 79) C dX13_described_79 h (fun v79 h => ?_)
        refine q_ldc2 (pc := 80) (v := (16 : Int64)) C dX13_described_80 qc_X13_174 ?_
        refine q_lcmp (pc := 83) C dX13_described_83 ?_
        refine q_if_eq (pc := 84) (tgt := 116) C dX13_described_84 (by decide) h (fun _ h => ?_) (fun _ h => ?_)
        · exact S_X13_described_116 B hT l0 _ h
        · refine q_aload_n (pc := 87) C 0 rfl dX13_described_87 rfl ?_
          refine q_getA (pc := 88) C dX13_described_88 ql_X13_36 h (fun v88 h => ?_)
          refine q_aload_n (pc := 91) C 0 rfl dX13_described_91 rfl ?_
          refine q_getI (pc := 92) C dX13_described_92 ql_X13_206 h (fun v92 h => ?_)
          refine q_ldL (pc := 95) C dX13_described_95 h (fun v95 h => ?_)
          refine q_ldc2 (pc := 96) (v := (32 : Int64)) C dX13_described_96 qc_X13_239 ?_
          refine q_lcmp (pc := 99) C dX13_described_99 ?_
          refine q_if_eq (pc := 100) (tgt := 116) C dX13_described_100 (by decide) h (fun _ h => ?_) (fun _ h => ?_)
          · exact S_X13_described_116 B hT l0 _ h
          · refine q_new (pc := 103) C dX13_described_103 qn_X13_209 (by exact fun a103 => (q_mo_rd fun v109 => (q_mo_gd (q_mo_ca (M_X12_init (q_kap E) (some a103) (3 : Int32) v109) fun _v112 => (q_mo_rd fun _ => q_mo_tr))))) B.2.1 h (fun a103 σ h => ?_)
            refine q_dup (pc := 106) C dX13_described_106 rfl ?_
            refine q_iconst (pc := 107) (v := (3 : Int32)) C dX13_described_107 (by decide) ?_
            refine q_aload_n (pc := 108) C 0 rfl dX13_described_108 rfl ?_
            refine q_getI (pc := 109) C dX13_described_109 ql_X13_206 h (fun v109 h => ?_)
            refine q_callI (pc := 112) (As := [q_I (3 : Int32), q_I v109]) (st := [q_R (some a103)]) C B.2.1 (fun _ => rfl) qm_X13_211 qI_X12_init dX13_described_112 rfl rfl (Nat.le_of_ble_eq_true rfl) (q_flo B.2.2.1 B.2.2.2.1 (by decide) (by decide)) (K_X12_init (some a103) (3 : Int32) v109) (M_X12_init (q_kap E) (some a103) (3 : Int32) v109) (N_X12_init (q_kap E) (some a103) (3 : Int32) v109) (by exact fun _v112 => (q_mo_rd fun _ => q_mo_tr)) h (fun _v112 σ h => ?_)
            exact q_athrow (pc := 115) (ci := 15) C hT rfl dX13_described_115 h
    · refine q_new (pc := 42) C dX13_described_42 qn_X13_209 (by exact fun a42 => (q_mo_rd fun v48 => (q_mo_gd (q_mo_ca (M_X12_init (q_kap E) (some a42) (1 : Int32) v48) fun _v51 => (q_mo_rd fun _ => q_mo_tr))))) B.2.1 h (fun a42 σ h => ?_)
      refine q_dup (pc := 45) C dX13_described_45 rfl ?_
      refine q_iconst (pc := 46) (v := (1 : Int32)) C dX13_described_46 (by decide) ?_
      refine q_aload_n (pc := 47) C 0 rfl dX13_described_47 rfl ?_
      refine q_getI (pc := 48) C dX13_described_48 ql_X13_206 h (fun v48 h => ?_)
      refine q_callI (pc := 51) (As := [q_I (1 : Int32), q_I v48]) (st := [q_R (some a42)]) C B.2.1 (fun _ => rfl) qm_X13_211 qI_X12_init dX13_described_51 rfl rfl (Nat.le_of_ble_eq_true rfl) (q_flo B.2.2.1 B.2.2.2.1 (by decide) (by decide)) (K_X12_init (some a42) (1 : Int32) v48) (M_X12_init (q_kap E) (some a42) (1 : Int32) v48) (N_X12_init (q_kap E) (some a42) (1 : Int32) v48) (by exact fun _v51 => (q_mo_rd fun _ => q_mo_tr)) h (fun _v51 σ h => ?_)
      exact q_athrow (pc := 54) (ci := 15) C hT rfl dX13_described_54 h
  · refine q_new (pc := 14) C dX13_described_14 qn_X13_209 (by exact fun a14 => (q_mo_gd (q_mo_ca (M_X12_init (q_kap E) (some a14) (1 : Int32) (0 : Int32)) fun _v20 => (q_mo_rd fun _ => q_mo_tr)))) B.2.1 h (fun a14 σ h => ?_)
    refine q_dup (pc := 17) C dX13_described_17 rfl ?_
    refine q_iconst (pc := 18) (v := (1 : Int32)) C dX13_described_18 (by decide) ?_
    refine q_iconst (pc := 19) (v := (0 : Int32)) C dX13_described_19 (by decide) ?_
    refine q_callI (pc := 20) (As := [q_I (1 : Int32), q_I (0 : Int32)]) (st := [q_R (some a14)]) C B.2.1 (fun _ => rfl) qm_X13_211 qI_X12_init dX13_described_20 rfl rfl (Nat.le_of_ble_eq_true rfl) (q_flo B.2.2.1 B.2.2.2.1 (by decide) (by decide)) (K_X12_init (some a14) (1 : Int32) (0 : Int32)) (M_X12_init (q_kap E) (some a14) (1 : Int32) (0 : Int32)) (N_X12_init (q_kap E) (some a14) (1 : Int32) (0 : Int32)) (by exact fun _v20 => (q_mo_rd fun _ => q_mo_tr)) h (fun _v20 σ h => ?_)
    exact q_athrow (pc := 23) (ci := 15) C hT rfl dX13_described_23 h
