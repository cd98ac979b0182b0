def F_X0_init (κ : Nat → Nat) (l0 : Option Nat) (l1 : Option Nat) (l2 : Option Nat) : q_X Unit :=
  q_gd (¬ l0 = none) (q_gd (¬ (5 : Int32) < 0 ∧ (5 : Int32).toNatClampNeg ≤ 65536) (q_mk (q_nL (5 : Int32)) (5 : Int32).toNatClampNeg fun a6 => q_wr (q_pF l0 3 5 (va_rf (some a6))) (q_wr (q_pF l0 3 0 (va_rf l1)) (q_rd (q_gA l1 12 0) fun v18 => q_wr (q_pF l0 3 1 (va_rf v18)) (q_wr (q_pF l0 3 2 (va_rf l2)) (q_rt ()))))))
theorem M_X0_init (κ : Nat → Nat) (l0 : Option Nat) (l1 : Option Nat) (l2 : Option Nat) : q_mo (F_X0_init κ l0 l1 l2) := (q_mo_gd (q_mo_gd (q_mo_mk fun a6 => (q_mo_wr (q_mo_wr (q_mo_rd fun v18 => (q_mo_wr (q_mo_wr q_mo_rt))))))))
theorem N_X0_init (κ : Nat → Nat) (l0 : Option Nat) (l1 : Option Nat) (l2 : Option Nat) : q_ni (F_X0_init κ l0 l1 l2) := (q_ni_gd (q_ni_gd (q_ni_mk fun a6 => (q_ni_wr (q_ni_wr (q_ni_rd fun v18 => (q_ni_wr (q_ni_wr q_ni_rt))))))))
set_option maxRecDepth 100000 in
set_option maxHeartbeats 4000000 in
theorem K_X0_init {E : q_Ev} (l0 : Option Nat) (l1 : Option Nat) (l2 : Option Nat) : q_Ct E yX0_init (.code yX0_init cX0_init 3 (none)) 1 20 [q_R l0, q_R l1, q_R l2] q_oV (F_X0_init (q_kap E) l0 l1 l2) := by
  refine q_enter (by decide) (Nat.le_of_ble_eq_true rfl) (fun Γ σ w h B hT => ?_)
  have C := B.1
  unfold F_X0_init at h
  refine q_aload_n (pc := 0) C 0 rfl dX0_init_0 rfl ?_
  refine q_objI (pc := 1) C dX0_init_1 qo_X0_3 (q_flo B.2.2.1 B.2.2.2.1 (by decide) (by decide)) (Nat.le_of_ble_eq_true rfl) h (fun h => ?_)
  refine q_aload_n (pc := 4) C 0 rfl dX0_init_4 rfl ?_
  refine q_iconst (pc := 5) (v := (5 : Int32)) C dX0_init_5 (by decide) ?_
  refine q_newP (pc := 6) (t := 2) (A := ((5 : Int32).toNatClampNeg, .inr (.inl (fun _ => 0)))) C dX0_init_6 qa_long rfl (by decide) (fun _ h => h) rfl (fun _ => rfl) (by decide) (by exact fun a6 => (q_mo_wr (q_mo_wr (q_mo_rd fun v18 => (q_mo_wr (q_mo_wr q_mo_rt)))))) B.2.1 h (fun a6 σ h => ?_)
  refine q_putV (pc := 8) (v := q_R (some a6)) C dX0_init_8 ql_X0_9 (Or.inr ⟨B.2.2.2.2.2, RX0, TX0, 7, rfl, rfl⟩) q_nfA q_nfA' h (fun M8 h => ?_)
  refine q_aload_n (pc := 11) C 0 rfl dX0_init_11 rfl ?_
  refine q_aload_n (pc := 12) C 1 rfl dX0_init_12 rfl ?_
  refine q_putV (pc := 13) (v := q_R l1) C dX0_init_13 ql_X0_15 (Or.inr ⟨B.2.2.2.2.2, RX0, TX0, 7, rfl, rfl⟩) q_nfO q_nfO' h (fun M13 h => ?_)
  refine q_aload_n (pc := 16) C 0 rfl dX0_init_16 rfl ?_
  refine q_aload_n (pc := 17) C 1 rfl dX0_init_17 rfl ?_
  refine q_getA (pc := 18) C dX0_init_18 ql_X0_19 h (fun v18 h => ?_)
  refine q_putV (pc := 21) (v := q_R v18) C dX0_init_21 ql_X0_25 (Or.inr ⟨B.2.2.2.2.2, RX0, TX0, 7, rfl, rfl⟩) q_nfO q_nfO' h (fun M21 h => ?_)
  refine q_aload_n (pc := 24) C 0 rfl dX0_init_24 rfl ?_
  refine q_aload_n (pc := 25) C 2 rfl dX0_init_25 rfl ?_
  refine q_putV (pc := 26) (v := q_R l2) C dX0_init_26 ql_X0_26 (Or.inr ⟨B.2.2.2.2.2, RX0, TX0, 7, rfl, rfl⟩) q_nfO q_nfO' h (fun M26 h => ?_)
  exact q_vret C B.2.2.2.2.1 dX0_init_29 h
def F_X9_hasFault_12 (κ : Nat → Nat) (s0 : Int32) : q_X Int32 :=
  q_rz s0
theorem M_X9_hasFault_12 (κ : Nat → Nat) (s0 : Int32) : q_mo (F_X9_hasFault_12 κ s0) := q_mo_rz
set_option maxRecDepth 100000 in
set_option maxHeartbeats 4000000 in
theorem S_X9_hasFault_12 {E : q_Ev} {Γ : q_Gm} {w : (Int32 ⊕ q_Exn) × q_St} (B : q_Bd E Γ cX9_hasFault yX9_hasFault.cls 1 0 0 (some .boolean) yX9_hasFault.name w) (hT : q_nT Γ) (s0 : Int32) (σ : q_St) (h : F_X9_hasFault_12 (q_kap E) s0 σ = some w) : q_W E Γ (q_QF E Γ q_oI w) 1 σ 12 [] [q_I s0] := by
  have C := B.1
  unfold F_X9_hasFault_12 at h
  exact q_zret C B.2.2.2.2.1 dX9_hasFault_12 h
def F_X9_hasFault (κ : Nat → Nat) (l0 : Option Nat) : q_X Int32 :=
  q_rd (q_gI l0 12 2) fun v1 => q_br (v1 = 0) (F_X9_hasFault_12 κ (0 : Int32)) (F_X9_hasFault_12 κ (1 : Int32))
theorem M_X9_hasFault (κ : Nat → Nat) (l0 : Option Nat) : q_mo (F_X9_hasFault κ l0) := (q_mo_rd fun v1 => (q_mo_br (M_X9_hasFault_12 κ (0 : Int32)) (M_X9_hasFault_12 κ (1 : Int32))))
set_option maxRecDepth 100000 in
set_option maxHeartbeats 4000000 in
theorem K_X9_hasFault {E : q_Ev} (l0 : Option Nat) : q_Ct E yX9_hasFault (.code yX9_hasFault cX9_hasFault 1 (some .boolean)) 0 0 [q_R l0] q_oI (F_X9_hasFault (q_kap E) l0) := by
  refine q_enter (by decide) (Nat.le_of_ble_eq_true rfl) (fun Γ σ w h B hT => ?_)
  have C := B.1
  unfold F_X9_hasFault at h
  refine q_aload_n (pc := 0) C 0 rfl dX9_hasFault_0 rfl ?_
  refine q_getI (pc := 1) C dX9_hasFault_1 ql_X9_9 h (fun v1 h => ?_)
  refine q_if_eq (pc := 4) (tgt := 11) C dX9_hasFault_4 (by decide) h (fun _ h => ?_) (fun _ h => ?_)
  · refine q_iconst (pc := 11) (v := (0 : Int32)) C dX9_hasFault_11 (by decide) ?_
    refine q_W.sub [] rfl ?_
    exact S_X9_hasFault_12 B hT (0 : Int32) _ h
  · refine q_iconst (pc := 7) (v := (1 : Int32)) C dX9_hasFault_7 (by decide) ?_
    refine q_goto (pc := 8) (tgt := 12) C dX9_hasFault_8 (by decide) ?_
    refine q_W.sub [] rfl ?_
    exact S_X9_hasFault_12 B hT (1 : Int32) _ h
def F_X5_clear (κ : Nat → Nat) (l0 : Option Nat) : q_X Unit :=
  q_wr (q_pF l0 8 2 (.int (0 : Int32))) (q_wr (q_pF l0 8 3 (.int (0 : Int32))) (q_wr (q_pF l0 8 4 (.int (0 : Int32))) (q_rt ())))
theorem M_X5_clear (κ : Nat → Nat) (l0 : Option Nat) : q_mo (F_X5_clear κ l0) := (q_mo_wr (q_mo_wr (q_mo_wr q_mo_rt)))
theorem N_X5_clear (κ : Nat → Nat) (l0 : Option Nat) : q_ni (F_X5_clear κ l0) := (q_ni_wr (q_ni_wr (q_ni_wr q_ni_rt)))
set_option maxRecDepth 100000 in
set_option maxHeartbeats 4000000 in
theorem K_X5_clear {E : q_Ev} (l0 : Option Nat) : q_Ct E yX5_clear (.code yX5_clear cX5_clear 1 (none)) 0 0 [q_R l0] q_oV (F_X5_clear (q_kap E) l0) := by
  refine q_enter (by decide) (Nat.le_of_ble_eq_true rfl) (fun Γ σ w h B hT => ?_)
  have C := B.1
  unfold F_X5_clear at h
  refine q_aload_n (pc := 0) C 0 rfl dX5_clear_0 rfl ?_
  refine q_iconst (pc := 1) (v := (0 : Int32)) C dX5_clear_1 (by decide) ?_
  refine q_putV (pc := 2) (v := q_I (0 : Int32)) C dX5_clear_2 ql_X5_23 (Or.inl rfl) rfl rfl h (fun M2 h => ?_)
  refine q_aload_n (pc := 5) C 0 rfl dX5_clear_5 rfl ?_
  refine q_iconst (pc := 6) (v := (0 : Int32)) C dX5_clear_6 (by decide) ?_
  refine q_putV (pc := 7) (v := q_I (0 : Int32)) C dX5_clear_7 ql_X5_27 (Or.inl rfl) rfl rfl h (fun M7 h => ?_)
  refine q_aload_n (pc := 10) C 0 rfl dX5_clear_10 rfl ?_
  refine q_iconst (pc := 11) (v := (0 : Int32)) C dX5_clear_11 (by decide) ?_
  refine q_putV (pc := 12) (v := q_I (0 : Int32)) C dX5_clear_12 ql_X5_30 (Or.inl rfl) rfl rfl h (fun M12 h => ?_)
  exact q_vret C B.2.2.2.2.1 dX5_clear_15 h
def F_X9_isDone_26 (κ : Nat → Nat) (s0 : Int32) : q_X Int32 :=
  q_rz s0
theorem M_X9_isDone_26 (κ : Nat → Nat) (s0 : Int32) : q_mo (F_X9_isDone_26 κ s0) := q_mo_rz
set_option maxRecDepth 100000 in
set_option maxHeartbeats 4000000 in
theorem S_X9_isDone_26 {E : q_Ev} {Γ : q_Gm} {w : (Int32 ⊕ q_Exn) × q_St} (B : q_Bd E Γ cX9_isDone yX9_isDone.cls 1 1 20 (some .boolean) yX9_isDone.name w) (hT : q_nT Γ) (s0 : Int32) (σ : q_St) (h : F_X9_isDone_26 (q_kap E) s0 σ = some w) : q_W E Γ (q_QF E Γ q_oI w) 1 σ 26 [] [q_I s0] := by
  have C := B.1
  unfold F_X9_isDone_26 at h
  exact q_zret C B.2.2.2.2.1 dX9_isDone_26 h
def F_X9_isDone_21 (κ : Nat → Nat) : q_X Int32 :=
  F_X9_isDone_26 κ (1 : Int32)
theorem M_X9_isDone_21 (κ : Nat → Nat) : q_mo (F_X9_isDone_21 κ) := (M_X9_isDone_26 κ (1 : Int32))
set_option maxRecDepth 100000 in
set_option maxHeartbeats 4000000 in
theorem S_X9_isDone_21 {E : q_Ev} {Γ : q_Gm} {w : (Int32 ⊕ q_Exn) × q_St} (B : q_Bd E Γ cX9_isDone yX9_isDone.cls 1 1 20 (some .boolean) yX9_isDone.name w) (hT : q_nT Γ) (σ : q_St) (h : F_X9_isDone_21 (q_kap E) σ = some w) : q_W E Γ (q_QF E Γ q_oI w) 1 σ 21 [] [] := by
  have C := B.1
  unfold F_X9_isDone_21 at h
  refine q_iconst (pc := 21) (v := (1 : Int32)) C dX9_isDone_21 (by decide) ?_
  refine q_goto (pc := 22) (tgt := 26) C dX9_isDone_22 (by decide) ?_
  exact S_X9_isDone_26 B hT (1 : Int32) _ h
def F_X9_isDone (κ : Nat → Nat) (l0 : Option Nat) : q_X Int32 :=
  q_rd (q_is l0 12) fun _ => q_ca (F_X9_hasFault κ l0) fun v1 => q_br (¬ v1 = 0) (F_X9_isDone_21 κ) (q_rd (q_gI l0 12 1) fun v8 => q_rd (q_gA l0 12 0) fun v12 => q_rd (q_gI v12 13 6) fun v15 => q_br (v8 < v15) (F_X9_isDone_26 κ (0 : Int32)) (F_X9_isDone_21 κ))
theorem M_X9_isDone (κ : Nat → Nat) (l0 : Option Nat) : q_mo (F_X9_isDone κ l0) := (q_mo_rd fun _ => q_mo_ca (M_X9_hasFault κ l0) fun v1 => (q_mo_br (M_X9_isDone_21 κ) (q_mo_rd fun v8 => (q_mo_rd fun v12 => (q_mo_rd fun v15 => (q_mo_br (M_X9_isDone_26 κ (0 : Int32)) (M_X9_isDone_21 κ)))))))
set_option maxRecDepth 100000 in
set_option maxHeartbeats 4000000 in
theorem K_X9_isDone {E : q_Ev} (l0 : Option Nat) : q_Ct E yX9_isDone (.code yX9_isDone cX9_isDone 1 (some .boolean)) 1 20 [q_R l0] q_oI (F_X9_isDone (q_kap E) l0) := by
  refine q_enter (by decide) (Nat.le_of_ble_eq_true rfl) (fun Γ σ w h B hT => ?_)
  have C := B.1
  unfold F_X9_isDone at h
  refine q_aload_n (pc := 0) C 0 rfl dX9_isDone_0 rfl ?_
  refine q_callV (pc := 1) (As := []) (st := []) (ps := q_psI) C B.2.1 hT q_hpI qm_X9_31 qv_X9_hasFault dX9_isDone_1 rfl rfl (Nat.le_of_ble_eq_true rfl) (q_flo B.2.2.1 B.2.2.2.1 (by decide) (by decide)) (K_X9_hasFault l0) (M_X9_hasFault (q_kap E) l0) (by exact fun v1 => (q_mo_br (M_X9_isDone_21 (q_kap E)) (q_mo_rd fun v8 => (q_mo_rd fun v12 => (q_mo_rd fun v15 => (q_mo_br (M_X9_isDone_26 (q_kap E) (0 : Int32)) (M_X9_isDone_21 (q_kap E)))))))) h (fun v1 σ h => ?_)
  refine q_W.st (st' := [q_I v1]) rfl ?_
  refine q_if_ne (pc := 4) (tgt := 21) C dX9_isDone_4 (by decide) h (fun _ h => ?_) (fun _ h => ?_)
  · refine q_W.sub [] rfl ?_
    exact S_X9_isDone_21 B hT _ h
  · refine q_aload_n (pc := 7) C 0 rfl dX9_isDone_7 rfl ?_
    refine q_getI (pc := 8) C dX9_isDone_8 ql_X9_28 h (fun v8 h => ?_)
    refine q_aload_n (pc := 11) C 0 rfl dX9_isDone_11 rfl ?_
    refine q_getA (pc := 12) C dX9_isDone_12 ql_X9_18 h (fun v12 h => ?_)
    refine q_getI (pc := 15) C dX9_isDone_15 ql_X9_35 h (fun v15 h => ?_)
    refine q_icmp_lt (pc := 18) (tgt := 25) C dX9_isDone_18 (by decide) h (fun _ h => ?_) (fun _ h => ?_)
    · refine q_iconst (pc := 25) (v := (0 : Int32)) C dX9_isDone_25 (by decide) ?_
      refine q_W.sub [] rfl ?_
      exact S_X9_isDone_26 B hT (0 : Int32) _ h
    · refine q_W.sub [] rfl ?_
      exact S_X9_isDone_21 B hT _ h
def F_X9_isAtName_21 (κ : Nat → Nat) (s0 : Int32) : q_X Int32 :=
  q_rz s0
theorem M_X9_isAtName_21 (κ : Nat → Nat) (s0 : Int32) : q_mo (F_X9_isAtName_21 κ s0) := q_mo_rz
set_option maxRecDepth 100000 in
set_option maxHeartbeats 4000000 in
theorem S_X9_isAtName_21 {E : q_Ev} {Γ : q_Gm} {w : (Int32 ⊕ q_Exn) × q_St} (B : q_Bd E Γ cX9_isAtName yX9_isAtName.cls 1 0 0 (some .boolean) yX9_isAtName.name w) (hT : q_nT Γ) (s0 : Int32) (σ : q_St) (h : F_X9_isAtName_21 (q_kap E) s0 σ = some w) : q_W E Γ (q_QF E Γ q_oI w) 1 σ 21 [] [q_I s0] := by
  have C := B.1
  unfold F_X9_isAtName_21 at h
  exact q_zret C B.2.2.2.2.1 dX9_isAtName_21 h
def F_X9_isAtName (κ : Nat → Nat) (l0 : Option Nat) : q_X Int32 :=
  q_rd (q_gA l0 12 0) fun v1 => q_rd (q_gA v1 13 1) fun v4 => q_rd (q_gI l0 12 1) fun v8 => q_rd (q_lI 0 v4 v8) fun v11 => q_br (¬ v11 = (1 : Int32)) (F_X9_isAtName_21 κ (0 : Int32)) (F_X9_isAtName_21 κ (1 : Int32))
theorem M_X9_isAtName (κ : Nat → Nat) (l0 : Option Nat) : q_mo (F_X9_isAtName κ l0) := (q_mo_rd fun v1 => (q_mo_rd fun v4 => (q_mo_rd fun v8 => (q_mo_rd fun v11 => (q_mo_br (M_X9_isAtName_21 κ (0 : Int32)) (M_X9_isAtName_21 κ (1 : Int32)))))))
set_option maxRecDepth 100000 in
set_option maxHeartbeats 4000000 in
theorem K_X9_isAtName {E : q_Ev} (l0 : Option Nat) : q_Ct E yX9_isAtName (.code yX9_isAtName cX9_isAtName 1 (some .boolean)) 0 0 [q_R l0] q_oI (F_X9_isAtName (q_kap E) l0) := by
  refine q_enter (by decide) (Nat.le_of_ble_eq_true rfl) (fun Γ σ w h B hT => ?_)
  have C := B.1
  unfold F_X9_isAtName at h
  refine q_aload_n (pc := 0) C 0 rfl dX9_isAtName_0 rfl ?_
  refine q_getA (pc := 1) C dX9_isAtName_1 ql_X9_18 h (fun v1 h => ?_)
  refine q_getA (pc := 4) C dX9_isAtName_4 ql_X9_38 h (fun v4 h => ?_)
  refine q_aload_n (pc := 7) C 0 rfl dX9_isAtName_7 rfl ?_
  refine q_getI (pc := 8) C dX9_isAtName_8 ql_X9_28 h (fun v8 h => ?_)
  refine q_ldI (pc := 11) C dX9_isAtName_11 (Or.inl ⟨rfl, rfl⟩) h (fun v11 h => ?_)
  refine q_iconst (pc := 12) (v := (1 : Int32)) C dX9_isAtName_12 (by decide) ?_
  refine q_icmp_ne (pc := 13) (tgt := 20) C dX9_isAtName_13 (by decide) h (fun _ h => ?_) (fun _ h => ?_)
  · refine q_iconst (pc := 20) (v := (0 : Int32)) C dX9_isAtName_20 (by decide) ?_
    refine q_W.sub [] rfl ?_
    exact S_X9_isAtName_21 B hT (0 : Int32) _ h
  · refine q_iconst (pc := 16) (v := (1 : Int32)) C dX9_isAtName_16 (by decide) ?_
    refine q_goto (pc := 17) (tgt := 21) C dX9_isAtName_17 (by decide) ?_
    refine q_W.sub [] rfl ?_
    exact S_X9_isAtName_21 B hT (1 : Int32) _ h
def F_X7_bytesBehind_45B (κ : Nat → Nat) (r45 : Option Nat → Option Nat → Int32 → Int32 → Int32 → q_X Int32) (l0 : Option Nat) (l1 : Option Nat) (l3 : Int32) (l4 : Int32) (l5 : Int32) : q_X Int32 :=
  q_rd (q_gA l0 10 0) fun v48 => q_rd (q_ln v48) fun v51 => q_br (v51 ≤ l5) (q_rt l4) (q_rd (q_gA l1 13 0) fun v56 => q_rd (q_lI 0 v56 (l3 + l5)) fun v63 => q_rd (q_gA l0 10 0) fun v65 => q_rd (q_lI 0 v65 l5) fun v70 => q_br (v63 = v70) (r45 l0 l1 l3 l4 (l5 + (1 : Int32))) (q_rt (-1 : Int32)))
theorem M_X7_bytesBehind_45B (κ : Nat → Nat) (r45 : Option Nat → Option Nat → Int32 → Int32 → Int32 → q_X Int32) (mr45 : ∀ (l0 : Option Nat) (l1 : Option Nat) (l3 : Int32) (l4 : Int32) (l5 : Int32), q_mo (r45 l0 l1 l3 l4 l5)) (l0 : Option Nat) (l1 : Option Nat) (l3 : Int32) (l4 : Int32) (l5 : Int32) : q_mo (F_X7_bytesBehind_45B κ r45 l0 l1 l3 l4 l5) := (q_mo_rd fun v48 => (q_mo_rd fun v51 => (q_mo_br q_mo_rt (q_mo_rd fun v56 => (q_mo_rd fun v63 => (q_mo_rd fun v65 => (q_mo_rd fun v70 => (q_mo_br (mr45 l0 l1 l3 l4 (l5 + (1 : Int32))) q_mo_rt))))))))
set_option maxRecDepth 100000 in
set_option maxHeartbeats 4000000 in
theorem S_X7_bytesBehind_45B {E : q_Ev} {Γ : q_Gm} {w : (Int32 ⊕ q_Exn) × q_St} (B : q_Bd E Γ cX7_bytesBehind yX7_bytesBehind.cls 6 0 0 (some .int) yX7_bytesBehind.name w) (hT : q_nT Γ) (r45 : Option Nat → Option Nat → Int32 → Int32 → Int32 → q_X Int32) (hr45 : ∀ (l0 : Option Nat) (l1 : Option Nat) (l3 : Int32) (l4 : Int32) (l5 : Int32) (σ : q_St), r45 l0 l1 l3 l4 l5 σ = some w → q_W E Γ (q_QF E Γ q_oI w) 6 σ 45 [(0, q_R l0), (1, q_R l1), (3, q_I l3), (4, q_I l4), (5, q_I l5)] []) (mr45 : ∀ (l0 : Option Nat) (l1 : Option Nat) (l3 : Int32) (l4 : Int32) (l5 : Int32), q_mo (r45 l0 l1 l3 l4 l5)) (l0 : Option Nat) (l1 : Option Nat) (l3 : Int32) (l4 : Int32) (l5 : Int32) (σ : q_St) (h : F_X7_bytesBehind_45B (q_kap E) r45 l0 l1 l3 l4 l5 σ = some w) : q_W E Γ (q_QF E Γ q_oI w) 6 σ 45 [(0, q_R l0), (1, q_R l1), (3, q_I l3), (4, q_I l4), (5, q_I l5)] [] := by
  have C := B.1
  unfold F_X7_bytesBehind_45B at h
  refine q_iload (pc := 45) C 4 rfl dX7_bytesBehind_45 ?_
  refine q_aload_n (pc := 47) C 0 rfl dX7_bytesBehind_47 rfl ?_
  refine q_getA (pc := 48) C dX7_bytesBehind_48 ql_X7_28 h (fun v48 h => ?_)
  refine q_aln (pc := 51) C dX7_bytesBehind_51 h (fun v51 h => ?_)
  refine q_icmp_ge (pc := 52) (tgt := 82) C dX7_bytesBehind_52 (by decide) h (fun _ h => ?_) (fun _ h => ?_)
  · refine q_iload (pc := 82) C 3 rfl dX7_bytesBehind_82 ?_
    exact q_iret C B.2.2.2.2.1 dX7_bytesBehind_84 h
  · refine q_aload_n (pc := 55) C 1 rfl dX7_bytesBehind_55 rfl ?_
    refine q_getA (pc := 56) C dX7_bytesBehind_56 ql_X7_9 h (fun v56 h => ?_)
    refine q_iload_n (pc := 59) C 2 rfl dX7_bytesBehind_59 rfl ?_
    refine q_iload (pc := 60) C 4 rfl dX7_bytesBehind_60 ?_
    refine q_iadd (pc := 62) C dX7_bytesBehind_62 ?_
    refine q_ldI (pc := 63) C dX7_bytesBehind_63 (Or.inl ⟨rfl, rfl⟩) h (fun v63 h => ?_)
    refine q_aload_n (pc := 64) C 0 rfl dX7_bytesBehind_64 rfl ?_
    refine q_getA (pc := 65) C dX7_bytesBehind_65 ql_X7_28 h (fun v65 h => ?_)
    refine q_iload (pc := 68) C 4 rfl dX7_bytesBehind_68 ?_
    refine q_ldI (pc := 70) C dX7_bytesBehind_70 (Or.inl ⟨rfl, rfl⟩) h (fun v70 h => ?_)
    refine q_icmp_eq (pc := 71) (tgt := 76) C dX7_bytesBehind_71 (by decide) h (fun _ h => ?_) (fun _ h => ?_)
    · refine q_iinc (pc := 76) (v := (1 : Int32)) (l' := [(5, q_I (l5 + (1 : Int32))), (0, q_R l0), (1, q_R l1), (3, q_I l3), (4, q_I l4)]) C 4 rfl dX7_bytesBehind_76 (by decide) (by decide) rfl ?_
      refine q_goto (pc := 79) (tgt := 45) C dX7_bytesBehind_79 (by decide) ?_
      refine q_W.sub [1, 2, 3, 4, 0] rfl ?_
      exact hr45 l0 l1 l3 l4 (l5 + (1 : Int32)) _ h
    · refine q_iconst (pc := 74) (v := (-1 : Int32)) C dX7_bytesBehind_74 (by decide) ?_
      exact q_iret C B.2.2.2.2.1 dX7_bytesBehind_75 h
def F_X7_bytesBehind_45 (κ : Nat → Nat) : Nat → Option Nat → Option Nat → Int32 → Int32 → Int32 → q_X Int32
  | 0, _, _, _, _, _ => q_no
  | n + 1, l0, l1, l3, l4, l5 => F_X7_bytesBehind_45B κ (F_X7_bytesBehind_45 κ n) l0 l1 l3 l4 l5
theorem M_X7_bytesBehind_45 (κ : Nat → Nat) : ∀ (n : Nat) (l0 : Option Nat) (l1 : Option Nat) (l3 : Int32) (l4 : Int32) (l5 : Int32), q_mo (F_X7_bytesBehind_45 κ n l0 l1 l3 l4 l5)
  | 0, _, _, _, _, _ => q_mo_no
  | n + 1, l0, l1, l3, l4, l5 => M_X7_bytesBehind_45B κ (F_X7_bytesBehind_45 κ n) (M_X7_bytesBehind_45 κ n) l0 l1 l3 l4 l5
theorem S_X7_bytesBehind_45 {E : q_Ev} {Γ : q_Gm} {w : (Int32 ⊕ q_Exn) × q_St} (B : q_Bd E Γ cX7_bytesBehind yX7_bytesBehind.cls 6 0 0 (some .int) yX7_bytesBehind.name w) (hT : q_nT Γ) : ∀ (n : Nat) (l0 : Option Nat) (l1 : Option Nat) (l3 : Int32) (l4 : Int32) (l5 : Int32) (σ : q_St), F_X7_bytesBehind_45 (q_kap E) n l0 l1 l3 l4 l5 σ = some w → q_W E Γ (q_QF E Γ q_oI w) 6 σ 45 [(0, q_R l0), (1, q_R l1), (3, q_I l3), (4, q_I l4), (5, q_I l5)] []
  | 0, _, _, _, _, _, _, h => by cases h
  | n + 1, l0, l1, l3, l4, l5, σ, h => S_X7_bytesBehind_45B B hT (F_X7_bytesBehind_45 (q_kap E) n) (S_X7_bytesBehind_45 B hT n) (M_X7_bytesBehind_45 (q_kap E) n) l0 l1 l3 l4 l5 σ h
def F_X7_bytesBehind (κ : Nat → Nat) (l0 : Option Nat) (l1 : Option Nat) (l2 : Int32) : q_X Int32 :=
  q_rd (q_gA l1 13 1) fun v1 => q_rd (q_lI 0 v1 l2) fun v5 => q_br (v5 = (1 : Int32)) (q_rd (q_gA l1 13 2) fun v13 => q_rd (q_lI 1 v13 l2) fun v17 => q_rd (q_gA l1 13 3) fun v20 => q_rd (q_lI 1 v20 l2) fun v24 => q_rd (q_gA l0 10 0) fun v28 => q_rd (q_ln v28) fun v31 => q_br (0 ≤ ((v24 - v17) - v31)) (F_X7_bytesBehind_45 κ q_fu l0 l1 v17 ((v24 - v17) - v31) (0 : Int32)) (q_rt (-1 : Int32))) (q_rt (-1 : Int32))
theorem M_X7_bytesBehind (κ : Nat → Nat) (l0 : Option Nat) (l1 : Option Nat) (l2 : Int32) : q_mo (F_X7_bytesBehind κ l0 l1 l2) := (q_mo_rd fun v1 => (q_mo_rd fun v5 => (q_mo_br (q_mo_rd fun v13 => (q_mo_rd fun v17 => (q_mo_rd fun v20 => (q_mo_rd fun v24 => (q_mo_rd fun v28 => (q_mo_rd fun v31 => (q_mo_br (M_X7_bytesBehind_45 κ q_fu l0 l1 v17 ((v24 - v17) - v31) (0 : Int32)) q_mo_rt))))))) q_mo_rt)))
set_option maxRecDepth 100000 in
set_option maxHeartbeats 4000000 in
theorem K_X7_bytesBehind {E : q_Ev} (l0 : Option Nat) (l1 : Option Nat) (l2 : Int32) : q_Ct E yX7_bytesBehind (.code yX7_bytesBehind cX7_bytesBehind 6 (some .int)) 0 0 [q_R l0, q_R l1, q_I l2] q_oI (F_X7_bytesBehind (q_kap E) l0 l1 l2) := by
  refine q_enter (by decide) (Nat.le_of_ble_eq_true rfl) (fun Γ σ w h B hT => ?_)
  have C := B.1
  unfold F_X7_bytesBehind at h
  refine q_aload_n (pc := 0) C 1 rfl dX7_bytesBehind_0 rfl ?_
  refine q_getA (pc := 1) C dX7_bytesBehind_1 ql_X7_33 h (fun v1 h => ?_)
  refine q_iload_n (pc := 4) C 2 rfl dX7_bytesBehind_4 rfl ?_
  refine q_ldI (pc := 5) C dX7_bytesBehind_5 (Or.inl ⟨rfl, rfl⟩) h (fun v5 h => ?_)
  refine q_iconst (pc := 6) (v := (1 : Int32)) C dX7_bytesBehind_6 (by decide) ?_
  refine q_icmp_eq (pc := 7) (tgt := 12) C dX7_bytesBehind_7 (by decide) h (fun _ h => ?_) (fun _ h => ?_)
  · refine q_aload_n (pc := 12) C 1 rfl dX7_bytesBehind_12 rfl ?_
    refine q_getA (pc := 13) C dX7_bytesBehind_13 ql_X7_15 h (fun v13 h => ?_)
    refine q_iload_n (pc := 16) C 2 rfl dX7_bytesBehind_16 rfl ?_
    refine q_ldI (pc := 17) C dX7_bytesBehind_17 (Or.inr (Or.inl ⟨rfl, rfl⟩)) h (fun v17 h => ?_)
    refine q_istore_n (pc := 18) (l' := [(3, q_I v17), (0, q_R l0), (1, q_R l1), (2, q_I l2)]) C dX7_bytesBehind_18 rfl (by decide) rfl ?_
    refine q_aload_n (pc := 19) C 2 rfl dX7_bytesBehind_19 rfl ?_
    refine q_getA (pc := 20) C dX7_bytesBehind_20 ql_X7_19 h (fun v20 h => ?_)
    refine q_iload_n (pc := 23) C 3 rfl dX7_bytesBehind_23 rfl ?_
    refine q_ldI (pc := 24) C dX7_bytesBehind_24 (Or.inr (Or.inl ⟨rfl, rfl⟩)) h (fun v24 h => ?_)
    refine q_iload_n (pc := 25) C 0 rfl dX7_bytesBehind_25 rfl ?_
    refine q_isub (pc := 26) C dX7_bytesBehind_26 ?_
    refine q_aload_n (pc := 27) C 1 rfl dX7_bytesBehind_27 rfl ?_
    refine q_getA (pc := 28) C dX7_bytesBehind_28 ql_X7_28 h (fun v28 h => ?_)
    refine q_aln (pc := 31) C dX7_bytesBehind_31 h (fun v31 h => ?_)
    refine q_isub (pc := 32) C dX7_bytesBehind_32 ?_
    refine q_istore (pc := 33) (l' := [(4, q_I ((v24 - v17) - v31)), (3, q_I v17), (0, q_R l0), (1, q_R l1), (2, q_I l2)]) C dX7_bytesBehind_33 (by decide) rfl ?_
    refine q_iload (pc := 35) C 0 rfl dX7_bytesBehind_35 ?_
    refine q_if_ge (pc := 37) (tgt := 42) C dX7_bytesBehind_37 (by decide) h (fun _ h => ?_) (fun _ h => ?_)
    · refine q_iconst (pc := 42) (v := (0 : Int32)) C dX7_bytesBehind_42 (by decide) ?_
      refine q_istore (pc := 43) (l' := [(5, q_I (0 : Int32)), (4, q_I ((v24 - v17) - v31)), (3, q_I v17), (0, q_R l0), (1, q_R l1), (2, q_I l2)]) C dX7_bytesBehind_43 (by decide) rfl ?_
      refine q_W.sub [3, 4, 2, 1, 0] rfl ?_
      exact S_X7_bytesBehind_45 B hT q_fu l0 l1 v17 ((v24 - v17) - v31) (0 : Int32) _ h
    · refine q_iconst (pc := 40) (v := (-1 : Int32)) C dX7_bytesBehind_40 (by decide) ?_
      exact q_iret C B.2.2.2.2.1 dX7_bytesBehind_41 h
  · refine q_iconst (pc := 10) (v := (-1 : Int32)) C dX7_bytesBehind_10 (by decide) ?_
    exact q_iret C B.2.2.2.2.1 dX7_bytesBehind_11 h
def F_X5_kindNamed_2B (κ : Nat → Nat) (r2 : Option Nat → Option Nat → Int32 → Int32 → q_X (Option Nat)) (l0 : Option Nat) (l1 : Option Nat) (l2 : Int32) (l3 : Int32) : q_X (Option Nat) :=
  q_rd (q_gI l0 8 3) fun v4 => q_br (v4 ≤ l3) (q_rt none) (q_rd (q_gA l0 8 0) fun v11 => q_rd (q_lA 5 v11 l3) fun v15 => q_rd (q_gA v15 5 1) fun v16 => q_rd (q_is v16 10) fun _ => q_ca (F_X7_bytesBehind κ v16 l1 l2) fun v21 => q_br (¬ v21 = 0) (r2 l0 l1 l2 (l3 + (1 : Int32))) (q_rd (q_gA l0 8 0) fun v28 => q_rd (q_lA 5 v28 l3) fun v32 => q_rt v32))
theorem M_X5_kindNamed_2B (κ : Nat → Nat) (r2 : Option Nat → Option Nat → Int32 → Int32 → q_X (Option Nat)) (mr2 : ∀ (l0 : Option Nat) (l1 : Option Nat) (l2 : Int32) (l3 : Int32), q_mo (r2 l0 l1 l2 l3)) (l0 : Option Nat) (l1 : Option Nat) (l2 : Int32) (l3 : Int32) : q_mo (F_X5_kindNamed_2B κ r2 l0 l1 l2 l3) := (q_mo_rd fun v4 => (q_mo_br q_mo_rt (q_mo_rd fun v11 => (q_mo_rd fun v15 => (q_mo_rd fun v16 => (q_mo_rd fun _ => q_mo_ca (M_X7_bytesBehind κ v16 l1 l2) fun v21 => (q_mo_br (mr2 l0 l1 l2 (l3 + (1 : Int32))) (q_mo_rd fun v28 => (q_mo_rd fun v32 => q_mo_rt)))))))))
set_option maxRecDepth 100000 in
set_option maxHeartbeats 4000000 in
theorem S_X5_kindNamed_2B {E : q_Ev} {Γ : q_Gm} {w : (Option Nat ⊕ q_Exn) × q_St} (B : q_Bd E Γ cX5_kindNamed yX5_kindNamed.cls 4 1 25 (some (.object "IsaForge$Kind")) yX5_kindNamed.name w) (hT : q_nT Γ) (r2 : Option Nat → Option Nat → Int32 → Int32 → q_X (Option Nat)) (hr2 : ∀ (l0 : Option Nat) (l1 : Option Nat) (l2 : Int32) (l3 : Int32) (σ : q_St), r2 l0 l1 l2 l3 σ = some w → q_W E Γ (q_QF E Γ q_oR w) 4 σ 2 [(0, q_R l0), (1, q_R l1), (2, q_I l2), (3, q_I l3)] []) (mr2 : ∀ (l0 : Option Nat) (l1 : Option Nat) (l2 : Int32) (l3 : Int32), q_mo (r2 l0 l1 l2 l3)) (l0 : Option Nat) (l1 : Option Nat) (l2 : Int32) (l3 : Int32) (σ : q_St) (h : F_X5_kindNamed_2B (q_kap E) r2 l0 l1 l2 l3 σ = some w) : q_W E Γ (q_QF E Γ q_oR w) 4 σ 2 [(0, q_R l0), (1, q_R l1), (2, q_I l2), (3, q_I l3)] [] := by
  have C := B.1
  unfold F_X5_kindNamed_2B at h
  refine q_iload_n (pc := 2) C 3 rfl dX5_kindNamed_2 rfl ?_
  refine q_aload_n (pc := 3) C 0 rfl dX5_kindNamed_3 rfl ?_
  refine q_getI (pc := 4) C dX5_kindNamed_4 ql_X5_27 h (fun v4 h => ?_)
  refine q_icmp_ge (pc := 7) (tgt := 40) C dX5_kindNamed_7 (by decide) h (fun _ h => ?_) (fun _ h => ?_)
  · refine q_null (pc := 40) C dX5_kindNamed_40 ?_
    exact q_aret C B.2.2.2.2.1 (Or.inl ⟨_, rfl⟩) dX5_kindNamed_41 h
  · refine q_aload_n (pc := 10) C 0 rfl dX5_kindNamed_10 rfl ?_
    refine q_getA (pc := 11) C dX5_kindNamed_11 ql_X5_11 h (fun v11 h => ?_)
    refine q_iload_n (pc := 14) C 3 rfl dX5_kindNamed_14 rfl ?_
    refine q_ldA (pc := 15) C dX5_kindNamed_15 ⟨_, rfl⟩ h (fun v15 h => ?_)
    refine q_getA (pc := 16) C dX5_kindNamed_16 ql_X5_33 h (fun v16 h => ?_)
    refine q_aload_n (pc := 19) C 1 rfl dX5_kindNamed_19 rfl ?_
    refine q_iload_n (pc := 20) C 2 rfl dX5_kindNamed_20 rfl ?_
    refine q_callV (pc := 21) (As := [q_R l1, q_I l2]) (st := []) (ps := q_psI) C B.2.1 hT q_hpI qm_X5_37 qv_X7_bytesBehind dX5_kindNamed_21 rfl rfl (Nat.le_of_ble_eq_true rfl) (q_flo B.2.2.1 B.2.2.2.1 (by decide) (by decide)) (K_X7_bytesBehind v16 l1 l2) (M_X7_bytesBehind (q_kap E) v16 l1 l2) (by exact fun v21 => (q_mo_br (mr2 l0 l1 l2 (l3 + (1 : Int32))) (q_mo_rd fun v28 => (q_mo_rd fun v32 => q_mo_rt)))) h (fun v21 σ h => ?_)
    refine q_W.st (st' := [q_I v21]) rfl ?_
    refine q_if_ne (pc := 24) (tgt := 34) C dX5_kindNamed_24 (by decide) h (fun _ h => ?_) (fun _ h => ?_)
    · refine q_iinc (pc := 34) (v := (1 : Int32)) (l' := [(3, q_I (l3 + (1 : Int32))), (0, q_R l0), (1, q_R l1), (2, q_I l2)]) C 3 rfl dX5_kindNamed_34 (by decide) (by decide) rfl ?_
      refine q_goto (pc := 37) (tgt := 2) C dX5_kindNamed_37 (by decide) ?_
      refine q_W.sub [1, 2, 3, 0] rfl ?_
      exact hr2 l0 l1 l2 (l3 + (1 : Int32)) _ h
    · refine q_aload_n (pc := 27) C 0 rfl dX5_kindNamed_27 rfl ?_
      refine q_getA (pc := 28) C dX5_kindNamed_28 ql_X5_11 h (fun v28 h => ?_)
      refine q_iload_n (pc := 31) C 3 rfl dX5_kindNamed_31 rfl ?_
      refine q_ldA (pc := 32) C dX5_kindNamed_32 ⟨_, rfl⟩ h (fun v32 h => ?_)
      exact q_aret C B.2.2.2.2.1 (Or.inl ⟨_, rfl⟩) dX5_kindNamed_33 h
def F_X5_kindNamed_2 (κ : Nat → Nat) : Nat → Option Nat → Option Nat → Int32 → Int32 → q_X (Option Nat)
  | 0, _, _, _, _ => q_no
  | n + 1, l0, l1, l2, l3 => F_X5_kindNamed_2B κ (F_X5_kindNamed_2 κ n) l0 l1 l2 l3
theorem M_X5_kindNamed_2 (κ : Nat → Nat) : ∀ (n : Nat) (l0 : Option Nat) (l1 : Option Nat) (l2 : Int32) (l3 : Int32), q_mo (F_X5_kindNamed_2 κ n l0 l1 l2 l3)
  | 0, _, _, _, _ => q_mo_no
  | n + 1, l0, l1, l2, l3 => M_X5_kindNamed_2B κ (F_X5_kindNamed_2 κ n) (M_X5_kindNamed_2 κ n) l0 l1 l2 l3
theorem S_X5_kindNamed_2 {E : q_Ev} {Γ : q_Gm} {w : (Option Nat ⊕ q_Exn) × q_St} (B : q_Bd E Γ cX5_kindNamed yX5_kindNamed.cls 4 1 25 (some (.object "IsaForge$Kind")) yX5_kindNamed.name w) (hT : q_nT Γ) : ∀ (n : Nat) (l0 : Option Nat) (l1 : Option Nat) (l2 : Int32) (l3 : Int32) (σ : q_St), F_X5_kindNamed_2 (q_kap E) n l0 l1 l2 l3 σ = some w → q_W E Γ (q_QF E Γ q_oR w) 4 σ 2 [(0, q_R l0), (1, q_R l1), (2, q_I l2), (3, q_I l3)] []
  | 0, _, _, _, _, _, h => by cases h
  | n + 1, l0, l1, l2, l3, σ, h => S_X5_kindNamed_2B B hT (F_X5_kindNamed_2 (q_kap E) n) (S_X5_kindNamed_2 B hT n) (M_X5_kindNamed_2 (q_kap E) n) l0 l1 l2 l3 σ h
def F_X5_kindNamed (κ : Nat → Nat) (l0 : Option Nat) (l1 : Option Nat) (l2 : Int32) : q_X (Option Nat) :=
  F_X5_kindNamed_2 κ q_fu l0 l1 l2 (0 : Int32)
theorem M_X5_kindNamed (κ : Nat → Nat) (l0 : Option Nat) (l1 : Option Nat) (l2 : Int32) : q_mo (F_X5_kindNamed κ l0 l1 l2) := (M_X5_kindNamed_2 κ q_fu l0 l1 l2 (0 : Int32))
set_option maxRecDepth 100000 in
set_option maxHeartbeats 4000000 in
theorem K_X5_kindNamed {E : q_Ev} (l0 : Option Nat) (l1 : Option Nat) (l2 : Int32) : q_Ct E yX5_kindNamed (.code yX5_kindNamed cX5_kindNamed 4 (some (.object "IsaForge$Kind"))) 1 25 [q_R l0, q_R l1, q_I l2] q_oR (F_X5_kindNamed (q_kap E) l0 l1 l2) := by
  refine q_enter (by decide) (Nat.le_of_ble_eq_true rfl) (fun Γ σ w h B hT => ?_)
  have C := B.1
  unfold F_X5_kindNamed at h
  refine q_iconst (pc := 0) (v := (0 : Int32)) C dX5_kindNamed_0 (by decide) ?_
  refine q_istore_n (pc := 1) (l' := [(3, q_I (0 : Int32)), (0, q_R l0), (1, q_R l1), (2, q_I l2)]) C dX5_kindNamed_1 rfl (by decide) rfl ?_
  refine q_W.sub [1, 2, 3, 0] rfl ?_
  exact S_X5_kindNamed_2 B hT q_fu l0 l1 l2 (0 : Int32) _ h
def F_J7_checkLength_df160 (κ : Nat → Nat) (l0 : Int32) (l1 : Int32) : q_X Unit :=
  q_br (l0 ≤ l1) (q_rt ()) (q_no)
theorem M_J7_checkLength_df160 (κ : Nat → Nat) (l0 : Int32) (l1 : Int32) : q_mo (F_J7_checkLength_df160 κ l0 l1) := (q_mo_br q_mo_rt q_mo_no)
theorem N_J7_checkLength_df160 (κ : Nat → Nat) (l0 : Int32) (l1 : Int32) : q_ni (F_J7_checkLength_df160 κ l0 l1) := (q_ni_br q_ni_rt q_ni_no)
set_option maxRecDepth 100000 in
set_option maxHeartbeats 4000000 in
theorem K_J7_checkLength_df160 {E : q_Ev} (l0 : Int32) (l1 : Int32) : q_Ct E yJ7_checkLength_df160 (.code yJ7_checkLength_df160 cJ7_checkLength_df160 2 (none)) 0 0 [q_I l0, q_I l1] q_oV (F_J7_checkLength_df160 (q_kap E) l0 l1) := by
  refine q_enter (by decide) (Nat.le_of_ble_eq_true rfl) (fun Γ σ w h B hT => ?_)
  have C := B.1
  unfold F_J7_checkLength_df160 at h
  refine q_iload_n (pc := 0) C 1 rfl dJ7_checkLength_df160_0 rfl ?_
  refine q_iload_n (pc := 1) C 0 rfl dJ7_checkLength_df160_1 rfl ?_
  refine q_icmp_ge (pc := 2) (tgt := 37) C dJ7_checkLength_df160_2 (by decide) h (fun _ h => ?_) (fun _ h => ?_)
  · exact q_vret C B.2.2.2.2.1 dJ7_checkLength_df160_37 h
  · cases h
def F_J9_min_7cf53_10 (κ : Nat → Nat) (s0 : Int32) : q_X Int32 :=
  q_rt s0
theorem M_J9_min_7cf53_10 (κ : Nat → Nat) (s0 : Int32) : q_mo (F_J9_min_7cf53_10 κ s0) := q_mo_rt
theorem N_J9_min_7cf53_10 (κ : Nat → Nat) (s0 : Int32) : q_ni (F_J9_min_7cf53_10 κ s0) := q_ni_rt
set_option maxRecDepth 100000 in
set_option maxHeartbeats 4000000 in
theorem S_J9_min_7cf53_10 {E : q_Ev} {Γ : q_Gm} {w : (Int32 ⊕ q_Exn) × q_St} (B : q_Bd E Γ cJ9_min_7cf53 yJ9_min_7cf53.cls 2 0 0 (some .int) yJ9_min_7cf53.name w) (hT : q_nT Γ) (s0 : Int32) (σ : q_St) (h : F_J9_min_7cf53_10 (q_kap E) s0 σ = some w) : q_W E Γ (q_QF E Γ q_oI w) 2 σ 10 [] [q_I s0] := by
  have C := B.1
  unfold F_J9_min_7cf53_10 at h
  exact q_iret C B.2.2.2.2.1 dJ9_min_7cf53_10 h
def F_J9_min_7cf53 (κ : Nat → Nat) (l0 : Int32) (l1 : Int32) : q_X Int32 :=
  q_br (l1 < l0) (F_J9_min_7cf53_10 κ l1) (F_J9_min_7cf53_10 κ l0)
theorem M_J9_min_7cf53 (κ : Nat → Nat) (l0 : Int32) (l1 : Int32) : q_mo (F_J9_min_7cf53 κ l0 l1) := (q_mo_br (M_J9_min_7cf53_10 κ l1) (M_J9_min_7cf53_10 κ l0))
theorem N_J9_min_7cf53 (κ : Nat → Nat) (l0 : Int32) (l1 : Int32) : q_ni (F_J9_min_7cf53 κ l0 l1) := (q_ni_br (N_J9_min_7cf53_10 κ l1) (N_J9_min_7cf53_10 κ l0))
set_option maxRecDepth 100000 in
set_option maxHeartbeats 4000000 in
theorem K_J9_min_7cf53 {E : q_Ev} (l0 : Int32) (l1 : Int32) : q_Ct E yJ9_min_7cf53 (.code yJ9_min_7cf53 cJ9_min_7cf53 2 (some .int)) 0 0 [q_I l0, q_I l1] q_oI (F_J9_min_7cf53 (q_kap E) l0 l1) := by
  refine q_enterF (by decide +kernel) (Nat.le_of_ble_eq_true rfl) (fun Γ σ w h B hT => ?_)
  have C := B.1
  unfold F_J9_min_7cf53 at h
  refine q_iload_n (pc := 0) C 0 rfl dJ9_min_7cf53_0 rfl ?_
  refine q_iload_n (pc := 1) C 1 rfl dJ9_min_7cf53_1 rfl ?_
  refine q_icmp_gt (pc := 2) (tgt := 9) C dJ9_min_7cf53_2 (by decide) h (fun _ h => ?_) (fun _ h => ?_)
  · refine q_iload_n (pc := 9) C 1 rfl dJ9_min_7cf53_9 rfl ?_
    refine q_W.sub [] rfl ?_
    exact S_J9_min_7cf53_10 B hT l1 _ h
  · refine q_iload_n (pc := 5) C 0 rfl dJ9_min_7cf53_5 rfl ?_
    refine q_goto (pc := 6) (tgt := 10) C dJ9_min_7cf53_6 (by decide) ?_
    refine q_W.sub [] rfl ?_
    exact S_J9_min_7cf53_10 B hT l0 _ h
def F_J7_copyOfRangeByte_39247 (κ : Nat → Nat) (l0 : Option Nat) (l1 : Int32) (l2 : Int32) : q_X (Option Nat) :=
  q_ca (F_J7_checkLength_df160 κ l1 l2) fun _v2 => q_gd (¬ (l2 - l1) < 0 ∧ (l2 - l1).toNatClampNeg ≤ 65536) (q_mk (q_nI 0 (l2 - l1)) (l2 - l1).toNatClampNeg fun a10 => q_rd (q_ln l0) fun v20 => q_ca (F_J9_min_7cf53 κ (v20 - l1) (l2 - l1)) fun v24 => q_wr (q_cB l0 l1 (some a10) (0 : Int32) v24) (q_rt (some a10)))
theorem M_J7_copyOfRangeByte_39247 (κ : Nat → Nat) (l0 : Option Nat) (l1 : Int32) (l2 : Int32) : q_mo (F_J7_copyOfRangeByte_39247 κ l0 l1 l2) := (q_mo_ca (M_J7_checkLength_df160 κ l1 l2) fun _v2 => (q_mo_gd (q_mo_mk fun a10 => (q_mo_rd fun v20 => (q_mo_ca (M_J9_min_7cf53 κ (v20 - l1) (l2 - l1)) fun v24 => (q_mo_wr q_mo_rt))))))
theorem N_J7_copyOfRangeByte_39247 (κ : Nat → Nat) (l0 : Option Nat) (l1 : Int32) (l2 : Int32) : q_ni (F_J7_copyOfRangeByte_39247 κ l0 l1 l2) := (q_ni_ca (N_J7_checkLength_df160 κ l1 l2) fun _v2 => (q_ni_gd (q_ni_mk fun a10 => (q_ni_rd fun v20 => (q_ni_ca (N_J9_min_7cf53 κ (v20 - l1) (l2 - l1)) fun v24 => (q_ni_wr q_ni_rt))))))
set_option maxRecDepth 100000 in
set_option maxHeartbeats 4000000 in
theorem K_J7_copyOfRangeByte_39247 {E : q_Ev} (l0 : Option Nat) (l1 : Int32) (l2 : Int32) : q_Ct E yJ7_copyOfRangeByte_39247 (.code yJ7_copyOfRangeByte_39247 cJ7_copyOfRangeByte_39247 5 (some (.array .byte))) 1 40 [q_R l0, q_I l1, q_I l2] q_oR (F_J7_copyOfRangeByte_39247 (q_kap E) l0 l1 l2) := by
  refine q_enter (by decide) (Nat.le_of_ble_eq_true rfl) (fun Γ σ w h B hT => ?_)
  have C := B.1
  unfold F_J7_copyOfRangeByte_39247 at h
  refine q_iload_n (pc := 0) C 1 rfl dJ7_copyOfRangeByte_39247_0 rfl ?_
  refine q_iload_n (pc := 1) C 2 rfl dJ7_copyOfRangeByte_39247_1 rfl ?_
  refine q_callS (pc := 2) (As := [q_I l1, q_I l2]) (st := []) (ps := q_psV) C B.2.1 hT q_hpV qm_J7_343 qs_J7_checkLength_df160 dJ7_copyOfRangeByte_39247_2 rfl rfl (Nat.le_of_ble_eq_true rfl) (q_flo B.2.2.1 B.2.2.2.1 (by decide) (by decide)) (K_J7_checkLength_df160 l1 l2) (M_J7_checkLength_df160 (q_kap E) l1 l2) (by exact fun _v2 => (q_mo_gd (q_mo_mk fun a10 => (q_mo_rd fun v20 => (q_mo_ca (M_J9_min_7cf53 (q_kap E) (v20 - l1) (l2 - l1)) fun v24 => (q_mo_wr q_mo_rt)))))) h (fun _v2 σ h => ?_)
  refine q_W.st (st' := []) rfl ?_
  refine q_iload_n (pc := 5) C 2 rfl dJ7_copyOfRangeByte_39247_5 rfl ?_
  refine q_iload_n (pc := 6) C 1 rfl dJ7_copyOfRangeByte_39247_6 rfl ?_
  refine q_isub (pc := 7) C dJ7_copyOfRangeByte_39247_7 ?_
  refine q_istore_n (pc := 8) (l' := [(3, q_I (l2 - l1)), (0, q_R l0), (1, q_I l1), (2, q_I l2)]) C dJ7_copyOfRangeByte_39247_8 rfl (by decide) rfl ?_
  refine q_iload_n (pc := 9) C 0 rfl dJ7_copyOfRangeByte_39247_9 rfl ?_
  refine q_newP (pc := 10) (t := 0) (A := ((l2 - l1).toNatClampNeg, .inl (fun _ => 0))) C dJ7_copyOfRangeByte_39247_10 qa_byte rfl (by decide) (fun _ h => h) rfl (fun _ => rfl) (by decide) (by exact fun a10 => (q_mo_rd fun v20 => (q_mo_ca (M_J9_min_7cf53 (q_kap E) (v20 - l1) (l2 - l1)) fun v24 => (q_mo_wr q_mo_rt)))) B.2.1 h (fun a10 σ h => ?_)
  refine q_astore (pc := 12) (l' := [(4, q_R (some a10)), (3, q_I (l2 - l1)), (0, q_R l0), (1, q_I l1), (2, q_I l2)]) C dJ7_copyOfRangeByte_39247_12 (by decide) rfl ?_
  refine q_aload_n (pc := 14) C 2 rfl dJ7_copyOfRangeByte_39247_14 rfl ?_
  refine q_iload_n (pc := 15) C 3 rfl dJ7_copyOfRangeByte_39247_15 rfl ?_
  refine q_aload (pc := 16) C 0 rfl dJ7_copyOfRangeByte_39247_16 ?_
  refine q_iconst (pc := 18) (v := (0 : Int32)) C dJ7_copyOfRangeByte_39247_18 (by decide) ?_
  refine q_aload_n (pc := 19) C 2 rfl dJ7_copyOfRangeByte_39247_19 rfl ?_
  refine q_aln (pc := 20) C dJ7_copyOfRangeByte_39247_20 h (fun v20 h => ?_)
  refine q_iload_n (pc := 21) C 3 rfl dJ7_copyOfRangeByte_39247_21 rfl ?_
  refine q_isub (pc := 22) C dJ7_copyOfRangeByte_39247_22 ?_
  refine q_iload_n (pc := 23) C 1 rfl dJ7_copyOfRangeByte_39247_23 rfl ?_
  refine q_callS (pc := 24) (As := [q_I (v20 - l1), q_I (l2 - l1)]) (st := [q_I (0 : Int32), q_R (some a10), q_I l1, q_R l0]) (ps := q_psI) C B.2.1 hT q_hpI qm_J7_304 qs_J9_min_7cf53 dJ7_copyOfRangeByte_39247_24 rfl rfl (Nat.le_of_ble_eq_true rfl) (q_flo B.2.2.1 B.2.2.2.1 (by decide) (by decide)) (K_J9_min_7cf53 (v20 - l1) (l2 - l1)) (M_J9_min_7cf53 (q_kap E) (v20 - l1) (l2 - l1)) (by exact fun v24 => (q_mo_wr q_mo_rt)) h (fun v24 σ h => ?_)
  refine q_W.st (st' := [q_I v24, q_I (0 : Int32), q_R (some a10), q_I l1, q_R l0]) rfl ?_
  refine q_cpB (pc := 27) C dJ7_copyOfRangeByte_39247_27 qy_J7_150 (q_flo B.2.2.1 B.2.2.2.1 (by decide) (by decide)) (Nat.le_of_ble_eq_true rfl) h (fun M27 h => ?_)
  refine q_aload (pc := 30) C 0 rfl dJ7_copyOfRangeByte_39247_30 ?_
  exact q_aret C B.2.2.2.2.1 (Or.inr ⟨_, rfl⟩) dJ7_copyOfRangeByte_39247_32 h
def F_J7_copyOfRange_39247_10 (κ : Nat → Nat) (l0 : Option Nat) (l1 : Int32) (l2 : Int32) : q_X (Option Nat) :=
  q_ca (F_J7_copyOfRangeByte_39247 κ l0 l1 l2) fun v13 => q_rt v13
theorem M_J7_copyOfRange_39247_10 (κ : Nat → Nat) (l0 : Option Nat) (l1 : Int32) (l2 : Int32) : q_mo (F_J7_copyOfRange_39247_10 κ l0 l1 l2) := (q_mo_ca (M_J7_copyOfRangeByte_39247 κ l0 l1 l2) fun v13 => q_mo_rt)
theorem N_J7_copyOfRange_39247_10 (κ : Nat → Nat) (l0 : Option Nat) (l1 : Int32) (l2 : Int32) : q_ni (F_J7_copyOfRange_39247_10 κ l0 l1 l2) := (q_ni_ca (N_J7_copyOfRangeByte_39247 κ l0 l1 l2) fun v13 => q_ni_rt)
set_option maxRecDepth 100000 in
set_option maxHeartbeats 4000000 in
theorem S_J7_copyOfRange_39247_10 {E : q_Ev} {Γ : q_Gm} {w : (Option Nat ⊕ q_Exn) × q_St} (B : q_Bd E Γ cJ7_copyOfRange_39247 yJ7_copyOfRange_39247.cls 3 2 64 (some (.array .byte)) yJ7_copyOfRange_39247.name w) (hT : q_nT Γ) (l0 : Option Nat) (l1 : Int32) (l2 : Int32) (σ : q_St) (h : F_J7_copyOfRange_39247_10 (q_kap E) l0 l1 l2 σ = some w) : q_W E Γ (q_QF E Γ q_oR w) 3 σ 10 [(0, q_R l0), (1, q_I l1), (2, q_I l2)] [] := by
  have C := B.1
  unfold F_J7_copyOfRange_39247_10 at h
  refine q_aload_n (pc := 10) C 0 rfl dJ7_copyOfRange_39247_10 rfl ?_
  refine q_iload_n (pc := 11) C 1 rfl dJ7_copyOfRange_39247_11 rfl ?_
  refine q_iload_n (pc := 12) C 2 rfl dJ7_copyOfRange_39247_12 rfl ?_
  refine q_callS (pc := 13) (As := [q_R l0, q_I l1, q_I l2]) (st := []) (ps := q_psR) C B.2.1 hT q_hpR qm_J7_339 qs_J7_copyOfRangeByte_39247 dJ7_copyOfRange_39247_13 rfl rfl (Nat.le_of_ble_eq_true rfl) (q_flo B.2.2.1 B.2.2.2.1 (by decide) (by decide)) (K_J7_copyOfRangeByte_39247 l0 l1 l2) (M_J7_copyOfRangeByte_39247 (q_kap E) l0 l1 l2) (by exact fun v13 => q_mo_rt) h (fun v13 σ h => ?_)
  refine q_W.st (st' := [q_R v13]) rfl ?_
  exact q_aret C B.2.2.2.2.1 (Or.inr ⟨_, rfl⟩) dJ7_copyOfRange_39247_16 h
def F_J7_copyOfRange_39247 (κ : Nat → Nat) (l0 : Option Nat) (l1 : Int32) (l2 : Int32) : q_X (Option Nat) :=
  q_br (¬ l1 = 0) (F_J7_copyOfRange_39247_10 κ l0 l1 l2) (q_rd (q_ln l0) fun v6 => q_br (l2 = v6) (q_no) (F_J7_copyOfRange_39247_10 κ l0 l1 l2))
theorem M_J7_copyOfRange_39247 (κ : Nat → Nat) (l0 : Option Nat) (l1 : Int32) (l2 : Int32) : q_mo (F_J7_copyOfRange_39247 κ l0 l1 l2) := (q_mo_br (M_J7_copyOfRange_39247_10 κ l0 l1 l2) (q_mo_rd fun v6 => (q_mo_br q_mo_no (M_J7_copyOfRange_39247_10 κ l0 l1 l2))))
theorem N_J7_copyOfRange_39247 (κ : Nat → Nat) (l0 : Option Nat) (l1 : Int32) (l2 : Int32) : q_ni (F_J7_copyOfRange_39247 κ l0 l1 l2) := (q_ni_br (N_J7_copyOfRange_39247_10 κ l0 l1 l2) (q_ni_rd fun v6 => (q_ni_br q_ni_no (N_J7_copyOfRange_39247_10 κ l0 l1 l2))))
set_option maxRecDepth 100000 in
set_option maxHeartbeats 4000000 in
theorem K_J7_copyOfRange_39247 {E : q_Ev} (l0 : Option Nat) (l1 : Int32) (l2 : Int32) : q_Ct E yJ7_copyOfRange_39247 (.code yJ7_copyOfRange_39247 cJ7_copyOfRange_39247 3 (some (.array .byte))) 2 64 [q_R l0, q_I l1, q_I l2] q_oR (F_J7_copyOfRange_39247 (q_kap E) l0 l1 l2) := by
  refine q_enter (by decide) (Nat.le_of_ble_eq_true rfl) (fun Γ σ w h B hT => ?_)
  have C := B.1
  unfold F_J7_copyOfRange_39247 at h
  refine q_iload_n (pc := 0) C 1 rfl dJ7_copyOfRange_39247_0 rfl ?_
  refine q_if_ne (pc := 1) (tgt := 10) C dJ7_copyOfRange_39247_1 (by decide) h (fun _ h => ?_) (fun _ h => ?_)
  · exact S_J7_copyOfRange_39247_10 B hT l0 l1 l2 _ h
  · refine q_iload_n (pc := 4) C 2 rfl dJ7_copyOfRange_39247_4 rfl ?_
    refine q_aload_n (pc := 5) C 0 rfl dJ7_copyOfRange_39247_5 rfl ?_
    refine q_aln (pc := 6) C dJ7_copyOfRange_39247_6 h (fun v6 h => ?_)
    refine q_icmp_eq (pc := 7) (tgt := 17) C dJ7_copyOfRange_39247_7 (by decide) h (fun _ h => ?_) (fun _ h => ?_)
    · refine q_aload_n (pc := 17) C 0 rfl dJ7_copyOfRange_39247_17 rfl ?_
      cases h
    · exact S_J7_copyOfRange_39247_10 B hT l0 l1 l2 _ h
def F_X7_init (κ : Nat → Nat) (l0 : Option Nat) (l1 : Option Nat) (l2 : Int32) : q_X Unit :=
  q_gd (¬ l0 = none) (q_rd (q_gA l1 13 0) fun v6 => q_rd (q_gA l1 13 2) fun v10 => q_rd (q_lI 1 v10 l2) fun v14 => q_rd (q_gA l1 13 3) fun v16 => q_rd (q_lI 1 v16 l2) fun v20 => q_ca (F_J7_copyOfRange_39247 κ v6 v14 v20) fun v21 => q_wr (q_pF l0 10 0 (va_rf v21)) (q_rt ()))
theorem M_X7_init (κ : Nat → Nat) (l0 : Option Nat) (l1 : Option Nat) (l2 : Int32) : q_mo (F_X7_init κ l0 l1 l2) := (q_mo_gd (q_mo_rd fun v6 => (q_mo_rd fun v10 => (q_mo_rd fun v14 => (q_mo_rd fun v16 => (q_mo_rd fun v20 => (q_mo_ca (M_J7_copyOfRange_39247 κ v6 v14 v20) fun v21 => (q_mo_wr q_mo_rt))))))))
theorem N_X7_init (κ : Nat → Nat) (l0 : Option Nat) (l1 : Option Nat) (l2 : Int32) : q_ni (F_X7_init κ l0 l1 l2) := (q_ni_gd (q_ni_rd fun v6 => (q_ni_rd fun v10 => (q_ni_rd fun v14 => (q_ni_rd fun v16 => (q_ni_rd fun v20 => (q_ni_ca (N_J7_copyOfRange_39247 κ v6 v14 v20) fun v21 => (q_ni_wr q_ni_rt))))))))
set_option maxRecDepth 100000 in
set_option maxHeartbeats 4000000 in
theorem K_X7_init {E : q_Ev} (l0 : Option Nat) (l1 : Option Nat) (l2 : Int32) : q_Ct E yX7_init (.code yX7_init cX7_init 3 (none)) 3 86 [q_R l0, q_R l1, q_I l2] q_oV (F_X7_init (q_kap E) l0 l1 l2) := by
  refine q_enter (by decide) (Nat.le_of_ble_eq_true rfl) (fun Γ σ w h B hT => ?_)
  have C := B.1
  unfold F_X7_init at h
  refine q_aload_n (pc := 0) C 0 rfl dX7_init_0 rfl ?_
  refine q_objI (pc := 1) C dX7_init_1 qo_X7_3 (q_flo B.2.2.1 B.2.2.2.1 (by decide) (by decide)) (Nat.le_of_ble_eq_true rfl) h (fun h => ?_)
  refine q_aload_n (pc := 4) C 0 rfl dX7_init_4 rfl ?_
  refine q_aload_n (pc := 5) C 1 rfl dX7_init_5 rfl ?_
  refine q_getA (pc := 6) C dX7_init_6 ql_X7_9 h (fun v6 h => ?_)
  refine q_aload_n (pc := 9) C 1 rfl dX7_init_9 rfl ?_
  refine q_getA (pc := 10) C dX7_init_10 ql_X7_15 h (fun v10 h => ?_)
  refine q_iload_n (pc := 13) C 2 rfl dX7_init_13 rfl ?_
  refine q_ldI (pc := 14) C dX7_init_14 (Or.inr (Or.inl ⟨rfl, rfl⟩)) h (fun v14 h => ?_)
  refine q_aload_n (pc := 15) C 1 rfl dX7_init_15 rfl ?_
  refine q_getA (pc := 16) C dX7_init_16 ql_X7_19 h (fun v16 h => ?_)
  refine q_iload_n (pc := 19) C 2 rfl dX7_init_19 rfl ?_
  refine q_ldI (pc := 20) C dX7_init_20 (Or.inr (Or.inl ⟨rfl, rfl⟩)) h (fun v20 h => ?_)
  refine q_callS (pc := 21) (As := [q_R v6, q_I v14, q_I v20]) (st := [q_R l0]) (ps := q_psR) C B.2.1 hT q_hpR qm_X7_22 qs_J7_copyOfRange_39247 dX7_init_21 rfl rfl (Nat.le_of_ble_eq_true rfl) (q_flo B.2.2.1 B.2.2.2.1 (by decide) (by decide)) (K_J7_copyOfRange_39247 v6 v14 v20) (M_J7_copyOfRange_39247 (q_kap E) v6 v14 v20) (by exact fun v21 => (q_mo_wr q_mo_rt)) h (fun v21 σ h => ?_)
  refine q_W.st (st' := [q_R v21, q_R l0]) rfl ?_
  refine q_putV (pc := 24) (v := q_R v21) C dX7_init_24 ql_X7_28 (Or.inr ⟨B.2.2.2.2.2, RX7, TX7, 1, rfl, rfl⟩) q_nfA q_nfA' h (fun M24 h => ?_)
  exact q_vret C B.2.2.2.2.1 dX7_init_27 h
def F_X2_init_31 (κ : Nat → Nat) (s0 : Option Nat) (s1 : Int32) : q_X Unit :=
  q_gd (¬ s1 < 0 ∧ s1.toNatClampNeg ≤ 65536) (q_mk (q_nA 6 s1) s1.toNatClampNeg fun a31 => q_wr (q_pF s0 5 3 (va_rf (some a31))) (q_rt ()))
theorem M_X2_init_31 (κ : Nat → Nat) (s0 : Option Nat) (s1 : Int32) : q_mo (F_X2_init_31 κ s0 s1) := (q_mo_gd (q_mo_mk fun a31 => (q_mo_wr q_mo_rt)))
theorem N_X2_init_31 (κ : Nat → Nat) (s0 : Option Nat) (s1 : Int32) : q_ni (F_X2_init_31 κ s0 s1) := (q_ni_gd (q_ni_mk fun a31 => (q_ni_wr q_ni_rt)))
set_option maxRecDepth 100000 in
set_option maxHeartbeats 4000000 in
theorem S_X2_init_31 {E : q_Ev} {Γ : q_Gm} {w : (Unit ⊕ q_Exn) × q_St} (B : q_Bd E Γ cX2_init yX2_init.cls 3 1 20 (none) yX2_init.name w) (hT : q_nT Γ) (s0 : Option Nat) (s1 : Int32) (σ : q_St) (h : F_X2_init_31 (q_kap E) s0 s1 σ = some w) : q_W E Γ (q_QF E Γ q_oV w) 3 σ 31 [] [q_I s1, q_R s0] := by
  have C := B.1
  unfold F_X2_init_31 at h
  refine q_newA (pc := 31) (t := 6) C dX2_init_31 qb_X2_22 (by decide +kernel) rfl (by decide) (by exact fun a31 => (q_mo_wr q_mo_rt)) B.2.1 h (fun a31 σ h => ?_)
  refine q_putV (pc := 34) (v := q_R (some a31)) C dX2_init_34 ql_X2_24 (Or.inr ⟨B.2.2.2.2.2, RX2, TX2, 6, rfl, rfl⟩) q_nfA q_nfA' h (fun M34 h => ?_)
  exact q_vret C B.2.2.2.2.1 dX2_init_37 h
def F_X2_init (κ : Nat → Nat) (l0 : Option Nat) (l1 : Int32) (l2 : Option Nat) : q_X Unit :=
  q_gd (¬ l0 = none) (q_wr (q_pF l0 5 0 (.int l1)) (q_wr (q_pF l0 5 1 (va_rf l2)) (q_wr (q_pF l0 5 2 (va_rf l2)) (q_br (¬ l1 = (4 : Int32)) (F_X2_init_31 κ l0 (0 : Int32)) (F_X2_init_31 κ l0 (32 : Int32))))))
theorem M_X2_init (κ : Nat → Nat) (l0 : Option Nat) (l1 : Int32) (l2 : Option Nat) : q_mo (F_X2_init κ l0 l1 l2) := (q_mo_gd (q_mo_wr (q_mo_wr (q_mo_wr (q_mo_br (M_X2_init_31 κ l0 (0 : Int32)) (M_X2_init_31 κ l0 (32 : Int32)))))))
theorem N_X2_init (κ : Nat → Nat) (l0 : Option Nat) (l1 : Int32) (l2 : Option Nat) : q_ni (F_X2_init κ l0 l1 l2) := (q_ni_gd (q_ni_wr (q_ni_wr (q_ni_wr (q_ni_br (N_X2_init_31 κ l0 (0 : Int32)) (N_X2_init_31 κ l0 (32 : Int32)))))))
set_option maxRecDepth 100000 in
set_option maxHeartbeats 4000000 in
theorem K_X2_init {E : q_Ev} (l0 : Option Nat) (l1 : Int32) (l2 : Option Nat) : q_Ct E yX2_init (.code yX2_init cX2_init 3 (none)) 1 20 [q_R l0, q_I l1, q_R l2] q_oV (F_X2_init (q_kap E) l0 l1 l2) := by
  refine q_enter (by decide) (Nat.le_of_ble_eq_true rfl) (fun Γ σ w h B hT => ?_)
  have C := B.1
  unfold F_X2_init at h
  refine q_aload_n (pc := 0) C 0 rfl dX2_init_0 rfl ?_
  refine q_objI (pc := 1) C dX2_init_1 qo_X2_3 (q_flo B.2.2.1 B.2.2.2.1 (by decide) (by decide)) (Nat.le_of_ble_eq_true rfl) h (fun h => ?_)
  refine q_aload_n (pc := 4) C 0 rfl dX2_init_4 rfl ?_
  refine q_iload_n (pc := 5) C 1 rfl dX2_init_5 rfl ?_
  refine q_putV (pc := 6) (v := q_I l1) C dX2_init_6 ql_X2_9 (Or.inr ⟨B.2.2.2.2.2, RX2, TX2, 6, rfl, rfl⟩) rfl rfl h (fun M6 h => ?_)
  refine q_aload_n (pc := 9) C 0 rfl dX2_init_9 rfl ?_
  refine q_aload_n (pc := 10) C 2 rfl dX2_init_10 rfl ?_
  refine q_putV (pc := 11) (v := q_R l2) C dX2_init_11 ql_X2_15 (Or.inr ⟨B.2.2.2.2.2, RX2, TX2, 6, rfl, rfl⟩) q_nfO q_nfO' h (fun M11 h => ?_)
  refine q_aload_n (pc := 14) C 0 rfl dX2_init_14 rfl ?_
  refine q_aload_n (pc := 15) C 2 rfl dX2_init_15 rfl ?_
  refine q_putV (pc := 16) (v := q_R l2) C dX2_init_16 ql_X2_19 (Or.inl rfl) q_nfO q_nfO' h (fun M16 h => ?_)
  refine q_aload_n (pc := 19) C 0 rfl dX2_init_19 rfl ?_
  refine q_iload_n (pc := 20) C 1 rfl dX2_init_20 rfl ?_
  refine q_iconst (pc := 21) (v := (4 : Int32)) C dX2_init_21 (by decide) ?_
  refine q_icmp_ne (pc := 22) (tgt := 30) C dX2_init_22 (by decide) h (fun _ h => ?_) (fun _ h => ?_)
  · refine q_iconst (pc := 30) (v := (0 : Int32)) C dX2_init_30 (by decide) ?_
    refine q_W.sub [] rfl ?_
    exact S_X2_init_31 B hT l0 (0 : Int32) _ h
  · refine q_bipush (pc := 25) (v := (32 : Int32)) C dX2_init_25 (by decide) ?_
    refine q_goto (pc := 27) (tgt := 31) C dX2_init_27 (by decide) ?_
    refine q_W.sub [] rfl ?_
    exact S_X2_init_31 B hT l0 (32 : Int32) _ h
def F_X9_fail (κ : Nat → Nat) (l0 : Option Nat) (l1 : Int32) : q_X Int32 :=
  q_wr (q_pF l0 12 2 (.int l1)) (q_rd (q_gI l0 12 1) fun v7 => q_wr (q_pF l0 12 3 (.int v7)) (q_rz (0 : Int32)))
theorem M_X9_fail (κ : Nat → Nat) (l0 : Option Nat) (l1 : Int32) : q_mo (F_X9_fail κ l0 l1) := (q_mo_wr (q_mo_rd fun v7 => (q_mo_wr q_mo_rz)))
set_option maxRecDepth 100000 in
set_option maxHeartbeats 4000000 in
theorem K_X9_fail {E : q_Ev} (l0 : Option Nat) (l1 : Int32) : q_Ct E yX9_fail (.code yX9_fail cX9_fail 2 (some .boolean)) 0 0 [q_R l0, q_I l1] q_oI (F_X9_fail (q_kap E) l0 l1) := by
  refine q_enter (by decide) (Nat.le_of_ble_eq_true rfl) (fun Γ σ w h B hT => ?_)
  have C := B.1
  unfold F_X9_fail at h
  refine q_aload_n (pc := 0) C 0 rfl dX9_fail_0 rfl ?_
  refine q_iload_n (pc := 1) C 1 rfl dX9_fail_1 rfl ?_
  refine q_putV (pc := 2) (v := q_I l1) C dX9_fail_2 ql_X9_9 (Or.inl rfl) rfl rfl h (fun M2 h => ?_)
  refine q_aload_n (pc := 5) C 0 rfl dX9_fail_5 rfl ?_
  refine q_aload_n (pc := 6) C 0 rfl dX9_fail_6 rfl ?_
  refine q_getI (pc := 7) C dX9_fail_7 ql_X9_28 h (fun v7 h => ?_)
  refine q_putV (pc := 10) (v := q_I v7) C dX9_fail_10 ql_X9_15 (Or.inl rfl) rfl rfl h (fun M10 h => ?_)
  refine q_iconst (pc := 13) (v := (0 : Int32)) C dX9_fail_13 (by decide) ?_
  exact q_zret C B.2.2.2.2.1 dX9_fail_14 h
def F_X9_takeNumber_54 (κ : Nat → Nat) (l0 : Option Nat) : q_X Int64 :=
  q_rd (q_is l0 12) fun _ => q_ca (F_X9_fail κ l0 (3 : Int32)) fun v56 => q_rt (-1 : Int64)
theorem M_X9_takeNumber_54 (κ : Nat → Nat) (l0 : Option Nat) : q_mo (F_X9_takeNumber_54 κ l0) := (q_mo_rd fun _ => q_mo_ca (M_X9_fail κ l0 (3 : Int32)) fun v56 => q_mo_rt)
set_option maxRecDepth 100000 in
set_option maxHeartbeats 4000000 in
theorem S_X9_takeNumber_54 {E : q_Ev} {Γ : q_Gm} {w : (Int64 ⊕ q_Exn) × q_St} (B : q_Bd E Γ cX9_takeNumber yX9_takeNumber.cls 7 1 21 (some .long) yX9_takeNumber.name w) (hT : q_nT Γ) (l0 : Option Nat) (σ : q_St) (h : F_X9_takeNumber_54 (q_kap E) l0 σ = some w) : q_W E Γ (q_QF E Γ q_oL w) 7 σ 54 [(0, q_R l0)] [] := by
  have C := B.1
  unfold F_X9_takeNumber_54 at h
  refine q_aload_n (pc := 54) C 0 rfl dX9_takeNumber_54 rfl ?_
  refine q_iconst (pc := 55) (v := (3 : Int32)) C dX9_takeNumber_55 (by decide) ?_
  refine q_callV (pc := 56) (As := [q_I (3 : Int32)]) (st := []) (ps := q_psI) C B.2.1 hT q_hpI qm_X9_50 qv_X9_fail dX9_takeNumber_56 rfl rfl (Nat.le_of_ble_eq_true rfl) (q_flo B.2.2.1 B.2.2.2.1 (by decide) (by decide)) (K_X9_fail l0 (3 : Int32)) (M_X9_fail (q_kap E) l0 (3 : Int32)) (by exact fun v56 => q_mo_rt) h (fun v56 σ h => ?_)
  refine q_W.st (st' := [q_I v56]) rfl ?_
  refine q_pop (pc := 59) C dX9_takeNumber_59 rfl ?_
  refine q_ldc2 (pc := 60) (v := (-1 : Int64)) C dX9_takeNumber_60 qc_X9_54 ?_
  exact q_lret C B.2.2.2.2.1 dX9_takeNumber_63 h
def F_X9_takeNumber (κ : Nat → Nat) (l0 : Option Nat) (l1 : Int64) (l3 : Int64) : q_X Int64 :=
  q_rd (q_gA l0 12 0) fun v1 => q_rd (q_gA v1 13 1) fun v4 => q_rd (q_gI l0 12 1) fun v8 => q_rd (q_lI 0 v4 v8) fun v11 => q_br (v11 = (2 : Int32)) (q_rd (q_gA l0 12 0) fun v27 => q_rd (q_gA v27 13 4) fun v30 => q_rd (q_gI l0 12 1) fun v34 => q_rd (q_lL v30 v34) fun v37 => q_br ((lg_cmp v37 l1) < 0) (F_X9_takeNumber_54 κ l0) (q_br ((lg_cmp v37 l3) ≤ 0) (q_rd (q_gI l0 12 1) fun v66 => q_wr (q_pF l0 12 1 (.int (v66 + (1 : Int32)))) (q_rt v37)) (F_X9_takeNumber_54 κ l0))) (q_rd (q_is l0 12) fun _ => q_ca (F_X9_fail κ l0 (1 : Int32)) fun v18 => q_rt (-1 : Int64))
theorem M_X9_takeNumber (κ : Nat → Nat) (l0 : Option Nat) (l1 : Int64) (l3 : Int64) : q_mo (F_X9_takeNumber κ l0 l1 l3) := (q_mo_rd fun v1 => (q_mo_rd fun v4 => (q_mo_rd fun v8 => (q_mo_rd fun v11 => (q_mo_br (q_mo_rd fun v27 => (q_mo_rd fun v30 => (q_mo_rd fun v34 => (q_mo_rd fun v37 => (q_mo_br (M_X9_takeNumber_54 κ l0) (q_mo_br (q_mo_rd fun v66 => (q_mo_wr q_mo_rt)) (M_X9_takeNumber_54 κ l0))))))) (q_mo_rd fun _ => q_mo_ca (M_X9_fail κ l0 (1 : Int32)) fun v18 => q_mo_rt))))))
set_option maxRecDepth 100000 in
set_option maxHeartbeats 4000000 in
theorem K_X9_takeNumber {E : q_Ev} (l0 : Option Nat) (l1 : Int64) (l3 : Int64) : q_Ct E yX9_takeNumber (.code yX9_takeNumber cX9_takeNumber 7 (some .long)) 1 21 [q_R l0, q_L l1, q_L l3] q_oL (F_X9_takeNumber (q_kap E) l0 l1 l3) := by
  refine q_enter (by decide) (Nat.le_of_ble_eq_true rfl) (fun Γ σ w h B hT => ?_)
  have C := B.1
  unfold F_X9_takeNumber at h
  refine q_aload_n (pc := 0) C 0 rfl dX9_takeNumber_0 rfl ?_
  refine q_getA (pc := 1) C dX9_takeNumber_1 ql_X9_18 h (fun v1 h => ?_)
  refine q_getA (pc := 4) C dX9_takeNumber_4 ql_X9_38 h (fun v4 h => ?_)
  refine q_aload_n (pc := 7) C 0 rfl dX9_takeNumber_7 rfl ?_
  refine q_getI (pc := 8) C dX9_takeNumber_8 ql_X9_28 h (fun v8 h => ?_)
  refine q_ldI (pc := 11) C dX9_takeNumber_11 (Or.inl ⟨rfl, rfl⟩) h (fun v11 h => ?_)
  refine q_iconst (pc := 12) (v := (2 : Int32)) C dX9_takeNumber_12 (by decide) ?_
  refine q_icmp_eq (pc := 13) (tgt := 26) C dX9_takeNumber_13 (by decide) h (fun _ h => ?_) (fun _ h => ?_)
  · refine q_aload_n (pc := 26) C 0 rfl dX9_takeNumber_26 rfl ?_
    refine q_getA (pc := 27) C dX9_takeNumber_27 ql_X9_18 h (fun v27 h => ?_)
    refine q_getA (pc := 30) C dX9_takeNumber_30 ql_X9_42 h (fun v30 h => ?_)
    refine q_aload_n (pc := 33) C 0 rfl dX9_takeNumber_33 rfl ?_
    refine q_getI (pc := 34) C dX9_takeNumber_34 ql_X9_28 h (fun v34 h => ?_)
    refine q_ldL (pc := 37) C dX9_takeNumber_37 h (fun v37 h => ?_)
    refine q_lstore (pc := 38) (l' := [(5, q_L v37), (0, q_R l0), (1, q_L l1), (3, q_L l3)]) C dX9_takeNumber_38 (by decide) rfl ?_
    refine q_lload (pc := 40) C 0 rfl dX9_takeNumber_40 ?_
    refine q_lload_n (pc := 42) C 2 rfl dX9_takeNumber_42 rfl ?_
    refine q_lcmp (pc := 43) C dX9_takeNumber_43 ?_
    refine q_if_lt (pc := 44) (tgt := 54) C dX9_takeNumber_44 (by decide) h (fun _ h => ?_) (fun _ h => ?_)
    · refine q_W.sub [1] rfl ?_
      exact S_X9_takeNumber_54 B hT l0 _ h
    · refine q_lload (pc := 47) C 0 rfl dX9_takeNumber_47 ?_
      refine q_lload_n (pc := 49) C 3 rfl dX9_takeNumber_49 rfl ?_
      refine q_lcmp (pc := 50) C dX9_takeNumber_50 ?_
      refine q_if_le (pc := 51) (tgt := 64) C dX9_takeNumber_51 (by decide) h (fun _ h => ?_) (fun _ h => ?_)
      · refine q_aload_n (pc := 64) C 1 rfl dX9_takeNumber_64 rfl ?_
        refine q_dup (pc := 65) C dX9_takeNumber_65 rfl ?_
        refine q_getI (pc := 66) C dX9_takeNumber_66 ql_X9_28 h (fun v66 h => ?_)
        refine q_iconst (pc := 69) (v := (1 : Int32)) C dX9_takeNumber_69 (by decide) ?_
        refine q_iadd (pc := 70) C dX9_takeNumber_70 ?_
        refine q_putV (pc := 71) (v := q_I (v66 + (1 : Int32))) C dX9_takeNumber_71 ql_X9_28 (Or.inl rfl) rfl rfl h (fun M71 h => ?_)
        refine q_lload (pc := 74) C 0 rfl dX9_takeNumber_74 ?_
        exact q_lret C B.2.2.2.2.1 dX9_takeNumber_76 h
      · refine q_W.sub [1] rfl ?_
        exact S_X9_takeNumber_54 B hT l0 _ h
  · refine q_aload_n (pc := 16) C 0 rfl dX9_takeNumber_16 rfl ?_
    refine q_iconst (pc := 17) (v := (1 : Int32)) C dX9_takeNumber_17 (by decide) ?_
    refine q_callV (pc := 18) (As := [q_I (1 : Int32)]) (st := []) (ps := q_psI) C B.2.1 hT q_hpI qm_X9_50 qv_X9_fail dX9_takeNumber_18 rfl rfl (Nat.le_of_ble_eq_true rfl) (q_flo B.2.2.1 B.2.2.2.1 (by decide) (by decide)) (K_X9_fail l0 (1 : Int32)) (M_X9_fail (q_kap E) l0 (1 : Int32)) (by exact fun v18 => q_mo_rt) h (fun v18 σ h => ?_)
    refine q_W.st (st' := [q_I v18]) rfl ?_
    refine q_pop (pc := 21) C dX9_takeNumber_21 rfl ?_
    refine q_ldc2 (pc := 22) (v := (-1 : Int64)) C dX9_takeNumber_22 qc_X9_54 ?_
    exact q_lret C B.2.2.2.2.1 dX9_takeNumber_25 h
def F_X2_widen_42 (κ : Nat → Nat) : q_X Unit :=
  q_rt ()
theorem M_X2_widen_42 (κ : Nat → Nat) : q_mo (F_X2_widen_42 κ) := q_mo_rt
theorem N_X2_widen_42 (κ : Nat → Nat) : q_ni (F_X2_widen_42 κ) := q_ni_rt
set_option maxRecDepth 100000 in
set_option maxHeartbeats 4000000 in
theorem S_X2_widen_42 {E : q_Ev} {Γ : q_Gm} {w : (Unit ⊕ q_Exn) × q_St} (B : q_Bd E Γ cX2_widen yX2_widen.cls 1 0 0 (none) yX2_widen.name w) (hT : q_nT Γ) (σ : q_St) (h : F_X2_widen_42 (q_kap E) σ = some w) : q_W E Γ (q_QF E Γ q_oV w) 1 σ 42 [] [] := by
  have C := B.1
  unfold F_X2_widen_42 at h
  exact q_vret C B.2.2.2.2.1 dX2_widen_42 h
def F_X2_widen_5B (κ : Nat → Nat) (r5 : Option Nat → q_X Unit) (l0 : Option Nat) : q_X Unit :=
  q_rd (q_gI l0 5 5) fun v6 => q_br ((32 : Int32) ≤ v6) (F_X2_widen_42 κ) (q_rd (q_gI l0 5 5) fun v16 => q_rd (q_gI l0 5 4) fun v21 => q_br (0 ≤ (lg_cmp ((1 : Int64) <<< (v16.toInt64 &&& 63)) v21.toInt64)) (F_X2_widen_42 κ) (q_rd (q_gI l0 5 5) fun v31 => q_wr (q_pF l0 5 5 (.int (v31 + (1 : Int32)))) (r5 l0)))
theorem M_X2_widen_5B (κ : Nat → Nat) (r5 : Option Nat → q_X Unit) (mr5 : ∀ (l0 : Option Nat), q_mo (r5 l0)) (l0 : Option Nat) : q_mo (F_X2_widen_5B κ r5 l0) := (q_mo_rd fun v6 => (q_mo_br (M_X2_widen_42 κ) (q_mo_rd fun v16 => (q_mo_rd fun v21 => (q_mo_br (M_X2_widen_42 κ) (q_mo_rd fun v31 => (q_mo_wr (mr5 l0))))))))
set_option maxRecDepth 100000 in
set_option maxHeartbeats 4000000 in
theorem S_X2_widen_5B {E : q_Ev} {Γ : q_Gm} {w : (Unit ⊕ q_Exn) × q_St} (B : q_Bd E Γ cX2_widen yX2_widen.cls 1 0 0 (none) yX2_widen.name w) (hT : q_nT Γ) (r5 : Option Nat → q_X Unit) (hr5 : ∀ (l0 : Option Nat) (σ : q_St), r5 l0 σ = some w → q_W E Γ (q_QF E Γ q_oV w) 1 σ 5 [(0, q_R l0)] []) (mr5 : ∀ (l0 : Option Nat), q_mo (r5 l0)) (l0 : Option Nat) (σ : q_St) (h : F_X2_widen_5B (q_kap E) r5 l0 σ = some w) : q_W E Γ (q_QF E Γ q_oV w) 1 σ 5 [(0, q_R l0)] [] := by
  have C := B.1
  unfold F_X2_widen_5B at h
  refine q_aload_n (pc := 5) C 0 rfl dX2_widen_5 rfl ?_
  refine q_getI (pc := 6) C dX2_widen_6 ql_X2_28 h (fun v6 h => ?_)
  refine q_bipush (pc := 9) (v := (32 : Int32)) C dX2_widen_9 (by decide) ?_
  refine q_icmp_ge (pc := 11) (tgt := 42) C dX2_widen_11 (by decide) h (fun _ h => ?_) (fun _ h => ?_)
  · refine q_W.sub [] rfl ?_
    exact S_X2_widen_42 B hT _ h
  · refine q_lconst (pc := 14) (v := (1 : Int64)) C dX2_widen_14 (by decide) ?_
    refine q_aload_n (pc := 15) C 0 rfl dX2_widen_15 rfl ?_
    refine q_getI (pc := 16) C dX2_widen_16 ql_X2_28 h (fun v16 h => ?_)
    refine q_lshl (pc := 19) C dX2_widen_19 ?_
    refine q_aload_n (pc := 20) C 0 rfl dX2_widen_20 rfl ?_
    refine q_getI (pc := 21) C dX2_widen_21 ql_X2_31 h (fun v21 h => ?_)
    refine q_i2l (pc := 24) C dX2_widen_24 ?_
    refine q_lcmp (pc := 25) C dX2_widen_25 ?_
    refine q_if_ge (pc := 26) (tgt := 42) C dX2_widen_26 (by decide) h (fun _ h => ?_) (fun _ h => ?_)
    · refine q_W.sub [] rfl ?_
      exact S_X2_widen_42 B hT _ h
    · refine q_aload_n (pc := 29) C 0 rfl dX2_widen_29 rfl ?_
      refine q_dup (pc := 30) C dX2_widen_30 rfl ?_
      refine q_getI (pc := 31) C dX2_widen_31 ql_X2_28 h (fun v31 h => ?_)
      refine q_iconst (pc := 34) (v := (1 : Int32)) C dX2_widen_34 (by decide) ?_
      refine q_iadd (pc := 35) C dX2_widen_35 ?_
      refine q_putV (pc := 36) (v := q_I (v31 + (1 : Int32))) C dX2_widen_36 ql_X2_28 (Or.inl rfl) rfl rfl h (fun M36 h => ?_)
      refine q_goto (pc := 39) (tgt := 5) C dX2_widen_39 (by decide) ?_
      exact hr5 l0 _ h
def F_X2_widen_5 (κ : Nat → Nat) : Nat → Option Nat → q_X Unit
  | 0, _ => q_no
  | n + 1, l0 => F_X2_widen_5B κ (F_X2_widen_5 κ n) l0
theorem M_X2_widen_5 (κ : Nat → Nat) : ∀ (n : Nat) (l0 : Option Nat), q_mo (F_X2_widen_5 κ n l0)
  | 0, _ => q_mo_no
  | n + 1, l0 => M_X2_widen_5B κ (F_X2_widen_5 κ n) (M_X2_widen_5 κ n) l0
theorem S_X2_widen_5 {E : q_Ev} {Γ : q_Gm} {w : (Unit ⊕ q_Exn) × q_St} (B : q_Bd E Γ cX2_widen yX2_widen.cls 1 0 0 (none) yX2_widen.name w) (hT : q_nT Γ) : ∀ (n : Nat) (l0 : Option Nat) (σ : q_St), F_X2_widen_5 (q_kap E) n l0 σ = some w → q_W E Γ (q_QF E Γ q_oV w) 1 σ 5 [(0, q_R l0)] []
  | 0, _, _, h => by cases h
  | n + 1, l0, σ, h => S_X2_widen_5B B hT (F_X2_widen_5 (q_kap E) n) (S_X2_widen_5 B hT n) (M_X2_widen_5 (q_kap E) n) l0 σ h
def F_X2_widen (κ : Nat → Nat) (l0 : Option Nat) : q_X Unit :=
  q_wr (q_pF l0 5 5 (.int (1 : Int32))) (F_X2_widen_5 κ q_fu l0)
theorem M_X2_widen (κ : Nat → Nat) (l0 : Option Nat) : q_mo (F_X2_widen κ l0) := (q_mo_wr (M_X2_widen_5 κ q_fu l0))
set_option maxRecDepth 100000 in
set_option maxHeartbeats 4000000 in
theorem K_X2_widen {E : q_Ev} (l0 : Option Nat) : q_Ct E yX2_widen (.code yX2_widen cX2_widen 1 (none)) 0 0 [q_R l0] q_oV (F_X2_widen (q_kap E) l0) := by
  refine q_enter (by decide) (Nat.le_of_ble_eq_true rfl) (fun Γ σ w h B hT => ?_)
  have C := B.1
  unfold F_X2_widen at h
  refine q_aload_n (pc := 0) C 0 rfl dX2_widen_0 rfl ?_
  refine q_iconst (pc := 1) (v := (1 : Int32)) C dX2_widen_1 (by decide) ?_
  refine q_putV (pc := 2) (v := q_I (1 : Int32)) C dX2_widen_2 ql_X2_28 (Or.inl rfl) rfl rfl h (fun M2 h => ?_)
  exact S_X2_widen_5 B hT q_fu l0 _ h
def F_X2_memberAt_41 (κ : Nat → Nat) : q_X Int32 :=
  q_rt (-1 : Int32)
theorem M_X2_memberAt_41 (κ : Nat → Nat) : q_mo (F_X2_memberAt_41 κ) := q_mo_rt
theorem N_X2_memberAt_41 (κ : Nat → Nat) : q_ni (F_X2_memberAt_41 κ) := q_ni_rt
set_option maxRecDepth 100000 in
set_option maxHeartbeats 4000000 in
theorem S_X2_memberAt_41 {E : q_Ev} {Γ : q_Gm} {w : (Int32 ⊕ q_Exn) × q_St} (B : q_Bd E Γ cX2_memberAt yX2_memberAt.cls 4 1 25 (some .int) yX2_memberAt.name w) (hT : q_nT Γ) (σ : q_St) (h : F_X2_memberAt_41 (q_kap E) σ = some w) : q_W E Γ (q_QF E Γ q_oI w) 4 σ 41 [] [] := by
  have C := B.1
  unfold F_X2_memberAt_41 at h
  refine q_iconst (pc := 41) (v := (-1 : Int32)) C dX2_memberAt_41 (by decide) ?_
  exact q_iret C B.2.2.2.2.1 dX2_memberAt_42 h
def F_X2_memberAt_2B (κ : Nat → Nat) (r2 : Option Nat → Option Nat → Int32 → Int32 → q_X Int32) (l0 : Option Nat) (l1 : Option Nat) (l2 : Int32) (l3 : Int32) : q_X Int32 :=
  q_rd (q_gA l0 5 3) fun v4 => q_rd (q_ln v4) fun v7 => q_br (v7 ≤ l3) (F_X2_memberAt_41 κ) (q_rd (q_gI l0 5 4) fun v13 => q_br (v13 ≤ l3) (F_X2_memberAt_41 κ) (q_rd (q_gA l0 5 3) fun v20 => q_rd (q_lA 6 v20 l3) fun v24 => q_rd (q_is v24 10) fun _ => q_ca (F_X7_bytesBehind κ v24 l1 l2) fun v27 => q_br (¬ v27 = 0) (r2 l0 l1 l2 (l3 + (1 : Int32))) (q_rt l3)))
theorem M_X2_memberAt_2B (κ : Nat → Nat) (r2 : Option Nat → Option Nat → Int32 → Int32 → q_X Int32) (mr2 : ∀ (l0 : Option Nat) (l1 : Option Nat) (l2 : Int32) (l3 : Int32), q_mo (r2 l0 l1 l2 l3)) (l0 : Option Nat) (l1 : Option Nat) (l2 : Int32) (l3 : Int32) : q_mo (F_X2_memberAt_2B κ r2 l0 l1 l2 l3) := (q_mo_rd fun v4 => (q_mo_rd fun v7 => (q_mo_br (M_X2_memberAt_41 κ) (q_mo_rd fun v13 => (q_mo_br (M_X2_memberAt_41 κ) (q_mo_rd fun v20 => (q_mo_rd fun v24 => (q_mo_rd fun _ => q_mo_ca (M_X7_bytesBehind κ v24 l1 l2) fun v27 => (q_mo_br (mr2 l0 l1 l2 (l3 + (1 : Int32))) q_mo_rt)))))))))
set_option maxRecDepth 100000 in
set_option maxHeartbeats 4000000 in
theorem S_X2_memberAt_2B {E : q_Ev} {Γ : q_Gm} {w : (Int32 ⊕ q_Exn) × q_St} (B : q_Bd E Γ cX2_memberAt yX2_memberAt.cls 4 1 25 (some .int) yX2_memberAt.name w) (hT : q_nT Γ) (r2 : Option Nat → Option Nat → Int32 → Int32 → q_X Int32) (hr2 : ∀ (l0 : Option Nat) (l1 : Option Nat) (l2 : Int32) (l3 : Int32) (σ : q_St), r2 l0 l1 l2 l3 σ = some w → q_W E Γ (q_QF E Γ q_oI w) 4 σ 2 [(0, q_R l0), (1, q_R l1), (2, q_I l2), (3, q_I l3)] []) (mr2 : ∀ (l0 : Option Nat) (l1 : Option Nat) (l2 : Int32) (l3 : Int32), q_mo (r2 l0 l1 l2 l3)) (l0 : Option Nat) (l1 : Option Nat) (l2 : Int32) (l3 : Int32) (σ : q_St) (h : F_X2_memberAt_2B (q_kap E) r2 l0 l1 l2 l3 σ = some w) : q_W E Γ (q_QF E Γ q_oI w) 4 σ 2 [(0, q_R l0), (1, q_R l1), (2, q_I l2), (3, q_I l3)] [] := by
  have C := B.1
  unfold F_X2_memberAt_2B at h
  refine q_iload_n (pc := 2) C 3 rfl dX2_memberAt_2 rfl ?_
  refine q_aload_n (pc := 3) C 0 rfl dX2_memberAt_3 rfl ?_
  refine q_getA (pc := 4) C dX2_memberAt_4 ql_X2_24 h (fun v4 h => ?_)
  refine q_aln (pc := 7) C dX2_memberAt_7 h (fun v7 h => ?_)
  refine q_icmp_ge (pc := 8) (tgt := 41) C dX2_memberAt_8 (by decide) h (fun _ h => ?_) (fun _ h => ?_)
  · refine q_W.sub [] rfl ?_
    exact S_X2_memberAt_41 B hT _ h
  · refine q_iload_n (pc := 11) C 3 rfl dX2_memberAt_11 rfl ?_
    refine q_aload_n (pc := 12) C 0 rfl dX2_memberAt_12 rfl ?_
    refine q_getI (pc := 13) C dX2_memberAt_13 ql_X2_31 h (fun v13 h => ?_)
    refine q_icmp_ge (pc := 16) (tgt := 41) C dX2_memberAt_16 (by decide) h (fun _ h => ?_) (fun _ h => ?_)
    · refine q_W.sub [] rfl ?_
      exact S_X2_memberAt_41 B hT _ h
    · refine q_aload_n (pc := 19) C 0 rfl dX2_memberAt_19 rfl ?_
      refine q_getA (pc := 20) C dX2_memberAt_20 ql_X2_24 h (fun v20 h => ?_)
      refine q_iload_n (pc := 23) C 3 rfl dX2_memberAt_23 rfl ?_
      refine q_ldA (pc := 24) C dX2_memberAt_24 ⟨_, rfl⟩ h (fun v24 h => ?_)
      refine q_aload_n (pc := 25) C 1 rfl dX2_memberAt_25 rfl ?_
      refine q_iload_n (pc := 26) C 2 rfl dX2_memberAt_26 rfl ?_
      refine q_callV (pc := 27) (As := [q_R l1, q_I l2]) (st := []) (ps := q_psI) C B.2.1 hT q_hpI qm_X2_38 qv_X7_bytesBehind dX2_memberAt_27 rfl rfl (Nat.le_of_ble_eq_true rfl) (q_flo B.2.2.1 B.2.2.2.1 (by decide) (by decide)) (K_X7_bytesBehind v24 l1 l2) (M_X7_bytesBehind (q_kap E) v24 l1 l2) (by exact fun v27 => (q_mo_br (mr2 l0 l1 l2 (l3 + (1 : Int32))) q_mo_rt)) h (fun v27 σ h => ?_)
      refine q_W.st (st' := [q_I v27]) rfl ?_
      refine q_if_ne (pc := 30) (tgt := 35) C dX2_memberAt_30 (by decide) h (fun _ h => ?_) (fun _ h => ?_)
      · refine q_iinc (pc := 35) (v := (1 : Int32)) (l' := [(3, q_I (l3 + (1 : Int32))), (0, q_R l0), (1, q_R l1), (2, q_I l2)]) C 3 rfl dX2_memberAt_35 (by decide) (by decide) rfl ?_
        refine q_goto (pc := 38) (tgt := 2) C dX2_memberAt_38 (by decide) ?_
        refine q_W.sub [1, 2, 3, 0] rfl ?_
        exact hr2 l0 l1 l2 (l3 + (1 : Int32)) _ h
      · refine q_iload_n (pc := 33) C 3 rfl dX2_memberAt_33 rfl ?_
        exact q_iret C B.2.2.2.2.1 dX2_memberAt_34 h
def F_X2_memberAt_2 (κ : Nat → Nat) : Nat → Option Nat → Option Nat → Int32 → Int32 → q_X Int32
  | 0, _, _, _, _ => q_no
  | n + 1, l0, l1, l2, l3 => F_X2_memberAt_2B κ (F_X2_memberAt_2 κ n) l0 l1 l2 l3
theorem M_X2_memberAt_2 (κ : Nat → Nat) : ∀ (n : Nat) (l0 : Option Nat) (l1 : Option Nat) (l2 : Int32) (l3 : Int32), q_mo (F_X2_memberAt_2 κ n l0 l1 l2 l3)
  | 0, _, _, _, _ => q_mo_no
  | n + 1, l0, l1, l2, l3 => M_X2_memberAt_2B κ (F_X2_memberAt_2 κ n) (M_X2_memberAt_2 κ n) l0 l1 l2 l3
theorem S_X2_memberAt_2 {E : q_Ev} {Γ : q_Gm} {w : (Int32 ⊕ q_Exn) × q_St} (B : q_Bd E Γ cX2_memberAt yX2_memberAt.cls 4 1 25 (some .int) yX2_memberAt.name w) (hT : q_nT Γ) : ∀ (n : Nat) (l0 : Option Nat) (l1 : Option Nat) (l2 : Int32) (l3 : Int32) (σ : q_St), F_X2_memberAt_2 (q_kap E) n l0 l1 l2 l3 σ = some w → q_W E Γ (q_QF E Γ q_oI w) 4 σ 2 [(0, q_R l0), (1, q_R l1), (2, q_I l2), (3, q_I l3)] []
  | 0, _, _, _, _, _, h => by cases h
  | n + 1, l0, l1, l2, l3, σ, h => S_X2_memberAt_2B B hT (F_X2_memberAt_2 (q_kap E) n) (S_X2_memberAt_2 B hT n) (M_X2_memberAt_2 (q_kap E) n) l0 l1 l2 l3 σ h
def F_X2_memberAt (κ : Nat → Nat) (l0 : Option Nat) (l1 : Option Nat) (l2 : Int32) : q_X Int32 :=
  F_X2_memberAt_2 κ q_fu l0 l1 l2 (0 : Int32)
theorem M_X2_memberAt (κ : Nat → Nat) (l0 : Option Nat) (l1 : Option Nat) (l2 : Int32) : q_mo (F_X2_memberAt κ l0 l1 l2) := (M_X2_memberAt_2 κ q_fu l0 l1 l2 (0 : Int32))
set_option maxRecDepth 100000 in
set_option maxHeartbeats 4000000 in
theorem K_X2_memberAt {E : q_Ev} (l0 : Option Nat) (l1 : Option Nat) (l2 : Int32) : q_Ct E yX2_memberAt (.code yX2_memberAt cX2_memberAt 4 (some .int)) 1 25 [q_R l0, q_R l1, q_I l2] q_oI (F_X2_memberAt (q_kap E) l0 l1 l2) := by
  refine q_enter (by decide) (Nat.le_of_ble_eq_true rfl) (fun Γ σ w h B hT => ?_)
  have C := B.1
  unfold F_X2_memberAt at h
  refine q_iconst (pc := 0) (v := (0 : Int32)) C dX2_memberAt_0 (by decide) ?_
  refine q_istore_n (pc := 1) (l' := [(3, q_I (0 : Int32)), (0, q_R l0), (1, q_R l1), (2, q_I l2)]) C dX2_memberAt_1 rfl (by decide) rfl ?_
  refine q_W.sub [1, 2, 3, 0] rfl ?_
  exact S_X2_memberAt_2 B hT q_fu l0 l1 l2 (0 : Int32) _ h
def F_X0_readMembers_152 (κ : Nat → Nat) (s0 : Int32) : q_X Int32 :=
  q_rz s0
theorem M_X0_readMembers_152 (κ : Nat → Nat) (s0 : Int32) : q_mo (F_X0_readMembers_152 κ s0) := q_mo_rz
set_option maxRecDepth 100000 in
set_option maxHeartbeats 4000000 in
theorem S_X0_readMembers_152 {E : q_Ev} {Γ : q_Gm} {w : (Int32 ⊕ q_Exn) × q_St} (B : q_Bd E Γ cX0_readMembers yX0_readMembers.cls 3 4 108 (some .boolean) yX0_readMembers.name w) (hT : q_nT Γ) (s0 : Int32) (σ : q_St) (h : F_X0_readMembers_152 (q_kap E) s0 σ = some w) : q_W E Γ (q_QF E Γ q_oI w) 3 σ 152 [] [q_I s0] := by
  have C := B.1
  unfold F_X0_readMembers_152 at h
  exact q_zret C B.2.2.2.2.1 dX0_readMembers_152 h
def F_X0_readMembers_147 (κ : Nat → Nat) : q_X Int32 :=
  F_X0_readMembers_152 κ (1 : Int32)
theorem M_X0_readMembers_147 (κ : Nat → Nat) : q_mo (F_X0_readMembers_147 κ) := (M_X0_readMembers_152 κ (1 : Int32))
set_option maxRecDepth 100000 in
set_option maxHeartbeats 4000000 in
theorem S_X0_readMembers_147 {E : q_Ev} {Γ : q_Gm} {w : (Int32 ⊕ q_Exn) × q_St} (B : q_Bd E Γ cX0_readMembers yX0_readMembers.cls 3 4 108 (some .boolean) yX0_readMembers.name w) (hT : q_nT Γ) (σ : q_St) (h : F_X0_readMembers_147 (q_kap E) σ = some w) : q_W E Γ (q_QF E Γ q_oI w) 3 σ 147 [] [] := by
  have C := B.1
  unfold F_X0_readMembers_147 at h
  refine q_iconst (pc := 147) (v := (1 : Int32)) C dX0_readMembers_147 (by decide) ?_
  refine q_goto (pc := 148) (tgt := 152) C dX0_readMembers_148 (by decide) ?_
  exact S_X0_readMembers_152 B hT (1 : Int32) _ h
def F_X0_readMembers_124 (κ : Nat → Nat) (l0 : Option Nat) (l1 : Option Nat) : q_X Int32 :=
  q_rd (q_is l1 5) fun _ => q_ca (F_X2_widen κ l1) fun _v125 => q_rd (q_gI l1 5 4) fun v129 => q_br ((2 : Int32) ≤ v129) (F_X0_readMembers_147 κ) (q_rd (q_gA l0 3 0) fun v137 => q_rd (q_is v137 12) fun _ => q_ca (F_X9_fail κ v137 (1 : Int32)) fun v141 => q_br (v141 = 0) (F_X0_readMembers_152 κ (0 : Int32)) (F_X0_readMembers_147 κ))
theorem M_X0_readMembers_124 (κ : Nat → Nat) (l0 : Option Nat) (l1 : Option Nat) : q_mo (F_X0_readMembers_124 κ l0 l1) := (q_mo_rd fun _ => q_mo_ca (M_X2_widen κ l1) fun _v125 => (q_mo_rd fun v129 => (q_mo_br (M_X0_readMembers_147 κ) (q_mo_rd fun v137 => (q_mo_rd fun _ => q_mo_ca (M_X9_fail κ v137 (1 : Int32)) fun v141 => (q_mo_br (M_X0_readMembers_152 κ (0 : Int32)) (M_X0_readMembers_147 κ)))))))
set_option maxRecDepth 100000 in
set_option maxHeartbeats 4000000 in
theorem S_X0_readMembers_124 {E : q_Ev} {Γ : q_Gm} {w : (Int32 ⊕ q_Exn) × q_St} (B : q_Bd E Γ cX0_readMembers yX0_readMembers.cls 3 4 108 (some .boolean) yX0_readMembers.name w) (hT : q_nT Γ) (l0 : Option Nat) (l1 : Option Nat) (σ : q_St) (h : F_X0_readMembers_124 (q_kap E) l0 l1 σ = some w) : q_W E Γ (q_QF E Γ q_oI w) 3 σ 124 [(0, q_R l0), (1, q_R l1)] [] := by
  have C := B.1
  unfold F_X0_readMembers_124 at h
  refine q_aload_n (pc := 124) C 1 rfl dX0_readMembers_124 rfl ?_
  refine q_callV (pc := 125) (As := []) (st := []) (ps := q_psV) C B.2.1 hT q_hpV qm_X0_167 qv_X2_widen dX0_readMembers_125 rfl rfl (Nat.le_of_ble_eq_true rfl) (q_flo B.2.2.1 B.2.2.2.1 (by decide) (by decide)) (K_X2_widen l1) (M_X2_widen (q_kap E) l1) (by exact fun _v125 => (q_mo_rd fun v129 => (q_mo_br (M_X0_readMembers_147 (q_kap E)) (q_mo_rd fun v137 => (q_mo_rd fun _ => q_mo_ca (M_X9_fail (q_kap E) v137 (1 : Int32)) fun v141 => (q_mo_br (M_X0_readMembers_152 (q_kap E) (0 : Int32)) (M_X0_readMembers_147 (q_kap E)))))))) h (fun _v125 σ h => ?_)
  refine q_W.st (st' := []) rfl ?_
  refine q_aload_n (pc := 128) C 1 rfl dX0_readMembers_128 rfl ?_
  refine q_getI (pc := 129) C dX0_readMembers_129 ql_X0_164 h (fun v129 h => ?_)
  refine q_iconst (pc := 132) (v := (2 : Int32)) C dX0_readMembers_132 (by decide) ?_
  refine q_icmp_ge (pc := 133) (tgt := 147) C dX0_readMembers_133 (by decide) h (fun _ h => ?_) (fun _ h => ?_)
  · refine q_W.sub [] rfl ?_
    exact S_X0_readMembers_147 B hT _ h
  · refine q_aload_n (pc := 136) C 0 rfl dX0_readMembers_136 rfl ?_
    refine q_getA (pc := 137) C dX0_readMembers_137 ql_X0_15 h (fun v137 h => ?_)
    refine q_iconst (pc := 140) (v := (1 : Int32)) C dX0_readMembers_140 (by decide) ?_
    refine q_callV (pc := 141) (As := [q_I (1 : Int32)]) (st := []) (ps := q_psI) C B.2.1 hT q_hpI qm_X0_67 qv_X9_fail dX0_readMembers_141 rfl rfl (Nat.le_of_ble_eq_true rfl) (q_flo B.2.2.1 B.2.2.2.1 (by decide) (by decide)) (K_X9_fail v137 (1 : Int32)) (M_X9_fail (q_kap E) v137 (1 : Int32)) (by exact fun v141 => (q_mo_br (M_X0_readMembers_152 (q_kap E) (0 : Int32)) (M_X0_readMembers_147 (q_kap E)))) h (fun v141 σ h => ?_)
    refine q_W.st (st' := [q_I v141]) rfl ?_
    refine q_if_eq (pc := 144) (tgt := 151) C dX0_readMembers_144 (by decide) h (fun _ h => ?_) (fun _ h => ?_)
    · refine q_iconst (pc := 151) (v := (0 : Int32)) C dX0_readMembers_151 (by decide) ?_
      refine q_W.sub [] rfl ?_
      exact S_X0_readMembers_152 B hT (0 : Int32) _ h
    · refine q_W.sub [] rfl ?_
      exact S_X0_readMembers_147 B hT _ h
def F_X0_readMembers_2B (κ : Nat → Nat) (r2 : Option Nat → Option Nat → Int32 → q_X Int32) (l0 : Option Nat) (l1 : Option Nat) (l2 : Int32) : q_X Int32 :=
  q_rd (q_gA l0 3 1) fun v4 => q_rd (q_gI v4 13 6) fun v7 => q_br (v7 < l2) (F_X0_readMembers_124 κ l0 l1) (q_rd (q_gA l0 3 0) fun v14 => q_rd (q_is v14 12) fun _ => q_ca (F_X9_isAtName κ v14) fun v17 => q_br (v17 = 0) (F_X0_readMembers_124 κ l0 l1) (q_rd (q_gA l0 3 1) fun v25 => q_rd (q_gA l0 3 0) fun v29 => q_rd (q_gI v29 12 1) fun v32 => q_rd (q_is l1 5) fun _ => q_ca (F_X2_memberAt κ l1 v25 v32) fun v35 => q_br (v35 < 0) (q_rd (q_gI l1 5 4) fun v51 => q_br (¬ v51 = (32 : Int32)) (q_rd (q_gA l1 5 3) fun v69 => q_rd (q_gI l1 5 4) fun v73 => q_mk (.inr (.inl (10, [.null]))) 1 fun a76 => q_rd (q_gA l0 3 1) fun v81 => q_rd (q_gA l0 3 0) fun v85 => q_rd (q_gI v85 12 1) fun v88 => q_gd (¬ (some a76) = none) (q_ca (F_X7_init κ (some a76) v81 v88) fun _v91 => q_wr (q_sT 6 10 v69 v73 (some a76)) (q_rd (q_gI l1 5 4) fun v97 => q_wr (q_pF l1 5 4 (.int (v97 + (1 : Int32)))) (q_rd (q_gA l0 3 0) fun v106 => q_rd (q_gI v106 12 1) fun v110 => q_wr (q_pF v106 12 1 (.int (v110 + (1 : Int32)))) (r2 l0 l1 (l2 + (1 : Int32))))))) (q_rd (q_gA l0 3 0) fun v60 => q_rd (q_is v60 12) fun _ => q_ca (F_X9_fail κ v60 (3 : Int32)) fun v64 => q_rz v64)) (q_rd (q_gA l0 3 0) fun v42 => q_rd (q_is v42 12) fun _ => q_ca (F_X9_fail κ v42 (2 : Int32)) fun v46 => q_rz v46)))
theorem M_X0_readMembers_2B (κ : Nat → Nat) (r2 : Option Nat → Option Nat → Int32 → q_X Int32) (mr2 : ∀ (l0 : Option Nat) (l1 : Option Nat) (l2 : Int32), q_mo (r2 l0 l1 l2)) (l0 : Option Nat) (l1 : Option Nat) (l2 : Int32) : q_mo (F_X0_readMembers_2B κ r2 l0 l1 l2) := (q_mo_rd fun v4 => (q_mo_rd fun v7 => (q_mo_br (M_X0_readMembers_124 κ l0 l1) (q_mo_rd fun v14 => (q_mo_rd fun _ => q_mo_ca (M_X9_isAtName κ v14) fun v17 => (q_mo_br (M_X0_readMembers_124 κ l0 l1) (q_mo_rd fun v25 => (q_mo_rd fun v29 => (q_mo_rd fun v32 => (q_mo_rd fun _ => q_mo_ca (M_X2_memberAt κ l1 v25 v32) fun v35 => (q_mo_br (q_mo_rd fun v51 => (q_mo_br (q_mo_rd fun v69 => (q_mo_rd fun v73 => (q_mo_mk fun a76 => (q_mo_rd fun v81 => (q_mo_rd fun v85 => (q_mo_rd fun v88 => (q_mo_gd (q_mo_ca (M_X7_init κ (some a76) v81 v88) fun _v91 => (q_mo_wr (q_mo_rd fun v97 => (q_mo_wr (q_mo_rd fun v106 => (q_mo_rd fun v110 => (q_mo_wr (mr2 l0 l1 (l2 + (1 : Int32))))))))))))))))) (q_mo_rd fun v60 => (q_mo_rd fun _ => q_mo_ca (M_X9_fail κ v60 (3 : Int32)) fun v64 => q_mo_rz)))) (q_mo_rd fun v42 => (q_mo_rd fun _ => q_mo_ca (M_X9_fail κ v42 (2 : Int32)) fun v46 => q_mo_rz)))))))))))))
set_option maxRecDepth 100000 in
set_option maxHeartbeats 4000000 in
theorem S_X0_readMembers_2B {E : q_Ev} {Γ : q_Gm} {w : (Int32 ⊕ q_Exn) × q_St} (B : q_Bd E Γ cX0_readMembers yX0_readMembers.cls 3 4 108 (some .boolean) yX0_readMembers.name w) (hT : q_nT Γ) (r2 : Option Nat → Option Nat → Int32 → q_X Int32) (hr2 : ∀ (l0 : Option Nat) (l1 : Option Nat) (l2 : Int32) (σ : q_St), r2 l0 l1 l2 σ = some w → q_W E Γ (q_QF E Γ q_oI w) 3 σ 2 [(0, q_R l0), (1, q_R l1), (2, q_I l2)] []) (mr2 : ∀ (l0 : Option Nat) (l1 : Option Nat) (l2 : Int32), q_mo (r2 l0 l1 l2)) (l0 : Option Nat) (l1 : Option Nat) (l2 : Int32) (σ : q_St) (h : F_X0_readMembers_2B (q_kap E) r2 l0 l1 l2 σ = some w) : q_W E Γ (q_QF E Γ q_oI w) 3 σ 2 [(0, q_R l0), (1, q_R l1), (2, q_I l2)] [] := by
  have C := B.1
  unfold F_X0_readMembers_2B at h
  refine q_iload_n (pc := 2) C 2 rfl dX0_readMembers_2 rfl ?_
  refine q_aload_n (pc := 3) C 0 rfl dX0_readMembers_3 rfl ?_
  refine q_getA (pc := 4) C dX0_readMembers_4 ql_X0_25 h (fun v4 h => ?_)
  refine q_getI (pc := 7) C dX0_readMembers_7 ql_X0_42 h (fun v7 h => ?_)
  refine q_icmp_gt (pc := 10) (tgt := 124) C dX0_readMembers_10 (by decide) h (fun _ h => ?_) (fun _ h => ?_)
  · refine q_W.sub [0, 1] rfl ?_
    exact S_X0_readMembers_124 B hT l0 l1 _ h
  · refine q_aload_n (pc := 13) C 0 rfl dX0_readMembers_13 rfl ?_
    refine q_getA (pc := 14) C dX0_readMembers_14 ql_X0_15 h (fun v14 h => ?_)
    refine q_callV (pc := 17) (As := []) (st := []) (ps := q_psI) C B.2.1 hT q_hpI qm_X0_117 qv_X9_isAtName dX0_readMembers_17 rfl rfl (Nat.le_of_ble_eq_true rfl) (q_flo B.2.2.1 B.2.2.2.1 (by decide) (by decide)) (K_X9_isAtName v14) (M_X9_isAtName (q_kap E) v14) (by exact fun v17 => (q_mo_br (M_X0_readMembers_124 (q_kap E) l0 l1) (q_mo_rd fun v25 => (q_mo_rd fun v29 => (q_mo_rd fun v32 => (q_mo_rd fun _ => q_mo_ca (M_X2_memberAt (q_kap E) l1 v25 v32) fun v35 => (q_mo_br (q_mo_rd fun v51 => (q_mo_br (q_mo_rd fun v69 => (q_mo_rd fun v73 => (q_mo_mk fun a76 => (q_mo_rd fun v81 => (q_mo_rd fun v85 => (q_mo_rd fun v88 => (q_mo_gd (q_mo_ca (M_X7_init (q_kap E) (some a76) v81 v88) fun _v91 => (q_mo_wr (q_mo_rd fun v97 => (q_mo_wr (q_mo_rd fun v106 => (q_mo_rd fun v110 => (q_mo_wr (mr2 l0 l1 (l2 + (1 : Int32))))))))))))))))) (q_mo_rd fun v60 => (q_mo_rd fun _ => q_mo_ca (M_X9_fail (q_kap E) v60 (3 : Int32)) fun v64 => q_mo_rz)))) (q_mo_rd fun v42 => (q_mo_rd fun _ => q_mo_ca (M_X9_fail (q_kap E) v42 (2 : Int32)) fun v46 => q_mo_rz))))))))) h (fun v17 σ h => ?_)
    refine q_W.st (st' := [q_I v17]) rfl ?_
    refine q_if_eq (pc := 20) (tgt := 124) C dX0_readMembers_20 (by decide) h (fun _ h => ?_) (fun _ h => ?_)
    · refine q_W.sub [0, 1] rfl ?_
      exact S_X0_readMembers_124 B hT l0 l1 _ h
    · refine q_aload_n (pc := 23) C 1 rfl dX0_readMembers_23 rfl ?_
      refine q_aload_n (pc := 24) C 0 rfl dX0_readMembers_24 rfl ?_
      refine q_getA (pc := 25) C dX0_readMembers_25 ql_X0_25 h (fun v25 h => ?_)
      refine q_aload_n (pc := 28) C 0 rfl dX0_readMembers_28 rfl ?_
      refine q_getA (pc := 29) C dX0_readMembers_29 ql_X0_15 h (fun v29 h => ?_)
      refine q_getI (pc := 32) C dX0_readMembers_32 ql_X0_58 h (fun v32 h => ?_)
      refine q_callV (pc := 35) (As := [q_R v25, q_I v32]) (st := []) (ps := q_psI) C B.2.1 hT q_hpI qm_X0_170 qv_X2_memberAt dX0_readMembers_35 rfl rfl (Nat.le_of_ble_eq_true rfl) (q_flo B.2.2.1 B.2.2.2.1 (by decide) (by decide)) (K_X2_memberAt l1 v25 v32) (M_X2_memberAt (q_kap E) l1 v25 v32) (by exact fun v35 => (q_mo_br (q_mo_rd fun v51 => (q_mo_br (q_mo_rd fun v69 => (q_mo_rd fun v73 => (q_mo_mk fun a76 => (q_mo_rd fun v81 => (q_mo_rd fun v85 => (q_mo_rd fun v88 => (q_mo_gd (q_mo_ca (M_X7_init (q_kap E) (some a76) v81 v88) fun _v91 => (q_mo_wr (q_mo_rd fun v97 => (q_mo_wr (q_mo_rd fun v106 => (q_mo_rd fun v110 => (q_mo_wr (mr2 l0 l1 (l2 + (1 : Int32))))))))))))))))) (q_mo_rd fun v60 => (q_mo_rd fun _ => q_mo_ca (M_X9_fail (q_kap E) v60 (3 : Int32)) fun v64 => q_mo_rz)))) (q_mo_rd fun v42 => (q_mo_rd fun _ => q_mo_ca (M_X9_fail (q_kap E) v42 (2 : Int32)) fun v46 => q_mo_rz)))) h (fun v35 σ h => ?_)
      refine q_W.st (st' := [q_I v35]) rfl ?_
      refine q_if_lt (pc := 38) (tgt := 50) C dX0_readMembers_38 (by decide) h (fun _ h => ?_) (fun _ h => ?_)
      · refine q_aload_n (pc := 50) C 1 rfl dX0_readMembers_50 rfl ?_
        refine q_getI (pc := 51) C dX0_readMembers_51 ql_X0_164 h (fun v51 h => ?_)
        refine q_bipush (pc := 54) (v := (32 : Int32)) C dX0_readMembers_54 (by decide) ?_
        refine q_icmp_ne (pc := 56) (tgt := 68) C dX0_readMembers_56 (by decide) h (fun _ h => ?_) (fun _ h => ?_)
        · refine q_aload_n (pc := 68) C 1 rfl dX0_readMembers_68 rfl ?_
          refine q_getA (pc := 69) C dX0_readMembers_69 ql_X0_174 h (fun v69 h => ?_)
          refine q_aload_n (pc := 72) C 1 rfl dX0_readMembers_72 rfl ?_
          refine q_getI (pc := 73) C dX0_readMembers_73 ql_X0_164 h (fun v73 h => ?_)
          refine q_new (pc := 76) C dX0_readMembers_76 qn_X0_129 (by exact fun a76 => (q_mo_rd fun v81 => (q_mo_rd fun v85 => (q_mo_rd fun v88 => (q_mo_gd (q_mo_ca (M_X7_init (q_kap E) (some a76) v81 v88) fun _v91 => (q_mo_wr (q_mo_rd fun v97 => (q_mo_wr (q_mo_rd fun v106 => (q_mo_rd fun v110 => (q_mo_wr (mr2 l0 l1 (l2 + (1 : Int32))))))))))))))) B.2.1 h (fun a76 σ h => ?_)
          refine q_dup (pc := 79) C dX0_readMembers_79 rfl ?_
          refine q_aload_n (pc := 80) C 0 rfl dX0_readMembers_80 rfl ?_
          refine q_getA (pc := 81) C dX0_readMembers_81 ql_X0_25 h (fun v81 h => ?_)
          refine q_aload_n (pc := 84) C 0 rfl dX0_readMembers_84 rfl ?_
          refine q_getA (pc := 85) C dX0_readMembers_85 ql_X0_15 h (fun v85 h => ?_)
          refine q_getI (pc := 88) C dX0_readMembers_88 ql_X0_58 h (fun v88 h => ?_)
          refine q_callI (pc := 91) (As := [q_R v81, q_I v88]) (st := [q_R (some a76), q_I v73, q_R v69]) C B.2.1 (fun _ => rfl) qm_X0_131 qI_X7_init dX0_readMembers_91 rfl rfl (Nat.le_of_ble_eq_true rfl) (q_flo B.2.2.1 B.2.2.2.1 (by decide) (by decide)) (K_X7_init (some a76) v81 v88) (M_X7_init (q_kap E) (some a76) v81 v88) (N_X7_init (q_kap E) (some a76) v81 v88) (by exact fun _v91 => (q_mo_wr (q_mo_rd fun v97 => (q_mo_wr (q_mo_rd fun v106 => (q_mo_rd fun v110 => (q_mo_wr (mr2 l0 l1 (l2 + (1 : Int32)))))))))) h (fun _v91 σ h => ?_)
          refine q_stA (pc := 94) (t := 6) (ci := 10) C dX0_readMembers_94 rfl rfl (Or.inl rfl) h (fun M94 h => ?_)
          refine q_aload_n (pc := 95) C 1 rfl dX0_readMembers_95 rfl ?_
          refine q_dup (pc := 96) C dX0_readMembers_96 rfl ?_
          refine q_getI (pc := 97) C dX0_readMembers_97 ql_X0_164 h (fun v97 h => ?_)
          refine q_iconst (pc := 100) (v := (1 : Int32)) C dX0_readMembers_100 (by decide) ?_
          refine q_iadd (pc := 101) C dX0_readMembers_101 ?_
          refine q_putV (pc := 102) (v := q_I (v97 + (1 : Int32))) C dX0_readMembers_102 ql_X0_164 (Or.inl rfl) rfl rfl h (fun M102 h => ?_)
          refine q_aload_n (pc := 105) C 0 rfl dX0_readMembers_105 rfl ?_
          refine q_getA (pc := 106) C dX0_readMembers_106 ql_X0_15 h (fun v106 h => ?_)
          refine q_dup (pc := 109) C dX0_readMembers_109 rfl ?_
          refine q_getI (pc := 110) C dX0_readMembers_110 ql_X0_58 h (fun v110 h => ?_)
          refine q_iconst (pc := 113) (v := (1 : Int32)) C dX0_readMembers_113 (by decide) ?_
          refine q_iadd (pc := 114) C dX0_readMembers_114 ?_
          refine q_putV (pc := 115) (v := q_I (v110 + (1 : Int32))) C dX0_readMembers_115 ql_X0_58 (Or.inl rfl) rfl rfl h (fun M115 h => ?_)
          refine q_iinc (pc := 118) (v := (1 : Int32)) (l' := [(2, q_I (l2 + (1 : Int32))), (0, q_R l0), (1, q_R l1)]) C 2 rfl dX0_readMembers_118 (by decide) (by decide) rfl ?_
          refine q_goto (pc := 121) (tgt := 2) C dX0_readMembers_121 (by decide) ?_
          refine q_W.sub [1, 2, 0] rfl ?_
          exact hr2 l0 l1 (l2 + (1 : Int32)) _ h
        · refine q_aload_n (pc := 59) C 0 rfl dX0_readMembers_59 rfl ?_
          refine q_getA (pc := 60) C dX0_readMembers_60 ql_X0_15 h (fun v60 h => ?_)
          refine q_iconst (pc := 63) (v := (3 : Int32)) C dX0_readMembers_63 (by decide) ?_
          refine q_callV (pc := 64) (As := [q_I (3 : Int32)]) (st := []) (ps := q_psI) C B.2.1 hT q_hpI qm_X0_67 qv_X9_fail dX0_readMembers_64 rfl rfl (Nat.le_of_ble_eq_true rfl) (q_flo B.2.2.1 B.2.2.2.1 (by decide) (by decide)) (K_X9_fail v60 (3 : Int32)) (M_X9_fail (q_kap E) v60 (3 : Int32)) (by exact fun v64 => q_mo_rz) h (fun v64 σ h => ?_)
          refine q_W.st (st' := [q_I v64]) rfl ?_
          exact q_zret C B.2.2.2.2.1 dX0_readMembers_67 h
      · refine q_aload_n (pc := 41) C 0 rfl dX0_readMembers_41 rfl ?_
        refine q_getA (pc := 42) C dX0_readMembers_42 ql_X0_15 h (fun v42 h => ?_)
        refine q_iconst (pc := 45) (v := (2 : Int32)) C dX0_readMembers_45 (by decide) ?_
        refine q_callV (pc := 46) (As := [q_I (2 : Int32)]) (st := []) (ps := q_psI) C B.2.1 hT q_hpI qm_X0_67 qv_X9_fail dX0_readMembers_46 rfl rfl (Nat.le_of_ble_eq_true rfl) (q_flo B.2.2.1 B.2.2.2.1 (by decide) (by decide)) (K_X9_fail v42 (2 : Int32)) (M_X9_fail (q_kap E) v42 (2 : Int32)) (by exact fun v46 => q_mo_rz) h (fun v46 σ h => ?_)
        refine q_W.st (st' := [q_I v46]) rfl ?_
        exact q_zret C B.2.2.2.2.1 dX0_readMembers_49 h
def F_X0_readMembers_2 (κ : Nat → Nat) : Nat → Option Nat → Option Nat → Int32 → q_X Int32
  | 0, _, _, _ => q_no
  | n + 1, l0, l1, l2 => F_X0_readMembers_2B κ (F_X0_readMembers_2 κ n) l0 l1 l2
theorem M_X0_readMembers_2 (κ : Nat → Nat) : ∀ (n : Nat) (l0 : Option Nat) (l1 : Option Nat) (l2 : Int32), q_mo (F_X0_readMembers_2 κ n l0 l1 l2)
  | 0, _, _, _ => q_mo_no
  | n + 1, l0, l1, l2 => M_X0_readMembers_2B κ (F_X0_readMembers_2 κ n) (M_X0_readMembers_2 κ n) l0 l1 l2
theorem S_X0_readMembers_2 {E : q_Ev} {Γ : q_Gm} {w : (Int32 ⊕ q_Exn) × q_St} (B : q_Bd E Γ cX0_readMembers yX0_readMembers.cls 3 4 108 (some .boolean) yX0_readMembers.name w) (hT : q_nT Γ) : ∀ (n : Nat) (l0 : Option Nat) (l1 : Option Nat) (l2 : Int32) (σ : q_St), F_X0_readMembers_2 (q_kap E) n l0 l1 l2 σ = some w → q_W E Γ (q_QF E Γ q_oI w) 3 σ 2 [(0, q_R l0), (1, q_R l1), (2, q_I l2)] []
  | 0, _, _, _, _, h => by cases h
  | n + 1, l0, l1, l2, σ, h => S_X0_readMembers_2B B hT (F_X0_readMembers_2 (q_kap E) n) (S_X0_readMembers_2 B hT n) (M_X0_readMembers_2 (q_kap E) n) l0 l1 l2 σ h
def F_X0_readMembers (κ : Nat → Nat) (l0 : Option Nat) (l1 : Option Nat) : q_X Int32 :=
  F_X0_readMembers_2 κ q_fu l0 l1 (0 : Int32)
theorem M_X0_readMembers (κ : Nat → Nat) (l0 : Option Nat) (l1 : Option Nat) : q_mo (F_X0_readMembers κ l0 l1) := (M_X0_readMembers_2 κ q_fu l0 l1 (0 : Int32))
set_option maxRecDepth 100000 in
set_option maxHeartbeats 4000000 in
theorem K_X0_readMembers {E : q_Ev} (l0 : Option Nat) (l1 : Option Nat) : q_Ct E yX0_readMembers (.code yX0_readMembers cX0_readMembers 3 (some .boolean)) 4 108 [q_R l0, q_R l1] q_oI (F_X0_readMembers (q_kap E) l0 l1) := by
  refine q_enter (by decide) (Nat.le_of_ble_eq_true rfl) (fun Γ σ w h B hT => ?_)
  have C := B.1
  unfold F_X0_readMembers at h
  refine q_iconst (pc := 0) (v := (0 : Int32)) C dX0_readMembers_0 (by decide) ?_
  refine q_istore_n (pc := 1) (l' := [(2, q_I (0 : Int32)), (0, q_R l0), (1, q_R l1)]) C dX0_readMembers_1 rfl (by decide) rfl ?_
  refine q_W.sub [1, 2, 0] rfl ?_
  exact S_X0_readMembers_2 B hT q_fu l0 l1 (0 : Int32) _ h
def F_X10_isLetter_29 (κ : Nat → Nat) (s0 : Int32) : q_X Int32 :=
  q_rz s0
theorem M_X10_isLetter_29 (κ : Nat → Nat) (s0 : Int32) : q_mo (F_X10_isLetter_29 κ s0) := q_mo_rz
set_option maxRecDepth 100000 in
set_option maxHeartbeats 4000000 in
theorem S_X10_isLetter_29 {E : q_Ev} {Γ : q_Gm} {w : (Int32 ⊕ q_Exn) × q_St} (B : q_Bd E Γ cX10_isLetter yX10_isLetter.cls 1 0 0 (some .boolean) yX10_isLetter.name w) (hT : q_nT Γ) (s0 : Int32) (σ : q_St) (h : F_X10_isLetter_29 (q_kap E) s0 σ = some w) : q_W E Γ (q_QF E Γ q_oI w) 1 σ 29 [] [q_I s0] := by
  have C := B.1
  unfold F_X10_isLetter_29 at h
  exact q_zret C B.2.2.2.2.1 dX10_isLetter_29 h
def F_X10_isLetter_28 (κ : Nat → Nat) : q_X Int32 :=
  F_X10_isLetter_29 κ (0 : Int32)
theorem M_X10_isLetter_28 (κ : Nat → Nat) : q_mo (F_X10_isLetter_28 κ) := (M_X10_isLetter_29 κ (0 : Int32))
set_option maxRecDepth 100000 in
set_option maxHeartbeats 4000000 in
theorem S_X10_isLetter_28 {E : q_Ev} {Γ : q_Gm} {w : (Int32 ⊕ q_Exn) × q_St} (B : q_Bd E Γ cX10_isLetter yX10_isLetter.cls 1 0 0 (some .boolean) yX10_isLetter.name w) (hT : q_nT Γ) (σ : q_St) (h : F_X10_isLetter_28 (q_kap E) σ = some w) : q_W E Γ (q_QF E Γ q_oI w) 1 σ 28 [] [] := by
  have C := B.1
  unfold F_X10_isLetter_28 at h
  refine q_iconst (pc := 28) (v := (0 : Int32)) C dX10_isLetter_28 (by decide) ?_
  exact S_X10_isLetter_29 B hT (0 : Int32) _ h
def F_X10_isLetter_24 (κ : Nat → Nat) : q_X Int32 :=
  F_X10_isLetter_29 κ (1 : Int32)
theorem M_X10_isLetter_24 (κ : Nat → Nat) : q_mo (F_X10_isLetter_24 κ) := (M_X10_isLetter_29 κ (1 : Int32))
set_option maxRecDepth 100000 in
set_option maxHeartbeats 4000000 in
theorem S_X10_isLetter_24 {E : q_Ev} {Γ : q_Gm} {w : (Int32 ⊕ q_Exn) × q_St} (B : q_Bd E Γ cX10_isLetter yX10_isLetter.cls 1 0 0 (some .boolean) yX10_isLetter.name w) (hT : q_nT Γ) (σ : q_St) (h : F_X10_isLetter_24 (q_kap E) σ = some w) : q_W E Γ (q_QF E Γ q_oI w) 1 σ 24 [] [] := by
  have C := B.1
  unfold F_X10_isLetter_24 at h
  refine q_iconst (pc := 24) (v := (1 : Int32)) C dX10_isLetter_24 (by decide) ?_
  refine q_goto (pc := 25) (tgt := 29) C dX10_isLetter_25 (by decide) ?_
  exact S_X10_isLetter_29 B hT (1 : Int32) _ h
def F_X10_isLetter_12 (κ : Nat → Nat) (l0 : Int32) : q_X Int32 :=
  q_br (l0 < (65 : Int32)) (F_X10_isLetter_28 κ) (q_br ((90 : Int32) < l0) (F_X10_isLetter_28 κ) (F_X10_isLetter_24 κ))
theorem M_X10_isLetter_12 (κ : Nat → Nat) (l0 : Int32) : q_mo (F_X10_isLetter_12 κ l0) := (q_mo_br (M_X10_isLetter_28 κ) (q_mo_br (M_X10_isLetter_28 κ) (M_X10_isLetter_24 κ)))
set_option maxRecDepth 100000 in
set_option maxHeartbeats 4000000 in
theorem S_X10_isLetter_12 {E : q_Ev} {Γ : q_Gm} {w : (Int32 ⊕ q_Exn) × q_St} (B : q_Bd E Γ cX10_isLetter yX10_isLetter.cls 1 0 0 (some .boolean) yX10_isLetter.name w) (hT : q_nT Γ) (l0 : Int32) (σ : q_St) (h : F_X10_isLetter_12 (q_kap E) l0 σ = some w) : q_W E Γ (q_QF E Γ q_oI w) 1 σ 12 [(0, q_I l0)] [] := by
  have C := B.1
  unfold F_X10_isLetter_12 at h
  refine q_iload_n (pc := 12) C 0 rfl dX10_isLetter_12 rfl ?_
  refine q_bipush (pc := 13) (v := (65 : Int32)) C dX10_isLetter_13 (by decide) ?_
  refine q_icmp_lt (pc := 15) (tgt := 28) C dX10_isLetter_15 (by decide) h (fun _ h => ?_) (fun _ h => ?_)
  · refine q_W.sub [] rfl ?_
    exact S_X10_isLetter_28 B hT _ h
  · refine q_iload_n (pc := 18) C 0 rfl dX10_isLetter_18 rfl ?_
    refine q_bipush (pc := 19) (v := (90 : Int32)) C dX10_isLetter_19 (by decide) ?_
    refine q_icmp_gt (pc := 21) (tgt := 28) C dX10_isLetter_21 (by decide) h (fun _ h => ?_) (fun _ h => ?_)
    · refine q_W.sub [] rfl ?_
      exact S_X10_isLetter_28 B hT _ h
    · refine q_W.sub [] rfl ?_
      exact S_X10_isLetter_24 B hT _ h
def F_X10_isLetter (κ : Nat → Nat) (l0 : Int32) : q_X Int32 :=
  q_br (l0 < (97 : Int32)) (F_X10_isLetter_12 κ l0) (q_br (l0 ≤ (122 : Int32)) (F_X10_isLetter_24 κ) (F_X10_isLetter_12 κ l0))
theorem M_X10_isLetter (κ : Nat → Nat) (l0 : Int32) : q_mo (F_X10_isLetter κ l0) := (q_mo_br (M_X10_isLetter_12 κ l0) (q_mo_br (M_X10_isLetter_24 κ) (M_X10_isLetter_12 κ l0)))
set_option maxRecDepth 100000 in
set_option maxHeartbeats 4000000 in
theorem K_X10_isLetter {E : q_Ev} (l0 : Int32) : q_Ct E yX10_isLetter (.code yX10_isLetter cX10_isLetter 1 (some .boolean)) 0 0 [q_I l0] q_oI (F_X10_isLetter (q_kap E) l0) := by
  refine q_enter (by decide) (Nat.le_of_ble_eq_true rfl) (fun Γ σ w h B hT => ?_)
  have C := B.1
  unfold F_X10_isLetter at h
  refine q_iload_n (pc := 0) C 0 rfl dX10_isLetter_0 rfl ?_
  refine q_bipush (pc := 1) (v := (97 : Int32)) C dX10_isLetter_1 (by decide) ?_
  refine q_icmp_lt (pc := 3) (tgt := 12) C dX10_isLetter_3 (by decide) h (fun _ h => ?_) (fun _ h => ?_)
  · exact S_X10_isLetter_12 B hT l0 _ h
  · refine q_iload_n (pc := 6) C 0 rfl dX10_isLetter_6 rfl ?_
    refine q_bipush (pc := 7) (v := (122 : Int32)) C dX10_isLetter_7 (by decide) ?_
    refine q_icmp_le (pc := 9) (tgt := 24) C dX10_isLetter_9 (by decide) h (fun _ h => ?_) (fun _ h => ?_)
    · refine q_W.sub [] rfl ?_
      exact S_X10_isLetter_24 B hT _ h
    · exact S_X10_isLetter_12 B hT l0 _ h
def F_X10_hasOnlyLetters_7B (κ : Nat → Nat) (r7 : Option Nat → Int32 → Int32 → q_X Int32) (l0 : Option Nat) (l1 : Int32) (l2 : Int32) : q_X Int32 :=
  q_rd (q_gA l0 13 3) fun v9 => q_rd (q_lI 1 v9 l1) fun v13 => q_br (v13 ≤ l2) (q_rz (1 : Int32)) (q_rd (q_gA l0 13 0) fun v18 => q_rd (q_lI 0 v18 l2) fun v22 => q_ca (F_X10_isLetter κ v22) fun v23 => q_br (¬ v23 = 0) (r7 l0 l1 (l2 + (1 : Int32))) (q_rz (0 : Int32)))
theorem M_X10_hasOnlyLetters_7B (κ : Nat → Nat) (r7 : Option Nat → Int32 → Int32 → q_X Int32) (mr7 : ∀ (l0 : Option Nat) (l1 : Int32) (l2 : Int32), q_mo (r7 l0 l1 l2)) (l0 : Option Nat) (l1 : Int32) (l2 : Int32) : q_mo (F_X10_hasOnlyLetters_7B κ r7 l0 l1 l2) := (q_mo_rd fun v9 => (q_mo_rd fun v13 => (q_mo_br q_mo_rz (q_mo_rd fun v18 => (q_mo_rd fun v22 => (q_mo_ca (M_X10_isLetter κ v22) fun v23 => (q_mo_br (mr7 l0 l1 (l2 + (1 : Int32))) q_mo_rz)))))))
set_option maxRecDepth 100000 in
set_option maxHeartbeats 4000000 in
theorem S_X10_hasOnlyLetters_7B {E : q_Ev} {Γ : q_Gm} {w : (Int32 ⊕ q_Exn) × q_St} (B : q_Bd E Γ cX10_hasOnlyLetters yX10_hasOnlyLetters.cls 3 1 20 (some .boolean) yX10_hasOnlyLetters.name w) (hT : q_nT Γ) (r7 : Option Nat → Int32 → Int32 → q_X Int32) (hr7 : ∀ (l0 : Option Nat) (l1 : Int32) (l2 : Int32) (σ : q_St), r7 l0 l1 l2 σ = some w → q_W E Γ (q_QF E Γ q_oI w) 3 σ 7 [(0, q_R l0), (1, q_I l1), (2, q_I l2)] []) (mr7 : ∀ (l0 : Option Nat) (l1 : Int32) (l2 : Int32), q_mo (r7 l0 l1 l2)) (l0 : Option Nat) (l1 : Int32) (l2 : Int32) (σ : q_St) (h : F_X10_hasOnlyLetters_7B (q_kap E) r7 l0 l1 l2 σ = some w) : q_W E Γ (q_QF E Γ q_oI w) 3 σ 7 [(0, q_R l0), (1, q_I l1), (2, q_I l2)] [] := by
  have C := B.1
  unfold F_X10_hasOnlyLetters_7B at h
  refine q_iload_n (pc := 7) C 2 rfl dX10_hasOnlyLetters_7 rfl ?_
  refine q_aload_n (pc := 8) C 0 rfl dX10_hasOnlyLetters_8 rfl ?_
  refine q_getA (pc := 9) C dX10_hasOnlyLetters_9 ql_X10_22 h (fun v9 h => ?_)
  refine q_iload_n (pc := 12) C 1 rfl dX10_hasOnlyLetters_12 rfl ?_
  refine q_ldI (pc := 13) C dX10_hasOnlyLetters_13 (Or.inr (Or.inl ⟨rfl, rfl⟩)) h (fun v13 h => ?_)
  refine q_icmp_ge (pc := 14) (tgt := 37) C dX10_hasOnlyLetters_14 (by decide) h (fun _ h => ?_) (fun _ h => ?_)
  · refine q_iconst (pc := 37) (v := (1 : Int32)) C dX10_hasOnlyLetters_37 (by decide) ?_
    exact q_zret C B.2.2.2.2.1 dX10_hasOnlyLetters_38 h
  · refine q_aload_n (pc := 17) C 0 rfl dX10_hasOnlyLetters_17 rfl ?_
    refine q_getA (pc := 18) C dX10_hasOnlyLetters_18 ql_X10_9 h (fun v18 h => ?_)
    refine q_iload_n (pc := 21) C 2 rfl dX10_hasOnlyLetters_21 rfl ?_
    refine q_ldI (pc := 22) C dX10_hasOnlyLetters_22 (Or.inl ⟨rfl, rfl⟩) h (fun v22 h => ?_)
    refine q_callS (pc := 23) (As := [q_I v22]) (st := []) (ps := q_psI) C B.2.1 hT q_hpI qm_X10_86 qs_X10_isLetter dX10_hasOnlyLetters_23 rfl rfl (Nat.le_of_ble_eq_true rfl) (q_flo B.2.2.1 B.2.2.2.1 (by decide) (by decide)) (K_X10_isLetter v22) (M_X10_isLetter (q_kap E) v22) (by exact fun v23 => (q_mo_br (mr7 l0 l1 (l2 + (1 : Int32))) q_mo_rz)) h (fun v23 σ h => ?_)
    refine q_W.st (st' := [q_I v23]) rfl ?_
    refine q_if_ne (pc := 26) (tgt := 31) C dX10_hasOnlyLetters_26 (by decide) h (fun _ h => ?_) (fun _ h => ?_)
    · refine q_iinc (pc := 31) (v := (1 : Int32)) (l' := [(2, q_I (l2 + (1 : Int32))), (0, q_R l0), (1, q_I l1)]) C 2 rfl dX10_hasOnlyLetters_31 (by decide) (by decide) rfl ?_
      refine q_goto (pc := 34) (tgt := 7) C dX10_hasOnlyLetters_34 (by decide) ?_
      refine q_W.sub [1, 2, 0] rfl ?_
      exact hr7 l0 l1 (l2 + (1 : Int32)) _ h
    · refine q_iconst (pc := 29) (v := (0 : Int32)) C dX10_hasOnlyLetters_29 (by decide) ?_
      exact q_zret C B.2.2.2.2.1 dX10_hasOnlyLetters_30 h
def F_X10_hasOnlyLetters_7 (κ : Nat → Nat) : Nat → Option Nat → Int32 → Int32 → q_X Int32
  | 0, _, _, _ => q_no
  | n + 1, l0, l1, l2 => F_X10_hasOnlyLetters_7B κ (F_X10_hasOnlyLetters_7 κ n) l0 l1 l2
theorem M_X10_hasOnlyLetters_7 (κ : Nat → Nat) : ∀ (n : Nat) (l0 : Option Nat) (l1 : Int32) (l2 : Int32), q_mo (F_X10_hasOnlyLetters_7 κ n l0 l1 l2)
  | 0, _, _, _ => q_mo_no
  | n + 1, l0, l1, l2 => M_X10_hasOnlyLetters_7B κ (F_X10_hasOnlyLetters_7 κ n) (M_X10_hasOnlyLetters_7 κ n) l0 l1 l2
theorem S_X10_hasOnlyLetters_7 {E : q_Ev} {Γ : q_Gm} {w : (Int32 ⊕ q_Exn) × q_St} (B : q_Bd E Γ cX10_hasOnlyLetters yX10_hasOnlyLetters.cls 3 1 20 (some .boolean) yX10_hasOnlyLetters.name w) (hT : q_nT Γ) : ∀ (n : Nat) (l0 : Option Nat) (l1 : Int32) (l2 : Int32) (σ : q_St), F_X10_hasOnlyLetters_7 (q_kap E) n l0 l1 l2 σ = some w → q_W E Γ (q_QF E Γ q_oI w) 3 σ 7 [(0, q_R l0), (1, q_I l1), (2, q_I l2)] []
  | 0, _, _, _, _, h => by cases h
  | n + 1, l0, l1, l2, σ, h => S_X10_hasOnlyLetters_7B B hT (F_X10_hasOnlyLetters_7 (q_kap E) n) (S_X10_hasOnlyLetters_7 B hT n) (M_X10_hasOnlyLetters_7 (q_kap E) n) l0 l1 l2 σ h
def F_X10_hasOnlyLetters (κ : Nat → Nat) (l0 : Option Nat) (l1 : Int32) : q_X Int32 :=
  q_rd (q_gA l0 13 2) fun v1 => q_rd (q_lI 1 v1 l1) fun v5 => F_X10_hasOnlyLetters_7 κ q_fu l0 l1 v5
theorem M_X10_hasOnlyLetters (κ : Nat → Nat) (l0 : Option Nat) (l1 : Int32) : q_mo (F_X10_hasOnlyLetters κ l0 l1) := (q_mo_rd fun v1 => (q_mo_rd fun v5 => (M_X10_hasOnlyLetters_7 κ q_fu l0 l1 v5)))
set_option maxRecDepth 100000 in
set_option maxHeartbeats 4000000 in
theorem K_X10_hasOnlyLetters {E : q_Ev} (l0 : Option Nat) (l1 : Int32) : q_Ct E yX10_hasOnlyLetters (.code yX10_hasOnlyLetters cX10_hasOnlyLetters 3 (some .boolean)) 1 20 [q_R l0, q_I l1] q_oI (F_X10_hasOnlyLetters (q_kap E) l0 l1) := by
  refine q_enter (by decide) (Nat.le_of_ble_eq_true rfl) (fun Γ σ w h B hT => ?_)
  have C := B.1
  unfold F_X10_hasOnlyLetters at h
  refine q_aload_n (pc := 0) C 0 rfl dX10_hasOnlyLetters_0 rfl ?_
  refine q_getA (pc := 1) C dX10_hasOnlyLetters_1 ql_X10_18 h (fun v1 h => ?_)
  refine q_iload_n (pc := 4) C 1 rfl dX10_hasOnlyLetters_4 rfl ?_
  refine q_ldI (pc := 5) C dX10_hasOnlyLetters_5 (Or.inr (Or.inl ⟨rfl, rfl⟩)) h (fun v5 h => ?_)
  refine q_istore_n (pc := 6) (l' := [(2, q_I v5), (0, q_R l0), (1, q_I l1)]) C dX10_hasOnlyLetters_6 rfl (by decide) rfl ?_
  refine q_W.sub [1, 2, 0] rfl ?_
  exact S_X10_hasOnlyLetters_7 B hT q_fu l0 l1 v5 _ h
def F_X0_readRegisters_27 (κ : Nat → Nat) (l0 : Option Nat) : q_X Int32 :=
  q_rd (q_gA l0 3 0) fun v28 => q_rd (q_is v28 12) fun _ => q_ca (F_X9_fail κ v28 (1 : Int32)) fun v32 => q_rz v32
theorem M_X0_readRegisters_27 (κ : Nat → Nat) (l0 : Option Nat) : q_mo (F_X0_readRegisters_27 κ l0) := (q_mo_rd fun v28 => (q_mo_rd fun _ => q_mo_ca (M_X9_fail κ v28 (1 : Int32)) fun v32 => q_mo_rz))
set_option maxRecDepth 100000 in
set_option maxHeartbeats 4000000 in
theorem S_X0_readRegisters_27 {E : q_Ev} {Γ : q_Gm} {w : (Int32 ⊕ q_Exn) × q_St} (B : q_Bd E Γ cX0_readRegisters yX0_readRegisters.cls 2 4 108 (some .boolean) yX0_readRegisters.name w) (hT : q_nT Γ) (l0 : Option Nat) (σ : q_St) (h : F_X0_readRegisters_27 (q_kap E) l0 σ = some w) : q_W E Γ (q_QF E Γ q_oI w) 2 σ 27 [(0, q_R l0)] [] := by
  have C := B.1
  unfold F_X0_readRegisters_27 at h
  refine q_aload_n (pc := 27) C 0 rfl dX0_readRegisters_27 rfl ?_
  refine q_getA (pc := 28) C dX0_readRegisters_28 ql_X0_15 h (fun v28 h => ?_)
  refine q_iconst (pc := 31) (v := (1 : Int32)) C dX0_readRegisters_31 (by decide) ?_
  refine q_callV (pc := 32) (As := [q_I (1 : Int32)]) (st := []) (ps := q_psI) C B.2.1 hT q_hpI qm_X0_67 qv_X9_fail dX0_readRegisters_32 rfl rfl (Nat.le_of_ble_eq_true rfl) (q_flo B.2.2.1 B.2.2.2.1 (by decide) (by decide)) (K_X9_fail v28 (1 : Int32)) (M_X9_fail (q_kap E) v28 (1 : Int32)) (by exact fun v32 => q_mo_rz) h (fun v32 σ h => ?_)
  refine q_W.st (st' := [q_I v32]) rfl ?_
  exact q_zret C B.2.2.2.2.1 dX0_readRegisters_35 h
def F_X0_readRegisters_106 (κ : Nat → Nat) (s0 : Int32) : q_X Int32 :=
  q_rz s0
theorem M_X0_readRegisters_106 (κ : Nat → Nat) (s0 : Int32) : q_mo (F_X0_readRegisters_106 κ s0) := q_mo_rz
set_option maxRecDepth 100000 in
set_option maxHeartbeats 4000000 in
theorem S_X0_readRegisters_106 {E : q_Ev} {Γ : q_Gm} {w : (Int32 ⊕ q_Exn) × q_St} (B : q_Bd E Γ cX0_readRegisters yX0_readRegisters.cls 2 4 108 (some .boolean) yX0_readRegisters.name w) (hT : q_nT Γ) (s0 : Int32) (σ : q_St) (h : F_X0_readRegisters_106 (q_kap E) s0 σ = some w) : q_W E Γ (q_QF E Γ q_oI w) 2 σ 106 [] [q_I s0] := by
  have C := B.1
  unfold F_X0_readRegisters_106 at h
  exact q_zret C B.2.2.2.2.1 dX0_readRegisters_106 h
def F_X0_readRegisters (κ : Nat → Nat) (l0 : Option Nat) (l1 : Option Nat) : q_X Int32 :=
  q_rd (q_gA l0 3 0) fun v1 => q_rd (q_is v1 12) fun _ => q_ca (F_X9_isAtName κ v1) fun v4 => q_br (v4 = 0) (F_X0_readRegisters_27 κ l0) (q_rd (q_gA l0 3 1) fun v11 => q_rd (q_gA l0 3 0) fun v15 => q_rd (q_gI v15 12 1) fun v18 => q_rd (q_is v11 13) fun _ => q_ca (F_X10_hasOnlyLetters κ v11 v18) fun v21 => q_br (¬ v21 = 0) (q_mk (.inr (.inl (10, [.null]))) 1 fun a37 => q_rd (q_gA l0 3 1) fun v42 => q_rd (q_gA l0 3 0) fun v46 => q_rd (q_gI v46 12 1) fun v49 => q_gd (¬ (some a37) = none) (q_ca (F_X7_init κ (some a37) v42 v49) fun _v52 => q_wr (q_pF l1 5 2 (va_rf (some a37))) (q_rd (q_gA l0 3 0) fun v59 => q_rd (q_gI v59 12 1) fun v63 => q_wr (q_pF v59 12 1 (.int (v63 + (1 : Int32)))) (q_rd (q_gA l0 3 0) fun v73 => q_rd (q_is v73 12) fun _ => q_ca (F_X9_takeNumber κ v73 (1 : Int64) (64 : Int64)) fun v80 => q_wr (q_pF l1 5 4 (.int v80.toInt32)) (q_rd (q_is l1 5) fun _ => q_ca (F_X2_widen κ l1) fun _v88 => q_rd (q_gA l0 3 0) fun v92 => q_rd (q_is v92 12) fun _ => q_ca (F_X9_hasFault κ v92) fun v95 => q_br (¬ v95 = 0) (F_X0_readRegisters_106 κ (0 : Int32)) (F_X0_readRegisters_106 κ (1 : Int32))))))) (F_X0_readRegisters_27 κ l0))
theorem M_X0_readRegisters (κ : Nat → Nat) (l0 : Option Nat) (l1 : Option Nat) : q_mo (F_X0_readRegisters κ l0 l1) := (q_mo_rd fun v1 => (q_mo_rd fun _ => q_mo_ca (M_X9_isAtName κ v1) fun v4 => (q_mo_br (M_X0_readRegisters_27 κ l0) (q_mo_rd fun v11 => (q_mo_rd fun v15 => (q_mo_rd fun v18 => (q_mo_rd fun _ => q_mo_ca (M_X10_hasOnlyLetters κ v11 v18) fun v21 => (q_mo_br (q_mo_mk fun a37 => (q_mo_rd fun v42 => (q_mo_rd fun v46 => (q_mo_rd fun v49 => (q_mo_gd (q_mo_ca (M_X7_init κ (some a37) v42 v49) fun _v52 => (q_mo_wr (q_mo_rd fun v59 => (q_mo_rd fun v63 => (q_mo_wr (q_mo_rd fun v73 => (q_mo_rd fun _ => q_mo_ca (M_X9_takeNumber κ v73 (1 : Int64) (64 : Int64)) fun v80 => (q_mo_wr (q_mo_rd fun _ => q_mo_ca (M_X2_widen κ l1) fun _v88 => (q_mo_rd fun v92 => (q_mo_rd fun _ => q_mo_ca (M_X9_hasFault κ v92) fun v95 => (q_mo_br (M_X0_readRegisters_106 κ (0 : Int32)) (M_X0_readRegisters_106 κ (1 : Int32))))))))))))))))))) (M_X0_readRegisters_27 κ l0)))))))))
set_option maxRecDepth 100000 in
set_option maxHeartbeats 4000000 in
theorem K_X0_readRegisters {E : q_Ev} (l0 : Option Nat) (l1 : Option Nat) : q_Ct E yX0_readRegisters (.code yX0_readRegisters cX0_readRegisters 2 (some .boolean)) 4 108 [q_R l0, q_R l1] q_oI (F_X0_readRegisters (q_kap E) l0 l1) := by
  refine q_enter (by decide) (Nat.le_of_ble_eq_true rfl) (fun Γ σ w h B hT => ?_)
  have C := B.1
  unfold F_X0_readRegisters at h
  refine q_aload_n (pc := 0) C 0 rfl dX0_readRegisters_0 rfl ?_
  refine q_getA (pc := 1) C dX0_readRegisters_1 ql_X0_15 h (fun v1 h => ?_)
  refine q_callV (pc := 4) (As := []) (st := []) (ps := q_psI) C B.2.1 hT q_hpI qm_X0_117 qv_X9_isAtName dX0_readRegisters_4 rfl rfl (Nat.le_of_ble_eq_true rfl) (q_flo B.2.2.1 B.2.2.2.1 (by decide) (by decide)) (K_X9_isAtName v1) (M_X9_isAtName (q_kap E) v1) (by exact fun v4 => (q_mo_br (M_X0_readRegisters_27 (q_kap E) l0) (q_mo_rd fun v11 => (q_mo_rd fun v15 => (q_mo_rd fun v18 => (q_mo_rd fun _ => q_mo_ca (M_X10_hasOnlyLetters (q_kap E) v11 v18) fun v21 => (q_mo_br (q_mo_mk fun a37 => (q_mo_rd fun v42 => (q_mo_rd fun v46 => (q_mo_rd fun v49 => (q_mo_gd (q_mo_ca (M_X7_init (q_kap E) (some a37) v42 v49) fun _v52 => (q_mo_wr (q_mo_rd fun v59 => (q_mo_rd fun v63 => (q_mo_wr (q_mo_rd fun v73 => (q_mo_rd fun _ => q_mo_ca (M_X9_takeNumber (q_kap E) v73 (1 : Int64) (64 : Int64)) fun v80 => (q_mo_wr (q_mo_rd fun _ => q_mo_ca (M_X2_widen (q_kap E) l1) fun _v88 => (q_mo_rd fun v92 => (q_mo_rd fun _ => q_mo_ca (M_X9_hasFault (q_kap E) v92) fun v95 => (q_mo_br (M_X0_readRegisters_106 (q_kap E) (0 : Int32)) (M_X0_readRegisters_106 (q_kap E) (1 : Int32))))))))))))))))))) (M_X0_readRegisters_27 (q_kap E) l0)))))))) h (fun v4 σ h => ?_)
  refine q_W.st (st' := [q_I v4]) rfl ?_
  refine q_if_eq (pc := 7) (tgt := 27) C dX0_readRegisters_7 (by decide) h (fun _ h => ?_) (fun _ h => ?_)
  · refine q_W.sub [0] rfl ?_
    exact S_X0_readRegisters_27 B hT l0 _ h
  · refine q_aload_n (pc := 10) C 0 rfl dX0_readRegisters_10 rfl ?_
    refine q_getA (pc := 11) C dX0_readRegisters_11 ql_X0_25 h (fun v11 h => ?_)
    refine q_aload_n (pc := 14) C 0 rfl dX0_readRegisters_14 rfl ?_
    refine q_getA (pc := 15) C dX0_readRegisters_15 ql_X0_15 h (fun v15 h => ?_)
    refine q_getI (pc := 18) C dX0_readRegisters_18 ql_X0_58 h (fun v18 h => ?_)
    refine q_callV (pc := 21) (As := [q_I v18]) (st := []) (ps := q_psI) C B.2.1 hT q_hpI qm_X0_155 qv_X10_hasOnlyLetters dX0_readRegisters_21 rfl rfl (Nat.le_of_ble_eq_true rfl) (q_flo B.2.2.1 B.2.2.2.1 (by decide) (by decide)) (K_X10_hasOnlyLetters v11 v18) (M_X10_hasOnlyLetters (q_kap E) v11 v18) (by exact fun v21 => (q_mo_br (q_mo_mk fun a37 => (q_mo_rd fun v42 => (q_mo_rd fun v46 => (q_mo_rd fun v49 => (q_mo_gd (q_mo_ca (M_X7_init (q_kap E) (some a37) v42 v49) fun _v52 => (q_mo_wr (q_mo_rd fun v59 => (q_mo_rd fun v63 => (q_mo_wr (q_mo_rd fun v73 => (q_mo_rd fun _ => q_mo_ca (M_X9_takeNumber (q_kap E) v73 (1 : Int64) (64 : Int64)) fun v80 => (q_mo_wr (q_mo_rd fun _ => q_mo_ca (M_X2_widen (q_kap E) l1) fun _v88 => (q_mo_rd fun v92 => (q_mo_rd fun _ => q_mo_ca (M_X9_hasFault (q_kap E) v92) fun v95 => (q_mo_br (M_X0_readRegisters_106 (q_kap E) (0 : Int32)) (M_X0_readRegisters_106 (q_kap E) (1 : Int32))))))))))))))))))) (M_X0_readRegisters_27 (q_kap E) l0))) h (fun v21 σ h => ?_)
    refine q_W.st (st' := [q_I v21]) rfl ?_
    refine q_if_ne (pc := 24) (tgt := 36) C dX0_readRegisters_24 (by decide) h (fun _ h => ?_) (fun _ h => ?_)
    · refine q_aload_n (pc := 36) C 1 rfl dX0_readRegisters_36 rfl ?_
      refine q_new (pc := 37) C dX0_readRegisters_37 qn_X0_129 (by exact fun a37 => (q_mo_rd fun v42 => (q_mo_rd fun v46 => (q_mo_rd fun v49 => (q_mo_gd (q_mo_ca (M_X7_init (q_kap E) (some a37) v42 v49) fun _v52 => (q_mo_wr (q_mo_rd fun v59 => (q_mo_rd fun v63 => (q_mo_wr (q_mo_rd fun v73 => (q_mo_rd fun _ => q_mo_ca (M_X9_takeNumber (q_kap E) v73 (1 : Int64) (64 : Int64)) fun v80 => (q_mo_wr (q_mo_rd fun _ => q_mo_ca (M_X2_widen (q_kap E) l1) fun _v88 => (q_mo_rd fun v92 => (q_mo_rd fun _ => q_mo_ca (M_X9_hasFault (q_kap E) v92) fun v95 => (q_mo_br (M_X0_readRegisters_106 (q_kap E) (0 : Int32)) (M_X0_readRegisters_106 (q_kap E) (1 : Int32))))))))))))))))))) B.2.1 h (fun a37 σ h => ?_)
      refine q_dup (pc := 40) C dX0_readRegisters_40 rfl ?_
      refine q_aload_n (pc := 41) C 0 rfl dX0_readRegisters_41 rfl ?_
      refine q_getA (pc := 42) C dX0_readRegisters_42 ql_X0_25 h (fun v42 h => ?_)
      refine q_aload_n (pc := 45) C 0 rfl dX0_readRegisters_45 rfl ?_
      refine q_getA (pc := 46) C dX0_readRegisters_46 ql_X0_15 h (fun v46 h => ?_)
      refine q_getI (pc := 49) C dX0_readRegisters_49 ql_X0_58 h (fun v49 h => ?_)
      refine q_callI (pc := 52) (As := [q_R v42, q_I v49]) (st := [q_R (some a37), q_R l1]) C B.2.1 (fun _ => rfl) qm_X0_131 qI_X7_init dX0_readRegisters_52 rfl rfl (Nat.le_of_ble_eq_true rfl) (q_flo B.2.2.1 B.2.2.2.1 (by decide) (by decide)) (K_X7_init (some a37) v42 v49) (M_X7_init (q_kap E) (some a37) v42 v49) (N_X7_init (q_kap E) (some a37) v42 v49) (by exact fun _v52 => (q_mo_wr (q_mo_rd fun v59 => (q_mo_rd fun v63 => (q_mo_wr (q_mo_rd fun v73 => (q_mo_rd fun _ => q_mo_ca (M_X9_takeNumber (q_kap E) v73 (1 : Int64) (64 : Int64)) fun v80 => (q_mo_wr (q_mo_rd fun _ => q_mo_ca (M_X2_widen (q_kap E) l1) fun _v88 => (q_mo_rd fun v92 => (q_mo_rd fun _ => q_mo_ca (M_X9_hasFault (q_kap E) v92) fun v95 => (q_mo_br (M_X0_readRegisters_106 (q_kap E) (0 : Int32)) (M_X0_readRegisters_106 (q_kap E) (1 : Int32)))))))))))))) h (fun _v52 σ h => ?_)
      refine q_putV (pc := 55) (v := q_R (some a37)) C dX0_readRegisters_55 ql_X0_158 (Or.inl rfl) q_nfO q_nfO' h (fun M55 h => ?_)
      refine q_aload_n (pc := 58) C 0 rfl dX0_readRegisters_58 rfl ?_
      refine q_getA (pc := 59) C dX0_readRegisters_59 ql_X0_15 h (fun v59 h => ?_)
      refine q_dup (pc := 62) C dX0_readRegisters_62 rfl ?_
      refine q_getI (pc := 63) C dX0_readRegisters_63 ql_X0_58 h (fun v63 h => ?_)
      refine q_iconst (pc := 66) (v := (1 : Int32)) C dX0_readRegisters_66 (by decide) ?_
      refine q_iadd (pc := 67) C dX0_readRegisters_67 ?_
      refine q_putV (pc := 68) (v := q_I (v63 + (1 : Int32))) C dX0_readRegisters_68 ql_X0_58 (Or.inl rfl) rfl rfl h (fun M68 h => ?_)
      refine q_aload_n (pc := 71) C 1 rfl dX0_readRegisters_71 rfl ?_
      refine q_aload_n (pc := 72) C 0 rfl dX0_readRegisters_72 rfl ?_
      refine q_getA (pc := 73) C dX0_readRegisters_73 ql_X0_15 h (fun v73 h => ?_)
      refine q_lconst (pc := 76) (v := (1 : Int64)) C dX0_readRegisters_76 (by decide) ?_
      refine q_ldc2 (pc := 77) (v := (64 : Int64)) C dX0_readRegisters_77 qc_X0_162 ?_
      refine q_callV (pc := 80) (As := [q_L (1 : Int64), q_L (64 : Int64)]) (st := [q_R l1]) (ps := q_psL) C B.2.1 hT q_hpL qm_X0_73 qv_X9_takeNumber dX0_readRegisters_80 rfl rfl (Nat.le_of_ble_eq_true rfl) (q_flo B.2.2.1 B.2.2.2.1 (by decide) (by decide)) (K_X9_takeNumber v73 (1 : Int64) (64 : Int64)) (M_X9_takeNumber (q_kap E) v73 (1 : Int64) (64 : Int64)) (by exact fun v80 => (q_mo_wr (q_mo_rd fun _ => q_mo_ca (M_X2_widen (q_kap E) l1) fun _v88 => (q_mo_rd fun v92 => (q_mo_rd fun _ => q_mo_ca (M_X9_hasFault (q_kap E) v92) fun v95 => (q_mo_br (M_X0_readRegisters_106 (q_kap E) (0 : Int32)) (M_X0_readRegisters_106 (q_kap E) (1 : Int32)))))))) h (fun v80 σ h => ?_)
      refine q_W.st (st' := [q_L v80, q_R l1]) rfl ?_
      refine q_l2i (pc := 83) C dX0_readRegisters_83 ?_
      refine q_putV (pc := 84) (v := q_I v80.toInt32) C dX0_readRegisters_84 ql_X0_164 (Or.inl rfl) rfl rfl h (fun M84 h => ?_)
      refine q_aload_n (pc := 87) C 1 rfl dX0_readRegisters_87 rfl ?_
      refine q_callV (pc := 88) (As := []) (st := []) (ps := q_psV) C B.2.1 hT q_hpV qm_X0_167 qv_X2_widen dX0_readRegisters_88 rfl rfl (Nat.le_of_ble_eq_true rfl) (q_flo B.2.2.1 B.2.2.2.1 (by decide) (by decide)) (K_X2_widen l1) (M_X2_widen (q_kap E) l1) (by exact fun _v88 => (q_mo_rd fun v92 => (q_mo_rd fun _ => q_mo_ca (M_X9_hasFault (q_kap E) v92) fun v95 => (q_mo_br (M_X0_readRegisters_106 (q_kap E) (0 : Int32)) (M_X0_readRegisters_106 (q_kap E) (1 : Int32)))))) h (fun _v88 σ h => ?_)
      refine q_W.st (st' := []) rfl ?_
      refine q_aload_n (pc := 91) C 0 rfl dX0_readRegisters_91 rfl ?_
      refine q_getA (pc := 92) C dX0_readRegisters_92 ql_X0_15 h (fun v92 h => ?_)
      refine q_callV (pc := 95) (As := []) (st := []) (ps := q_psI) C B.2.1 hT q_hpI qm_X0_55 qv_X9_hasFault dX0_readRegisters_95 rfl rfl (Nat.le_of_ble_eq_true rfl) (q_flo B.2.2.1 B.2.2.2.1 (by decide) (by decide)) (K_X9_hasFault v92) (M_X9_hasFault (q_kap E) v92) (by exact fun v95 => (q_mo_br (M_X0_readRegisters_106 (q_kap E) (0 : Int32)) (M_X0_readRegisters_106 (q_kap E) (1 : Int32)))) h (fun v95 σ h => ?_)
      refine q_W.st (st' := [q_I v95]) rfl ?_
      refine q_if_ne (pc := 98) (tgt := 105) C dX0_readRegisters_98 (by decide) h (fun _ h => ?_) (fun _ h => ?_)
      · refine q_iconst (pc := 105) (v := (0 : Int32)) C dX0_readRegisters_105 (by decide) ?_
        refine q_W.sub [] rfl ?_
        exact S_X0_readRegisters_106 B hT (0 : Int32) _ h
      · refine q_iconst (pc := 101) (v := (1 : Int32)) C dX0_readRegisters_101 (by decide) ?_
        refine q_goto (pc := 102) (tgt := 106) C dX0_readRegisters_102 (by decide) ?_
        refine q_W.sub [] rfl ?_
        exact S_X0_readRegisters_106 B hT (1 : Int32) _ h
    · refine q_W.sub [0] rfl ?_
      exact S_X0_readRegisters_27 B hT l0 _ h
def F_X0_readRestOfKind_58 (κ : Nat → Nat) (s0 : Int32) : q_X Int32 :=
  q_rz s0
theorem M_X0_readRestOfKind_58 (κ : Nat → Nat) (s0 : Int32) : q_mo (F_X0_readRestOfKind_58 κ s0) := q_mo_rz
set_option maxRecDepth 100000 in
set_option maxHeartbeats 4000000 in
theorem S_X0_readRestOfKind_58 {E : q_Ev} {Γ : q_Gm} {w : (Int32 ⊕ q_Exn) × q_St} (B : q_Bd E Γ cX0_readRestOfKind yX0_readRestOfKind.cls 2 5 130 (some .boolean) yX0_readRestOfKind.name w) (hT : q_nT Γ) (s0 : Int32) (σ : q_St) (h : F_X0_readRestOfKind_58 (q_kap E) s0 σ = some w) : q_W E Γ (q_QF E Γ q_oI w) 2 σ 58 [] [q_I s0] := by
  have C := B.1
  unfold F_X0_readRestOfKind_58 at h
  exact q_zret C B.2.2.2.2.1 dX0_readRestOfKind_58 h
def F_X0_readRestOfKind (κ : Nat → Nat) (l0 : Option Nat) (l1 : Option Nat) : q_X Int32 :=
  q_rd (q_gI l1 5 0) fun v1 => q_br (¬ v1 = 0) (q_rd (q_gI l1 5 0) fun v14 => q_br (¬ v14 = (4 : Int32)) (q_rd (q_gA l0 3 0) fun v29 => q_rd (q_is v29 12) fun _ => q_ca (F_X9_takeNumber κ v29 (1 : Int64) (32 : Int64)) fun v36 => q_wr (q_pF l1 5 5 (.int v36.toInt32)) (q_rd (q_gA l0 3 0) fun v44 => q_rd (q_is v44 12) fun _ => q_ca (F_X9_hasFault κ v44) fun v47 => q_br (¬ v47 = 0) (F_X0_readRestOfKind_58 κ (0 : Int32)) (F_X0_readRestOfKind_58 κ (1 : Int32)))) (q_rd (q_is l0 3) fun _ => q_ca (F_X0_readMembers κ l0 l1) fun v23 => q_rz v23)) (q_rd (q_is l0 3) fun _ => q_ca (F_X0_readRegisters κ l0 l1) fun v9 => q_rz v9)
theorem M_X0_readRestOfKind (κ : Nat → Nat) (l0 : Option Nat) (l1 : Option Nat) : q_mo (F_X0_readRestOfKind κ l0 l1) := (q_mo_rd fun v1 => (q_mo_br (q_mo_rd fun v14 => (q_mo_br (q_mo_rd fun v29 => (q_mo_rd fun _ => q_mo_ca (M_X9_takeNumber κ v29 (1 : Int64) (32 : Int64)) fun v36 => (q_mo_wr (q_mo_rd fun v44 => (q_mo_rd fun _ => q_mo_ca (M_X9_hasFault κ v44) fun v47 => (q_mo_br (M_X0_readRestOfKind_58 κ (0 : Int32)) (M_X0_readRestOfKind_58 κ (1 : Int32)))))))) (q_mo_rd fun _ => q_mo_ca (M_X0_readMembers κ l0 l1) fun v23 => q_mo_rz))) (q_mo_rd fun _ => q_mo_ca (M_X0_readRegisters κ l0 l1) fun v9 => q_mo_rz)))
set_option maxRecDepth 100000 in
set_option maxHeartbeats 4000000 in
theorem K_X0_readRestOfKind {E : q_Ev} (l0 : Option Nat) (l1 : Option Nat) : q_Ct E yX0_readRestOfKind (.code yX0_readRestOfKind cX0_readRestOfKind 2 (some .boolean)) 5 130 [q_R l0, q_R l1] q_oI (F_X0_readRestOfKind (q_kap E) l0 l1) := by
  refine q_enter (by decide) (Nat.le_of_ble_eq_true rfl) (fun Γ σ w h B hT => ?_)
  have C := B.1
  unfold F_X0_readRestOfKind at h
  refine q_aload_n (pc := 0) C 1 rfl dX0_readRestOfKind_0 rfl ?_
  refine q_getI (pc := 1) C dX0_readRestOfKind_1 ql_X0_145 h (fun v1 h => ?_)
  refine q_if_ne (pc := 4) (tgt := 13) C dX0_readRestOfKind_4 (by decide) h (fun _ h => ?_) (fun _ h => ?_)
  · refine q_aload_n (pc := 13) C 1 rfl dX0_readRestOfKind_13 rfl ?_
    refine q_getI (pc := 14) C dX0_readRestOfKind_14 ql_X0_145 h (fun v14 h => ?_)
    refine q_iconst (pc := 17) (v := (4 : Int32)) C dX0_readRestOfKind_17 (by decide) ?_
    refine q_icmp_ne (pc := 18) (tgt := 27) C dX0_readRestOfKind_18 (by decide) h (fun _ h => ?_) (fun _ h => ?_)
    · refine q_aload_n (pc := 27) C 1 rfl dX0_readRestOfKind_27 rfl ?_
      refine q_aload_n (pc := 28) C 0 rfl dX0_readRestOfKind_28 rfl ?_
      refine q_getA (pc := 29) C dX0_readRestOfKind_29 ql_X0_15 h (fun v29 h => ?_)
      refine q_lconst (pc := 32) (v := (1 : Int64)) C dX0_readRestOfKind_32 (by decide) ?_
      refine q_ldc2 (pc := 33) (v := (32 : Int64)) C dX0_readRestOfKind_33 qc_X0_81 ?_
      refine q_callV (pc := 36) (As := [q_L (1 : Int64), q_L (32 : Int64)]) (st := [q_R l1]) (ps := q_psL) C B.2.1 hT q_hpL qm_X0_73 qv_X9_takeNumber dX0_readRestOfKind_36 rfl rfl (Nat.le_of_ble_eq_true rfl) (q_flo B.2.2.1 B.2.2.2.1 (by decide) (by decide)) (K_X9_takeNumber v29 (1 : Int64) (32 : Int64)) (M_X9_takeNumber (q_kap E) v29 (1 : Int64) (32 : Int64)) (by exact fun v36 => (q_mo_wr (q_mo_rd fun v44 => (q_mo_rd fun _ => q_mo_ca (M_X9_hasFault (q_kap E) v44) fun v47 => (q_mo_br (M_X0_readRestOfKind_58 (q_kap E) (0 : Int32)) (M_X0_readRestOfKind_58 (q_kap E) (1 : Int32))))))) h (fun v36 σ h => ?_)
      refine q_W.st (st' := [q_L v36, q_R l1]) rfl ?_
      refine q_l2i (pc := 39) C dX0_readRestOfKind_39 ?_
      refine q_putV (pc := 40) (v := q_I v36.toInt32) C dX0_readRestOfKind_40 ql_X0_154 (Or.inl rfl) rfl rfl h (fun M40 h => ?_)
      refine q_aload_n (pc := 43) C 0 rfl dX0_readRestOfKind_43 rfl ?_
      refine q_getA (pc := 44) C dX0_readRestOfKind_44 ql_X0_15 h (fun v44 h => ?_)
      refine q_callV (pc := 47) (As := []) (st := []) (ps := q_psI) C B.2.1 hT q_hpI qm_X0_55 qv_X9_hasFault dX0_readRestOfKind_47 rfl rfl (Nat.le_of_ble_eq_true rfl) (q_flo B.2.2.1 B.2.2.2.1 (by decide) (by decide)) (K_X9_hasFault v44) (M_X9_hasFault (q_kap E) v44) (by exact fun v47 => (q_mo_br (M_X0_readRestOfKind_58 (q_kap E) (0 : Int32)) (M_X0_readRestOfKind_58 (q_kap E) (1 : Int32)))) h (fun v47 σ h => ?_)
      refine q_W.st (st' := [q_I v47]) rfl ?_
      refine q_if_ne (pc := 50) (tgt := 57) C dX0_readRestOfKind_50 (by decide) h (fun _ h => ?_) (fun _ h => ?_)
      · refine q_iconst (pc := 57) (v := (0 : Int32)) C dX0_readRestOfKind_57 (by decide) ?_
        refine q_W.sub [] rfl ?_
        exact S_X0_readRestOfKind_58 B hT (0 : Int32) _ h
      · refine q_iconst (pc := 53) (v := (1 : Int32)) C dX0_readRestOfKind_53 (by decide) ?_
        refine q_goto (pc := 54) (tgt := 58) C dX0_readRestOfKind_54 (by decide) ?_
        refine q_W.sub [] rfl ?_
        exact S_X0_readRestOfKind_58 B hT (1 : Int32) _ h
    · refine q_aload_n (pc := 21) C 0 rfl dX0_readRestOfKind_21 rfl ?_
      refine q_aload_n (pc := 22) C 1 rfl dX0_readRestOfKind_22 rfl ?_
      refine q_callV (pc := 23) (As := [q_R l1]) (st := []) (ps := q_psI) C B.2.1 hT q_hpI qm_X0_151 qv_X0_readMembers dX0_readRestOfKind_23 rfl rfl (Nat.le_of_ble_eq_true rfl) (q_flo B.2.2.1 B.2.2.2.1 (by decide) (by decide)) (K_X0_readMembers l0 l1) (M_X0_readMembers (q_kap E) l0 l1) (by exact fun v23 => q_mo_rz) h (fun v23 σ h => ?_)
      refine q_W.st (st' := [q_I v23]) rfl ?_
      exact q_zret C B.2.2.2.2.1 dX0_readRestOfKind_26 h
  · refine q_aload_n (pc := 7) C 0 rfl dX0_readRestOfKind_7 rfl ?_
    refine q_aload_n (pc := 8) C 1 rfl dX0_readRestOfKind_8 rfl ?_
    refine q_callV (pc := 9) (As := [q_R l1]) (st := []) (ps := q_psI) C B.2.1 hT q_hpI qm_X0_148 qv_X0_readRegisters dX0_readRestOfKind_9 rfl rfl (Nat.le_of_ble_eq_true rfl) (q_flo B.2.2.1 B.2.2.2.1 (by decide) (by decide)) (K_X0_readRegisters l0 l1) (M_X0_readRegisters (q_kap E) l0 l1) (by exact fun v9 => q_mo_rz) h (fun v9 σ h => ?_)
    refine q_W.st (st' := [q_I v9]) rfl ?_
    exact q_zret C B.2.2.2.2.1 dX0_readRestOfKind_12 h
def F_X9_isAt_39 (κ : Nat → Nat) (s0 : Int32) : q_X Int32 :=
  q_rz s0
theorem M_X9_isAt_39 (κ : Nat → Nat) (s0 : Int32) : q_mo (F_X9_isAt_39 κ s0) := q_mo_rz
set_option maxRecDepth 100000 in
set_option maxHeartbeats 4000000 in
theorem S_X9_isAt_39 {E : q_Ev} {Γ : q_Gm} {w : (Int32 ⊕ q_Exn) × q_St} (B : q_Bd E Γ cX9_isAt yX9_isAt.cls 2 0 0 (some .boolean) yX9_isAt.name w) (hT : q_nT Γ) (s0 : Int32) (σ : q_St) (h : F_X9_isAt_39 (q_kap E) s0 σ = some w) : q_W E Γ (q_QF E Γ q_oI w) 2 σ 39 [] [q_I s0] := by
  have C := B.1
  unfold F_X9_isAt_39 at h
  exact q_zret C B.2.2.2.2.1 dX9_isAt_39 h
def F_X9_isAt_38 (κ : Nat → Nat) : q_X Int32 :=
  F_X9_isAt_39 κ (0 : Int32)
theorem M_X9_isAt_38 (κ : Nat → Nat) : q_mo (F_X9_isAt_38 κ) := (M_X9_isAt_39 κ (0 : Int32))
set_option maxRecDepth 100000 in
set_option maxHeartbeats 4000000 in
theorem S_X9_isAt_38 {E : q_Ev} {Γ : q_Gm} {w : (Int32 ⊕ q_Exn) × q_St} (B : q_Bd E Γ cX9_isAt yX9_isAt.cls 2 0 0 (some .boolean) yX9_isAt.name w) (hT : q_nT Γ) (σ : q_St) (h : F_X9_isAt_38 (q_kap E) σ = some w) : q_W E Γ (q_QF E Γ q_oI w) 2 σ 38 [] [] := by
  have C := B.1
  unfold F_X9_isAt_38 at h
  refine q_iconst (pc := 38) (v := (0 : Int32)) C dX9_isAt_38 (by decide) ?_
  exact S_X9_isAt_39 B hT (0 : Int32) _ h
def F_X9_isAt (κ : Nat → Nat) (l0 : Option Nat) (l1 : Int32) : q_X Int32 :=
  q_rd (q_gA l0 12 0) fun v1 => q_rd (q_gA v1 13 1) fun v4 => q_rd (q_gI l0 12 1) fun v8 => q_rd (q_lI 0 v4 v8) fun v11 => q_br (¬ v11 = (3 : Int32)) (F_X9_isAt_38 κ) (q_rd (q_gA l0 12 0) fun v17 => q_rd (q_gA v17 13 4) fun v20 => q_rd (q_gI l0 12 1) fun v24 => q_rd (q_lL v20 v24) fun v27 => q_br (¬ (lg_cmp v27 l1.toInt64) = 0) (F_X9_isAt_38 κ) (F_X9_isAt_39 κ (1 : Int32)))
theorem M_X9_isAt (κ : Nat → Nat) (l0 : Option Nat) (l1 : Int32) : q_mo (F_X9_isAt κ l0 l1) := (q_mo_rd fun v1 => (q_mo_rd fun v4 => (q_mo_rd fun v8 => (q_mo_rd fun v11 => (q_mo_br (M_X9_isAt_38 κ) (q_mo_rd fun v17 => (q_mo_rd fun v20 => (q_mo_rd fun v24 => (q_mo_rd fun v27 => (q_mo_br (M_X9_isAt_38 κ) (M_X9_isAt_39 κ (1 : Int32))))))))))))
set_option maxRecDepth 100000 in
set_option maxHeartbeats 4000000 in
theorem K_X9_isAt {E : q_Ev} (l0 : Option Nat) (l1 : Int32) : q_Ct E yX9_isAt (.code yX9_isAt cX9_isAt 2 (some .boolean)) 0 0 [q_R l0, q_I l1] q_oI (F_X9_isAt (q_kap E) l0 l1) := by
  refine q_enter (by decide) (Nat.le_of_ble_eq_true rfl) (fun Γ σ w h B hT => ?_)
  have C := B.1
  unfold F_X9_isAt at h
  refine q_aload_n (pc := 0) C 0 rfl dX9_isAt_0 rfl ?_
  refine q_getA (pc := 1) C dX9_isAt_1 ql_X9_18 h (fun v1 h => ?_)
  refine q_getA (pc := 4) C dX9_isAt_4 ql_X9_38 h (fun v4 h => ?_)
  refine q_aload_n (pc := 7) C 0 rfl dX9_isAt_7 rfl ?_
  refine q_getI (pc := 8) C dX9_isAt_8 ql_X9_28 h (fun v8 h => ?_)
  refine q_ldI (pc := 11) C dX9_isAt_11 (Or.inl ⟨rfl, rfl⟩) h (fun v11 h => ?_)
  refine q_iconst (pc := 12) (v := (3 : Int32)) C dX9_isAt_12 (by decide) ?_
  refine q_icmp_ne (pc := 13) (tgt := 38) C dX9_isAt_13 (by decide) h (fun _ h => ?_) (fun _ h => ?_)
  · refine q_W.sub [] rfl ?_
    exact S_X9_isAt_38 B hT _ h
  · refine q_aload_n (pc := 16) C 0 rfl dX9_isAt_16 rfl ?_
    refine q_getA (pc := 17) C dX9_isAt_17 ql_X9_18 h (fun v17 h => ?_)
    refine q_getA (pc := 20) C dX9_isAt_20 ql_X9_42 h (fun v20 h => ?_)
    refine q_aload_n (pc := 23) C 0 rfl dX9_isAt_23 rfl ?_
    refine q_getI (pc := 24) C dX9_isAt_24 ql_X9_28 h (fun v24 h => ?_)
    refine q_ldL (pc := 27) C dX9_isAt_27 h (fun v27 h => ?_)
    refine q_iload_n (pc := 28) C 1 rfl dX9_isAt_28 rfl ?_
    refine q_i2l (pc := 29) C dX9_isAt_29 ?_
    refine q_lcmp (pc := 30) C dX9_isAt_30 ?_
    refine q_if_ne (pc := 31) (tgt := 38) C dX9_isAt_31 (by decide) h (fun _ h => ?_) (fun _ h => ?_)
    · refine q_W.sub [] rfl ?_
      exact S_X9_isAt_38 B hT _ h
    · refine q_iconst (pc := 34) (v := (1 : Int32)) C dX9_isAt_34 (by decide) ?_
      refine q_goto (pc := 35) (tgt := 39) C dX9_isAt_35 (by decide) ?_
      refine q_W.sub [] rfl ?_
      exact S_X9_isAt_39 B hT (1 : Int32) _ h
def F_X9_take (κ : Nat → Nat) (l0 : Option Nat) (l1 : Int32) : q_X Int32 :=
  q_rd (q_is l0 12) fun _ => q_ca (F_X9_isAt κ l0 l1) fun v2 => q_br (¬ v2 = 0) (q_rd (q_gI l0 12 1) fun v16 => q_wr (q_pF l0 12 1 (.int (v16 + (1 : Int32)))) (q_rz (1 : Int32))) (q_rd (q_is l0 12) fun _ => q_ca (F_X9_fail κ l0 (1 : Int32)) fun v10 => q_rz v10)
theorem M_X9_take (κ : Nat → Nat) (l0 : Option Nat) (l1 : Int32) : q_mo (F_X9_take κ l0 l1) := (q_mo_rd fun _ => q_mo_ca (M_X9_isAt κ l0 l1) fun v2 => (q_mo_br (q_mo_rd fun v16 => (q_mo_wr q_mo_rz)) (q_mo_rd fun _ => q_mo_ca (M_X9_fail κ l0 (1 : Int32)) fun v10 => q_mo_rz)))
set_option maxRecDepth 100000 in
set_option maxHeartbeats 4000000 in
theorem K_X9_take {E : q_Ev} (l0 : Option Nat) (l1 : Int32) : q_Ct E yX9_take (.code yX9_take cX9_take 2 (some .boolean)) 1 21 [q_R l0, q_I l1] q_oI (F_X9_take (q_kap E) l0 l1) := by
  refine q_enter (by decide) (Nat.le_of_ble_eq_true rfl) (fun Γ σ w h B hT => ?_)
  have C := B.1
  unfold F_X9_take at h
  refine q_aload_n (pc := 0) C 0 rfl dX9_take_0 rfl ?_
  refine q_iload_n (pc := 1) C 1 rfl dX9_take_1 rfl ?_
  refine q_callV (pc := 2) (As := [q_I l1]) (st := []) (ps := q_psI) C B.2.1 hT q_hpI qm_X9_46 qv_X9_isAt dX9_take_2 rfl rfl (Nat.le_of_ble_eq_true rfl) (q_flo B.2.2.1 B.2.2.2.1 (by decide) (by decide)) (K_X9_isAt l0 l1) (M_X9_isAt (q_kap E) l0 l1) (by exact fun v2 => (q_mo_br (q_mo_rd fun v16 => (q_mo_wr q_mo_rz)) (q_mo_rd fun _ => q_mo_ca (M_X9_fail (q_kap E) l0 (1 : Int32)) fun v10 => q_mo_rz))) h (fun v2 σ h => ?_)
  refine q_W.st (st' := [q_I v2]) rfl ?_
  refine q_if_ne (pc := 5) (tgt := 14) C dX9_take_5 (by decide) h (fun _ h => ?_) (fun _ h => ?_)
  · refine q_aload_n (pc := 14) C 0 rfl dX9_take_14 rfl ?_
    refine q_dup (pc := 15) C dX9_take_15 rfl ?_
    refine q_getI (pc := 16) C dX9_take_16 ql_X9_28 h (fun v16 h => ?_)
    refine q_iconst (pc := 19) (v := (1 : Int32)) C dX9_take_19 (by decide) ?_
    refine q_iadd (pc := 20) C dX9_take_20 ?_
    refine q_putV (pc := 21) (v := q_I (v16 + (1 : Int32))) C dX9_take_21 ql_X9_28 (Or.inl rfl) rfl rfl h (fun M21 h => ?_)
    refine q_iconst (pc := 24) (v := (1 : Int32)) C dX9_take_24 (by decide) ?_
    exact q_zret C B.2.2.2.2.1 dX9_take_25 h
  · refine q_aload_n (pc := 8) C 0 rfl dX9_take_8 rfl ?_
    refine q_iconst (pc := 9) (v := (1 : Int32)) C dX9_take_9 (by decide) ?_
    refine q_callV (pc := 10) (As := [q_I (1 : Int32)]) (st := []) (ps := q_psI) C B.2.1 hT q_hpI qm_X9_50 qv_X9_fail dX9_take_10 rfl rfl (Nat.le_of_ble_eq_true rfl) (q_flo B.2.2.1 B.2.2.2.1 (by decide) (by decide)) (K_X9_fail l0 (1 : Int32)) (M_X9_fail (q_kap E) l0 (1 : Int32)) (by exact fun v10 => q_mo_rz) h (fun v10 σ h => ?_)
    refine q_W.st (st' := [q_I v10]) rfl ?_
    exact q_zret C B.2.2.2.2.1 dX9_take_13 h
def F_X5_addKind (κ : Nat → Nat) (l0 : Option Nat) (l1 : Option Nat) : q_X Unit :=
  q_rd (q_gA l0 8 0) fun v1 => q_rd (q_gI l0 8 3) fun v5 => q_wr (q_sT 5 5 v1 v5 l1) (q_rd (q_gI l0 8 3) fun v12 => q_wr (q_pF l0 8 3 (.int (v12 + (1 : Int32)))) (q_rt ()))
theorem M_X5_addKind (κ : Nat → Nat) (l0 : Option Nat) (l1 : Option Nat) : q_mo (F_X5_addKind κ l0 l1) := (q_mo_rd fun v1 => (q_mo_rd fun v5 => (q_mo_wr (q_mo_rd fun v12 => (q_mo_wr q_mo_rt)))))
theorem N_X5_addKind (κ : Nat → Nat) (l0 : Option Nat) (l1 : Option Nat) : q_ni (F_X5_addKind κ l0 l1) := (q_ni_rd fun v1 => (q_ni_rd fun v5 => (q_ni_wr (q_ni_rd fun v12 => (q_ni_wr q_ni_rt)))))
set_option maxRecDepth 100000 in
set_option maxHeartbeats 4000000 in
theorem K_X5_addKind {E : q_Ev} (l0 : Option Nat) (l1 : Option Nat) : q_Ct E yX5_addKind (.code yX5_addKind cX5_addKind 2 (none)) 0 0 [q_R l0, q_R l1] q_oV (F_X5_addKind (q_kap E) l0 l1) := by
  refine q_enter (by decide) (Nat.le_of_ble_eq_true rfl) (fun Γ σ w h B hT => ?_)
  have C := B.1
  unfold F_X5_addKind at h
  refine q_aload_n (pc := 0) C 0 rfl dX5_addKind_0 rfl ?_
  refine q_getA (pc := 1) C dX5_addKind_1 ql_X5_11 h (fun v1 h => ?_)
  refine q_aload_n (pc := 4) C 0 rfl dX5_addKind_4 rfl ?_
  refine q_getI (pc := 5) C dX5_addKind_5 ql_X5_27 h (fun v5 h => ?_)
  refine q_aload_n (pc := 8) C 1 rfl dX5_addKind_8 rfl ?_
  refine q_stA (pc := 9) (t := 5) (ci := 5) C dX5_addKind_9 rfl rfl (Or.inl rfl) h (fun M9 h => ?_)
  refine q_aload_n (pc := 10) C 0 rfl dX5_addKind_10 rfl ?_
  refine q_dup (pc := 11) C dX5_addKind_11 rfl ?_
  refine q_getI (pc := 12) C dX5_addKind_12 ql_X5_27 h (fun v12 h => ?_)
  refine q_iconst (pc := 15) (v := (1 : Int32)) C dX5_addKind_15 (by decide) ?_
  refine q_iadd (pc := 16) C dX5_addKind_16 ?_
  refine q_putV (pc := 17) (v := q_I (v12 + (1 : Int32))) C dX5_addKind_17 ql_X5_27 (Or.inl rfl) rfl rfl h (fun M17 h => ?_)
  exact q_vret C B.2.2.2.2.1 dX5_addKind_20 h
def F_X0_readKind_147 (κ : Nat → Nat) : q_X Unit :=
  q_rt ()
theorem M_X0_readKind_147 (κ : Nat → Nat) : q_mo (F_X0_readKind_147 κ) := q_mo_rt
theorem N_X0_readKind_147 (κ : Nat → Nat) : q_ni (F_X0_readKind_147 κ) := q_ni_rt
set_option maxRecDepth 100000 in
set_option maxHeartbeats 4000000 in
theorem S_X0_readKind_147 {E : q_Ev} {Γ : q_Gm} {w : (Unit ⊕ q_Exn) × q_St} (B : q_Bd E Γ cX0_readKind yX0_readKind.cls 3 6 151 (none) yX0_readKind.name w) (hT : q_nT Γ) (σ : q_St) (h : F_X0_readKind_147 (q_kap E) σ = some w) : q_W E Γ (q_QF E Γ q_oV w) 3 σ 147 [] [] := by
  have C := B.1
  unfold F_X0_readKind_147 at h
  exact q_vret C B.2.2.2.2.1 dX0_readKind_147 h
def F_X0_readKind (κ : Nat → Nat) (l0 : Option Nat) (l1 : Int32) : q_X Unit :=
  q_rd (q_gA l0 3 0) fun v1 => q_rd (q_is v1 12) fun _ => q_ca (F_X9_isAtName κ v1) fun v4 => q_br (¬ v4 = 0) (q_rd (q_gA l0 3 2) fun v23 => q_rd (q_gA l0 3 1) fun v27 => q_rd (q_gA l0 3 0) fun v31 => q_rd (q_gI v31 12 1) fun v34 => q_rd (q_is v23 8) fun _ => q_ca (F_X5_kindNamed κ v23 v27 v34) fun v37 => q_br (v37 = none) (q_rd (q_gA l0 3 2) fun v56 => q_rd (q_gI v56 8 3) fun v59 => q_br (¬ v59 = (40 : Int32)) (q_mk (.inr (.inl (5, [.int 0, .null, .null, .null, .int 0, .int 0]))) 6 fun a79 => q_mk (.inr (.inl (10, [.null]))) 1 fun a84 => q_rd (q_gA l0 3 1) fun v89 => q_rd (q_gA l0 3 0) fun v93 => q_rd (q_gI v93 12 1) fun v96 => q_gd (¬ (some a84) = none) (q_ca (F_X7_init κ (some a84) v89 v96) fun _v99 => q_gd (¬ (some a79) = none) (q_ca (F_X2_init κ (some a79) l1 (some a84)) fun _v102 => q_rd (q_gA l0 3 0) fun v107 => q_rd (q_gI v107 12 1) fun v111 => q_wr (q_pF v107 12 1 (.int (v111 + (1 : Int32)))) (q_rd (q_is l0 3) fun _ => q_ca (F_X0_readRestOfKind κ l0 (some a79)) fun v121 => q_br (v121 = 0) (F_X0_readKind_147 κ) (q_rd (q_gA l0 3 0) fun v128 => q_rd (q_is v128 12) fun _ => q_ca (F_X9_take κ v128 (59 : Int32)) fun v133 => q_br (v133 = 0) (F_X0_readKind_147 κ) (q_rd (q_gA l0 3 2) fun v140 => q_rd (q_is v140 8) fun _ => q_ca (F_X5_addKind κ v140 (some a79)) fun _v144 => F_X0_readKind_147 κ)))))) (q_rd (q_gA l0 3 0) fun v68 => q_rd (q_is v68 12) fun _ => q_ca (F_X9_fail κ v68 (3 : Int32)) fun v72 => F_X0_readKind_147 κ)) (q_rd (q_gA l0 3 0) fun v44 => q_rd (q_is v44 12) fun _ => q_ca (F_X9_fail κ v44 (2 : Int32)) fun v48 => F_X0_readKind_147 κ)) (q_rd (q_gA l0 3 0) fun v11 => q_rd (q_is v11 12) fun _ => q_ca (F_X9_fail κ v11 (1 : Int32)) fun v15 => F_X0_readKind_147 κ)
theorem M_X0_readKind (κ : Nat → Nat) (l0 : Option Nat) (l1 : Int32) : q_mo (F_X0_readKind κ l0 l1) := (q_mo_rd fun v1 => (q_mo_rd fun _ => q_mo_ca (M_X9_isAtName κ v1) fun v4 => (q_mo_br (q_mo_rd fun v23 => (q_mo_rd fun v27 => (q_mo_rd fun v31 => (q_mo_rd fun v34 => (q_mo_rd fun _ => q_mo_ca (M_X5_kindNamed κ v23 v27 v34) fun v37 => (q_mo_br (q_mo_rd fun v56 => (q_mo_rd fun v59 => (q_mo_br (q_mo_mk fun a79 => (q_mo_mk fun a84 => (q_mo_rd fun v89 => (q_mo_rd fun v93 => (q_mo_rd fun v96 => (q_mo_gd (q_mo_ca (M_X7_init κ (some a84) v89 v96) fun _v99 => (q_mo_gd (q_mo_ca (M_X2_init κ (some a79) l1 (some a84)) fun _v102 => (q_mo_rd fun v107 => (q_mo_rd fun v111 => (q_mo_wr (q_mo_rd fun _ => q_mo_ca (M_X0_readRestOfKind κ l0 (some a79)) fun v121 => (q_mo_br (M_X0_readKind_147 κ) (q_mo_rd fun v128 => (q_mo_rd fun _ => q_mo_ca (M_X9_take κ v128 (59 : Int32)) fun v133 => (q_mo_br (M_X0_readKind_147 κ) (q_mo_rd fun v140 => (q_mo_rd fun _ => q_mo_ca (M_X5_addKind κ v140 (some a79)) fun _v144 => (M_X0_readKind_147 κ)))))))))))))))))))) (q_mo_rd fun v68 => (q_mo_rd fun _ => q_mo_ca (M_X9_fail κ v68 (3 : Int32)) fun v72 => (M_X0_readKind_147 κ)))))) (q_mo_rd fun v44 => (q_mo_rd fun _ => q_mo_ca (M_X9_fail κ v44 (2 : Int32)) fun v48 => (M_X0_readKind_147 κ))))))))) (q_mo_rd fun v11 => (q_mo_rd fun _ => q_mo_ca (M_X9_fail κ v11 (1 : Int32)) fun v15 => (M_X0_readKind_147 κ))))))
set_option maxRecDepth 100000 in
set_option maxHeartbeats 4000000 in
theorem K_X0_readKind {E : q_Ev} (l0 : Option Nat) (l1 : Int32) : q_Ct E yX0_readKind (.code yX0_readKind cX0_readKind 3 (none)) 6 151 [q_R l0, q_I l1] q_oV (F_X0_readKind (q_kap E) l0 l1) := by
  refine q_enter (by decide) (Nat.le_of_ble_eq_true rfl) (fun Γ σ w h B hT => ?_)
  have C := B.1
  unfold F_X0_readKind at h
  refine q_aload_n (pc := 0) C 0 rfl dX0_readKind_0 rfl ?_
  refine q_getA (pc := 1) C dX0_readKind_1 ql_X0_15 h (fun v1 h => ?_)
  refine q_callV (pc := 4) (As := []) (st := []) (ps := q_psI) C B.2.1 hT q_hpI qm_X0_117 qv_X9_isAtName dX0_readKind_4 rfl rfl (Nat.le_of_ble_eq_true rfl) (q_flo B.2.2.1 B.2.2.2.1 (by decide) (by decide)) (K_X9_isAtName v1) (M_X9_isAtName (q_kap E) v1) (by exact fun v4 => (q_mo_br (q_mo_rd fun v23 => (q_mo_rd fun v27 => (q_mo_rd fun v31 => (q_mo_rd fun v34 => (q_mo_rd fun _ => q_mo_ca (M_X5_kindNamed (q_kap E) v23 v27 v34) fun v37 => (q_mo_br (q_mo_rd fun v56 => (q_mo_rd fun v59 => (q_mo_br (q_mo_mk fun a79 => (q_mo_mk fun a84 => (q_mo_rd fun v89 => (q_mo_rd fun v93 => (q_mo_rd fun v96 => (q_mo_gd (q_mo_ca (M_X7_init (q_kap E) (some a84) v89 v96) fun _v99 => (q_mo_gd (q_mo_ca (M_X2_init (q_kap E) (some a79) l1 (some a84)) fun _v102 => (q_mo_rd fun v107 => (q_mo_rd fun v111 => (q_mo_wr (q_mo_rd fun _ => q_mo_ca (M_X0_readRestOfKind (q_kap E) l0 (some a79)) fun v121 => (q_mo_br (M_X0_readKind_147 (q_kap E)) (q_mo_rd fun v128 => (q_mo_rd fun _ => q_mo_ca (M_X9_take (q_kap E) v128 (59 : Int32)) fun v133 => (q_mo_br (M_X0_readKind_147 (q_kap E)) (q_mo_rd fun v140 => (q_mo_rd fun _ => q_mo_ca (M_X5_addKind (q_kap E) v140 (some a79)) fun _v144 => (M_X0_readKind_147 (q_kap E))))))))))))))))))))) (q_mo_rd fun v68 => (q_mo_rd fun _ => q_mo_ca (M_X9_fail (q_kap E) v68 (3 : Int32)) fun v72 => (M_X0_readKind_147 (q_kap E))))))) (q_mo_rd fun v44 => (q_mo_rd fun _ => q_mo_ca (M_X9_fail (q_kap E) v44 (2 : Int32)) fun v48 => (M_X0_readKind_147 (q_kap E)))))))))) (q_mo_rd fun v11 => (q_mo_rd fun _ => q_mo_ca (M_X9_fail (q_kap E) v11 (1 : Int32)) fun v15 => (M_X0_readKind_147 (q_kap E)))))) h (fun v4 σ h => ?_)
  refine q_W.st (st' := [q_I v4]) rfl ?_
  refine q_if_ne (pc := 7) (tgt := 22) C dX0_readKind_7 (by decide) h (fun _ h => ?_) (fun _ h => ?_)
  · refine q_aload_n (pc := 22) C 0 rfl dX0_readKind_22 rfl ?_
    refine q_getA (pc := 23) C dX0_readKind_23 ql_X0_26 h (fun v23 h => ?_)
    refine q_aload_n (pc := 26) C 0 rfl dX0_readKind_26 rfl ?_
    refine q_getA (pc := 27) C dX0_readKind_27 ql_X0_25 h (fun v27 h => ?_)
    refine q_aload_n (pc := 30) C 0 rfl dX0_readKind_30 rfl ?_
    refine q_getA (pc := 31) C dX0_readKind_31 ql_X0_15 h (fun v31 h => ?_)
    refine q_getI (pc := 34) C dX0_readKind_34 ql_X0_58 h (fun v34 h => ?_)
    refine q_callV (pc := 37) (As := [q_R v27, q_I v34]) (st := []) (ps := q_psR) C B.2.1 hT q_hpR qm_X0_120 qv_X5_kindNamed dX0_readKind_37 rfl rfl (Nat.le_of_ble_eq_true rfl) (q_flo B.2.2.1 B.2.2.2.1 (by decide) (by decide)) (K_X5_kindNamed v23 v27 v34) (M_X5_kindNamed (q_kap E) v23 v27 v34) (by exact fun v37 => (q_mo_br (q_mo_rd fun v56 => (q_mo_rd fun v59 => (q_mo_br (q_mo_mk fun a79 => (q_mo_mk fun a84 => (q_mo_rd fun v89 => (q_mo_rd fun v93 => (q_mo_rd fun v96 => (q_mo_gd (q_mo_ca (M_X7_init (q_kap E) (some a84) v89 v96) fun _v99 => (q_mo_gd (q_mo_ca (M_X2_init (q_kap E) (some a79) l1 (some a84)) fun _v102 => (q_mo_rd fun v107 => (q_mo_rd fun v111 => (q_mo_wr (q_mo_rd fun _ => q_mo_ca (M_X0_readRestOfKind (q_kap E) l0 (some a79)) fun v121 => (q_mo_br (M_X0_readKind_147 (q_kap E)) (q_mo_rd fun v128 => (q_mo_rd fun _ => q_mo_ca (M_X9_take (q_kap E) v128 (59 : Int32)) fun v133 => (q_mo_br (M_X0_readKind_147 (q_kap E)) (q_mo_rd fun v140 => (q_mo_rd fun _ => q_mo_ca (M_X5_addKind (q_kap E) v140 (some a79)) fun _v144 => (M_X0_readKind_147 (q_kap E))))))))))))))))))))) (q_mo_rd fun v68 => (q_mo_rd fun _ => q_mo_ca (M_X9_fail (q_kap E) v68 (3 : Int32)) fun v72 => (M_X0_readKind_147 (q_kap E))))))) (q_mo_rd fun v44 => (q_mo_rd fun _ => q_mo_ca (M_X9_fail (q_kap E) v44 (2 : Int32)) fun v48 => (M_X0_readKind_147 (q_kap E)))))) h (fun v37 σ h => ?_)
    refine q_W.st (st' := [q_R v37]) rfl ?_
    refine q_ifnull (pc := 40) (tgt := 55) C dX0_readKind_40 (by decide) h (fun _ h => ?_) (fun _ h => ?_)
    · refine q_aload_n (pc := 55) C 0 rfl dX0_readKind_55 rfl ?_
      refine q_getA (pc := 56) C dX0_readKind_56 ql_X0_26 h (fun v56 h => ?_)
      refine q_getI (pc := 59) C dX0_readKind_59 ql_X0_124 h (fun v59 h => ?_)
      refine q_bipush (pc := 62) (v := (40 : Int32)) C dX0_readKind_62 (by decide) ?_
      refine q_icmp_ne (pc := 64) (tgt := 79) C dX0_readKind_64 (by decide) h (fun _ h => ?_) (fun _ h => ?_)
      · refine q_new (pc := 79) C dX0_readKind_79 qn_X0_127 (by exact fun a79 => (q_mo_mk fun a84 => (q_mo_rd fun v89 => (q_mo_rd fun v93 => (q_mo_rd fun v96 => (q_mo_gd (q_mo_ca (M_X7_init (q_kap E) (some a84) v89 v96) fun _v99 => (q_mo_gd (q_mo_ca (M_X2_init (q_kap E) (some a79) l1 (some a84)) fun _v102 => (q_mo_rd fun v107 => (q_mo_rd fun v111 => (q_mo_wr (q_mo_rd fun _ => q_mo_ca (M_X0_readRestOfKind (q_kap E) l0 (some a79)) fun v121 => (q_mo_br (M_X0_readKind_147 (q_kap E)) (q_mo_rd fun v128 => (q_mo_rd fun _ => q_mo_ca (M_X9_take (q_kap E) v128 (59 : Int32)) fun v133 => (q_mo_br (M_X0_readKind_147 (q_kap E)) (q_mo_rd fun v140 => (q_mo_rd fun _ => q_mo_ca (M_X5_addKind (q_kap E) v140 (some a79)) fun _v144 => (M_X0_readKind_147 (q_kap E))))))))))))))))))))) B.2.1 h (fun a79 σ h => ?_)
        refine q_dup (pc := 82) C dX0_readKind_82 rfl ?_
        refine q_iload_n (pc := 83) C 1 rfl dX0_readKind_83 rfl ?_
        refine q_new (pc := 84) C dX0_readKind_84 qn_X0_129 (by exact fun a84 => (q_mo_rd fun v89 => (q_mo_rd fun v93 => (q_mo_rd fun v96 => (q_mo_gd (q_mo_ca (M_X7_init (q_kap E) (some a84) v89 v96) fun _v99 => (q_mo_gd (q_mo_ca (M_X2_init (q_kap E) (some a79) l1 (some a84)) fun _v102 => (q_mo_rd fun v107 => (q_mo_rd fun v111 => (q_mo_wr (q_mo_rd fun _ => q_mo_ca (M_X0_readRestOfKind (q_kap E) l0 (some a79)) fun v121 => (q_mo_br (M_X0_readKind_147 (q_kap E)) (q_mo_rd fun v128 => (q_mo_rd fun _ => q_mo_ca (M_X9_take (q_kap E) v128 (59 : Int32)) fun v133 => (q_mo_br (M_X0_readKind_147 (q_kap E)) (q_mo_rd fun v140 => (q_mo_rd fun _ => q_mo_ca (M_X5_addKind (q_kap E) v140 (some a79)) fun _v144 => (M_X0_readKind_147 (q_kap E)))))))))))))))))))) B.2.1 h (fun a84 σ h => ?_)
        refine q_dup (pc := 87) C dX0_readKind_87 rfl ?_
        refine q_aload_n (pc := 88) C 0 rfl dX0_readKind_88 rfl ?_
        refine q_getA (pc := 89) C dX0_readKind_89 ql_X0_25 h (fun v89 h => ?_)
        refine q_aload_n (pc := 92) C 0 rfl dX0_readKind_92 rfl ?_
        refine q_getA (pc := 93) C dX0_readKind_93 ql_X0_15 h (fun v93 h => ?_)
        refine q_getI (pc := 96) C dX0_readKind_96 ql_X0_58 h (fun v96 h => ?_)
        refine q_callI (pc := 99) (As := [q_R v89, q_I v96]) (st := [q_R (some a84), q_I l1, q_R (some a79), q_R (some a79)]) C B.2.1 (fun _ => rfl) qm_X0_131 qI_X7_init dX0_readKind_99 rfl rfl (Nat.le_of_ble_eq_true rfl) (q_flo B.2.2.1 B.2.2.2.1 (by decide) (by decide)) (K_X7_init (some a84) v89 v96) (M_X7_init (q_kap E) (some a84) v89 v96) (N_X7_init (q_kap E) (some a84) v89 v96) (by exact fun _v99 => (q_mo_gd (q_mo_ca (M_X2_init (q_kap E) (some a79) l1 (some a84)) fun _v102 => (q_mo_rd fun v107 => (q_mo_rd fun v111 => (q_mo_wr (q_mo_rd fun _ => q_mo_ca (M_X0_readRestOfKind (q_kap E) l0 (some a79)) fun v121 => (q_mo_br (M_X0_readKind_147 (q_kap E)) (q_mo_rd fun v128 => (q_mo_rd fun _ => q_mo_ca (M_X9_take (q_kap E) v128 (59 : Int32)) fun v133 => (q_mo_br (M_X0_readKind_147 (q_kap E)) (q_mo_rd fun v140 => (q_mo_rd fun _ => q_mo_ca (M_X5_addKind (q_kap E) v140 (some a79)) fun _v144 => (M_X0_readKind_147 (q_kap E))))))))))))))) h (fun _v99 σ h => ?_)
        refine q_callI (pc := 102) (As := [q_I l1, q_R (some a84)]) (st := [q_R (some a79)]) C B.2.1 (fun _ => rfl) qm_X0_134 qI_X2_init dX0_readKind_102 rfl rfl (Nat.le_of_ble_eq_true rfl) (q_flo B.2.2.1 B.2.2.2.1 (by decide) (by decide)) (K_X2_init (some a79) l1 (some a84)) (M_X2_init (q_kap E) (some a79) l1 (some a84)) (N_X2_init (q_kap E) (some a79) l1 (some a84)) (by exact fun _v102 => (q_mo_rd fun v107 => (q_mo_rd fun v111 => (q_mo_wr (q_mo_rd fun _ => q_mo_ca (M_X0_readRestOfKind (q_kap E) l0 (some a79)) fun v121 => (q_mo_br (M_X0_readKind_147 (q_kap E)) (q_mo_rd fun v128 => (q_mo_rd fun _ => q_mo_ca (M_X9_take (q_kap E) v128 (59 : Int32)) fun v133 => (q_mo_br (M_X0_readKind_147 (q_kap E)) (q_mo_rd fun v140 => (q_mo_rd fun _ => q_mo_ca (M_X5_addKind (q_kap E) v140 (some a79)) fun _v144 => (M_X0_readKind_147 (q_kap E))))))))))))) h (fun _v102 σ h => ?_)
        refine q_astore_n (pc := 105) (l' := [(2, q_R (some a79)), (0, q_R l0), (1, q_I l1)]) C dX0_readKind_105 rfl (by decide) rfl ?_
        refine q_aload_n (pc := 106) C 1 rfl dX0_readKind_106 rfl ?_
        refine q_getA (pc := 107) C dX0_readKind_107 ql_X0_15 h (fun v107 h => ?_)
        refine q_dup (pc := 110) C dX0_readKind_110 rfl ?_
        refine q_getI (pc := 111) C dX0_readKind_111 ql_X0_58 h (fun v111 h => ?_)
        refine q_iconst (pc := 114) (v := (1 : Int32)) C dX0_readKind_114 (by decide) ?_
        refine q_iadd (pc := 115) C dX0_readKind_115 ?_
        refine q_putV (pc := 116) (v := q_I (v111 + (1 : Int32))) C dX0_readKind_116 ql_X0_58 (Or.inl rfl) rfl rfl h (fun M116 h => ?_)
        refine q_aload_n (pc := 119) C 1 rfl dX0_readKind_119 rfl ?_
        refine q_aload_n (pc := 120) C 0 rfl dX0_readKind_120 rfl ?_
        refine q_callV (pc := 121) (As := [q_R (some a79)]) (st := []) (ps := q_psI) C B.2.1 hT q_hpI qm_X0_137 qv_X0_readRestOfKind dX0_readKind_121 rfl rfl (Nat.le_of_ble_eq_true rfl) (q_flo B.2.2.1 B.2.2.2.1 (by decide) (by decide)) (K_X0_readRestOfKind l0 (some a79)) (M_X0_readRestOfKind (q_kap E) l0 (some a79)) (by exact fun v121 => (q_mo_br (M_X0_readKind_147 (q_kap E)) (q_mo_rd fun v128 => (q_mo_rd fun _ => q_mo_ca (M_X9_take (q_kap E) v128 (59 : Int32)) fun v133 => (q_mo_br (M_X0_readKind_147 (q_kap E)) (q_mo_rd fun v140 => (q_mo_rd fun _ => q_mo_ca (M_X5_addKind (q_kap E) v140 (some a79)) fun _v144 => (M_X0_readKind_147 (q_kap E))))))))) h (fun v121 σ h => ?_)
        refine q_W.st (st' := [q_I v121]) rfl ?_
        refine q_if_eq (pc := 124) (tgt := 147) C dX0_readKind_124 (by decide) h (fun _ h => ?_) (fun _ h => ?_)
        · refine q_W.sub [] rfl ?_
          exact S_X0_readKind_147 B hT _ h
        · refine q_aload_n (pc := 127) C 1 rfl dX0_readKind_127 rfl ?_
          refine q_getA (pc := 128) C dX0_readKind_128 ql_X0_15 h (fun v128 h => ?_)
          refine q_bipush (pc := 131) (v := (59 : Int32)) C dX0_readKind_131 (by decide) ?_
          refine q_callV (pc := 133) (As := [q_I (59 : Int32)]) (st := []) (ps := q_psI) C B.2.1 hT q_hpI qm_X0_87 qv_X9_take dX0_readKind_133 rfl rfl (Nat.le_of_ble_eq_true rfl) (q_flo B.2.2.1 B.2.2.2.1 (by decide) (by decide)) (K_X9_take v128 (59 : Int32)) (M_X9_take (q_kap E) v128 (59 : Int32)) (by exact fun v133 => (q_mo_br (M_X0_readKind_147 (q_kap E)) (q_mo_rd fun v140 => (q_mo_rd fun _ => q_mo_ca (M_X5_addKind (q_kap E) v140 (some a79)) fun _v144 => (M_X0_readKind_147 (q_kap E)))))) h (fun v133 σ h => ?_)
          refine q_W.st (st' := [q_I v133]) rfl ?_
          refine q_if_eq (pc := 136) (tgt := 147) C dX0_readKind_136 (by decide) h (fun _ h => ?_) (fun _ h => ?_)
          · refine q_W.sub [] rfl ?_
            exact S_X0_readKind_147 B hT _ h
          · refine q_aload_n (pc := 139) C 1 rfl dX0_readKind_139 rfl ?_
            refine q_getA (pc := 140) C dX0_readKind_140 ql_X0_26 h (fun v140 h => ?_)
            refine q_aload_n (pc := 143) C 0 rfl dX0_readKind_143 rfl ?_
            refine q_callV (pc := 144) (As := [q_R (some a79)]) (st := []) (ps := q_psV) C B.2.1 hT q_hpV qm_X0_141 qv_X5_addKind dX0_readKind_144 rfl rfl (Nat.le_of_ble_eq_true rfl) (q_flo B.2.2.1 B.2.2.2.1 (by decide) (by decide)) (K_X5_addKind v140 (some a79)) (M_X5_addKind (q_kap E) v140 (some a79)) (by exact fun _v144 => (M_X0_readKind_147 (q_kap E))) h (fun _v144 σ h => ?_)
            refine q_W.st (st' := []) rfl ?_
            refine q_W.sub [] rfl ?_
            exact S_X0_readKind_147 B hT _ h
      · refine q_aload_n (pc := 67) C 0 rfl dX0_readKind_67 rfl ?_
        refine q_getA (pc := 68) C dX0_readKind_68 ql_X0_15 h (fun v68 h => ?_)
        refine q_iconst (pc := 71) (v := (3 : Int32)) C dX0_readKind_71 (by decide) ?_
        refine q_callV (pc := 72) (As := [q_I (3 : Int32)]) (st := []) (ps := q_psI) C B.2.1 hT q_hpI qm_X0_67 qv_X9_fail dX0_readKind_72 rfl rfl (Nat.le_of_ble_eq_true rfl) (q_flo B.2.2.1 B.2.2.2.1 (by decide) (by decide)) (K_X9_fail v68 (3 : Int32)) (M_X9_fail (q_kap E) v68 (3 : Int32)) (by exact fun v72 => (M_X0_readKind_147 (q_kap E))) h (fun v72 σ h => ?_)
        refine q_W.st (st' := [q_I v72]) rfl ?_
        refine q_pop (pc := 75) C dX0_readKind_75 rfl ?_
        refine q_goto (pc := 76) (tgt := 147) C dX0_readKind_76 (by decide) ?_
        refine q_W.sub [] rfl ?_
        exact S_X0_readKind_147 B hT _ h
    · refine q_aload_n (pc := 43) C 0 rfl dX0_readKind_43 rfl ?_
      refine q_getA (pc := 44) C dX0_readKind_44 ql_X0_15 h (fun v44 h => ?_)
      refine q_iconst (pc := 47) (v := (2 : Int32)) C dX0_readKind_47 (by decide) ?_
      refine q_callV (pc := 48) (As := [q_I (2 : Int32)]) (st := []) (ps := q_psI) C B.2.1 hT q_hpI qm_X0_67 qv_X9_fail dX0_readKind_48 rfl rfl (Nat.le_of_ble_eq_true rfl) (q_flo B.2.2.1 B.2.2.2.1 (by decide) (by decide)) (K_X9_fail v44 (2 : Int32)) (M_X9_fail (q_kap E) v44 (2 : Int32)) (by exact fun v48 => (M_X0_readKind_147 (q_kap E))) h (fun v48 σ h => ?_)
      refine q_W.st (st' := [q_I v48]) rfl ?_
      refine q_pop (pc := 51) C dX0_readKind_51 rfl ?_
      refine q_goto (pc := 52) (tgt := 147) C dX0_readKind_52 (by decide) ?_
      refine q_W.sub [] rfl ?_
      exact S_X0_readKind_147 B hT _ h
  · refine q_aload_n (pc := 10) C 0 rfl dX0_readKind_10 rfl ?_
    refine q_getA (pc := 11) C dX0_readKind_11 ql_X0_15 h (fun v11 h => ?_)
    refine q_iconst (pc := 14) (v := (1 : Int32)) C dX0_readKind_14 (by decide) ?_
    refine q_callV (pc := 15) (As := [q_I (1 : Int32)]) (st := []) (ps := q_psI) C B.2.1 hT q_hpI qm_X0_67 qv_X9_fail dX0_readKind_15 rfl rfl (Nat.le_of_ble_eq_true rfl) (q_flo B.2.2.1 B.2.2.2.1 (by decide) (by decide)) (K_X9_fail v11 (1 : Int32)) (M_X9_fail (q_kap E) v11 (1 : Int32)) (by exact fun v15 => (M_X0_readKind_147 (q_kap E))) h (fun v15 σ h => ?_)
    refine q_W.st (st' := [q_I v15]) rfl ?_
    refine q_pop (pc := 18) C dX0_readKind_18 rfl ?_
    refine q_goto (pc := 19) (tgt := 147) C dX0_readKind_19 (by decide) ?_
    refine q_W.sub [] rfl ?_
    exact S_X0_readKind_147 B hT _ h
def F_X0_hasEachBitOnce_58 (κ : Nat → Nat) (r15 : Option Nat → Int32 → Int32 → q_X Int32) (l0 : Option Nat) (l2 : Int32) (s0 : Int32) (s1 : Int32) : q_X Int32 :=
  r15 l0 (s0 &&& s1) (l2 + (1 : Int32))
theorem M_X0_hasEachBitOnce_58 (κ : Nat → Nat) (r15 : Option Nat → Int32 → Int32 → q_X Int32) (mr15 : ∀ (l0 : Option Nat) (l1 : Int32) (l2 : Int32), q_mo (r15 l0 l1 l2)) (l0 : Option Nat) (l2 : Int32) (s0 : Int32) (s1 : Int32) : q_mo (F_X0_hasEachBitOnce_58 κ r15 l0 l2 s0 s1) := (mr15 l0 (s0 &&& s1) (l2 + (1 : Int32)))
set_option maxRecDepth 100000 in
set_option maxHeartbeats 4000000 in
theorem S_X0_hasEachBitOnce_58 {E : q_Ev} {Γ : q_Gm} {w : (Int32 ⊕ q_Exn) × q_St} (B : q_Bd E Γ cX0_hasEachBitOnce yX0_hasEachBitOnce.cls 3 0 0 (some .boolean) yX0_hasEachBitOnce.name w) (hT : q_nT Γ) (r15 : Option Nat → Int32 → Int32 → q_X Int32) (hr15 : ∀ (l0 : Option Nat) (l1 : Int32) (l2 : Int32) (σ : q_St), r15 l0 l1 l2 σ = some w → q_W E Γ (q_QF E Γ q_oI w) 3 σ 15 [(0, q_R l0), (1, q_I l1), (2, q_I l2)] []) (mr15 : ∀ (l0 : Option Nat) (l1 : Int32) (l2 : Int32), q_mo (r15 l0 l1 l2)) (l0 : Option Nat) (l2 : Int32) (s0 : Int32) (s1 : Int32) (σ : q_St) (h : F_X0_hasEachBitOnce_58 (q_kap E) r15 l0 l2 s0 s1 σ = some w) : q_W E Γ (q_QF E Γ q_oI w) 3 σ 58 [(0, q_R l0), (2, q_I l2)] [q_I s1, q_I s0] := by
  have C := B.1
  unfold F_X0_hasEachBitOnce_58 at h
  refine q_iand (pc := 58) C dX0_hasEachBitOnce_58 ?_
  refine q_istore_n (pc := 59) (l' := [(1, q_I (s0 &&& s1)), (0, q_R l0), (2, q_I l2)]) C dX0_hasEachBitOnce_59 rfl (by decide) rfl ?_
  refine q_iinc (pc := 60) (v := (1 : Int32)) (l' := [(2, q_I (l2 + (1 : Int32))), (1, q_I (s0 &&& s1)), (0, q_R l0)]) C 2 rfl dX0_hasEachBitOnce_60 (by decide) (by decide) rfl ?_
  refine q_goto (pc := 63) (tgt := 15) C dX0_hasEachBitOnce_63 (by decide) ?_
  refine q_W.sub [2, 1, 0] rfl ?_
  exact hr15 l0 (s0 &&& s1) (l2 + (1 : Int32)) _ h
def F_X0_hasEachBitOnce_15B (κ : Nat → Nat) (r15 : Option Nat → Int32 → Int32 → q_X Int32) (l0 : Option Nat) (l1 : Int32) (l2 : Int32) : q_X Int32 :=
  q_rd (q_gA l0 3 3) fun v17 => q_rd (q_gI v17 4 8) fun v20 => q_br (v20 ≤ l2) (q_rz l1) (q_rd (q_gA l0 3 5) fun v28 => q_rd (q_lL v28 l2) fun v32 => q_rd (q_gA l0 3 3) fun v35 => q_rd (q_gA v35 4 3) fun v38 => q_rd (q_lA 5 v38 l2) fun v42 => q_rd (q_gI v42 5 5) fun v43 => q_br (¬ (lg_cmp v32 (((1 : Int64) <<< (v43.toInt64 &&& 63)) - (1 : Int64))) = 0) (F_X0_hasEachBitOnce_58 κ r15 l0 l2 l1 (0 : Int32)) (F_X0_hasEachBitOnce_58 κ r15 l0 l2 l1 (1 : Int32)))
theorem M_X0_hasEachBitOnce_15B (κ : Nat → Nat) (r15 : Option Nat → Int32 → Int32 → q_X Int32) (mr15 : ∀ (l0 : Option Nat) (l1 : Int32) (l2 : Int32), q_mo (r15 l0 l1 l2)) (l0 : Option Nat) (l1 : Int32) (l2 : Int32) : q_mo (F_X0_hasEachBitOnce_15B κ r15 l0 l1 l2) := (q_mo_rd fun v17 => (q_mo_rd fun v20 => (q_mo_br q_mo_rz (q_mo_rd fun v28 => (q_mo_rd fun v32 => (q_mo_rd fun v35 => (q_mo_rd fun v38 => (q_mo_rd fun v42 => (q_mo_rd fun v43 => (q_mo_br (M_X0_hasEachBitOnce_58 κ r15 mr15 l0 l2 l1 (0 : Int32)) (M_X0_hasEachBitOnce_58 κ r15 mr15 l0 l2 l1 (1 : Int32))))))))))))
set_option maxRecDepth 100000 in
set_option maxHeartbeats 4000000 in
theorem S_X0_hasEachBitOnce_15B {E : q_Ev} {Γ : q_Gm} {w : (Int32 ⊕ q_Exn) × q_St} (B : q_Bd E Γ cX0_hasEachBitOnce yX0_hasEachBitOnce.cls 3 0 0 (some .boolean) yX0_hasEachBitOnce.name w) (hT : q_nT Γ) (r15 : Option Nat → Int32 → Int32 → q_X Int32) (hr15 : ∀ (l0 : Option Nat) (l1 : Int32) (l2 : Int32) (σ : q_St), r15 l0 l1 l2 σ = some w → q_W E Γ (q_QF E Γ q_oI w) 3 σ 15 [(0, q_R l0), (1, q_I l1), (2, q_I l2)] []) (mr15 : ∀ (l0 : Option Nat) (l1 : Int32) (l2 : Int32), q_mo (r15 l0 l1 l2)) (l0 : Option Nat) (l1 : Int32) (l2 : Int32) (σ : q_St) (h : F_X0_hasEachBitOnce_15B (q_kap E) r15 l0 l1 l2 σ = some w) : q_W E Γ (q_QF E Γ q_oI w) 3 σ 15 [(0, q_R l0), (1, q_I l1), (2, q_I l2)] [] := by
  have C := B.1
  unfold F_X0_hasEachBitOnce_15B at h
  refine q_iload_n (pc := 15) C 2 rfl dX0_hasEachBitOnce_15 rfl ?_
  refine q_aload_n (pc := 16) C 0 rfl dX0_hasEachBitOnce_16 rfl ?_
  refine q_getA (pc := 17) C dX0_hasEachBitOnce_17 ql_X0_186 h (fun v17 h => ?_)
  refine q_getI (pc := 20) C dX0_hasEachBitOnce_20 ql_X0_209 h (fun v20 h => ?_)
  refine q_icmp_ge (pc := 23) (tgt := 66) C dX0_hasEachBitOnce_23 (by decide) h (fun _ h => ?_) (fun _ h => ?_)
  · refine q_iload_n (pc := 66) C 1 rfl dX0_hasEachBitOnce_66 rfl ?_
    exact q_zret C B.2.2.2.2.1 dX0_hasEachBitOnce_67 h
  · refine q_iload_n (pc := 26) C 1 rfl dX0_hasEachBitOnce_26 rfl ?_
    refine q_aload_n (pc := 27) C 0 rfl dX0_hasEachBitOnce_27 rfl ?_
    refine q_getA (pc := 28) C dX0_hasEachBitOnce_28 ql_X0_9 h (fun v28 h => ?_)
    refine q_iload_n (pc := 31) C 2 rfl dX0_hasEachBitOnce_31 rfl ?_
    refine q_ldL (pc := 32) C dX0_hasEachBitOnce_32 h (fun v32 h => ?_)
    refine q_lconst (pc := 33) (v := (1 : Int64)) C dX0_hasEachBitOnce_33 (by decide) ?_
    refine q_aload_n (pc := 34) C 0 rfl dX0_hasEachBitOnce_34 rfl ?_
    refine q_getA (pc := 35) C dX0_hasEachBitOnce_35 ql_X0_186 h (fun v35 h => ?_)
    refine q_getA (pc := 38) C dX0_hasEachBitOnce_38 ql_X0_269 h (fun v38 h => ?_)
    refine q_iload_n (pc := 41) C 2 rfl dX0_hasEachBitOnce_41 rfl ?_
    refine q_ldA (pc := 42) C dX0_hasEachBitOnce_42 ⟨_, rfl⟩ h (fun v42 h => ?_)
    refine q_getI (pc := 43) C dX0_hasEachBitOnce_43 ql_X0_154 h (fun v43 h => ?_)
    refine q_lshl (pc := 46) C dX0_hasEachBitOnce_46 ?_
    refine q_lconst (pc := 47) (v := (1 : Int64)) C dX0_hasEachBitOnce_47 (by decide) ?_
    refine q_lsub (pc := 48) C dX0_hasEachBitOnce_48 ?_
    refine q_lcmp (pc := 49) C dX0_hasEachBitOnce_49 ?_
    refine q_if_ne (pc := 50) (tgt := 57) C dX0_hasEachBitOnce_50 (by decide) h (fun _ h => ?_) (fun _ h => ?_)
    · refine q_iconst (pc := 57) (v := (0 : Int32)) C dX0_hasEachBitOnce_57 (by decide) ?_
      refine q_W.sub [0, 2] rfl ?_
      exact S_X0_hasEachBitOnce_58 B hT r15 hr15 mr15 l0 l2 l1 (0 : Int32) _ h
    · refine q_iconst (pc := 53) (v := (1 : Int32)) C dX0_hasEachBitOnce_53 (by decide) ?_
      refine q_goto (pc := 54) (tgt := 58) C dX0_hasEachBitOnce_54 (by decide) ?_
      refine q_W.sub [0, 2] rfl ?_
      exact S_X0_hasEachBitOnce_58 B hT r15 hr15 mr15 l0 l2 l1 (1 : Int32) _ h
def F_X0_hasEachBitOnce_15 (κ : Nat → Nat) : Nat → Option Nat → Int32 → Int32 → q_X Int32
  | 0, _, _, _ => q_no
  | n + 1, l0, l1, l2 => F_X0_hasEachBitOnce_15B κ (F_X0_hasEachBitOnce_15 κ n) l0 l1 l2
theorem M_X0_hasEachBitOnce_15 (κ : Nat → Nat) : ∀ (n : Nat) (l0 : Option Nat) (l1 : Int32) (l2 : Int32), q_mo (F_X0_hasEachBitOnce_15 κ n l0 l1 l2)
  | 0, _, _, _ => q_mo_no
  | n + 1, l0, l1, l2 => M_X0_hasEachBitOnce_15B κ (F_X0_hasEachBitOnce_15 κ n) (M_X0_hasEachBitOnce_15 κ n) l0 l1 l2
theorem S_X0_hasEachBitOnce_15 {E : q_Ev} {Γ : q_Gm} {w : (Int32 ⊕ q_Exn) × q_St} (B : q_Bd E Γ cX0_hasEachBitOnce yX0_hasEachBitOnce.cls 3 0 0 (some .boolean) yX0_hasEachBitOnce.name w) (hT : q_nT Γ) : ∀ (n : Nat) (l0 : Option Nat) (l1 : Int32) (l2 : Int32) (σ : q_St), F_X0_hasEachBitOnce_15 (q_kap E) n l0 l1 l2 σ = some w → q_W E Γ (q_QF E Γ q_oI w) 3 σ 15 [(0, q_R l0), (1, q_I l1), (2, q_I l2)] []
  | 0, _, _, _, _, h => by cases h
  | n + 1, l0, l1, l2, σ, h => S_X0_hasEachBitOnce_15B B hT (F_X0_hasEachBitOnce_15 (q_kap E) n) (S_X0_hasEachBitOnce_15 B hT n) (M_X0_hasEachBitOnce_15 (q_kap E) n) l0 l1 l2 σ h
def F_X0_hasEachBitOnce_12 (κ : Nat → Nat) (l0 : Option Nat) (s0 : Int32) : q_X Int32 :=
  F_X0_hasEachBitOnce_15 κ q_fu l0 s0 (0 : Int32)
theorem M_X0_hasEachBitOnce_12 (κ : Nat → Nat) (l0 : Option Nat) (s0 : Int32) : q_mo (F_X0_hasEachBitOnce_12 κ l0 s0) := (M_X0_hasEachBitOnce_15 κ q_fu l0 s0 (0 : Int32))
set_option maxRecDepth 100000 in
set_option maxHeartbeats 4000000 in
theorem S_X0_hasEachBitOnce_12 {E : q_Ev} {Γ : q_Gm} {w : (Int32 ⊕ q_Exn) × q_St} (B : q_Bd E Γ cX0_hasEachBitOnce yX0_hasEachBitOnce.cls 3 0 0 (some .boolean) yX0_hasEachBitOnce.name w) (hT : q_nT Γ) (l0 : Option Nat) (s0 : Int32) (σ : q_St) (h : F_X0_hasEachBitOnce_12 (q_kap E) l0 s0 σ = some w) : q_W E Γ (q_QF E Γ q_oI w) 3 σ 12 [(0, q_R l0)] [q_I s0] := by
  have C := B.1
  unfold F_X0_hasEachBitOnce_12 at h
  refine q_istore_n (pc := 12) (l' := [(1, q_I s0), (0, q_R l0)]) C dX0_hasEachBitOnce_12 rfl (by decide) rfl ?_
  refine q_iconst (pc := 13) (v := (0 : Int32)) C dX0_hasEachBitOnce_13 (by decide) ?_
  refine q_istore_n (pc := 14) (l' := [(2, q_I (0 : Int32)), (1, q_I s0), (0, q_R l0)]) C dX0_hasEachBitOnce_14 rfl (by decide) rfl ?_
  refine q_W.sub [2, 1, 0] rfl ?_
  exact S_X0_hasEachBitOnce_15 B hT q_fu l0 s0 (0 : Int32) _ h
def F_X0_hasEachBitOnce (κ : Nat → Nat) (l0 : Option Nat) : q_X Int32 :=
  q_rd (q_gI l0 3 6) fun v1 => q_br (¬ v1 = 0) (F_X0_hasEachBitOnce_12 κ l0 (0 : Int32)) (F_X0_hasEachBitOnce_12 κ l0 (1 : Int32))
theorem M_X0_hasEachBitOnce (κ : Nat → Nat) (l0 : Option Nat) : q_mo (F_X0_hasEachBitOnce κ l0) := (q_mo_rd fun v1 => (q_mo_br (M_X0_hasEachBitOnce_12 κ l0 (0 : Int32)) (M_X0_hasEachBitOnce_12 κ l0 (1 : Int32))))
set_option maxRecDepth 100000 in
set_option maxHeartbeats 4000000 in
theorem K_X0_hasEachBitOnce {E : q_Ev} (l0 : Option Nat) : q_Ct E yX0_hasEachBitOnce (.code yX0_hasEachBitOnce cX0_hasEachBitOnce 3 (some .boolean)) 0 0 [q_R l0] q_oI (F_X0_hasEachBitOnce (q_kap E) l0) := by
  refine q_enter (by decide) (Nat.le_of_ble_eq_true rfl) (fun Γ σ w h B hT => ?_)
  have C := B.1
  unfold F_X0_hasEachBitOnce at h
  refine q_aload_n (pc := 0) C 0 rfl dX0_hasEachBitOnce_0 rfl ?_
  refine q_getI (pc := 1) C dX0_hasEachBitOnce_1 ql_X0_250 h (fun v1 h => ?_)
  refine q_if_ne (pc := 4) (tgt := 11) C dX0_hasEachBitOnce_4 (by decide) h (fun _ h => ?_) (fun _ h => ?_)
  · refine q_iconst (pc := 11) (v := (0 : Int32)) C dX0_hasEachBitOnce_11 (by decide) ?_
    exact S_X0_hasEachBitOnce_12 B hT l0 (0 : Int32) _ h
  · refine q_iconst (pc := 7) (v := (1 : Int32)) C dX0_hasEachBitOnce_7 (by decide) ?_
    refine q_goto (pc := 8) (tgt := 12) C dX0_hasEachBitOnce_8 (by decide) ?_
    exact S_X0_hasEachBitOnce_12 B hT l0 (1 : Int32) _ h
def F_X0_closeWord_109 (κ : Nat → Nat) : q_X Unit :=
  q_rt ()
theorem M_X0_closeWord_109 (κ : Nat → Nat) : q_mo (F_X0_closeWord_109 κ) := q_mo_rt
theorem N_X0_closeWord_109 (κ : Nat → Nat) : q_ni (F_X0_closeWord_109 κ) := q_ni_rt
set_option maxRecDepth 100000 in
set_option maxHeartbeats 4000000 in
theorem S_X0_closeWord_109 {E : q_Ev} {Γ : q_Gm} {w : (Unit ⊕ q_Exn) × q_St} (B : q_Bd E Γ cX0_closeWord yX0_closeWord.cls 2 1 22 (none) yX0_closeWord.name w) (hT : q_nT Γ) (σ : q_St) (h : F_X0_closeWord_109 (q_kap E) σ = some w) : q_W E Γ (q_QF E Γ q_oV w) 2 σ 109 [] [] := by
  have C := B.1
  unfold F_X0_closeWord_109 at h
  exact q_vret C B.2.2.2.2.1 dX0_closeWord_109 h
def F_X0_closeWord_78 (κ : Nat → Nat) (l0 : Option Nat) : q_X Unit :=
  q_rd (q_gA l0 3 3) fun v79 => q_rd (q_gI v79 4 9) fun v83 => q_wr (q_pF v79 4 9 (.int (v83 + (1 : Int32)))) (q_wr (q_pF l0 3 4 (.int (0 : Int32))) (q_rd (q_gA l0 3 0) fun v97 => q_rd (q_gI v97 12 1) fun v101 => q_wr (q_pF v97 12 1 (.int (v101 + (1 : Int32)))) (F_X0_closeWord_109 κ)))
theorem M_X0_closeWord_78 (κ : Nat → Nat) (l0 : Option Nat) : q_mo (F_X0_closeWord_78 κ l0) := (q_mo_rd fun v79 => (q_mo_rd fun v83 => (q_mo_wr (q_mo_wr (q_mo_rd fun v97 => (q_mo_rd fun v101 => (q_mo_wr (M_X0_closeWord_109 κ))))))))
theorem N_X0_closeWord_78 (κ : Nat → Nat) (l0 : Option Nat) : q_ni (F_X0_closeWord_78 κ l0) := (q_ni_rd fun v79 => (q_ni_rd fun v83 => (q_ni_wr (q_ni_wr (q_ni_rd fun v97 => (q_ni_rd fun v101 => (q_ni_wr (N_X0_closeWord_109 κ))))))))
set_option maxRecDepth 100000 in
set_option maxHeartbeats 4000000 in
theorem S_X0_closeWord_78 {E : q_Ev} {Γ : q_Gm} {w : (Unit ⊕ q_Exn) × q_St} (B : q_Bd E Γ cX0_closeWord yX0_closeWord.cls 2 1 22 (none) yX0_closeWord.name w) (hT : q_nT Γ) (l0 : Option Nat) (σ : q_St) (h : F_X0_closeWord_78 (q_kap E) l0 σ = some w) : q_W E Γ (q_QF E Γ q_oV w) 2 σ 78 [(0, q_R l0)] [] := by
  have C := B.1
  unfold F_X0_closeWord_78 at h
  refine q_aload_n (pc := 78) C 0 rfl dX0_closeWord_78 rfl ?_
  refine q_getA (pc := 79) C dX0_closeWord_79 ql_X0_186 h (fun v79 h => ?_)
  refine q_dup (pc := 82) C dX0_closeWord_82 rfl ?_
  refine q_getI (pc := 83) C dX0_closeWord_83 ql_X0_263 h (fun v83 h => ?_)
  refine q_iconst (pc := 86) (v := (1 : Int32)) C dX0_closeWord_86 (by decide) ?_
  refine q_iadd (pc := 87) C dX0_closeWord_87 ?_
  refine q_putV (pc := 88) (v := q_I (v83 + (1 : Int32))) C dX0_closeWord_88 ql_X0_263 (Or.inl rfl) rfl rfl h (fun M88 h => ?_)
  refine q_aload_n (pc := 91) C 0 rfl dX0_closeWord_91 rfl ?_
  refine q_iconst (pc := 92) (v := (0 : Int32)) C dX0_closeWord_92 (by decide) ?_
  refine q_putV (pc := 93) (v := q_I (0 : Int32)) C dX0_closeWord_93 ql_X0_241 (Or.inl rfl) rfl rfl h (fun M93 h => ?_)
  refine q_aload_n (pc := 96) C 0 rfl dX0_closeWord_96 rfl ?_
  refine q_getA (pc := 97) C dX0_closeWord_97 ql_X0_15 h (fun v97 h => ?_)
  refine q_dup (pc := 100) C dX0_closeWord_100 rfl ?_
  refine q_getI (pc := 101) C dX0_closeWord_101 ql_X0_58 h (fun v101 h => ?_)
  refine q_iconst (pc := 104) (v := (1 : Int32)) C dX0_closeWord_104 (by decide) ?_
  refine q_iadd (pc := 105) C dX0_closeWord_105 ?_
  refine q_putV (pc := 106) (v := q_I (v101 + (1 : Int32))) C dX0_closeWord_106 ql_X0_58 (Or.inl rfl) rfl rfl h (fun M106 h => ?_)
  refine q_W.sub [] rfl ?_
  exact S_X0_closeWord_109 B hT _ h
def F_X0_closeWord_29 (κ : Nat → Nat) (l0 : Option Nat) (l1 : Int32) : q_X Unit :=
  q_rd (q_gI l0 3 4) fun v30 => q_rd (q_gA l0 3 2) fun v34 => q_rd (q_gI v34 8 2) fun v37 => q_br (v30 = v37) (q_br (¬ l1 = 0) (F_X0_closeWord_78 κ l0) (q_rd (q_is l0 3) fun _ => q_ca (F_X0_hasEachBitOnce κ l0) fun v60 => q_br (¬ v60 = 0) (F_X0_closeWord_78 κ l0) (q_rd (q_gA l0 3 0) fun v67 => q_rd (q_is v67 12) fun _ => q_ca (F_X9_fail κ v67 (5 : Int32)) fun v71 => F_X0_closeWord_109 κ))) (q_rd (q_gA l0 3 0) fun v44 => q_rd (q_is v44 12) fun _ => q_ca (F_X9_fail κ v44 (4 : Int32)) fun v48 => F_X0_closeWord_109 κ)
theorem M_X0_closeWord_29 (κ : Nat → Nat) (l0 : Option Nat) (l1 : Int32) : q_mo (F_X0_closeWord_29 κ l0 l1) := (q_mo_rd fun v30 => (q_mo_rd fun v34 => (q_mo_rd fun v37 => (q_mo_br (q_mo_br (M_X0_closeWord_78 κ l0) (q_mo_rd fun _ => q_mo_ca (M_X0_hasEachBitOnce κ l0) fun v60 => (q_mo_br (M_X0_closeWord_78 κ l0) (q_mo_rd fun v67 => (q_mo_rd fun _ => q_mo_ca (M_X9_fail κ v67 (5 : Int32)) fun v71 => (M_X0_closeWord_109 κ)))))) (q_mo_rd fun v44 => (q_mo_rd fun _ => q_mo_ca (M_X9_fail κ v44 (4 : Int32)) fun v48 => (M_X0_closeWord_109 κ)))))))
set_option maxRecDepth 100000 in
set_option maxHeartbeats 4000000 in
theorem S_X0_closeWord_29 {E : q_Ev} {Γ : q_Gm} {w : (Unit ⊕ q_Exn) × q_St} (B : q_Bd E Γ cX0_closeWord yX0_closeWord.cls 2 1 22 (none) yX0_closeWord.name w) (hT : q_nT Γ) (l0 : Option Nat) (l1 : Int32) (σ : q_St) (h : F_X0_closeWord_29 (q_kap E) l0 l1 σ = some w) : q_W E Γ (q_QF E Γ q_oV w) 2 σ 29 [(0, q_R l0), (1, q_I l1)] [] := by
  have C := B.1
  unfold F_X0_closeWord_29 at h
  refine q_aload_n (pc := 29) C 0 rfl dX0_closeWord_29 rfl ?_
  refine q_getI (pc := 30) C dX0_closeWord_30 ql_X0_241 h (fun v30 h => ?_)
  refine q_aload_n (pc := 33) C 0 rfl dX0_closeWord_33 rfl ?_
  refine q_getA (pc := 34) C dX0_closeWord_34 ql_X0_26 h (fun v34 h => ?_)
  refine q_getI (pc := 37) C dX0_closeWord_37 ql_X0_91 h (fun v37 h => ?_)
  refine q_icmp_eq (pc := 40) (tgt := 55) C dX0_closeWord_40 (by decide) h (fun _ h => ?_) (fun _ h => ?_)
  · refine q_iload_n (pc := 55) C 1 rfl dX0_closeWord_55 rfl ?_
    refine q_if_ne (pc := 56) (tgt := 78) C dX0_closeWord_56 (by decide) h (fun _ h => ?_) (fun _ h => ?_)
    · refine q_W.sub [0] rfl ?_
      exact S_X0_closeWord_78 B hT l0 _ h
    · refine q_aload_n (pc := 59) C 0 rfl dX0_closeWord_59 rfl ?_
      refine q_callV (pc := 60) (As := []) (st := []) (ps := q_psI) C B.2.1 hT q_hpI qm_X0_266 qv_X0_hasEachBitOnce dX0_closeWord_60 rfl rfl (Nat.le_of_ble_eq_true rfl) (q_flo B.2.2.1 B.2.2.2.1 (by decide) (by decide)) (K_X0_hasEachBitOnce l0) (M_X0_hasEachBitOnce (q_kap E) l0) (by exact fun v60 => (q_mo_br (M_X0_closeWord_78 (q_kap E) l0) (q_mo_rd fun v67 => (q_mo_rd fun _ => q_mo_ca (M_X9_fail (q_kap E) v67 (5 : Int32)) fun v71 => (M_X0_closeWord_109 (q_kap E)))))) h (fun v60 σ h => ?_)
      refine q_W.st (st' := [q_I v60]) rfl ?_
      refine q_if_ne (pc := 63) (tgt := 78) C dX0_closeWord_63 (by decide) h (fun _ h => ?_) (fun _ h => ?_)
      · refine q_W.sub [0] rfl ?_
        exact S_X0_closeWord_78 B hT l0 _ h
      · refine q_aload_n (pc := 66) C 0 rfl dX0_closeWord_66 rfl ?_
        refine q_getA (pc := 67) C dX0_closeWord_67 ql_X0_15 h (fun v67 h => ?_)
        refine q_iconst (pc := 70) (v := (5 : Int32)) C dX0_closeWord_70 (by decide) ?_
        refine q_callV (pc := 71) (As := [q_I (5 : Int32)]) (st := []) (ps := q_psI) C B.2.1 hT q_hpI qm_X0_67 qv_X9_fail dX0_closeWord_71 rfl rfl (Nat.le_of_ble_eq_true rfl) (q_flo B.2.2.1 B.2.2.2.1 (by decide) (by decide)) (K_X9_fail v67 (5 : Int32)) (M_X9_fail (q_kap E) v67 (5 : Int32)) (by exact fun v71 => (M_X0_closeWord_109 (q_kap E))) h (fun v71 σ h => ?_)
        refine q_W.st (st' := [q_I v71]) rfl ?_
        refine q_pop (pc := 74) C dX0_closeWord_74 rfl ?_
        refine q_goto (pc := 75) (tgt := 109) C dX0_closeWord_75 (by decide) ?_
        refine q_W.sub [] rfl ?_
        exact S_X0_closeWord_109 B hT _ h
  · refine q_aload_n (pc := 43) C 0 rfl dX0_closeWord_43 rfl ?_
    refine q_getA (pc := 44) C dX0_closeWord_44 ql_X0_15 h (fun v44 h => ?_)
    refine q_iconst (pc := 47) (v := (4 : Int32)) C dX0_closeWord_47 (by decide) ?_
    refine q_callV (pc := 48) (As := [q_I (4 : Int32)]) (st := []) (ps := q_psI) C B.2.1 hT q_hpI qm_X0_67 qv_X9_fail dX0_closeWord_48 rfl rfl (Nat.le_of_ble_eq_true rfl) (q_flo B.2.2.1 B.2.2.2.1 (by decide) (by decide)) (K_X9_fail v44 (4 : Int32)) (M_X9_fail (q_kap E) v44 (4 : Int32)) (by exact fun v48 => (M_X0_closeWord_109 (q_kap E))) h (fun v48 σ h => ?_)
    refine q_W.st (st' := [q_I v48]) rfl ?_
    refine q_pop (pc := 51) C dX0_closeWord_51 rfl ?_
    refine q_goto (pc := 52) (tgt := 109) C dX0_closeWord_52 (by decide) ?_
    refine q_W.sub [] rfl ?_
    exact S_X0_closeWord_109 B hT _ h
def F_X0_closeWord (κ : Nat → Nat) (l0 : Option Nat) (l1 : Int32) : q_X Unit :=
  q_br (l1 = 0) (F_X0_closeWord_29 κ l0 l1) (q_rd (q_gA l0 3 3) fun v5 => q_rd (q_gI v5 4 9) fun v8 => q_br (¬ (v8 + (1 : Int32)) = (4 : Int32)) (F_X0_closeWord_29 κ l0 l1) (q_rd (q_gA l0 3 0) fun v18 => q_rd (q_is v18 12) fun _ => q_ca (F_X9_fail κ v18 (3 : Int32)) fun v22 => F_X0_closeWord_109 κ))
theorem M_X0_closeWord (κ : Nat → Nat) (l0 : Option Nat) (l1 : Int32) : q_mo (F_X0_closeWord κ l0 l1) := (q_mo_br (M_X0_closeWord_29 κ l0 l1) (q_mo_rd fun v5 => (q_mo_rd fun v8 => (q_mo_br (M_X0_closeWord_29 κ l0 l1) (q_mo_rd fun v18 => (q_mo_rd fun _ => q_mo_ca (M_X9_fail κ v18 (3 : Int32)) fun v22 => (M_X0_closeWord_109 κ)))))))
set_option maxRecDepth 100000 in
set_option maxHeartbeats 4000000 in
theorem K_X0_closeWord {E : q_Ev} (l0 : Option Nat) (l1 : Int32) : q_Ct E yX0_closeWord (.code yX0_closeWord cX0_closeWord 2 (none)) 1 22 [q_R l0, q_I l1] q_oV (F_X0_closeWord (q_kap E) l0 l1) := by
  refine q_enter (by decide) (Nat.le_of_ble_eq_true rfl) (fun Γ σ w h B hT => ?_)
  have C := B.1
  unfold F_X0_closeWord at h
  refine q_iload_n (pc := 0) C 1 rfl dX0_closeWord_0 rfl ?_
  refine q_if_eq (pc := 1) (tgt := 29) C dX0_closeWord_1 (by decide) h (fun _ h => ?_) (fun _ h => ?_)
  · exact S_X0_closeWord_29 B hT l0 l1 _ h
  · refine q_aload_n (pc := 4) C 0 rfl dX0_closeWord_4 rfl ?_
    refine q_getA (pc := 5) C dX0_closeWord_5 ql_X0_186 h (fun v5 h => ?_)
    refine q_getI (pc := 8) C dX0_closeWord_8 ql_X0_263 h (fun v8 h => ?_)
    refine q_iconst (pc := 11) (v := (1 : Int32)) C dX0_closeWord_11 (by decide) ?_
    refine q_iadd (pc := 12) C dX0_closeWord_12 ?_
    refine q_iconst (pc := 13) (v := (4 : Int32)) C dX0_closeWord_13 (by decide) ?_
    refine q_icmp_ne (pc := 14) (tgt := 29) C dX0_closeWord_14 (by decide) h (fun _ h => ?_) (fun _ h => ?_)
    · exact S_X0_closeWord_29 B hT l0 l1 _ h
    · refine q_aload_n (pc := 17) C 0 rfl dX0_closeWord_17 rfl ?_
      refine q_getA (pc := 18) C dX0_closeWord_18 ql_X0_15 h (fun v18 h => ?_)
      refine q_iconst (pc := 21) (v := (3 : Int32)) C dX0_closeWord_21 (by decide) ?_
      refine q_callV (pc := 22) (As := [q_I (3 : Int32)]) (st := []) (ps := q_psI) C B.2.1 hT q_hpI qm_X0_67 qv_X9_fail dX0_closeWord_22 rfl rfl (Nat.le_of_ble_eq_true rfl) (q_flo B.2.2.1 B.2.2.2.1 (by decide) (by decide)) (K_X9_fail v18 (3 : Int32)) (M_X9_fail (q_kap E) v18 (3 : Int32)) (by exact fun v22 => (M_X0_closeWord_109 (q_kap E))) h (fun v22 σ h => ?_)
      refine q_W.st (st' := [q_I v22]) rfl ?_
      refine q_pop (pc := 25) C dX0_closeWord_25 rfl ?_
      refine q_goto (pc := 26) (tgt := 109) C dX0_closeWord_26 (by decide) ?_
      refine q_W.sub [] rfl ?_
      exact S_X0_closeWord_109 B hT _ h
def F_X1_putOperandBit (κ : Nat → Nat) (l0 : Option Nat) (l1 : Int32) (l2 : Int32) (l3 : Int32) : q_X Unit :=
  q_rd (q_gA l0 4 6) fun v1 => q_rd (q_gI l0 4 9) fun v5 => q_wr (q_sI 1 v1 ((v5 * (32 : Int32)) + l1) (((1 : Int32) + (l2 * (32 : Int32))) + l3)) (q_rt ())
theorem M_X1_putOperandBit (κ : Nat → Nat) (l0 : Option Nat) (l1 : Int32) (l2 : Int32) (l3 : Int32) : q_mo (F_X1_putOperandBit κ l0 l1 l2 l3) := (q_mo_rd fun v1 => (q_mo_rd fun v5 => (q_mo_wr q_mo_rt)))
theorem N_X1_putOperandBit (κ : Nat → Nat) (l0 : Option Nat) (l1 : Int32) (l2 : Int32) (l3 : Int32) : q_ni (F_X1_putOperandBit κ l0 l1 l2 l3) := (q_ni_rd fun v1 => (q_ni_rd fun v5 => (q_ni_wr q_ni_rt)))
set_option maxRecDepth 100000 in
set_option maxHeartbeats 4000000 in
theorem K_X1_putOperandBit {E : q_Ev} (l0 : Option Nat) (l1 : Int32) (l2 : Int32) (l3 : Int32) : q_Ct E yX1_putOperandBit (.code yX1_putOperandBit cX1_putOperandBit 4 (none)) 0 0 [q_R l0, q_I l1, q_I l2, q_I l3] q_oV (F_X1_putOperandBit (q_kap E) l0 l1 l2 l3) := by
  refine q_enter (by decide) (Nat.le_of_ble_eq_true rfl) (fun Γ σ w h B hT => ?_)
  have C := B.1
  unfold F_X1_putOperandBit at h
  refine q_aload_n (pc := 0) C 0 rfl dX1_putOperandBit_0 rfl ?_
  refine q_getA (pc := 1) C dX1_putOperandBit_1 ql_X1_34 h (fun v1 h => ?_)
  refine q_aload_n (pc := 4) C 0 rfl dX1_putOperandBit_4 rfl ?_
  refine q_getI (pc := 5) C dX1_putOperandBit_5 ql_X1_56 h (fun v5 h => ?_)
  refine q_bipush (pc := 8) (v := (32 : Int32)) C dX1_putOperandBit_8 (by decide) ?_
  refine q_imul (pc := 10) C dX1_putOperandBit_10 ?_
  refine q_iload_n (pc := 11) C 1 rfl dX1_putOperandBit_11 rfl ?_
  refine q_iadd (pc := 12) C dX1_putOperandBit_12 ?_
  refine q_iconst (pc := 13) (v := (1 : Int32)) C dX1_putOperandBit_13 (by decide) ?_
  refine q_iload_n (pc := 14) C 2 rfl dX1_putOperandBit_14 rfl ?_
  refine q_bipush (pc := 15) (v := (32 : Int32)) C dX1_putOperandBit_15 (by decide) ?_
  refine q_imul (pc := 17) C dX1_putOperandBit_17 ?_
  refine q_iadd (pc := 18) C dX1_putOperandBit_18 ?_
  refine q_iload_n (pc := 19) C 3 rfl dX1_putOperandBit_19 rfl ?_
  refine q_iadd (pc := 20) C dX1_putOperandBit_20 ?_
  refine q_stI (pc := 21) C dX1_putOperandBit_21 h (fun M21 h => ?_)
  exact q_vret C B.2.2.2.2.1 dX1_putOperandBit_22 h
def F_X0_putPiece_73 (κ : Nat → Nat) (r3 : Option Nat → Int32 → Int32 → Int32 → q_X Unit) (l0 : Option Nat) (l1 : Int32) (l3 : Int32) (l4 : Int32) (s0 : Option Nat) (s1 : Int32) (s2 : Int32) : q_X Unit :=
  q_gd ((s1 ||| s2) = 0 ∨ (s1 ||| s2) = 1) (q_wr (q_pF s0 3 6 (.int (s1 ||| s2))) (q_rd (q_gA l0 3 5) fun v78 => q_rd (q_lL v78 l1) fun v83 => q_wr (q_sL v78 l1 (v83 ||| ((1 : Int64) <<< (l4.toInt64 &&& 63)))) (q_rd (q_gI l0 3 4) fun v92 => q_wr (q_pF l0 3 4 (.int (v92 + (1 : Int32)))) (r3 l0 l1 l3 (l4 + (-1 : Int32))))))
theorem M_X0_putPiece_73 (κ : Nat → Nat) (r3 : Option Nat → Int32 → Int32 → Int32 → q_X Unit) (mr3 : ∀ (l0 : Option Nat) (l1 : Int32) (l3 : Int32) (l4 : Int32), q_mo (r3 l0 l1 l3 l4)) (l0 : Option Nat) (l1 : Int32) (l3 : Int32) (l4 : Int32) (s0 : Option Nat) (s1 : Int32) (s2 : Int32) : q_mo (F_X0_putPiece_73 κ r3 l0 l1 l3 l4 s0 s1 s2) := (q_mo_gd (q_mo_wr (q_mo_rd fun v78 => (q_mo_rd fun v83 => (q_mo_wr (q_mo_rd fun v92 => (q_mo_wr (mr3 l0 l1 l3 (l4 + (-1 : Int32))))))))))
set_option maxRecDepth 100000 in
set_option maxHeartbeats 4000000 in
theorem S_X0_putPiece_73 {E : q_Ev} {Γ : q_Gm} {w : (Unit ⊕ q_Exn) × q_St} (B : q_Bd E Γ cX0_putPiece yX0_putPiece.cls 5 1 23 (none) yX0_putPiece.name w) (hT : q_nT Γ) (r3 : Option Nat → Int32 → Int32 → Int32 → q_X Unit) (hr3 : ∀ (l0 : Option Nat) (l1 : Int32) (l3 : Int32) (l4 : Int32) (σ : q_St), r3 l0 l1 l3 l4 σ = some w → q_W E Γ (q_QF E Γ q_oV w) 5 σ 3 [(0, q_R l0), (1, q_I l1), (3, q_I l3), (4, q_I l4)] []) (mr3 : ∀ (l0 : Option Nat) (l1 : Int32) (l3 : Int32) (l4 : Int32), q_mo (r3 l0 l1 l3 l4)) (l0 : Option Nat) (l1 : Int32) (l3 : Int32) (l4 : Int32) (s0 : Option Nat) (s1 : Int32) (s2 : Int32) (σ : q_St) (h : F_X0_putPiece_73 (q_kap E) r3 l0 l1 l3 l4 s0 s1 s2 σ = some w) : q_W E Γ (q_QF E Γ q_oV w) 5 σ 73 [(0, q_R l0), (1, q_I l1), (3, q_I l3), (4, q_I l4)] [q_I s2, q_I s1, q_R s0] := by
  have C := B.1
  unfold F_X0_putPiece_73 at h
  refine q_ior (pc := 73) C dX0_putPiece_73 ?_
  obtain ⟨g74, h⟩ := q_gd_e h
  refine q_putV (pc := 74) (v := q_I (s1 ||| s2)) C dX0_putPiece_74 ql_X0_250 (Or.inl rfl) (by rcases g74 with g | g <;> rw [g] <;> rfl) (by rcases g74 with g | g <;> rw [g] <;> rfl) h (fun M74 h => ?_)
  refine q_aload_n (pc := 77) C 0 rfl dX0_putPiece_77 rfl ?_
  refine q_getA (pc := 78) C dX0_putPiece_78 ql_X0_9 h (fun v78 h => ?_)
  refine q_iload_n (pc := 81) C 1 rfl dX0_putPiece_81 rfl ?_
  refine q_dup2_11 (pc := 82) C dX0_putPiece_82 rfl rfl ?_
  refine q_ldL (pc := 83) C dX0_putPiece_83 h (fun v83 h => ?_)
  refine q_lconst (pc := 84) (v := (1 : Int64)) C dX0_putPiece_84 (by decide) ?_
  refine q_iload (pc := 85) C 3 rfl dX0_putPiece_85 ?_
  refine q_lshl (pc := 87) C dX0_putPiece_87 ?_
  refine q_lor (pc := 88) C dX0_putPiece_88 ?_
  refine q_stL (pc := 89) C dX0_putPiece_89 h (fun M89 h => ?_)
  refine q_aload_n (pc := 90) C 0 rfl dX0_putPiece_90 rfl ?_
  refine q_dup (pc := 91) C dX0_putPiece_91 rfl ?_
  refine q_getI (pc := 92) C dX0_putPiece_92 ql_X0_241 h (fun v92 h => ?_)
  refine q_iconst (pc := 95) (v := (1 : Int32)) C dX0_putPiece_95 (by decide) ?_
  refine q_iadd (pc := 96) C dX0_putPiece_96 ?_
  refine q_putV (pc := 97) (v := q_I (v92 + (1 : Int32))) C dX0_putPiece_97 ql_X0_241 (Or.inl rfl) rfl rfl h (fun M97 h => ?_)
  refine q_iinc (pc := 100) (v := (-1 : Int32)) (l' := [(4, q_I (l4 + (-1 : Int32))), (0, q_R l0), (1, q_I l1), (3, q_I l3)]) C 3 rfl dX0_putPiece_100 (by decide) (by decide) rfl ?_
  refine q_goto (pc := 103) (tgt := 3) C dX0_putPiece_103 (by decide) ?_
  refine q_W.sub [1, 2, 3, 0] rfl ?_
  exact hr3 l0 l1 l3 (l4 + (-1 : Int32)) _ h
def F_X0_putPiece_47 (κ : Nat → Nat) (r3 : Option Nat → Int32 → Int32 → Int32 → q_X Unit) (l0 : Option Nat) (l1 : Int32) (l3 : Int32) (l4 : Int32) : q_X Unit :=
  q_rd (q_gI l0 3 6) fun v49 => q_rd (q_gA l0 3 5) fun v53 => q_rd (q_lL v53 l1) fun v57 => q_br ((lg_cmp ((v57 >>> (l4.toInt64 &&& 63)) &&& (1 : Int64)) (0 : Int64)) = 0) (F_X0_putPiece_73 κ r3 l0 l1 l3 l4 l0 v49 (0 : Int32)) (F_X0_putPiece_73 κ r3 l0 l1 l3 l4 l0 v49 (1 : Int32))
theorem M_X0_putPiece_47 (κ : Nat → Nat) (r3 : Option Nat → Int32 → Int32 → Int32 → q_X Unit) (mr3 : ∀ (l0 : Option Nat) (l1 : Int32) (l3 : Int32) (l4 : Int32), q_mo (r3 l0 l1 l3 l4)) (l0 : Option Nat) (l1 : Int32) (l3 : Int32) (l4 : Int32) : q_mo (F_X0_putPiece_47 κ r3 l0 l1 l3 l4) := (q_mo_rd fun v49 => (q_mo_rd fun v53 => (q_mo_rd fun v57 => (q_mo_br (M_X0_putPiece_73 κ r3 mr3 l0 l1 l3 l4 l0 v49 (0 : Int32)) (M_X0_putPiece_73 κ r3 mr3 l0 l1 l3 l4 l0 v49 (1 : Int32))))))
set_option maxRecDepth 100000 in
set_option maxHeartbeats 4000000 in
theorem S_X0_putPiece_47 {E : q_Ev} {Γ : q_Gm} {w : (Unit ⊕ q_Exn) × q_St} (B : q_Bd E Γ cX0_putPiece yX0_putPiece.cls 5 1 23 (none) yX0_putPiece.name w) (hT : q_nT Γ) (r3 : Option Nat → Int32 → Int32 → Int32 → q_X Unit) (hr3 : ∀ (l0 : Option Nat) (l1 : Int32) (l3 : Int32) (l4 : Int32) (σ : q_St), r3 l0 l1 l3 l4 σ = some w → q_W E Γ (q_QF E Γ q_oV w) 5 σ 3 [(0, q_R l0), (1, q_I l1), (3, q_I l3), (4, q_I l4)] []) (mr3 : ∀ (l0 : Option Nat) (l1 : Int32) (l3 : Int32) (l4 : Int32), q_mo (r3 l0 l1 l3 l4)) (l0 : Option Nat) (l1 : Int32) (l3 : Int32) (l4 : Int32) (σ : q_St) (h : F_X0_putPiece_47 (q_kap E) r3 l0 l1 l3 l4 σ = some w) : q_W E Γ (q_QF E Γ q_oV w) 5 σ 47 [(0, q_R l0), (1, q_I l1), (3, q_I l3), (4, q_I l4)] [] := by
  have C := B.1
  unfold F_X0_putPiece_47 at h
  refine q_aload_n (pc := 47) C 0 rfl dX0_putPiece_47 rfl ?_
  refine q_dup (pc := 48) C dX0_putPiece_48 rfl ?_
  refine q_getI (pc := 49) C dX0_putPiece_49 ql_X0_250 h (fun v49 h => ?_)
  refine q_aload_n (pc := 52) C 0 rfl dX0_putPiece_52 rfl ?_
  refine q_getA (pc := 53) C dX0_putPiece_53 ql_X0_9 h (fun v53 h => ?_)
  refine q_iload_n (pc := 56) C 1 rfl dX0_putPiece_56 rfl ?_
  refine q_ldL (pc := 57) C dX0_putPiece_57 h (fun v57 h => ?_)
  refine q_iload (pc := 58) C 3 rfl dX0_putPiece_58 ?_
  refine q_lshr (pc := 60) C dX0_putPiece_60 ?_
  refine q_lconst (pc := 61) (v := (1 : Int64)) C dX0_putPiece_61 (by decide) ?_
  refine q_land (pc := 62) C dX0_putPiece_62 ?_
  refine q_lconst (pc := 63) (v := (0 : Int64)) C dX0_putPiece_63 (by decide) ?_
  refine q_lcmp (pc := 64) C dX0_putPiece_64 ?_
  refine q_if_eq (pc := 65) (tgt := 72) C dX0_putPiece_65 (by decide) h (fun _ h => ?_) (fun _ h => ?_)
  · refine q_iconst (pc := 72) (v := (0 : Int32)) C dX0_putPiece_72 (by decide) ?_
    exact S_X0_putPiece_73 B hT r3 hr3 mr3 l0 l1 l3 l4 l0 v49 (0 : Int32) _ h
  · refine q_iconst (pc := 68) (v := (1 : Int32)) C dX0_putPiece_68 (by decide) ?_
    refine q_goto (pc := 69) (tgt := 73) C dX0_putPiece_69 (by decide) ?_
    exact S_X0_putPiece_73 B hT r3 hr3 mr3 l0 l1 l3 l4 l0 v49 (1 : Int32) _ h
def F_X0_putPiece_3B (κ : Nat → Nat) (r3 : Option Nat → Int32 → Int32 → Int32 → q_X Unit) (l0 : Option Nat) (l1 : Int32) (l3 : Int32) (l4 : Int32) : q_X Unit :=
  q_br (l4 < l3) (q_rt ()) (q_rd (q_gI l0 3 4) fun v10 => q_rd (q_gA l0 3 2) fun v14 => q_rd (q_gI v14 8 2) fun v17 => q_br (v17 ≤ v10) (F_X0_putPiece_47 κ r3 l0 l1 l3 l4) (q_rd (q_gA l0 3 3) fun v24 => q_rd (q_gA l0 3 2) fun v28 => q_rd (q_gI v28 8 2) fun v31 => q_rd (q_gI l0 3 4) fun v37 => q_rd (q_is v24 4) fun _ => q_ca (F_X1_putOperandBit κ v24 ((v31 - (1 : Int32)) - v37) l1 l4) fun _v44 => F_X0_putPiece_47 κ r3 l0 l1 l3 l4))
theorem M_X0_putPiece_3B (κ : Nat → Nat) (r3 : Option Nat → Int32 → Int32 → Int32 → q_X Unit) (mr3 : ∀ (l0 : Option Nat) (l1 : Int32) (l3 : Int32) (l4 : Int32), q_mo (r3 l0 l1 l3 l4)) (l0 : Option Nat) (l1 : Int32) (l3 : Int32) (l4 : Int32) : q_mo (F_X0_putPiece_3B κ r3 l0 l1 l3 l4) := (q_mo_br q_mo_rt (q_mo_rd fun v10 => (q_mo_rd fun v14 => (q_mo_rd fun v17 => (q_mo_br (M_X0_putPiece_47 κ r3 mr3 l0 l1 l3 l4) (q_mo_rd fun v24 => (q_mo_rd fun v28 => (q_mo_rd fun v31 => (q_mo_rd fun v37 => (q_mo_rd fun _ => q_mo_ca (M_X1_putOperandBit κ v24 ((v31 - (1 : Int32)) - v37) l1 l4) fun _v44 => (M_X0_putPiece_47 κ r3 mr3 l0 l1 l3 l4)))))))))))
set_option maxRecDepth 100000 in
set_option maxHeartbeats 4000000 in
theorem S_X0_putPiece_3B {E : q_Ev} {Γ : q_Gm} {w : (Unit ⊕ q_Exn) × q_St} (B : q_Bd E Γ cX0_putPiece yX0_putPiece.cls 5 1 23 (none) yX0_putPiece.name w) (hT : q_nT Γ) (r3 : Option Nat → Int32 → Int32 → Int32 → q_X Unit) (hr3 : ∀ (l0 : Option Nat) (l1 : Int32) (l3 : Int32) (l4 : Int32) (σ : q_St), r3 l0 l1 l3 l4 σ = some w → q_W E Γ (q_QF E Γ q_oV w) 5 σ 3 [(0, q_R l0), (1, q_I l1), (3, q_I l3), (4, q_I l4)] []) (mr3 : ∀ (l0 : Option Nat) (l1 : Int32) (l3 : Int32) (l4 : Int32), q_mo (r3 l0 l1 l3 l4)) (l0 : Option Nat) (l1 : Int32) (l3 : Int32) (l4 : Int32) (σ : q_St) (h : F_X0_putPiece_3B (q_kap E) r3 l0 l1 l3 l4 σ = some w) : q_W E Γ (q_QF E Γ q_oV w) 5 σ 3 [(0, q_R l0), (1, q_I l1), (3, q_I l3), (4, q_I l4)] [] := by
  have C := B.1
  unfold F_X0_putPiece_3B at h
  refine q_iload (pc := 3) C 3 rfl dX0_putPiece_3 ?_
  refine q_iload_n (pc := 5) C 2 rfl dX0_putPiece_5 rfl ?_
  refine q_icmp_lt (pc := 6) (tgt := 106) C dX0_putPiece_6 (by decide) h (fun _ h => ?_) (fun _ h => ?_)
  · exact q_vret C B.2.2.2.2.1 dX0_putPiece_106 h
  · refine q_aload_n (pc := 9) C 0 rfl dX0_putPiece_9 rfl ?_
    refine q_getI (pc := 10) C dX0_putPiece_10 ql_X0_241 h (fun v10 h => ?_)
    refine q_aload_n (pc := 13) C 0 rfl dX0_putPiece_13 rfl ?_
    refine q_getA (pc := 14) C dX0_putPiece_14 ql_X0_26 h (fun v14 h => ?_)
    refine q_getI (pc := 17) C dX0_putPiece_17 ql_X0_91 h (fun v17 h => ?_)
    refine q_icmp_ge (pc := 20) (tgt := 47) C dX0_putPiece_20 (by decide) h (fun _ h => ?_) (fun _ h => ?_)
    · exact S_X0_putPiece_47 B hT r3 hr3 mr3 l0 l1 l3 l4 _ h
    · refine q_aload_n (pc := 23) C 0 rfl dX0_putPiece_23 rfl ?_
      refine q_getA (pc := 24) C dX0_putPiece_24 ql_X0_186 h (fun v24 h => ?_)
      refine q_aload_n (pc := 27) C 0 rfl dX0_putPiece_27 rfl ?_
      refine q_getA (pc := 28) C dX0_putPiece_28 ql_X0_26 h (fun v28 h => ?_)
      refine q_getI (pc := 31) C dX0_putPiece_31 ql_X0_91 h (fun v31 h => ?_)
      refine q_iconst (pc := 34) (v := (1 : Int32)) C dX0_putPiece_34 (by decide) ?_
      refine q_isub (pc := 35) C dX0_putPiece_35 ?_
      refine q_aload_n (pc := 36) C 0 rfl dX0_putPiece_36 rfl ?_
      refine q_getI (pc := 37) C dX0_putPiece_37 ql_X0_241 h (fun v37 h => ?_)
      refine q_isub (pc := 40) C dX0_putPiece_40 ?_
      refine q_iload_n (pc := 41) C 1 rfl dX0_putPiece_41 rfl ?_
      refine q_iload (pc := 42) C 3 rfl dX0_putPiece_42 ?_
      refine q_callV (pc := 44) (As := [q_I ((v31 - (1 : Int32)) - v37), q_I l1, q_I l4]) (st := []) (ps := q_psV) C B.2.1 hT q_hpV qm_X0_293 qv_X1_putOperandBit dX0_putPiece_44 rfl rfl (Nat.le_of_ble_eq_true rfl) (q_flo B.2.2.1 B.2.2.2.1 (by decide) (by decide)) (K_X1_putOperandBit v24 ((v31 - (1 : Int32)) - v37) l1 l4) (M_X1_putOperandBit (q_kap E) v24 ((v31 - (1 : Int32)) - v37) l1 l4) (by exact fun _v44 => (M_X0_putPiece_47 (q_kap E) r3 mr3 l0 l1 l3 l4)) h (fun _v44 σ h => ?_)
      refine q_W.st (st' := []) rfl ?_
      exact S_X0_putPiece_47 B hT r3 hr3 mr3 l0 l1 l3 l4 _ h
def F_X0_putPiece_3 (κ : Nat → Nat) : Nat → Option Nat → Int32 → Int32 → Int32 → q_X Unit
  | 0, _, _, _, _ => q_no
  | n + 1, l0, l1, l3, l4 => F_X0_putPiece_3B κ (F_X0_putPiece_3 κ n) l0 l1 l3 l4
theorem M_X0_putPiece_3 (κ : Nat → Nat) : ∀ (n : Nat) (l0 : Option Nat) (l1 : Int32) (l3 : Int32) (l4 : Int32), q_mo (F_X0_putPiece_3 κ n l0 l1 l3 l4)
  | 0, _, _, _, _ => q_mo_no
  | n + 1, l0, l1, l3, l4 => M_X0_putPiece_3B κ (F_X0_putPiece_3 κ n) (M_X0_putPiece_3 κ n) l0 l1 l3 l4
theorem S_X0_putPiece_3 {E : q_Ev} {Γ : q_Gm} {w : (Unit ⊕ q_Exn) × q_St} (B : q_Bd E Γ cX0_putPiece yX0_putPiece.cls 5 1 23 (none) yX0_putPiece.name w) (hT : q_nT Γ) : ∀ (n : Nat) (l0 : Option Nat) (l1 : Int32) (l3 : Int32) (l4 : Int32) (σ : q_St), F_X0_putPiece_3 (q_kap E) n l0 l1 l3 l4 σ = some w → q_W E Γ (q_QF E Γ q_oV w) 5 σ 3 [(0, q_R l0), (1, q_I l1), (3, q_I l3), (4, q_I l4)] []
  | 0, _, _, _, _, _, h => by cases h
  | n + 1, l0, l1, l3, l4, σ, h => S_X0_putPiece_3B B hT (F_X0_putPiece_3 (q_kap E) n) (S_X0_putPiece_3 B hT n) (M_X0_putPiece_3 (q_kap E) n) l0 l1 l3 l4 σ h
def F_X0_putPiece (κ : Nat → Nat) (l0 : Option Nat) (l1 : Int32) (l2 : Int32) (l3 : Int32) : q_X Unit :=
  F_X0_putPiece_3 κ q_fu l0 l1 l3 l2
theorem M_X0_putPiece (κ : Nat → Nat) (l0 : Option Nat) (l1 : Int32) (l2 : Int32) (l3 : Int32) : q_mo (F_X0_putPiece κ l0 l1 l2 l3) := (M_X0_putPiece_3 κ q_fu l0 l1 l3 l2)
set_option maxRecDepth 100000 in
set_option maxHeartbeats 4000000 in
theorem K_X0_putPiece {E : q_Ev} (l0 : Option Nat) (l1 : Int32) (l2 : Int32) (l3 : Int32) : q_Ct E yX0_putPiece (.code yX0_putPiece cX0_putPiece 5 (none)) 1 23 [q_R l0, q_I l1, q_I l2, q_I l3] q_oV (F_X0_putPiece (q_kap E) l0 l1 l2 l3) := by
  refine q_enter (by decide) (Nat.le_of_ble_eq_true rfl) (fun Γ σ w h B hT => ?_)
  have C := B.1
  unfold F_X0_putPiece at h
  refine q_iload_n (pc := 0) C 2 rfl dX0_putPiece_0 rfl ?_
  refine q_istore (pc := 1) (l' := [(4, q_I l2), (0, q_R l0), (1, q_I l1), (2, q_I l2), (3, q_I l3)]) C dX0_putPiece_1 (by decide) rfl ?_
  refine q_W.sub [1, 2, 4, 0] rfl ?_
  exact S_X0_putPiece_3 B hT q_fu l0 l1 l3 l2 _ h
def F_X1_operandNamed_2B (κ : Nat → Nat) (r2 : Option Nat → Option Nat → Int32 → Int32 → q_X Int32) (l0 : Option Nat) (l1 : Option Nat) (l2 : Int32) (l3 : Int32) : q_X Int32 :=
  q_rd (q_gI l0 4 8) fun v4 => q_br (v4 ≤ l3) (q_rt (-1 : Int32)) (q_rd (q_gA l0 4 2) fun v11 => q_rd (q_lA 6 v11 l3) fun v15 => q_rd (q_is v15 10) fun _ => q_ca (F_X7_bytesBehind κ v15 l1 l2) fun v18 => q_br (¬ v18 = 0) (r2 l0 l1 l2 (l3 + (1 : Int32))) (q_rt l3))
theorem M_X1_operandNamed_2B (κ : Nat → Nat) (r2 : Option Nat → Option Nat → Int32 → Int32 → q_X Int32) (mr2 : ∀ (l0 : Option Nat) (l1 : Option Nat) (l2 : Int32) (l3 : Int32), q_mo (r2 l0 l1 l2 l3)) (l0 : Option Nat) (l1 : Option Nat) (l2 : Int32) (l3 : Int32) : q_mo (F_X1_operandNamed_2B κ r2 l0 l1 l2 l3) := (q_mo_rd fun v4 => (q_mo_br q_mo_rt (q_mo_rd fun v11 => (q_mo_rd fun v15 => (q_mo_rd fun _ => q_mo_ca (M_X7_bytesBehind κ v15 l1 l2) fun v18 => (q_mo_br (mr2 l0 l1 l2 (l3 + (1 : Int32))) q_mo_rt))))))
set_option maxRecDepth 100000 in
set_option maxHeartbeats 4000000 in
theorem S_X1_operandNamed_2B {E : q_Ev} {Γ : q_Gm} {w : (Int32 ⊕ q_Exn) × q_St} (B : q_Bd E Γ cX1_operandNamed yX1_operandNamed.cls 4 1 25 (some .int) yX1_operandNamed.name w) (hT : q_nT Γ) (r2 : Option Nat → Option Nat → Int32 → Int32 → q_X Int32) (hr2 : ∀ (l0 : Option Nat) (l1 : Option Nat) (l2 : Int32) (l3 : Int32) (σ : q_St), r2 l0 l1 l2 l3 σ = some w → q_W E Γ (q_QF E Γ q_oI w) 4 σ 2 [(0, q_R l0), (1, q_R l1), (2, q_I l2), (3, q_I l3)] []) (mr2 : ∀ (l0 : Option Nat) (l1 : Option Nat) (l2 : Int32) (l3 : Int32), q_mo (r2 l0 l1 l2 l3)) (l0 : Option Nat) (l1 : Option Nat) (l2 : Int32) (l3 : Int32) (σ : q_St) (h : F_X1_operandNamed_2B (q_kap E) r2 l0 l1 l2 l3 σ = some w) : q_W E Γ (q_QF E Γ q_oI w) 4 σ 2 [(0, q_R l0), (1, q_R l1), (2, q_I l2), (3, q_I l3)] [] := by
  have C := B.1
  unfold F_X1_operandNamed_2B at h
  refine q_iload_n (pc := 2) C 3 rfl dX1_operandNamed_2 rfl ?_
  refine q_aload_n (pc := 3) C 0 rfl dX1_operandNamed_3 rfl ?_
  refine q_getI (pc := 4) C dX1_operandNamed_4 ql_X1_45 h (fun v4 h => ?_)
  refine q_icmp_ge (pc := 7) (tgt := 32) C dX1_operandNamed_7 (by decide) h (fun _ h => ?_) (fun _ h => ?_)
  · refine q_iconst (pc := 32) (v := (-1 : Int32)) C dX1_operandNamed_32 (by decide) ?_
    exact q_iret C B.2.2.2.2.1 dX1_operandNamed_33 h
  · refine q_aload_n (pc := 10) C 0 rfl dX1_operandNamed_10 rfl ?_
    refine q_getA (pc := 11) C dX1_operandNamed_11 ql_X1_17 h (fun v11 h => ?_)
    refine q_iload_n (pc := 14) C 3 rfl dX1_operandNamed_14 rfl ?_
    refine q_ldA (pc := 15) C dX1_operandNamed_15 ⟨_, rfl⟩ h (fun v15 h => ?_)
    refine q_aload_n (pc := 16) C 1 rfl dX1_operandNamed_16 rfl ?_
    refine q_iload_n (pc := 17) C 2 rfl dX1_operandNamed_17 rfl ?_
    refine q_callV (pc := 18) (As := [q_R l1, q_I l2]) (st := []) (ps := q_psI) C B.2.1 hT q_hpI qm_X1_52 qv_X7_bytesBehind dX1_operandNamed_18 rfl rfl (Nat.le_of_ble_eq_true rfl) (q_flo B.2.2.1 B.2.2.2.1 (by decide) (by decide)) (K_X7_bytesBehind v15 l1 l2) (M_X7_bytesBehind (q_kap E) v15 l1 l2) (by exact fun v18 => (q_mo_br (mr2 l0 l1 l2 (l3 + (1 : Int32))) q_mo_rt)) h (fun v18 σ h => ?_)
    refine q_W.st (st' := [q_I v18]) rfl ?_
    refine q_if_ne (pc := 21) (tgt := 26) C dX1_operandNamed_21 (by decide) h (fun _ h => ?_) (fun _ h => ?_)
    · refine q_iinc (pc := 26) (v := (1 : Int32)) (l' := [(3, q_I (l3 + (1 : Int32))), (0, q_R l0), (1, q_R l1), (2, q_I l2)]) C 3 rfl dX1_operandNamed_26 (by decide) (by decide) rfl ?_
      refine q_goto (pc := 29) (tgt := 2) C dX1_operandNamed_29 (by decide) ?_
      refine q_W.sub [1, 2, 3, 0] rfl ?_
      exact hr2 l0 l1 l2 (l3 + (1 : Int32)) _ h
    · refine q_iload_n (pc := 24) C 3 rfl dX1_operandNamed_24 rfl ?_
      exact q_iret C B.2.2.2.2.1 dX1_operandNamed_25 h
def F_X1_operandNamed_2 (κ : Nat → Nat) : Nat → Option Nat → Option Nat → Int32 → Int32 → q_X Int32
  | 0, _, _, _, _ => q_no
  | n + 1, l0, l1, l2, l3 => F_X1_operandNamed_2B κ (F_X1_operandNamed_2 κ n) l0 l1 l2 l3
theorem M_X1_operandNamed_2 (κ : Nat → Nat) : ∀ (n : Nat) (l0 : Option Nat) (l1 : Option Nat) (l2 : Int32) (l3 : Int32), q_mo (F_X1_operandNamed_2 κ n l0 l1 l2 l3)
  | 0, _, _, _, _ => q_mo_no
  | n + 1, l0, l1, l2, l3 => M_X1_operandNamed_2B κ (F_X1_operandNamed_2 κ n) (M_X1_operandNamed_2 κ n) l0 l1 l2 l3
theorem S_X1_operandNamed_2 {E : q_Ev} {Γ : q_Gm} {w : (Int32 ⊕ q_Exn) × q_St} (B : q_Bd E Γ cX1_operandNamed yX1_operandNamed.cls 4 1 25 (some .int) yX1_operandNamed.name w) (hT : q_nT Γ) : ∀ (n : Nat) (l0 : Option Nat) (l1 : Option Nat) (l2 : Int32) (l3 : Int32) (σ : q_St), F_X1_operandNamed_2 (q_kap E) n l0 l1 l2 l3 σ = some w → q_W E Γ (q_QF E Γ q_oI w) 4 σ 2 [(0, q_R l0), (1, q_R l1), (2, q_I l2), (3, q_I l3)] []
  | 0, _, _, _, _, _, h => by cases h
  | n + 1, l0, l1, l2, l3, σ, h => S_X1_operandNamed_2B B hT (F_X1_operandNamed_2 (q_kap E) n) (S_X1_operandNamed_2 B hT n) (M_X1_operandNamed_2 (q_kap E) n) l0 l1 l2 l3 σ h
def F_X1_operandNamed (κ : Nat → Nat) (l0 : Option Nat) (l1 : Option Nat) (l2 : Int32) : q_X Int32 :=
  F_X1_operandNamed_2 κ q_fu l0 l1 l2 (0 : Int32)
theorem M_X1_operandNamed (κ : Nat → Nat) (l0 : Option Nat) (l1 : Option Nat) (l2 : Int32) : q_mo (F_X1_operandNamed κ l0 l1 l2) := (M_X1_operandNamed_2 κ q_fu l0 l1 l2 (0 : Int32))
set_option maxRecDepth 100000 in
set_option maxHeartbeats 4000000 in
theorem K_X1_operandNamed {E : q_Ev} (l0 : Option Nat) (l1 : Option Nat) (l2 : Int32) : q_Ct E yX1_operandNamed (.code yX1_operandNamed cX1_operandNamed 4 (some .int)) 1 25 [q_R l0, q_R l1, q_I l2] q_oI (F_X1_operandNamed (q_kap E) l0 l1 l2) := by
  refine q_enter (by decide) (Nat.le_of_ble_eq_true rfl) (fun Γ σ w h B hT => ?_)
  have C := B.1
  unfold F_X1_operandNamed at h
  refine q_iconst (pc := 0) (v := (0 : Int32)) C dX1_operandNamed_0 (by decide) ?_
  refine q_istore_n (pc := 1) (l' := [(3, q_I (0 : Int32)), (0, q_R l0), (1, q_R l1), (2, q_I l2)]) C dX1_operandNamed_1 rfl (by decide) rfl ?_
  refine q_W.sub [1, 2, 3, 0] rfl ?_
  exact S_X1_operandNamed_2 B hT q_fu l0 l1 l2 (0 : Int32) _ h
def F_X0_readPiece_172 (κ : Nat → Nat) (l0 : Option Nat) (l1 : Int32) (l2 : Int32) (l3 : Int32) : q_X Unit :=
  q_rd (q_is l0 3) fun _ => q_ca (F_X0_putPiece κ l0 l1 l2 l3) fun _v176 => q_rt ()
theorem M_X0_readPiece_172 (κ : Nat → Nat) (l0 : Option Nat) (l1 : Int32) (l2 : Int32) (l3 : Int32) : q_mo (F_X0_readPiece_172 κ l0 l1 l2 l3) := (q_mo_rd fun _ => q_mo_ca (M_X0_putPiece κ l0 l1 l2 l3) fun _v176 => q_mo_rt)
set_option maxRecDepth 100000 in
set_option maxHeartbeats 4000000 in
theorem S_X0_readPiece_172 {E : q_Ev} {Γ : q_Gm} {w : (Unit ⊕ q_Exn) × q_St} (B : q_Bd E Γ cX0_readPiece yX0_readPiece.cls 4 2 48 (none) yX0_readPiece.name w) (hT : q_nT Γ) (l0 : Option Nat) (l1 : Int32) (l2 : Int32) (l3 : Int32) (σ : q_St) (h : F_X0_readPiece_172 (q_kap E) l0 l1 l2 l3 σ = some w) : q_W E Γ (q_QF E Γ q_oV w) 4 σ 172 [(0, q_R l0), (1, q_I l1), (2, q_I l2), (3, q_I l3)] [] := by
  have C := B.1
  unfold F_X0_readPiece_172 at h
  refine q_aload_n (pc := 172) C 0 rfl dX0_readPiece_172 rfl ?_
  refine q_iload_n (pc := 173) C 1 rfl dX0_readPiece_173 rfl ?_
  refine q_iload_n (pc := 174) C 2 rfl dX0_readPiece_174 rfl ?_
  refine q_iload_n (pc := 175) C 3 rfl dX0_readPiece_175 rfl ?_
  refine q_callV (pc := 176) (As := [q_I l1, q_I l2, q_I l3]) (st := []) (ps := q_psV) C B.2.1 hT q_hpV qm_X0_289 qv_X0_putPiece dX0_readPiece_176 rfl rfl (Nat.le_of_ble_eq_true rfl) (q_flo B.2.2.1 B.2.2.2.1 (by decide) (by decide)) (K_X0_putPiece l0 l1 l2 l3) (M_X0_putPiece (q_kap E) l0 l1 l2 l3) (by exact fun _v176 => q_mo_rt) h (fun _v176 σ h => ?_)
  refine q_W.st (st' := []) rfl ?_
  exact q_vret C B.2.2.2.2.1 dX0_readPiece_179 h
def F_X0_readPiece_171 (κ : Nat → Nat) : q_X Unit :=
  q_rt ()
theorem M_X0_readPiece_171 (κ : Nat → Nat) : q_mo (F_X0_readPiece_171 κ) := q_mo_rt
theorem N_X0_readPiece_171 (κ : Nat → Nat) : q_ni (F_X0_readPiece_171 κ) := q_ni_rt
set_option maxRecDepth 100000 in
set_option maxHeartbeats 4000000 in
theorem S_X0_readPiece_171 {E : q_Ev} {Γ : q_Gm} {w : (Unit ⊕ q_Exn) × q_St} (B : q_Bd E Γ cX0_readPiece yX0_readPiece.cls 4 2 48 (none) yX0_readPiece.name w) (hT : q_nT Γ) (σ : q_St) (h : F_X0_readPiece_171 (q_kap E) σ = some w) : q_W E Γ (q_QF E Γ q_oV w) 4 σ 171 [] [] := by
  have C := B.1
  unfold F_X0_readPiece_171 at h
  exact q_vret C B.2.2.2.2.1 dX0_readPiece_171 h
def F_X0_readPiece_149 (κ : Nat → Nat) (l0 : Option Nat) (l1 : Int32) (l2 : Int32) (l3 : Int32) : q_X Unit :=
  q_rd (q_gA l0 3 0) fun v150 => q_rd (q_is v150 12) fun _ => q_ca (F_X9_hasFault κ v150) fun v153 => q_br (¬ v153 = 0) (F_X0_readPiece_171 κ) (q_rd (q_gA l0 3 0) fun v160 => q_rd (q_is v160 12) fun _ => q_ca (F_X9_take κ v160 (93 : Int32)) fun v165 => q_br (¬ v165 = 0) (F_X0_readPiece_172 κ l0 l1 l2 l3) (F_X0_readPiece_171 κ))
theorem M_X0_readPiece_149 (κ : Nat → Nat) (l0 : Option Nat) (l1 : Int32) (l2 : Int32) (l3 : Int32) : q_mo (F_X0_readPiece_149 κ l0 l1 l2 l3) := (q_mo_rd fun v150 => (q_mo_rd fun _ => q_mo_ca (M_X9_hasFault κ v150) fun v153 => (q_mo_br (M_X0_readPiece_171 κ) (q_mo_rd fun v160 => (q_mo_rd fun _ => q_mo_ca (M_X9_take κ v160 (93 : Int32)) fun v165 => (q_mo_br (M_X0_readPiece_172 κ l0 l1 l2 l3) (M_X0_readPiece_171 κ)))))))
set_option maxRecDepth 100000 in
set_option maxHeartbeats 4000000 in
theorem S_X0_readPiece_149 {E : q_Ev} {Γ : q_Gm} {w : (Unit ⊕ q_Exn) × q_St} (B : q_Bd E Γ cX0_readPiece yX0_readPiece.cls 4 2 48 (none) yX0_readPiece.name w) (hT : q_nT Γ) (l0 : Option Nat) (l1 : Int32) (l2 : Int32) (l3 : Int32) (σ : q_St) (h : F_X0_readPiece_149 (q_kap E) l0 l1 l2 l3 σ = some w) : q_W E Γ (q_QF E Γ q_oV w) 4 σ 149 [(0, q_R l0), (1, q_I l1), (2, q_I l2), (3, q_I l3)] [] := by
  have C := B.1
  unfold F_X0_readPiece_149 at h
  refine q_aload_n (pc := 149) C 0 rfl dX0_readPiece_149 rfl ?_
  refine q_getA (pc := 150) C dX0_readPiece_150 ql_X0_15 h (fun v150 h => ?_)
  refine q_callV (pc := 153) (As := []) (st := []) (ps := q_psI) C B.2.1 hT q_hpI qm_X0_55 qv_X9_hasFault dX0_readPiece_153 rfl rfl (Nat.le_of_ble_eq_true rfl) (q_flo B.2.2.1 B.2.2.2.1 (by decide) (by decide)) (K_X9_hasFault v150) (M_X9_hasFault (q_kap E) v150) (by exact fun v153 => (q_mo_br (M_X0_readPiece_171 (q_kap E)) (q_mo_rd fun v160 => (q_mo_rd fun _ => q_mo_ca (M_X9_take (q_kap E) v160 (93 : Int32)) fun v165 => (q_mo_br (M_X0_readPiece_172 (q_kap E) l0 l1 l2 l3) (M_X0_readPiece_171 (q_kap E))))))) h (fun v153 σ h => ?_)
  refine q_W.st (st' := [q_I v153]) rfl ?_
  refine q_if_ne (pc := 156) (tgt := 171) C dX0_readPiece_156 (by decide) h (fun _ h => ?_) (fun _ h => ?_)
  · refine q_W.sub [] rfl ?_
    exact S_X0_readPiece_171 B hT _ h
  · refine q_aload_n (pc := 159) C 0 rfl dX0_readPiece_159 rfl ?_
    refine q_getA (pc := 160) C dX0_readPiece_160 ql_X0_15 h (fun v160 h => ?_)
    refine q_bipush (pc := 163) (v := (93 : Int32)) C dX0_readPiece_163 (by decide) ?_
    refine q_callV (pc := 165) (As := [q_I (93 : Int32)]) (st := []) (ps := q_psI) C B.2.1 hT q_hpI qm_X0_87 qv_X9_take dX0_readPiece_165 rfl rfl (Nat.le_of_ble_eq_true rfl) (q_flo B.2.2.1 B.2.2.2.1 (by decide) (by decide)) (K_X9_take v160 (93 : Int32)) (M_X9_take (q_kap E) v160 (93 : Int32)) (by exact fun v165 => (q_mo_br (M_X0_readPiece_172 (q_kap E) l0 l1 l2 l3) (M_X0_readPiece_171 (q_kap E)))) h (fun v165 σ h => ?_)
    refine q_W.st (st' := [q_I v165]) rfl ?_
    refine q_if_ne (pc := 168) (tgt := 172) C dX0_readPiece_168 (by decide) h (fun _ h => ?_) (fun _ h => ?_)
    · exact S_X0_readPiece_172 B hT l0 l1 l2 l3 _ h
    · refine q_W.sub [] rfl ?_
      exact S_X0_readPiece_171 B hT _ h
def F_X0_readPiece (κ : Nat → Nat) (l0 : Option Nat) : q_X Unit :=
  q_rd (q_gA l0 3 3) fun v1 => q_rd (q_gA l0 3 1) fun v5 => q_rd (q_gA l0 3 0) fun v9 => q_rd (q_gI v9 12 1) fun v12 => q_rd (q_is v1 4) fun _ => q_ca (F_X1_operandNamed κ v1 v5 v12) fun v15 => q_br (0 ≤ v15) (q_rd (q_gA l0 3 0) fun v34 => q_rd (q_gI v34 12 1) fun v38 => q_wr (q_pF v34 12 1 (.int (v38 + (1 : Int32)))) (q_rd (q_gA l0 3 3) fun v47 => q_rd (q_gA v47 4 3) fun v50 => q_rd (q_lA 5 v50 v15) fun v54 => q_rd (q_gI v54 5 5) fun v55 => q_rd (q_gA l0 3 0) fun v64 => q_rd (q_is v64 12) fun _ => q_ca (F_X9_isAt κ v64 (91 : Int32)) fun v69 => q_br (v69 = 0) (F_X0_readPiece_172 κ l0 v15 (v55 - (1 : Int32)) (0 : Int32)) (q_rd (q_gA l0 3 0) fun v76 => q_rd (q_gI v76 12 1) fun v80 => q_wr (q_pF v76 12 1 (.int (v80 + (1 : Int32)))) (q_rd (q_gA l0 3 0) fun v89 => q_rd (q_is v89 12) fun _ => q_ca (F_X9_takeNumber κ v89 (0 : Int64) ((v55 - (1 : Int32)).toInt64)) fun v95 => q_rd (q_gA l0 3 0) fun v103 => q_rd (q_is v103 12) fun _ => q_ca (F_X9_hasFault κ v103) fun v106 => q_br (¬ v106 = 0) (F_X0_readPiece_149 κ l0 v15 v95.toInt32 v95.toInt32) (q_rd (q_gA l0 3 0) fun v113 => q_rd (q_is v113 12) fun _ => q_ca (F_X9_isAt κ v113 (58 : Int32)) fun v118 => q_br (v118 = 0) (F_X0_readPiece_149 κ l0 v15 v95.toInt32 v95.toInt32) (q_rd (q_gA l0 3 0) fun v125 => q_rd (q_gI v125 12 1) fun v129 => q_wr (q_pF v125 12 1 (.int (v129 + (1 : Int32)))) (q_rd (q_gA l0 3 0) fun v138 => q_rd (q_is v138 12) fun _ => q_ca (F_X9_takeNumber κ v138 (0 : Int64) v95.toInt32.toInt64) fun v144 => F_X0_readPiece_149 κ l0 v15 v95.toInt32 v144.toInt32))))))) (q_rd (q_gA l0 3 0) fun v24 => q_rd (q_is v24 12) fun _ => q_ca (F_X9_fail κ v24 (2 : Int32)) fun v28 => q_rt ())
theorem M_X0_readPiece (κ : Nat → Nat) (l0 : Option Nat) : q_mo (F_X0_readPiece κ l0) := (q_mo_rd fun v1 => (q_mo_rd fun v5 => (q_mo_rd fun v9 => (q_mo_rd fun v12 => (q_mo_rd fun _ => q_mo_ca (M_X1_operandNamed κ v1 v5 v12) fun v15 => (q_mo_br (q_mo_rd fun v34 => (q_mo_rd fun v38 => (q_mo_wr (q_mo_rd fun v47 => (q_mo_rd fun v50 => (q_mo_rd fun v54 => (q_mo_rd fun v55 => (q_mo_rd fun v64 => (q_mo_rd fun _ => q_mo_ca (M_X9_isAt κ v64 (91 : Int32)) fun v69 => (q_mo_br (M_X0_readPiece_172 κ l0 v15 (v55 - (1 : Int32)) (0 : Int32)) (q_mo_rd fun v76 => (q_mo_rd fun v80 => (q_mo_wr (q_mo_rd fun v89 => (q_mo_rd fun _ => q_mo_ca (M_X9_takeNumber κ v89 (0 : Int64) ((v55 - (1 : Int32)).toInt64)) fun v95 => (q_mo_rd fun v103 => (q_mo_rd fun _ => q_mo_ca (M_X9_hasFault κ v103) fun v106 => (q_mo_br (M_X0_readPiece_149 κ l0 v15 v95.toInt32 v95.toInt32) (q_mo_rd fun v113 => (q_mo_rd fun _ => q_mo_ca (M_X9_isAt κ v113 (58 : Int32)) fun v118 => (q_mo_br (M_X0_readPiece_149 κ l0 v15 v95.toInt32 v95.toInt32) (q_mo_rd fun v125 => (q_mo_rd fun v129 => (q_mo_wr (q_mo_rd fun v138 => (q_mo_rd fun _ => q_mo_ca (M_X9_takeNumber κ v138 (0 : Int64) v95.toInt32.toInt64) fun v144 => (M_X0_readPiece_149 κ l0 v15 v95.toInt32 v144.toInt32))))))))))))))))))))))))))) (q_mo_rd fun v24 => (q_mo_rd fun _ => q_mo_ca (M_X9_fail κ v24 (2 : Int32)) fun v28 => q_mo_rt))))))))
set_option maxRecDepth 100000 in
set_option maxHeartbeats 4000000 in
theorem K_X0_readPiece {E : q_Ev} (l0 : Option Nat) : q_Ct E yX0_readPiece (.code yX0_readPiece cX0_readPiece 4 (none)) 2 48 [q_R l0] q_oV (F_X0_readPiece (q_kap E) l0) := by
  refine q_enter (by decide) (Nat.le_of_ble_eq_true rfl) (fun Γ σ w h B hT => ?_)
  have C := B.1
  unfold F_X0_readPiece at h
  refine q_aload_n (pc := 0) C 0 rfl dX0_readPiece_0 rfl ?_
  refine q_getA (pc := 1) C dX0_readPiece_1 ql_X0_186 h (fun v1 h => ?_)
  refine q_aload_n (pc := 4) C 0 rfl dX0_readPiece_4 rfl ?_
  refine q_getA (pc := 5) C dX0_readPiece_5 ql_X0_25 h (fun v5 h => ?_)
  refine q_aload_n (pc := 8) C 0 rfl dX0_readPiece_8 rfl ?_
  refine q_getA (pc := 9) C dX0_readPiece_9 ql_X0_15 h (fun v9 h => ?_)
  refine q_getI (pc := 12) C dX0_readPiece_12 ql_X0_58 h (fun v12 h => ?_)
  refine q_callV (pc := 15) (As := [q_R v5, q_I v12]) (st := []) (ps := q_psI) C B.2.1 hT q_hpI qm_X0_206 qv_X1_operandNamed dX0_readPiece_15 rfl rfl (Nat.le_of_ble_eq_true rfl) (q_flo B.2.2.1 B.2.2.2.1 (by decide) (by decide)) (K_X1_operandNamed v1 v5 v12) (M_X1_operandNamed (q_kap E) v1 v5 v12) (by exact fun v15 => (q_mo_br (q_mo_rd fun v34 => (q_mo_rd fun v38 => (q_mo_wr (q_mo_rd fun v47 => (q_mo_rd fun v50 => (q_mo_rd fun v54 => (q_mo_rd fun v55 => (q_mo_rd fun v64 => (q_mo_rd fun _ => q_mo_ca (M_X9_isAt (q_kap E) v64 (91 : Int32)) fun v69 => (q_mo_br (M_X0_readPiece_172 (q_kap E) l0 v15 (v55 - (1 : Int32)) (0 : Int32)) (q_mo_rd fun v76 => (q_mo_rd fun v80 => (q_mo_wr (q_mo_rd fun v89 => (q_mo_rd fun _ => q_mo_ca (M_X9_takeNumber (q_kap E) v89 (0 : Int64) ((v55 - (1 : Int32)).toInt64)) fun v95 => (q_mo_rd fun v103 => (q_mo_rd fun _ => q_mo_ca (M_X9_hasFault (q_kap E) v103) fun v106 => (q_mo_br (M_X0_readPiece_149 (q_kap E) l0 v15 v95.toInt32 v95.toInt32) (q_mo_rd fun v113 => (q_mo_rd fun _ => q_mo_ca (M_X9_isAt (q_kap E) v113 (58 : Int32)) fun v118 => (q_mo_br (M_X0_readPiece_149 (q_kap E) l0 v15 v95.toInt32 v95.toInt32) (q_mo_rd fun v125 => (q_mo_rd fun v129 => (q_mo_wr (q_mo_rd fun v138 => (q_mo_rd fun _ => q_mo_ca (M_X9_takeNumber (q_kap E) v138 (0 : Int64) v95.toInt32.toInt64) fun v144 => (M_X0_readPiece_149 (q_kap E) l0 v15 v95.toInt32 v144.toInt32))))))))))))))))))))))))))) (q_mo_rd fun v24 => (q_mo_rd fun _ => q_mo_ca (M_X9_fail (q_kap E) v24 (2 : Int32)) fun v28 => q_mo_rt)))) h (fun v15 σ h => ?_)
  refine q_W.st (st' := [q_I v15]) rfl ?_
  refine q_istore_n (pc := 18) (l' := [(1, q_I v15), (0, q_R l0)]) C dX0_readPiece_18 rfl (by decide) rfl ?_
  refine q_iload_n (pc := 19) C 0 rfl dX0_readPiece_19 rfl ?_
  refine q_if_ge (pc := 20) (tgt := 33) C dX0_readPiece_20 (by decide) h (fun _ h => ?_) (fun _ h => ?_)
  · refine q_aload_n (pc := 33) C 1 rfl dX0_readPiece_33 rfl ?_
    refine q_getA (pc := 34) C dX0_readPiece_34 ql_X0_15 h (fun v34 h => ?_)
    refine q_dup (pc := 37) C dX0_readPiece_37 rfl ?_
    refine q_getI (pc := 38) C dX0_readPiece_38 ql_X0_58 h (fun v38 h => ?_)
    refine q_iconst (pc := 41) (v := (1 : Int32)) C dX0_readPiece_41 (by decide) ?_
    refine q_iadd (pc := 42) C dX0_readPiece_42 ?_
    refine q_putV (pc := 43) (v := q_I (v38 + (1 : Int32))) C dX0_readPiece_43 ql_X0_58 (Or.inl rfl) rfl rfl h (fun M43 h => ?_)
    refine q_aload_n (pc := 46) C 1 rfl dX0_readPiece_46 rfl ?_
    refine q_getA (pc := 47) C dX0_readPiece_47 ql_X0_186 h (fun v47 h => ?_)
    refine q_getA (pc := 50) C dX0_readPiece_50 ql_X0_269 h (fun v50 h => ?_)
    refine q_iload_n (pc := 53) C 0 rfl dX0_readPiece_53 rfl ?_
    refine q_ldA (pc := 54) C dX0_readPiece_54 ⟨_, rfl⟩ h (fun v54 h => ?_)
    refine q_getI (pc := 55) C dX0_readPiece_55 ql_X0_154 h (fun v55 h => ?_)
    refine q_iconst (pc := 58) (v := (1 : Int32)) C dX0_readPiece_58 (by decide) ?_
    refine q_isub (pc := 59) C dX0_readPiece_59 ?_
    refine q_istore_n (pc := 60) (l' := [(2, q_I (v55 - (1 : Int32))), (1, q_I v15), (0, q_R l0)]) C dX0_readPiece_60 rfl (by decide) rfl ?_
    refine q_iconst (pc := 61) (v := (0 : Int32)) C dX0_readPiece_61 (by decide) ?_
    refine q_istore_n (pc := 62) (l' := [(3, q_I (0 : Int32)), (2, q_I (v55 - (1 : Int32))), (1, q_I v15), (0, q_R l0)]) C dX0_readPiece_62 rfl (by decide) rfl ?_
    refine q_aload_n (pc := 63) C 3 rfl dX0_readPiece_63 rfl ?_
    refine q_getA (pc := 64) C dX0_readPiece_64 ql_X0_15 h (fun v64 h => ?_)
    refine q_bipush (pc := 67) (v := (91 : Int32)) C dX0_readPiece_67 (by decide) ?_
    refine q_callV (pc := 69) (As := [q_I (91 : Int32)]) (st := []) (ps := q_psI) C B.2.1 hT q_hpI qm_X0_190 qv_X9_isAt dX0_readPiece_69 rfl rfl (Nat.le_of_ble_eq_true rfl) (q_flo B.2.2.1 B.2.2.2.1 (by decide) (by decide)) (K_X9_isAt v64 (91 : Int32)) (M_X9_isAt (q_kap E) v64 (91 : Int32)) (by exact fun v69 => (q_mo_br (M_X0_readPiece_172 (q_kap E) l0 v15 (v55 - (1 : Int32)) (0 : Int32)) (q_mo_rd fun v76 => (q_mo_rd fun v80 => (q_mo_wr (q_mo_rd fun v89 => (q_mo_rd fun _ => q_mo_ca (M_X9_takeNumber (q_kap E) v89 (0 : Int64) ((v55 - (1 : Int32)).toInt64)) fun v95 => (q_mo_rd fun v103 => (q_mo_rd fun _ => q_mo_ca (M_X9_hasFault (q_kap E) v103) fun v106 => (q_mo_br (M_X0_readPiece_149 (q_kap E) l0 v15 v95.toInt32 v95.toInt32) (q_mo_rd fun v113 => (q_mo_rd fun _ => q_mo_ca (M_X9_isAt (q_kap E) v113 (58 : Int32)) fun v118 => (q_mo_br (M_X0_readPiece_149 (q_kap E) l0 v15 v95.toInt32 v95.toInt32) (q_mo_rd fun v125 => (q_mo_rd fun v129 => (q_mo_wr (q_mo_rd fun v138 => (q_mo_rd fun _ => q_mo_ca (M_X9_takeNumber (q_kap E) v138 (0 : Int64) v95.toInt32.toInt64) fun v144 => (M_X0_readPiece_149 (q_kap E) l0 v15 v95.toInt32 v144.toInt32))))))))))))))))))) h (fun v69 σ h => ?_)
    refine q_W.st (st' := [q_I v69]) rfl ?_
    refine q_if_eq (pc := 72) (tgt := 172) C dX0_readPiece_72 (by decide) h (fun _ h => ?_) (fun _ h => ?_)
    · refine q_W.sub [3, 2, 1, 0] rfl ?_
      exact S_X0_readPiece_172 B hT l0 v15 (v55 - (1 : Int32)) (0 : Int32) _ h
    · refine q_aload_n (pc := 75) C 3 rfl dX0_readPiece_75 rfl ?_
      refine q_getA (pc := 76) C dX0_readPiece_76 ql_X0_15 h (fun v76 h => ?_)
      refine q_dup (pc := 79) C dX0_readPiece_79 rfl ?_
      refine q_getI (pc := 80) C dX0_readPiece_80 ql_X0_58 h (fun v80 h => ?_)
      refine q_iconst (pc := 83) (v := (1 : Int32)) C dX0_readPiece_83 (by decide) ?_
      refine q_iadd (pc := 84) C dX0_readPiece_84 ?_
      refine q_putV (pc := 85) (v := q_I (v80 + (1 : Int32))) C dX0_readPiece_85 ql_X0_58 (Or.inl rfl) rfl rfl h (fun M85 h => ?_)
      refine q_aload_n (pc := 88) C 3 rfl dX0_readPiece_88 rfl ?_
      refine q_getA (pc := 89) C dX0_readPiece_89 ql_X0_15 h (fun v89 h => ?_)
      refine q_lconst (pc := 92) (v := (0 : Int64)) C dX0_readPiece_92 (by decide) ?_
      refine q_iload_n (pc := 93) C 1 rfl dX0_readPiece_93 rfl ?_
      refine q_i2l (pc := 94) C dX0_readPiece_94 ?_
      refine q_callV (pc := 95) (As := [q_L (0 : Int64), q_L ((v55 - (1 : Int32)).toInt64)]) (st := []) (ps := q_psL) C B.2.1 hT q_hpL qm_X0_73 qv_X9_takeNumber dX0_readPiece_95 rfl rfl (Nat.le_of_ble_eq_true rfl) (q_flo B.2.2.1 B.2.2.2.1 (by decide) (by decide)) (K_X9_takeNumber v89 (0 : Int64) ((v55 - (1 : Int32)).toInt64)) (M_X9_takeNumber (q_kap E) v89 (0 : Int64) ((v55 - (1 : Int32)).toInt64)) (by exact fun v95 => (q_mo_rd fun v103 => (q_mo_rd fun _ => q_mo_ca (M_X9_hasFault (q_kap E) v103) fun v106 => (q_mo_br (M_X0_readPiece_149 (q_kap E) l0 v15 v95.toInt32 v95.toInt32) (q_mo_rd fun v113 => (q_mo_rd fun _ => q_mo_ca (M_X9_isAt (q_kap E) v113 (58 : Int32)) fun v118 => (q_mo_br (M_X0_readPiece_149 (q_kap E) l0 v15 v95.toInt32 v95.toInt32) (q_mo_rd fun v125 => (q_mo_rd fun v129 => (q_mo_wr (q_mo_rd fun v138 => (q_mo_rd fun _ => q_mo_ca (M_X9_takeNumber (q_kap E) v138 (0 : Int64) v95.toInt32.toInt64) fun v144 => (M_X0_readPiece_149 (q_kap E) l0 v15 v95.toInt32 v144.toInt32))))))))))))) h (fun v95 σ h => ?_)
      refine q_W.st (st' := [q_L v95]) rfl ?_
      refine q_l2i (pc := 98) C dX0_readPiece_98 ?_
      refine q_istore_n (pc := 99) (l' := [(2, q_I v95.toInt32), (3, q_I (0 : Int32)), (1, q_I v15), (0, q_R l0)]) C dX0_readPiece_99 rfl (by decide) rfl ?_
      refine q_iload_n (pc := 100) C 0 rfl dX0_readPiece_100 rfl ?_
      refine q_istore_n (pc := 101) (l' := [(3, q_I v95.toInt32), (2, q_I v95.toInt32), (1, q_I v15), (0, q_R l0)]) C dX0_readPiece_101 rfl (by decide) rfl ?_
      refine q_aload_n (pc := 102) C 3 rfl dX0_readPiece_102 rfl ?_
      refine q_getA (pc := 103) C dX0_readPiece_103 ql_X0_15 h (fun v103 h => ?_)
      refine q_callV (pc := 106) (As := []) (st := []) (ps := q_psI) C B.2.1 hT q_hpI qm_X0_55 qv_X9_hasFault dX0_readPiece_106 rfl rfl (Nat.le_of_ble_eq_true rfl) (q_flo B.2.2.1 B.2.2.2.1 (by decide) (by decide)) (K_X9_hasFault v103) (M_X9_hasFault (q_kap E) v103) (by exact fun v106 => (q_mo_br (M_X0_readPiece_149 (q_kap E) l0 v15 v95.toInt32 v95.toInt32) (q_mo_rd fun v113 => (q_mo_rd fun _ => q_mo_ca (M_X9_isAt (q_kap E) v113 (58 : Int32)) fun v118 => (q_mo_br (M_X0_readPiece_149 (q_kap E) l0 v15 v95.toInt32 v95.toInt32) (q_mo_rd fun v125 => (q_mo_rd fun v129 => (q_mo_wr (q_mo_rd fun v138 => (q_mo_rd fun _ => q_mo_ca (M_X9_takeNumber (q_kap E) v138 (0 : Int64) v95.toInt32.toInt64) fun v144 => (M_X0_readPiece_149 (q_kap E) l0 v15 v95.toInt32 v144.toInt32))))))))))) h (fun v106 σ h => ?_)
      refine q_W.st (st' := [q_I v106]) rfl ?_
      refine q_if_ne (pc := 109) (tgt := 149) C dX0_readPiece_109 (by decide) h (fun _ h => ?_) (fun _ h => ?_)
      · refine q_W.sub [3, 2, 1, 0] rfl ?_
        exact S_X0_readPiece_149 B hT l0 v15 v95.toInt32 v95.toInt32 _ h
      · refine q_aload_n (pc := 112) C 3 rfl dX0_readPiece_112 rfl ?_
        refine q_getA (pc := 113) C dX0_readPiece_113 ql_X0_15 h (fun v113 h => ?_)
        refine q_bipush (pc := 116) (v := (58 : Int32)) C dX0_readPiece_116 (by decide) ?_
        refine q_callV (pc := 118) (As := [q_I (58 : Int32)]) (st := []) (ps := q_psI) C B.2.1 hT q_hpI qm_X0_190 qv_X9_isAt dX0_readPiece_118 rfl rfl (Nat.le_of_ble_eq_true rfl) (q_flo B.2.2.1 B.2.2.2.1 (by decide) (by decide)) (K_X9_isAt v113 (58 : Int32)) (M_X9_isAt (q_kap E) v113 (58 : Int32)) (by exact fun v118 => (q_mo_br (M_X0_readPiece_149 (q_kap E) l0 v15 v95.toInt32 v95.toInt32) (q_mo_rd fun v125 => (q_mo_rd fun v129 => (q_mo_wr (q_mo_rd fun v138 => (q_mo_rd fun _ => q_mo_ca (M_X9_takeNumber (q_kap E) v138 (0 : Int64) v95.toInt32.toInt64) fun v144 => (M_X0_readPiece_149 (q_kap E) l0 v15 v95.toInt32 v144.toInt32)))))))) h (fun v118 σ h => ?_)
        refine q_W.st (st' := [q_I v118]) rfl ?_
        refine q_if_eq (pc := 121) (tgt := 149) C dX0_readPiece_121 (by decide) h (fun _ h => ?_) (fun _ h => ?_)
        · refine q_W.sub [3, 2, 1, 0] rfl ?_
          exact S_X0_readPiece_149 B hT l0 v15 v95.toInt32 v95.toInt32 _ h
        · refine q_aload_n (pc := 124) C 3 rfl dX0_readPiece_124 rfl ?_
          refine q_getA (pc := 125) C dX0_readPiece_125 ql_X0_15 h (fun v125 h => ?_)
          refine q_dup (pc := 128) C dX0_readPiece_128 rfl ?_
          refine q_getI (pc := 129) C dX0_readPiece_129 ql_X0_58 h (fun v129 h => ?_)
          refine q_iconst (pc := 132) (v := (1 : Int32)) C dX0_readPiece_132 (by decide) ?_
          refine q_iadd (pc := 133) C dX0_readPiece_133 ?_
          refine q_putV (pc := 134) (v := q_I (v129 + (1 : Int32))) C dX0_readPiece_134 ql_X0_58 (Or.inl rfl) rfl rfl h (fun M134 h => ?_)
          refine q_aload_n (pc := 137) C 3 rfl dX0_readPiece_137 rfl ?_
          refine q_getA (pc := 138) C dX0_readPiece_138 ql_X0_15 h (fun v138 h => ?_)
          refine q_lconst (pc := 141) (v := (0 : Int64)) C dX0_readPiece_141 (by decide) ?_
          refine q_iload_n (pc := 142) C 1 rfl dX0_readPiece_142 rfl ?_
          refine q_i2l (pc := 143) C dX0_readPiece_143 ?_
          refine q_callV (pc := 144) (As := [q_L (0 : Int64), q_L v95.toInt32.toInt64]) (st := []) (ps := q_psL) C B.2.1 hT q_hpL qm_X0_73 qv_X9_takeNumber dX0_readPiece_144 rfl rfl (Nat.le_of_ble_eq_true rfl) (q_flo B.2.2.1 B.2.2.2.1 (by decide) (by decide)) (K_X9_takeNumber v138 (0 : Int64) v95.toInt32.toInt64) (M_X9_takeNumber (q_kap E) v138 (0 : Int64) v95.toInt32.toInt64) (by exact fun v144 => (M_X0_readPiece_149 (q_kap E) l0 v15 v95.toInt32 v144.toInt32)) h (fun v144 σ h => ?_)
          refine q_W.st (st' := [q_L v144]) rfl ?_
          refine q_l2i (pc := 147) C dX0_readPiece_147 ?_
          refine q_istore_n (pc := 148) (l' := [(3, q_I v144.toInt32), (2, q_I v95.toInt32), (1, q_I v15), (0, q_R l0)]) C dX0_readPiece_148 rfl (by decide) rfl ?_
          refine q_W.sub [3, 2, 1, 0] rfl ?_
          exact S_X0_readPiece_149 B hT l0 v15 v95.toInt32 v144.toInt32 _ h
  · refine q_aload_n (pc := 23) C 1 rfl dX0_readPiece_23 rfl ?_
    refine q_getA (pc := 24) C dX0_readPiece_24 ql_X0_15 h (fun v24 h => ?_)
    refine q_iconst (pc := 27) (v := (2 : Int32)) C dX0_readPiece_27 (by decide) ?_
    refine q_callV (pc := 28) (As := [q_I (2 : Int32)]) (st := []) (ps := q_psI) C B.2.1 hT q_hpI qm_X0_67 qv_X9_fail dX0_readPiece_28 rfl rfl (Nat.le_of_ble_eq_true rfl) (q_flo B.2.2.1 B.2.2.2.1 (by decide) (by decide)) (K_X9_fail v24 (2 : Int32)) (M_X9_fail (q_kap E) v24 (2 : Int32)) (by exact fun v28 => q_mo_rt) h (fun v28 σ h => ?_)
    refine q_W.st (st' := [q_I v28]) rfl ?_
    refine q_pop (pc := 31) C dX0_readPiece_31 rfl ?_
    exact q_vret C B.2.2.2.2.1 dX0_readPiece_32 h
def F_X1_putDigit (κ : Nat → Nat) (l0 : Option Nat) (l1 : Int32) (l2 : Int32) : q_X Unit :=
  q_rd (q_gA l0 4 4) fun v1 => q_rd (q_gI l0 4 9) fun v5 => q_rd (q_lL v1 v5) fun v9 => q_wr (q_sL v1 v5 (v9 ||| ((1 : Int64) <<< (l1.toInt64 &&& 63)))) (q_rd (q_gA l0 4 5) fun v16 => q_rd (q_gI l0 4 9) fun v20 => q_rd (q_lL v16 v20) fun v24 => q_wr (q_sL v16 v20 (v24 ||| (l2.toInt64 <<< (l1.toInt64 &&& 63)))) (q_rd (q_gI l0 4 10) fun v33 => q_wr (q_pF l0 4 10 (.int (v33 + (1 : Int32)))) (q_rt ())))
theorem M_X1_putDigit (κ : Nat → Nat) (l0 : Option Nat) (l1 : Int32) (l2 : Int32) : q_mo (F_X1_putDigit κ l0 l1 l2) := (q_mo_rd fun v1 => (q_mo_rd fun v5 => (q_mo_rd fun v9 => (q_mo_wr (q_mo_rd fun v16 => (q_mo_rd fun v20 => (q_mo_rd fun v24 => (q_mo_wr (q_mo_rd fun v33 => (q_mo_wr q_mo_rt))))))))))
theorem N_X1_putDigit (κ : Nat → Nat) (l0 : Option Nat) (l1 : Int32) (l2 : Int32) : q_ni (F_X1_putDigit κ l0 l1 l2) := (q_ni_rd fun v1 => (q_ni_rd fun v5 => (q_ni_rd fun v9 => (q_ni_wr (q_ni_rd fun v16 => (q_ni_rd fun v20 => (q_ni_rd fun v24 => (q_ni_wr (q_ni_rd fun v33 => (q_ni_wr q_ni_rt))))))))))
set_option maxRecDepth 100000 in
set_option maxHeartbeats 4000000 in
theorem K_X1_putDigit {E : q_Ev} (l0 : Option Nat) (l1 : Int32) (l2 : Int32) : q_Ct E yX1_putDigit (.code yX1_putDigit cX1_putDigit 3 (none)) 0 0 [q_R l0, q_I l1, q_I l2] q_oV (F_X1_putDigit (q_kap E) l0 l1 l2) := by
  refine q_enter (by decide) (Nat.le_of_ble_eq_true rfl) (fun Γ σ w h B hT => ?_)
  have C := B.1
  unfold F_X1_putDigit at h
  refine q_aload_n (pc := 0) C 0 rfl dX1_putDigit_0 rfl ?_
  refine q_getA (pc := 1) C dX1_putDigit_1 ql_X1_27 h (fun v1 h => ?_)
  refine q_aload_n (pc := 4) C 0 rfl dX1_putDigit_4 rfl ?_
  refine q_getI (pc := 5) C dX1_putDigit_5 ql_X1_56 h (fun v5 h => ?_)
  refine q_dup2_11 (pc := 8) C dX1_putDigit_8 rfl rfl ?_
  refine q_ldL (pc := 9) C dX1_putDigit_9 h (fun v9 h => ?_)
  refine q_lconst (pc := 10) (v := (1 : Int64)) C dX1_putDigit_10 (by decide) ?_
  refine q_iload_n (pc := 11) C 1 rfl dX1_putDigit_11 rfl ?_
  refine q_lshl (pc := 12) C dX1_putDigit_12 ?_
  refine q_lor (pc := 13) C dX1_putDigit_13 ?_
  refine q_stL (pc := 14) C dX1_putDigit_14 h (fun M14 h => ?_)
  refine q_aload_n (pc := 15) C 0 rfl dX1_putDigit_15 rfl ?_
  refine q_getA (pc := 16) C dX1_putDigit_16 ql_X1_31 h (fun v16 h => ?_)
  refine q_aload_n (pc := 19) C 0 rfl dX1_putDigit_19 rfl ?_
  refine q_getI (pc := 20) C dX1_putDigit_20 ql_X1_56 h (fun v20 h => ?_)
  refine q_dup2_11 (pc := 23) C dX1_putDigit_23 rfl rfl ?_
  refine q_ldL (pc := 24) C dX1_putDigit_24 h (fun v24 h => ?_)
  refine q_iload_n (pc := 25) C 2 rfl dX1_putDigit_25 rfl ?_
  refine q_i2l (pc := 26) C dX1_putDigit_26 ?_
  refine q_iload_n (pc := 27) C 1 rfl dX1_putDigit_27 rfl ?_
  refine q_lshl (pc := 28) C dX1_putDigit_28 ?_
  refine q_lor (pc := 29) C dX1_putDigit_29 ?_
  refine q_stL (pc := 30) C dX1_putDigit_30 h (fun M30 h => ?_)
  refine q_aload_n (pc := 31) C 0 rfl dX1_putDigit_31 rfl ?_
  refine q_dup (pc := 32) C dX1_putDigit_32 rfl ?_
  refine q_getI (pc := 33) C dX1_putDigit_33 ql_X1_59 h (fun v33 h => ?_)
  refine q_iconst (pc := 36) (v := (1 : Int32)) C dX1_putDigit_36 (by decide) ?_
  refine q_iadd (pc := 37) C dX1_putDigit_37 ?_
  refine q_putV (pc := 38) (v := q_I (v33 + (1 : Int32))) C dX1_putDigit_38 ql_X1_59 (Or.inl rfl) rfl rfl h (fun M38 h => ?_)
  exact q_vret C B.2.2.2.2.1 dX1_putDigit_41 h
