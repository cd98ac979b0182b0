def F_X10_init (κ : Nat → Nat) (l0 : Option Nat) : q_X Unit :=
  q_gd (¬ l0 = none) (q_gd (¬ (6000 : Int32) < 0 ∧ (6000 : Int32).toNatClampNeg ≤ 65536) (q_mk (q_nI 0 (6000 : Int32)) (6000 : Int32).toNatClampNeg fun a8 => q_wr (q_pF l0 13 0 (va_rf (some a8))) (q_gd (¬ (6003 : Int32) < 0 ∧ (6003 : Int32).toNatClampNeg ≤ 65536) (q_mk (q_nI 0 (6003 : Int32)) (6003 : Int32).toNatClampNeg fun a17 => q_wr (q_pF l0 13 1 (va_rf (some a17))) (q_gd (¬ (6003 : Int32) < 0 ∧ (6003 : Int32).toNatClampNeg ≤ 65536) (q_mk (q_nI 1 (6003 : Int32)) (6003 : Int32).toNatClampNeg fun a26 => q_wr (q_pF l0 13 2 (va_rf (some a26))) (q_gd (¬ (6003 : Int32) < 0 ∧ (6003 : Int32).toNatClampNeg ≤ 65536) (q_mk (q_nI 1 (6003 : Int32)) (6003 : Int32).toNatClampNeg fun a35 => q_wr (q_pF l0 13 3 (va_rf (some a35))) (q_gd (¬ (6003 : Int32) < 0 ∧ (6003 : Int32).toNatClampNeg ≤ 65536) (q_mk (q_nL (6003 : Int32)) (6003 : Int32).toNatClampNeg fun a44 => q_wr (q_pF l0 13 4 (va_rf (some a44))) (q_rt ())))))))))))
theorem M_X10_init (κ : Nat → Nat) (l0 : Option Nat) : q_mo (F_X10_init κ l0) := (q_mo_gd (q_mo_gd (q_mo_mk fun a8 => (q_mo_wr (q_mo_gd (q_mo_mk fun a17 => (q_mo_wr (q_mo_gd (q_mo_mk fun a26 => (q_mo_wr (q_mo_gd (q_mo_mk fun a35 => (q_mo_wr (q_mo_gd (q_mo_mk fun a44 => (q_mo_wr q_mo_rt))))))))))))))))
theorem N_X10_init (κ : Nat → Nat) (l0 : Option Nat) : q_ni (F_X10_init κ l0) := (q_ni_gd (q_ni_gd (q_ni_mk fun a8 => (q_ni_wr (q_ni_gd (q_ni_mk fun a17 => (q_ni_wr (q_ni_gd (q_ni_mk fun a26 => (q_ni_wr (q_ni_gd (q_ni_mk fun a35 => (q_ni_wr (q_ni_gd (q_ni_mk fun a44 => (q_ni_wr q_ni_rt))))))))))))))))
set_option maxRecDepth 100000 in
set_option maxHeartbeats 4000000 in
theorem K_X10_init {E : q_Ev} (l0 : Option Nat) : q_Ct E yX10_init (.code yX10_init cX10_init 1 (none)) 1 20 [q_R l0] q_oV (F_X10_init (q_kap E) l0) := by
  refine q_enter (by decide) (Nat.le_of_ble_eq_true rfl) (fun Γ σ w h B hT => ?_)
  have C := B.1
  unfold F_X10_init at h
  refine q_aload_n (pc := 0) C 0 rfl dX10_init_0 rfl ?_
  refine q_objI (pc := 1) C dX10_init_1 qo_X10_3 (q_flo B.2.2.1 B.2.2.2.1 (by decide) (by decide)) (Nat.le_of_ble_eq_true rfl) h (fun h => ?_)
  refine q_aload_n (pc := 4) C 0 rfl dX10_init_4 rfl ?_
  refine q_sipush (pc := 5) (v := (6000 : Int32)) C dX10_init_5 (by decide) ?_
  refine q_newP (pc := 8) (t := 0) (A := ((6000 : Int32).toNatClampNeg, .inl (fun _ => 0))) C dX10_init_8 qa_byte rfl (by decide) (fun _ h => h) rfl (fun _ => rfl) (by decide) (fun a8 => (q_mo_wr (q_mo_gd (q_mo_mk fun a17 => (q_mo_wr (q_mo_gd (q_mo_mk fun a26 => (q_mo_wr (q_mo_gd (q_mo_mk fun a35 => (q_mo_wr (q_mo_gd (q_mo_mk fun a44 => (q_mo_wr q_mo_rt)))))))))))))) B.2.1 h (fun a8 σ h => ?_)
  refine q_putV (pc := 10) (v := q_R (some a8)) C dX10_init_10 ql_X10_9 (Or.inr ⟨B.2.2.2.2.2, RX10, TX10, 7, rfl, rfl⟩) q_nfA q_nfA' h (fun M10 h => ?_)
  refine q_aload_n (pc := 13) C 0 rfl dX10_init_13 rfl ?_
  refine q_sipush (pc := 14) (v := (6003 : Int32)) C dX10_init_14 (by decide) ?_
  refine q_newP (pc := 17) (t := 0) (A := ((6003 : Int32).toNatClampNeg, .inl (fun _ => 0))) C dX10_init_17 qa_byte rfl (by decide) (fun _ h => h) rfl (fun _ => rfl) (by decide) (fun a17 => (q_mo_wr (q_mo_gd (q_mo_mk fun a26 => (q_mo_wr (q_mo_gd (q_mo_mk fun a35 => (q_mo_wr (q_mo_gd (q_mo_mk fun a44 => (q_mo_wr q_mo_rt))))))))))) B.2.1 h (fun a17 σ h => ?_)
  refine q_putV (pc := 19) (v := q_R (some a17)) C dX10_init_19 ql_X10_15 (Or.inr ⟨B.2.2.2.2.2, RX10, TX10, 7, rfl, rfl⟩) q_nfA q_nfA' h (fun M19 h => ?_)
  refine q_aload_n (pc := 22) C 0 rfl dX10_init_22 rfl ?_
  refine q_sipush (pc := 23) (v := (6003 : Int32)) C dX10_init_23 (by decide) ?_
  refine q_newP (pc := 26) (t := 1) (A := ((6003 : Int32).toNatClampNeg, .inl (fun _ => 0))) C dX10_init_26 qa_int rfl (by decide) (fun _ h => h) rfl (fun _ => rfl) (by decide) (fun a26 => (q_mo_wr (q_mo_gd (q_mo_mk fun a35 => (q_mo_wr (q_mo_gd (q_mo_mk fun a44 => (q_mo_wr q_mo_rt)))))))) B.2.1 h (fun a26 σ h => ?_)
  refine q_putV (pc := 28) (v := q_R (some a26)) C dX10_init_28 ql_X10_18 (Or.inr ⟨B.2.2.2.2.2, RX10, TX10, 7, rfl, rfl⟩) q_nfA q_nfA' h (fun M28 h => ?_)
  refine q_aload_n (pc := 31) C 0 rfl dX10_init_31 rfl ?_
  refine q_sipush (pc := 32) (v := (6003 : Int32)) C dX10_init_32 (by decide) ?_
  refine q_newP (pc := 35) (t := 1) (A := ((6003 : Int32).toNatClampNeg, .inl (fun _ => 0))) C dX10_init_35 qa_int rfl (by decide) (fun _ h => h) rfl (fun _ => rfl) (by decide) (fun a35 => (q_mo_wr (q_mo_gd (q_mo_mk fun a44 => (q_mo_wr q_mo_rt))))) B.2.1 h (fun a35 σ h => ?_)
  refine q_putV (pc := 37) (v := q_R (some a35)) C dX10_init_37 ql_X10_22 (Or.inr ⟨B.2.2.2.2.2, RX10, TX10, 7, rfl, rfl⟩) q_nfA q_nfA' h (fun M37 h => ?_)
  refine q_aload_n (pc := 40) C 0 rfl dX10_init_40 rfl ?_
  refine q_sipush (pc := 41) (v := (6003 : Int32)) C dX10_init_41 (by decide) ?_
  refine q_newP (pc := 44) (t := 2) (A := ((6003 : Int32).toNatClampNeg, .inr (.inl (fun _ => 0)))) C dX10_init_44 qa_long rfl (by decide) (fun _ h => h) rfl (fun _ => rfl) (by decide) (fun a44 => (q_mo_wr q_mo_rt)) B.2.1 h (fun a44 σ h => ?_)
  refine q_putV (pc := 46) (v := q_R (some a44)) C dX10_init_46 ql_X10_25 (Or.inr ⟨B.2.2.2.2.2, RX10, TX10, 7, rfl, rfl⟩) q_nfA q_nfA' h (fun M46 h => ?_)
  exact q_vret C B.2.2.2.2.1 dX10_init_49 h
def F_X10_hasRoomFor_17 (κ : Nat → Nat) (s0 : Int32) : q_X Int32 :=
  q_rz s0
theorem M_X10_hasRoomFor_17 (κ : Nat → Nat) (s0 : Int32) : q_mo (F_X10_hasRoomFor_17 κ s0) := q_mo_rz
set_option maxRecDepth 100000 in
set_option maxHeartbeats 4000000 in
theorem S_X10_hasRoomFor_17 {E : q_Ev} {Γ : q_Gm} {w : (Int32 ⊕ q_Exn) × q_St} (B : q_Bd E Γ cX10_hasRoomFor yX10_hasRoomFor.cls 2 0 0 (some .boolean) yX10_hasRoomFor.name w) (hT : q_nT Γ) (s0 : Int32) (σ : q_St) (h : F_X10_hasRoomFor_17 (q_kap E) s0 σ = some w) : q_W E Γ (q_QF E Γ q_oI w) 2 σ 17 [] [q_I s0] := by
  have C := B.1
  unfold F_X10_hasRoomFor_17 at h
  exact q_zret C B.2.2.2.2.1 dX10_hasRoomFor_17 h
def F_X10_hasRoomFor (κ : Nat → Nat) (l0 : Option Nat) (l1 : Int32) : q_X Int32 :=
  q_rd (q_gI l0 13 5) fun v1 => q_br ((6000 : Int32) < (v1 + l1)) (F_X10_hasRoomFor_17 κ (0 : Int32)) (F_X10_hasRoomFor_17 κ (1 : Int32))
theorem M_X10_hasRoomFor (κ : Nat → Nat) (l0 : Option Nat) (l1 : Int32) : q_mo (F_X10_hasRoomFor κ l0 l1) := (q_mo_rd fun v1 => (q_mo_br (M_X10_hasRoomFor_17 κ (0 : Int32)) (M_X10_hasRoomFor_17 κ (1 : Int32))))
set_option maxRecDepth 100000 in
set_option maxHeartbeats 4000000 in
theorem K_X10_hasRoomFor {E : q_Ev} (l0 : Option Nat) (l1 : Int32) : q_Ct E yX10_hasRoomFor (.code yX10_hasRoomFor cX10_hasRoomFor 2 (some .boolean)) 0 0 [q_R l0, q_I l1] q_oI (F_X10_hasRoomFor (q_kap E) l0 l1) := by
  refine q_enter (by decide) (Nat.le_of_ble_eq_true rfl) (fun Γ σ w h B hT => ?_)
  have C := B.1
  unfold F_X10_hasRoomFor at h
  refine q_aload_n (pc := 0) C 0 rfl dX10_hasRoomFor_0 rfl ?_
  refine q_getI (pc := 1) C dX10_hasRoomFor_1 ql_X10_29 h (fun v1 h => ?_)
  refine q_iload_n (pc := 4) C 1 rfl dX10_hasRoomFor_4 rfl ?_
  refine q_iadd (pc := 5) C dX10_hasRoomFor_5 ?_
  refine q_sipush (pc := 6) (v := (6000 : Int32)) C dX10_hasRoomFor_6 (by decide) ?_
  refine q_icmp_gt (pc := 9) (tgt := 16) C dX10_hasRoomFor_9 (by decide) h (fun _ h => ?_) (fun _ h => ?_)
  · refine q_iconst (pc := 16) (v := (0 : Int32)) C dX10_hasRoomFor_16 (by decide) ?_
    refine q_W.sub [] rfl ?_
    exact S_X10_hasRoomFor_17 B hT (0 : Int32) _ h
  · refine q_iconst (pc := 12) (v := (1 : Int32)) C dX10_hasRoomFor_12 (by decide) ?_
    refine q_goto (pc := 13) (tgt := 17) C dX10_hasRoomFor_13 (by decide) ?_
    refine q_W.sub [] rfl ?_
    exact S_X10_hasRoomFor_17 B hT (1 : Int32) _ h
def F_X10_addByte (κ : Nat → Nat) (l0 : Option Nat) (l1 : Int32) : q_X Unit :=
  q_rd (q_gA l0 13 0) fun v1 => q_rd (q_gI l0 13 5) fun v5 => q_wr (q_sI 0 v1 v5 (vp_nar .byte l1.toInt8.toInt32)) (q_rd (q_gI l0 13 5) fun v13 => q_wr (q_pF l0 13 5 (.int (v13 + (1 : Int32)))) (q_rt ()))
theorem M_X10_addByte (κ : Nat → Nat) (l0 : Option Nat) (l1 : Int32) : q_mo (F_X10_addByte κ l0 l1) := (q_mo_rd fun v1 => (q_mo_rd fun v5 => (q_mo_wr (q_mo_rd fun v13 => (q_mo_wr q_mo_rt)))))
set_option maxRecDepth 100000 in
set_option maxHeartbeats 4000000 in
theorem K_X10_addByte {E : q_Ev} (l0 : Option Nat) (l1 : Int32) : q_Ct E yX10_addByte (.code yX10_addByte cX10_addByte 2 (none)) 0 0 [q_R l0, q_I l1] q_oV (F_X10_addByte (q_kap E) l0 l1) := by
  refine q_enter (by decide) (Nat.le_of_ble_eq_true rfl) (fun Γ σ w h B hT => ?_)
  have C := B.1
  unfold F_X10_addByte at h
  refine q_aload_n (pc := 0) C 0 rfl dX10_addByte_0 rfl ?_
  refine q_getA (pc := 1) C dX10_addByte_1 ql_X10_9 h (fun v1 h => ?_)
  refine q_aload_n (pc := 4) C 0 rfl dX10_addByte_4 rfl ?_
  refine q_getI (pc := 5) C dX10_addByte_5 ql_X10_29 h (fun v5 h => ?_)
  refine q_iload_n (pc := 8) C 1 rfl dX10_addByte_8 rfl ?_
  refine q_i2b (pc := 9) C dX10_addByte_9 ?_
  refine q_stB (pc := 10) C dX10_addByte_10 h (fun M10 h => ?_)
  refine q_aload_n (pc := 11) C 0 rfl dX10_addByte_11 rfl ?_
  refine q_dup (pc := 12) C dX10_addByte_12 rfl ?_
  refine q_getI (pc := 13) C dX10_addByte_13 ql_X10_29 h (fun v13 h => ?_)
  refine q_iconst (pc := 16) (v := (1 : Int32)) C dX10_addByte_16 (by decide) ?_
  refine q_iadd (pc := 17) C dX10_addByte_17 ?_
  refine q_putV (pc := 18) (v := q_I (v13 + (1 : Int32))) C dX10_addByte_18 ql_X10_29 (Or.inl rfl) rfl rfl h (fun M18 h => ?_)
  exact q_vret C B.2.2.2.2.1 dX10_addByte_21 h
def F_X10_addFour (κ : Nat → Nat) (l0 : Option Nat) (l1 : Int32) : q_X Unit :=
  q_rd (q_is l0 13) fun _ => q_ca (F_X10_addByte κ l0 (q_ius l1 (24 : Int32))) fun _v5 => q_rd (q_is l0 13) fun _ => q_ca (F_X10_addByte κ l0 (q_ius l1 (16 : Int32))) fun _v13 => q_rd (q_is l0 13) fun _ => q_ca (F_X10_addByte κ l0 (q_ius l1 (8 : Int32))) fun _v21 => q_rd (q_is l0 13) fun _ => q_ca (F_X10_addByte κ l0 l1) fun _v26 => q_rt ()
theorem M_X10_addFour (κ : Nat → Nat) (l0 : Option Nat) (l1 : Int32) : q_mo (F_X10_addFour κ l0 l1) := (q_mo_rd fun _ => q_mo_ca (M_X10_addByte κ l0 (q_ius l1 (24 : Int32))) fun _v5 => (q_mo_rd fun _ => q_mo_ca (M_X10_addByte κ l0 (q_ius l1 (16 : Int32))) fun _v13 => (q_mo_rd fun _ => q_mo_ca (M_X10_addByte κ l0 (q_ius l1 (8 : Int32))) fun _v21 => (q_mo_rd fun _ => q_mo_ca (M_X10_addByte κ l0 l1) fun _v26 => q_mo_rt))))
set_option maxRecDepth 100000 in
set_option maxHeartbeats 4000000 in
theorem K_X10_addFour {E : q_Ev} (l0 : Option Nat) (l1 : Int32) : q_Ct E yX10_addFour (.code yX10_addFour cX10_addFour 2 (none)) 1 21 [q_R l0, q_I l1] q_oV (F_X10_addFour (q_kap E) l0 l1) := by
  refine q_enter (by decide) (Nat.le_of_ble_eq_true rfl) (fun Γ σ w h B hT => ?_)
  have C := B.1
  unfold F_X10_addFour at h
  refine q_aload_n (pc := 0) C 0 rfl dX10_addFour_0 rfl ?_
  refine q_iload_n (pc := 1) C 1 rfl dX10_addFour_1 rfl ?_
  refine q_bipush (pc := 2) (v := (24 : Int32)) C dX10_addFour_2 (by decide) ?_
  refine q_iushr (pc := 4) C dX10_addFour_4 ?_
  refine q_callV (pc := 5) (As := [q_I (q_ius l1 (24 : Int32))]) (st := []) (ps := q_psV) C B.2.1 hT q_hpV qm_X10_33 qv_X10_addByte dX10_addFour_5 rfl rfl (Nat.le_of_ble_eq_true rfl) (q_flo B.2.2.1 B.2.2.2.1 (by decide) (by decide)) (K_X10_addByte l0 (q_ius l1 (24 : Int32))) (M_X10_addByte (q_kap E) l0 (q_ius l1 (24 : Int32))) (fun _v5 => (q_mo_rd fun _ => q_mo_ca (M_X10_addByte (q_kap E) l0 (q_ius l1 (16 : Int32))) fun _v13 => (q_mo_rd fun _ => q_mo_ca (M_X10_addByte (q_kap E) l0 (q_ius l1 (8 : Int32))) fun _v21 => (q_mo_rd fun _ => q_mo_ca (M_X10_addByte (q_kap E) l0 l1) fun _v26 => q_mo_rt)))) h (fun _v5 σ h => ?_)
  refine q_W.st (st' := []) rfl ?_
  refine q_aload_n (pc := 8) C 0 rfl dX10_addFour_8 rfl ?_
  refine q_iload_n (pc := 9) C 1 rfl dX10_addFour_9 rfl ?_
  refine q_bipush (pc := 10) (v := (16 : Int32)) C dX10_addFour_10 (by decide) ?_
  refine q_iushr (pc := 12) C dX10_addFour_12 ?_
  refine q_callV (pc := 13) (As := [q_I (q_ius l1 (16 : Int32))]) (st := []) (ps := q_psV) C B.2.1 hT q_hpV qm_X10_33 qv_X10_addByte dX10_addFour_13 rfl rfl (Nat.le_of_ble_eq_true rfl) (q_flo B.2.2.1 B.2.2.2.1 (by decide) (by decide)) (K_X10_addByte l0 (q_ius l1 (16 : Int32))) (M_X10_addByte (q_kap E) l0 (q_ius l1 (16 : Int32))) (fun _v13 => (q_mo_rd fun _ => q_mo_ca (M_X10_addByte (q_kap E) l0 (q_ius l1 (8 : Int32))) fun _v21 => (q_mo_rd fun _ => q_mo_ca (M_X10_addByte (q_kap E) l0 l1) fun _v26 => q_mo_rt))) h (fun _v13 σ h => ?_)
  refine q_W.st (st' := []) rfl ?_
  refine q_aload_n (pc := 16) C 0 rfl dX10_addFour_16 rfl ?_
  refine q_iload_n (pc := 17) C 1 rfl dX10_addFour_17 rfl ?_
  refine q_bipush (pc := 18) (v := (8 : Int32)) C dX10_addFour_18 (by decide) ?_
  refine q_iushr (pc := 20) C dX10_addFour_20 ?_
  refine q_callV (pc := 21) (As := [q_I (q_ius l1 (8 : Int32))]) (st := []) (ps := q_psV) C B.2.1 hT q_hpV qm_X10_33 qv_X10_addByte dX10_addFour_21 rfl rfl (Nat.le_of_ble_eq_true rfl) (q_flo B.2.2.1 B.2.2.2.1 (by decide) (by decide)) (K_X10_addByte l0 (q_ius l1 (8 : Int32))) (M_X10_addByte (q_kap E) l0 (q_ius l1 (8 : Int32))) (fun _v21 => (q_mo_rd fun _ => q_mo_ca (M_X10_addByte (q_kap E) l0 l1) fun _v26 => q_mo_rt)) h (fun _v21 σ h => ?_)
  refine q_W.st (st' := []) rfl ?_
  refine q_aload_n (pc := 24) C 0 rfl dX10_addFour_24 rfl ?_
  refine q_iload_n (pc := 25) C 1 rfl dX10_addFour_25 rfl ?_
  refine q_callV (pc := 26) (As := [q_I l1]) (st := []) (ps := q_psV) C B.2.1 hT q_hpV qm_X10_33 qv_X10_addByte dX10_addFour_26 rfl rfl (Nat.le_of_ble_eq_true rfl) (q_flo B.2.2.1 B.2.2.2.1 (by decide) (by decide)) (K_X10_addByte l0 l1) (M_X10_addByte (q_kap E) l0 l1) (fun _v26 => q_mo_rt) h (fun _v26 σ h => ?_)
  refine q_W.st (st' := []) rfl ?_
  exact q_vret C B.2.2.2.2.1 dX10_addFour_29 h
def F_X10_addToken (κ : Nat → Nat) (l0 : Option Nat) (l1 : Int32) (l2 : Int32) (l3 : Int32) (l4 : Int64) : q_X Unit :=
  q_rd (q_gA l0 13 1) fun v1 => q_rd (q_gI l0 13 6) fun v5 => q_wr (q_sI 0 v1 v5 (vp_nar .byte l1.toInt8.toInt32)) (q_rd (q_gA l0 13 2) fun v12 => q_rd (q_gI l0 13 6) fun v16 => q_wr (q_sI 1 v12 v16 l2) (q_rd (q_gA l0 13 3) fun v22 => q_rd (q_gI l0 13 6) fun v26 => q_wr (q_sI 1 v22 v26 l3) (q_rd (q_gA l0 13 4) fun v32 => q_rd (q_gI l0 13 6) fun v36 => q_wr (q_sL v32 v36 l4) (q_rd (q_gI l0 13 6) fun v44 => q_wr (q_pF l0 13 6 (.int (v44 + (1 : Int32)))) (q_rt ())))))
theorem M_X10_addToken (κ : Nat → Nat) (l0 : Option Nat) (l1 : Int32) (l2 : Int32) (l3 : Int32) (l4 : Int64) : q_mo (F_X10_addToken κ l0 l1 l2 l3 l4) := (q_mo_rd fun v1 => (q_mo_rd fun v5 => (q_mo_wr (q_mo_rd fun v12 => (q_mo_rd fun v16 => (q_mo_wr (q_mo_rd fun v22 => (q_mo_rd fun v26 => (q_mo_wr (q_mo_rd fun v32 => (q_mo_rd fun v36 => (q_mo_wr (q_mo_rd fun v44 => (q_mo_wr q_mo_rt))))))))))))))
set_option maxRecDepth 100000 in
set_option maxHeartbeats 4000000 in
theorem K_X10_addToken {E : q_Ev} (l0 : Option Nat) (l1 : Int32) (l2 : Int32) (l3 : Int32) (l4 : Int64) : q_Ct E yX10_addToken (.code yX10_addToken cX10_addToken 6 (none)) 0 0 [q_R l0, q_I l1, q_I l2, q_I l3, q_L l4] q_oV (F_X10_addToken (q_kap E) l0 l1 l2 l3 l4) := by
  refine q_enter (by decide) (Nat.le_of_ble_eq_true rfl) (fun Γ σ w h B hT => ?_)
  have C := B.1
  unfold F_X10_addToken at h
  refine q_aload_n (pc := 0) C 0 rfl dX10_addToken_0 rfl ?_
  refine q_getA (pc := 1) C dX10_addToken_1 ql_X10_15 h (fun v1 h => ?_)
  refine q_aload_n (pc := 4) C 0 rfl dX10_addToken_4 rfl ?_
  refine q_getI (pc := 5) C dX10_addToken_5 ql_X10_37 h (fun v5 h => ?_)
  refine q_iload_n (pc := 8) C 1 rfl dX10_addToken_8 rfl ?_
  refine q_i2b (pc := 9) C dX10_addToken_9 ?_
  refine q_stB (pc := 10) C dX10_addToken_10 h (fun M10 h => ?_)
  refine q_aload_n (pc := 11) C 0 rfl dX10_addToken_11 rfl ?_
  refine q_getA (pc := 12) C dX10_addToken_12 ql_X10_18 h (fun v12 h => ?_)
  refine q_aload_n (pc := 15) C 0 rfl dX10_addToken_15 rfl ?_
  refine q_getI (pc := 16) C dX10_addToken_16 ql_X10_37 h (fun v16 h => ?_)
  refine q_iload_n (pc := 19) C 2 rfl dX10_addToken_19 rfl ?_
  refine q_stI (pc := 20) C dX10_addToken_20 h (fun M20 h => ?_)
  refine q_aload_n (pc := 21) C 0 rfl dX10_addToken_21 rfl ?_
  refine q_getA (pc := 22) C dX10_addToken_22 ql_X10_22 h (fun v22 h => ?_)
  refine q_aload_n (pc := 25) C 0 rfl dX10_addToken_25 rfl ?_
  refine q_getI (pc := 26) C dX10_addToken_26 ql_X10_37 h (fun v26 h => ?_)
  refine q_iload_n (pc := 29) C 3 rfl dX10_addToken_29 rfl ?_
  refine q_stI (pc := 30) C dX10_addToken_30 h (fun M30 h => ?_)
  refine q_aload_n (pc := 31) C 0 rfl dX10_addToken_31 rfl ?_
  refine q_getA (pc := 32) C dX10_addToken_32 ql_X10_25 h (fun v32 h => ?_)
  refine q_aload_n (pc := 35) C 0 rfl dX10_addToken_35 rfl ?_
  refine q_getI (pc := 36) C dX10_addToken_36 ql_X10_37 h (fun v36 h => ?_)
  refine q_lload (pc := 39) C 4 rfl dX10_addToken_39 ?_
  refine q_stL (pc := 41) C dX10_addToken_41 h (fun M41 h => ?_)
  refine q_aload_n (pc := 42) C 0 rfl dX10_addToken_42 rfl ?_
  refine q_dup (pc := 43) C dX10_addToken_43 rfl ?_
  refine q_getI (pc := 44) C dX10_addToken_44 ql_X10_37 h (fun v44 h => ?_)
  refine q_iconst (pc := 47) (v := (1 : Int32)) C dX10_addToken_47 (by decide) ?_
  refine q_iadd (pc := 48) C dX10_addToken_48 ?_
  refine q_putV (pc := 49) (v := q_I (v44 + (1 : Int32))) C dX10_addToken_49 ql_X10_37 (Or.inl rfl) rfl rfl h (fun M49 h => ?_)
  exact q_vret C B.2.2.2.2.1 dX10_addToken_52 h
def F_X10_commentEnd_27 (κ : Nat → Nat) (l2 : Int32) : q_X Int32 :=
  q_rt l2
theorem M_X10_commentEnd_27 (κ : Nat → Nat) (l2 : Int32) : q_mo (F_X10_commentEnd_27 κ l2) := q_mo_rt
set_option maxRecDepth 100000 in
set_option maxHeartbeats 4000000 in
theorem S_X10_commentEnd_27 {E : q_Ev} {Γ : q_Gm} {w : (Int32 ⊕ q_Exn) × q_St} (B : q_Bd E Γ cX10_commentEnd yX10_commentEnd.cls 3 0 0 (some .int) yX10_commentEnd.name w) (hT : q_nT Γ) (l2 : Int32) (σ : q_St) (h : F_X10_commentEnd_27 (q_kap E) l2 σ = some w) : q_W E Γ (q_QF E Γ q_oI w) 3 σ 27 [(2, q_I l2)] [] := by
  have C := B.1
  unfold F_X10_commentEnd_27 at h
  refine q_iload_n (pc := 27) C 0 rfl dX10_commentEnd_27 rfl ?_
  exact q_iret C B.2.2.2.2.1 dX10_commentEnd_28 h
def F_X10_commentEnd_2B (κ : Nat → Nat) (r2 : Option Nat → Int32 → q_X Int32) (l0 : Option Nat) (l2 : Int32) : q_X Int32 :=
  q_rd (q_gI l0 13 5) fun v4 => q_br (v4 ≤ l2) (F_X10_commentEnd_27 κ l2) (q_rd (q_gA l0 13 0) fun v11 => q_rd (q_lI 0 v11 l2) fun v15 => q_br (v15 = (10 : Int32)) (F_X10_commentEnd_27 κ l2) (r2 l0 (l2 + (1 : Int32))))
theorem M_X10_commentEnd_2B (κ : Nat → Nat) (r2 : Option Nat → Int32 → q_X Int32) (mr2 : ∀ (l0 : Option Nat) (l2 : Int32), q_mo (r2 l0 l2)) (l0 : Option Nat) (l2 : Int32) : q_mo (F_X10_commentEnd_2B κ r2 l0 l2) := (q_mo_rd fun v4 => (q_mo_br (M_X10_commentEnd_27 κ l2) (q_mo_rd fun v11 => (q_mo_rd fun v15 => (q_mo_br (M_X10_commentEnd_27 κ l2) (mr2 l0 (l2 + (1 : Int32))))))))
set_option maxRecDepth 100000 in
set_option maxHeartbeats 4000000 in
theorem S_X10_commentEnd_2B {E : q_Ev} {Γ : q_Gm} {w : (Int32 ⊕ q_Exn) × q_St} (B : q_Bd E Γ cX10_commentEnd yX10_commentEnd.cls 3 0 0 (some .int) yX10_commentEnd.name w) (hT : q_nT Γ) (r2 : Option Nat → Int32 → q_X Int32) (hr2 : ∀ (l0 : Option Nat) (l2 : Int32) (σ : q_St), r2 l0 l2 σ = some w → q_W E Γ (q_QF E Γ q_oI w) 3 σ 2 [(0, q_R l0), (2, q_I l2)] []) (mr2 : ∀ (l0 : Option Nat) (l2 : Int32), q_mo (r2 l0 l2)) (l0 : Option Nat) (l2 : Int32) (σ : q_St) (h : F_X10_commentEnd_2B (q_kap E) r2 l0 l2 σ = some w) : q_W E Γ (q_QF E Γ q_oI w) 3 σ 2 [(0, q_R l0), (2, q_I l2)] [] := by
  have C := B.1
  unfold F_X10_commentEnd_2B at h
  refine q_iload_n (pc := 2) C 1 rfl dX10_commentEnd_2 rfl ?_
  refine q_aload_n (pc := 3) C 0 rfl dX10_commentEnd_3 rfl ?_
  refine q_getI (pc := 4) C dX10_commentEnd_4 ql_X10_29 h (fun v4 h => ?_)
  refine q_icmp_ge (pc := 7) (tgt := 27) C dX10_commentEnd_7 (by decide) h (fun _ h => ?_) (fun _ h => ?_)
  · refine q_W.sub [1] rfl ?_
    exact S_X10_commentEnd_27 B hT l2 _ h
  · refine q_aload_n (pc := 10) C 0 rfl dX10_commentEnd_10 rfl ?_
    refine q_getA (pc := 11) C dX10_commentEnd_11 ql_X10_9 h (fun v11 h => ?_)
    refine q_iload_n (pc := 14) C 1 rfl dX10_commentEnd_14 rfl ?_
    refine q_ldI (pc := 15) C dX10_commentEnd_15 (Or.inl ⟨rfl, rfl⟩) h (fun v15 h => ?_)
    refine q_bipush (pc := 16) (v := (10 : Int32)) C dX10_commentEnd_16 (by decide) ?_
    refine q_icmp_eq (pc := 18) (tgt := 27) C dX10_commentEnd_18 (by decide) h (fun _ h => ?_) (fun _ h => ?_)
    · refine q_W.sub [1] rfl ?_
      exact S_X10_commentEnd_27 B hT l2 _ h
    · refine q_iinc (pc := 21) (v := (1 : Int32)) (l' := [(2, q_I (l2 + (1 : Int32))), (0, q_R l0)]) C 1 rfl dX10_commentEnd_21 (by decide) (by decide) rfl ?_
      refine q_goto (pc := 24) (tgt := 2) C dX10_commentEnd_24 (by decide) ?_
      refine q_W.sub [1, 0] rfl ?_
      exact hr2 l0 (l2 + (1 : Int32)) _ h
def F_X10_commentEnd_2 (κ : Nat → Nat) : Nat → Option Nat → Int32 → q_X Int32
  | 0, _, _ => q_no
  | n + 1, l0, l2 => F_X10_commentEnd_2B κ (F_X10_commentEnd_2 κ n) l0 l2
theorem M_X10_commentEnd_2 (κ : Nat → Nat) : ∀ (n : Nat) (l0 : Option Nat) (l2 : Int32), q_mo (F_X10_commentEnd_2 κ n l0 l2)
  | 0, _, _ => q_mo_no
  | n + 1, l0, l2 => M_X10_commentEnd_2B κ (F_X10_commentEnd_2 κ n) (M_X10_commentEnd_2 κ n) l0 l2
theorem S_X10_commentEnd_2 {E : q_Ev} {Γ : q_Gm} {w : (Int32 ⊕ q_Exn) × q_St} (B : q_Bd E Γ cX10_commentEnd yX10_commentEnd.cls 3 0 0 (some .int) yX10_commentEnd.name w) (hT : q_nT Γ) : ∀ (n : Nat) (l0 : Option Nat) (l2 : Int32) (σ : q_St), F_X10_commentEnd_2 (q_kap E) n l0 l2 σ = some w → q_W E Γ (q_QF E Γ q_oI w) 3 σ 2 [(0, q_R l0), (2, q_I l2)] []
  | 0, _, _, _, h => by cases h
  | n + 1, l0, l2, σ, h => S_X10_commentEnd_2B B hT (F_X10_commentEnd_2 (q_kap E) n) (S_X10_commentEnd_2 B hT n) (M_X10_commentEnd_2 (q_kap E) n) l0 l2 σ h
def F_X10_commentEnd (κ : Nat → Nat) (l0 : Option Nat) (l1 : Int32) : q_X Int32 :=
  F_X10_commentEnd_2 κ q_fu l0 l1
theorem M_X10_commentEnd (κ : Nat → Nat) (l0 : Option Nat) (l1 : Int32) : q_mo (F_X10_commentEnd κ l0 l1) := (M_X10_commentEnd_2 κ q_fu l0 l1)
set_option maxRecDepth 100000 in
set_option maxHeartbeats 4000000 in
theorem K_X10_commentEnd {E : q_Ev} (l0 : Option Nat) (l1 : Int32) : q_Ct E yX10_commentEnd (.code yX10_commentEnd cX10_commentEnd 3 (some .int)) 0 0 [q_R l0, q_I l1] q_oI (F_X10_commentEnd (q_kap E) l0 l1) := by
  refine q_enter (by decide) (Nat.le_of_ble_eq_true rfl) (fun Γ σ w h B hT => ?_)
  have C := B.1
  unfold F_X10_commentEnd at h
  refine q_iload_n (pc := 0) C 1 rfl dX10_commentEnd_0 rfl ?_
  refine q_istore_n (pc := 1) (l' := [(2, q_I l1), (0, q_R l0), (1, q_I l1)]) C dX10_commentEnd_1 rfl (by decide) rfl ?_
  refine q_W.sub [1, 0] rfl ?_
  exact S_X10_commentEnd_2 B hT q_fu l0 l1 _ h
def F_X10_isLetter_29 (κ : Nat → Nat) (s0 : Int32) : q_X Int32 :=
  q_rz s0
theorem M_X10_isLetter_29 (κ : Nat → Nat) (s0 : Int32) : q_mo (F_X10_isLetter_29 κ s0) := q_mo_rz
set_option maxRecDepth 100000 in
set_option maxHeartbeats 4000000 in
theorem S_X10_isLetter_29 {E : q_Ev} {Γ : q_Gm} {w : (Int32 ⊕ q_Exn) × q_St} (B : q_Bd E Γ cX10_isLetter yX10_isLetter.cls 1 0 0 (some .boolean) yX10_isLetter.name w) (hT : q_nT Γ) (s0 : Int32) (σ : q_St) (h : F_X10_isLetter_29 (q_kap E) s0 σ = some w) : q_W E Γ (q_QF E Γ q_oI w) 1 σ 29 [] [q_I s0] := by
  have C := B.1
  unfold F_X10_isLetter_29 at h
  exact q_zret C B.2.2.2.2.1 dX10_isLetter_29 h
def F_X10_isLetter_28 (κ : Nat → Nat) : q_X Int32 :=
  F_X10_isLetter_29 κ (0 : Int32)
theorem M_X10_isLetter_28 (κ : Nat → Nat) : q_mo (F_X10_isLetter_28 κ) := (M_X10_isLetter_29 κ (0 : Int32))
set_option maxRecDepth 100000 in
set_option maxHeartbeats 4000000 in
theorem S_X10_isLetter_28 {E : q_Ev} {Γ : q_Gm} {w : (Int32 ⊕ q_Exn) × q_St} (B : q_Bd E Γ cX10_isLetter yX10_isLetter.cls 1 0 0 (some .boolean) yX10_isLetter.name w) (hT : q_nT Γ) (σ : q_St) (h : F_X10_isLetter_28 (q_kap E) σ = some w) : q_W E Γ (q_QF E Γ q_oI w) 1 σ 28 [] [] := by
  have C := B.1
  unfold F_X10_isLetter_28 at h
  refine q_iconst (pc := 28) (v := (0 : Int32)) C dX10_isLetter_28 (by decide) ?_
  exact S_X10_isLetter_29 B hT (0 : Int32) _ h
def F_X10_isLetter_24 (κ : Nat → Nat) : q_X Int32 :=
  F_X10_isLetter_29 κ (1 : Int32)
theorem M_X10_isLetter_24 (κ : Nat → Nat) : q_mo (F_X10_isLetter_24 κ) := (M_X10_isLetter_29 κ (1 : Int32))
set_option maxRecDepth 100000 in
set_option maxHeartbeats 4000000 in
theorem S_X10_isLetter_24 {E : q_Ev} {Γ : q_Gm} {w : (Int32 ⊕ q_Exn) × q_St} (B : q_Bd E Γ cX10_isLetter yX10_isLetter.cls 1 0 0 (some .boolean) yX10_isLetter.name w) (hT : q_nT Γ) (σ : q_St) (h : F_X10_isLetter_24 (q_kap E) σ = some w) : q_W E Γ (q_QF E Γ q_oI w) 1 σ 24 [] [] := by
  have C := B.1
  unfold F_X10_isLetter_24 at h
  refine q_iconst (pc := 24) (v := (1 : Int32)) C dX10_isLetter_24 (by decide) ?_
  refine q_goto (pc := 25) (tgt := 29) C dX10_isLetter_25 (by decide) ?_
  exact S_X10_isLetter_29 B hT (1 : Int32) _ h
def F_X10_isLetter_12 (κ : Nat → Nat) (l0 : Int32) : q_X Int32 :=
  q_br (l0 < (65 : Int32)) (F_X10_isLetter_28 κ) (q_br ((90 : Int32) < l0) (F_X10_isLetter_28 κ) (F_X10_isLetter_24 κ))
theorem M_X10_isLetter_12 (κ : Nat → Nat) (l0 : Int32) : q_mo (F_X10_isLetter_12 κ l0) := (q_mo_br (M_X10_isLetter_28 κ) (q_mo_br (M_X10_isLetter_28 κ) (M_X10_isLetter_24 κ)))
set_option maxRecDepth 100000 in
set_option maxHeartbeats 4000000 in
theorem S_X10_isLetter_12 {E : q_Ev} {Γ : q_Gm} {w : (Int32 ⊕ q_Exn) × q_St} (B : q_Bd E Γ cX10_isLetter yX10_isLetter.cls 1 0 0 (some .boolean) yX10_isLetter.name w) (hT : q_nT Γ) (l0 : Int32) (σ : q_St) (h : F_X10_isLetter_12 (q_kap E) l0 σ = some w) : q_W E Γ (q_QF E Γ q_oI w) 1 σ 12 [(0, q_I l0)] [] := by
  have C := B.1
  unfold F_X10_isLetter_12 at h
  refine q_iload_n (pc := 12) C 0 rfl dX10_isLetter_12 rfl ?_
  refine q_bipush (pc := 13) (v := (65 : Int32)) C dX10_isLetter_13 (by decide) ?_
  refine q_icmp_lt (pc := 15) (tgt := 28) C dX10_isLetter_15 (by decide) h (fun _ h => ?_) (fun _ h => ?_)
  · refine q_W.sub [] rfl ?_
    exact S_X10_isLetter_28 B hT _ h
  · refine q_iload_n (pc := 18) C 0 rfl dX10_isLetter_18 rfl ?_
    refine q_bipush (pc := 19) (v := (90 : Int32)) C dX10_isLetter_19 (by decide) ?_
    refine q_icmp_gt (pc := 21) (tgt := 28) C dX10_isLetter_21 (by decide) h (fun _ h => ?_) (fun _ h => ?_)
    · refine q_W.sub [] rfl ?_
      exact S_X10_isLetter_28 B hT _ h
    · refine q_W.sub [] rfl ?_
      exact S_X10_isLetter_24 B hT _ h
def F_X10_isLetter (κ : Nat → Nat) (l0 : Int32) : q_X Int32 :=
  q_br (l0 < (97 : Int32)) (F_X10_isLetter_12 κ l0) (q_br (l0 ≤ (122 : Int32)) (F_X10_isLetter_24 κ) (F_X10_isLetter_12 κ l0))
theorem M_X10_isLetter (κ : Nat → Nat) (l0 : Int32) : q_mo (F_X10_isLetter κ l0) := (q_mo_br (M_X10_isLetter_12 κ l0) (q_mo_br (M_X10_isLetter_24 κ) (M_X10_isLetter_12 κ l0)))
set_option maxRecDepth 100000 in
set_option maxHeartbeats 4000000 in
theorem K_X10_isLetter {E : q_Ev} (l0 : Int32) : q_Ct E yX10_isLetter (.code yX10_isLetter cX10_isLetter 1 (some .boolean)) 0 0 [q_I l0] q_oI (F_X10_isLetter (q_kap E) l0) := by
  refine q_enter (by decide) (Nat.le_of_ble_eq_true rfl) (fun Γ σ w h B hT => ?_)
  have C := B.1
  unfold F_X10_isLetter at h
  refine q_iload_n (pc := 0) C 0 rfl dX10_isLetter_0 rfl ?_
  refine q_bipush (pc := 1) (v := (97 : Int32)) C dX10_isLetter_1 (by decide) ?_
  refine q_icmp_lt (pc := 3) (tgt := 12) C dX10_isLetter_3 (by decide) h (fun _ h => ?_) (fun _ h => ?_)
  · exact S_X10_isLetter_12 B hT l0 _ h
  · refine q_iload_n (pc := 6) C 0 rfl dX10_isLetter_6 rfl ?_
    refine q_bipush (pc := 7) (v := (122 : Int32)) C dX10_isLetter_7 (by decide) ?_
    refine q_icmp_le (pc := 9) (tgt := 24) C dX10_isLetter_9 (by decide) h (fun _ h => ?_) (fun _ h => ?_)
    · refine q_W.sub [] rfl ?_
      exact S_X10_isLetter_24 B hT _ h
    · exact S_X10_isLetter_12 B hT l0 _ h
def F_X10_isDigit_17 (κ : Nat → Nat) (s0 : Int32) : q_X Int32 :=
  q_rz s0
theorem M_X10_isDigit_17 (κ : Nat → Nat) (s0 : Int32) : q_mo (F_X10_isDigit_17 κ s0) := q_mo_rz
set_option maxRecDepth 100000 in
set_option maxHeartbeats 4000000 in
theorem S_X10_isDigit_17 {E : q_Ev} {Γ : q_Gm} {w : (Int32 ⊕ q_Exn) × q_St} (B : q_Bd E Γ cX10_isDigit yX10_isDigit.cls 1 0 0 (some .boolean) yX10_isDigit.name w) (hT : q_nT Γ) (s0 : Int32) (σ : q_St) (h : F_X10_isDigit_17 (q_kap E) s0 σ = some w) : q_W E Γ (q_QF E Γ q_oI w) 1 σ 17 [] [q_I s0] := by
  have C := B.1
  unfold F_X10_isDigit_17 at h
  exact q_zret C B.2.2.2.2.1 dX10_isDigit_17 h
def F_X10_isDigit_16 (κ : Nat → Nat) : q_X Int32 :=
  F_X10_isDigit_17 κ (0 : Int32)
theorem M_X10_isDigit_16 (κ : Nat → Nat) : q_mo (F_X10_isDigit_16 κ) := (M_X10_isDigit_17 κ (0 : Int32))
set_option maxRecDepth 100000 in
set_option maxHeartbeats 4000000 in
theorem S_X10_isDigit_16 {E : q_Ev} {Γ : q_Gm} {w : (Int32 ⊕ q_Exn) × q_St} (B : q_Bd E Γ cX10_isDigit yX10_isDigit.cls 1 0 0 (some .boolean) yX10_isDigit.name w) (hT : q_nT Γ) (σ : q_St) (h : F_X10_isDigit_16 (q_kap E) σ = some w) : q_W E Γ (q_QF E Γ q_oI w) 1 σ 16 [] [] := by
  have C := B.1
  unfold F_X10_isDigit_16 at h
  refine q_iconst (pc := 16) (v := (0 : Int32)) C dX10_isDigit_16 (by decide) ?_
  exact S_X10_isDigit_17 B hT (0 : Int32) _ h
def F_X10_isDigit (κ : Nat → Nat) (l0 : Int32) : q_X Int32 :=
  q_br (l0 < (48 : Int32)) (F_X10_isDigit_16 κ) (q_br ((57 : Int32) < l0) (F_X10_isDigit_16 κ) (F_X10_isDigit_17 κ (1 : Int32)))
theorem M_X10_isDigit (κ : Nat → Nat) (l0 : Int32) : q_mo (F_X10_isDigit κ l0) := (q_mo_br (M_X10_isDigit_16 κ) (q_mo_br (M_X10_isDigit_16 κ) (M_X10_isDigit_17 κ (1 : Int32))))
set_option maxRecDepth 100000 in
set_option maxHeartbeats 4000000 in
theorem K_X10_isDigit {E : q_Ev} (l0 : Int32) : q_Ct E yX10_isDigit (.code yX10_isDigit cX10_isDigit 1 (some .boolean)) 0 0 [q_I l0] q_oI (F_X10_isDigit (q_kap E) l0) := by
  refine q_enter (by decide) (Nat.le_of_ble_eq_true rfl) (fun Γ σ w h B hT => ?_)
  have C := B.1
  unfold F_X10_isDigit at h
  refine q_iload_n (pc := 0) C 0 rfl dX10_isDigit_0 rfl ?_
  refine q_bipush (pc := 1) (v := (48 : Int32)) C dX10_isDigit_1 (by decide) ?_
  refine q_icmp_lt (pc := 3) (tgt := 16) C dX10_isDigit_3 (by decide) h (fun _ h => ?_) (fun _ h => ?_)
  · refine q_W.sub [] rfl ?_
    exact S_X10_isDigit_16 B hT _ h
  · refine q_iload_n (pc := 6) C 0 rfl dX10_isDigit_6 rfl ?_
    refine q_bipush (pc := 7) (v := (57 : Int32)) C dX10_isDigit_7 (by decide) ?_
    refine q_icmp_gt (pc := 9) (tgt := 16) C dX10_isDigit_9 (by decide) h (fun _ h => ?_) (fun _ h => ?_)
    · refine q_W.sub [] rfl ?_
      exact S_X10_isDigit_16 B hT _ h
    · refine q_iconst (pc := 12) (v := (1 : Int32)) C dX10_isDigit_12 (by decide) ?_
      refine q_goto (pc := 13) (tgt := 17) C dX10_isDigit_13 (by decide) ?_
      refine q_W.sub [] rfl ?_
      exact S_X10_isDigit_17 B hT (1 : Int32) _ h
def F_X10_isRowByte_25 (κ : Nat → Nat) (s0 : Int32) : q_X Int32 :=
  q_rz s0
theorem M_X10_isRowByte_25 (κ : Nat → Nat) (s0 : Int32) : q_mo (F_X10_isRowByte_25 κ s0) := q_mo_rz
set_option maxRecDepth 100000 in
set_option maxHeartbeats 4000000 in
theorem S_X10_isRowByte_25 {E : q_Ev} {Γ : q_Gm} {w : (Int32 ⊕ q_Exn) × q_St} (B : q_Bd E Γ cX10_isRowByte yX10_isRowByte.cls 1 1 20 (some .boolean) yX10_isRowByte.name w) (hT : q_nT Γ) (s0 : Int32) (σ : q_St) (h : F_X10_isRowByte_25 (q_kap E) s0 σ = some w) : q_W E Γ (q_QF E Γ q_oI w) 1 σ 25 [] [q_I s0] := by
  have C := B.1
  unfold F_X10_isRowByte_25 at h
  exact q_zret C B.2.2.2.2.1 dX10_isRowByte_25 h
def F_X10_isRowByte_20 (κ : Nat → Nat) : q_X Int32 :=
  F_X10_isRowByte_25 κ (1 : Int32)
theorem M_X10_isRowByte_20 (κ : Nat → Nat) : q_mo (F_X10_isRowByte_20 κ) := (M_X10_isRowByte_25 κ (1 : Int32))
set_option maxRecDepth 100000 in
set_option maxHeartbeats 4000000 in
theorem S_X10_isRowByte_20 {E : q_Ev} {Γ : q_Gm} {w : (Int32 ⊕ q_Exn) × q_St} (B : q_Bd E Γ cX10_isRowByte yX10_isRowByte.cls 1 1 20 (some .boolean) yX10_isRowByte.name w) (hT : q_nT Γ) (σ : q_St) (h : F_X10_isRowByte_20 (q_kap E) σ = some w) : q_W E Γ (q_QF E Γ q_oI w) 1 σ 20 [] [] := by
  have C := B.1
  unfold F_X10_isRowByte_20 at h
  refine q_iconst (pc := 20) (v := (1 : Int32)) C dX10_isRowByte_20 (by decide) ?_
  refine q_goto (pc := 21) (tgt := 25) C dX10_isRowByte_21 (by decide) ?_
  exact S_X10_isRowByte_25 B hT (1 : Int32) _ h
def F_X10_isRowByte (κ : Nat → Nat) (l0 : Int32) : q_X Int32 :=
  q_ca (F_X10_isLetter κ l0) fun v1 => q_br (¬ v1 = 0) (F_X10_isRowByte_20 κ) (q_ca (F_X10_isDigit κ l0) fun v8 => q_br (¬ v8 = 0) (F_X10_isRowByte_20 κ) (q_br (¬ l0 = (95 : Int32)) (F_X10_isRowByte_25 κ (0 : Int32)) (F_X10_isRowByte_20 κ)))
theorem M_X10_isRowByte (κ : Nat → Nat) (l0 : Int32) : q_mo (F_X10_isRowByte κ l0) := (q_mo_ca (M_X10_isLetter κ l0) fun v1 => (q_mo_br (M_X10_isRowByte_20 κ) (q_mo_ca (M_X10_isDigit κ l0) fun v8 => (q_mo_br (M_X10_isRowByte_20 κ) (q_mo_br (M_X10_isRowByte_25 κ (0 : Int32)) (M_X10_isRowByte_20 κ))))))
set_option maxRecDepth 100000 in
set_option maxHeartbeats 4000000 in
theorem K_X10_isRowByte {E : q_Ev} (l0 : Int32) : q_Ct E yX10_isRowByte (.code yX10_isRowByte cX10_isRowByte 1 (some .boolean)) 1 20 [q_I l0] q_oI (F_X10_isRowByte (q_kap E) l0) := by
  refine q_enter (by decide) (Nat.le_of_ble_eq_true rfl) (fun Γ σ w h B hT => ?_)
  have C := B.1
  unfold F_X10_isRowByte at h
  refine q_iload_n (pc := 0) C 0 rfl dX10_isRowByte_0 rfl ?_
  refine q_callS (pc := 1) (As := [q_I l0]) (st := []) (ps := q_psI) C B.2.1 hT q_hpI qm_X10_86 qs_X10_isLetter dX10_isRowByte_1 rfl rfl (Nat.le_of_ble_eq_true rfl) (q_flo B.2.2.1 B.2.2.2.1 (by decide) (by decide)) (K_X10_isLetter l0) (M_X10_isLetter (q_kap E) l0) (fun v1 => (q_mo_br (M_X10_isRowByte_20 (q_kap E)) (q_mo_ca (M_X10_isDigit (q_kap E) l0) fun v8 => (q_mo_br (M_X10_isRowByte_20 (q_kap E)) (q_mo_br (M_X10_isRowByte_25 (q_kap E) (0 : Int32)) (M_X10_isRowByte_20 (q_kap E))))))) h (fun v1 σ h => ?_)
  refine q_W.st (st' := [q_I v1]) rfl ?_
  refine q_if_ne (pc := 4) (tgt := 20) C dX10_isRowByte_4 (by decide) h (fun _ h => ?_) (fun _ h => ?_)
  · refine q_W.sub [] rfl ?_
    exact S_X10_isRowByte_20 B hT _ h
  · refine q_iload_n (pc := 7) C 0 rfl dX10_isRowByte_7 rfl ?_
    refine q_callS (pc := 8) (As := [q_I l0]) (st := []) (ps := q_psI) C B.2.1 hT q_hpI qm_X10_72 qs_X10_isDigit dX10_isRowByte_8 rfl rfl (Nat.le_of_ble_eq_true rfl) (q_flo B.2.2.1 B.2.2.2.1 (by decide) (by decide)) (K_X10_isDigit l0) (M_X10_isDigit (q_kap E) l0) (fun v8 => (q_mo_br (M_X10_isRowByte_20 (q_kap E)) (q_mo_br (M_X10_isRowByte_25 (q_kap E) (0 : Int32)) (M_X10_isRowByte_20 (q_kap E))))) h (fun v8 σ h => ?_)
    refine q_W.st (st' := [q_I v8]) rfl ?_
    refine q_if_ne (pc := 11) (tgt := 20) C dX10_isRowByte_11 (by decide) h (fun _ h => ?_) (fun _ h => ?_)
    · refine q_W.sub [] rfl ?_
      exact S_X10_isRowByte_20 B hT _ h
    · refine q_iload_n (pc := 14) C 0 rfl dX10_isRowByte_14 rfl ?_
      refine q_bipush (pc := 15) (v := (95 : Int32)) C dX10_isRowByte_15 (by decide) ?_
      refine q_icmp_ne (pc := 17) (tgt := 24) C dX10_isRowByte_17 (by decide) h (fun _ h => ?_) (fun _ h => ?_)
      · refine q_iconst (pc := 24) (v := (0 : Int32)) C dX10_isRowByte_24 (by decide) ?_
        refine q_W.sub [] rfl ?_
        exact S_X10_isRowByte_25 B hT (0 : Int32) _ h
      · refine q_W.sub [] rfl ?_
        exact S_X10_isRowByte_20 B hT _ h
def F_X10_rowEnd_28 (κ : Nat → Nat) (l2 : Int32) : q_X Int32 :=
  q_rt l2
theorem M_X10_rowEnd_28 (κ : Nat → Nat) (l2 : Int32) : q_mo (F_X10_rowEnd_28 κ l2) := q_mo_rt
set_option maxRecDepth 100000 in
set_option maxHeartbeats 4000000 in
theorem S_X10_rowEnd_28 {E : q_Ev} {Γ : q_Gm} {w : (Int32 ⊕ q_Exn) × q_St} (B : q_Bd E Γ cX10_rowEnd yX10_rowEnd.cls 3 2 40 (some .int) yX10_rowEnd.name w) (hT : q_nT Γ) (l2 : Int32) (σ : q_St) (h : F_X10_rowEnd_28 (q_kap E) l2 σ = some w) : q_W E Γ (q_QF E Γ q_oI w) 3 σ 28 [(2, q_I l2)] [] := by
  have C := B.1
  unfold F_X10_rowEnd_28 at h
  refine q_iload_n (pc := 28) C 0 rfl dX10_rowEnd_28 rfl ?_
  exact q_iret C B.2.2.2.2.1 dX10_rowEnd_29 h
def F_X10_rowEnd_2B (κ : Nat → Nat) (r2 : Option Nat → Int32 → q_X Int32) (l0 : Option Nat) (l2 : Int32) : q_X Int32 :=
  q_rd (q_gI l0 13 5) fun v4 => q_br (v4 ≤ l2) (F_X10_rowEnd_28 κ l2) (q_rd (q_gA l0 13 0) fun v11 => q_rd (q_lI 0 v11 l2) fun v15 => q_ca (F_X10_isRowByte κ v15) fun v16 => q_br (v16 = 0) (F_X10_rowEnd_28 κ l2) (r2 l0 (l2 + (1 : Int32))))
theorem M_X10_rowEnd_2B (κ : Nat → Nat) (r2 : Option Nat → Int32 → q_X Int32) (mr2 : ∀ (l0 : Option Nat) (l2 : Int32), q_mo (r2 l0 l2)) (l0 : Option Nat) (l2 : Int32) : q_mo (F_X10_rowEnd_2B κ r2 l0 l2) := (q_mo_rd fun v4 => (q_mo_br (M_X10_rowEnd_28 κ l2) (q_mo_rd fun v11 => (q_mo_rd fun v15 => (q_mo_ca (M_X10_isRowByte κ v15) fun v16 => (q_mo_br (M_X10_rowEnd_28 κ l2) (mr2 l0 (l2 + (1 : Int32)))))))))
set_option maxRecDepth 100000 in
set_option maxHeartbeats 4000000 in
theorem S_X10_rowEnd_2B {E : q_Ev} {Γ : q_Gm} {w : (Int32 ⊕ q_Exn) × q_St} (B : q_Bd E Γ cX10_rowEnd yX10_rowEnd.cls 3 2 40 (some .int) yX10_rowEnd.name w) (hT : q_nT Γ) (r2 : Option Nat → Int32 → q_X Int32) (hr2 : ∀ (l0 : Option Nat) (l2 : Int32) (σ : q_St), r2 l0 l2 σ = some w → q_W E Γ (q_QF E Γ q_oI w) 3 σ 2 [(0, q_R l0), (2, q_I l2)] []) (mr2 : ∀ (l0 : Option Nat) (l2 : Int32), q_mo (r2 l0 l2)) (l0 : Option Nat) (l2 : Int32) (σ : q_St) (h : F_X10_rowEnd_2B (q_kap E) r2 l0 l2 σ = some w) : q_W E Γ (q_QF E Γ q_oI w) 3 σ 2 [(0, q_R l0), (2, q_I l2)] [] := by
  have C := B.1
  unfold F_X10_rowEnd_2B at h
  refine q_iload_n (pc := 2) C 1 rfl dX10_rowEnd_2 rfl ?_
  refine q_aload_n (pc := 3) C 0 rfl dX10_rowEnd_3 rfl ?_
  refine q_getI (pc := 4) C dX10_rowEnd_4 ql_X10_29 h (fun v4 h => ?_)
  refine q_icmp_ge (pc := 7) (tgt := 28) C dX10_rowEnd_7 (by decide) h (fun _ h => ?_) (fun _ h => ?_)
  · refine q_W.sub [1] rfl ?_
    exact S_X10_rowEnd_28 B hT l2 _ h
  · refine q_aload_n (pc := 10) C 0 rfl dX10_rowEnd_10 rfl ?_
    refine q_getA (pc := 11) C dX10_rowEnd_11 ql_X10_9 h (fun v11 h => ?_)
    refine q_iload_n (pc := 14) C 1 rfl dX10_rowEnd_14 rfl ?_
    refine q_ldI (pc := 15) C dX10_rowEnd_15 (Or.inl ⟨rfl, rfl⟩) h (fun v15 h => ?_)
    refine q_callS (pc := 16) (As := [q_I v15]) (st := []) (ps := q_psI) C B.2.1 hT q_hpI qm_X10_44 qs_X10_isRowByte dX10_rowEnd_16 rfl rfl (Nat.le_of_ble_eq_true rfl) (q_flo B.2.2.1 B.2.2.2.1 (by decide) (by decide)) (K_X10_isRowByte v15) (M_X10_isRowByte (q_kap E) v15) (fun v16 => (q_mo_br (M_X10_rowEnd_28 (q_kap E) l2) (mr2 l0 (l2 + (1 : Int32))))) h (fun v16 σ h => ?_)
    refine q_W.st (st' := [q_I v16]) rfl ?_
    refine q_if_eq (pc := 19) (tgt := 28) C dX10_rowEnd_19 (by decide) h (fun _ h => ?_) (fun _ h => ?_)
    · refine q_W.sub [1] rfl ?_
      exact S_X10_rowEnd_28 B hT l2 _ h
    · refine q_iinc (pc := 22) (v := (1 : Int32)) (l' := [(2, q_I (l2 + (1 : Int32))), (0, q_R l0)]) C 1 rfl dX10_rowEnd_22 (by decide) (by decide) rfl ?_
      refine q_goto (pc := 25) (tgt := 2) C dX10_rowEnd_25 (by decide) ?_
      refine q_W.sub [1, 0] rfl ?_
      exact hr2 l0 (l2 + (1 : Int32)) _ h
def F_X10_rowEnd_2 (κ : Nat → Nat) : Nat → Option Nat → Int32 → q_X Int32
  | 0, _, _ => q_no
  | n + 1, l0, l2 => F_X10_rowEnd_2B κ (F_X10_rowEnd_2 κ n) l0 l2
theorem M_X10_rowEnd_2 (κ : Nat → Nat) : ∀ (n : Nat) (l0 : Option Nat) (l2 : Int32), q_mo (F_X10_rowEnd_2 κ n l0 l2)
  | 0, _, _ => q_mo_no
  | n + 1, l0, l2 => M_X10_rowEnd_2B κ (F_X10_rowEnd_2 κ n) (M_X10_rowEnd_2 κ n) l0 l2
theorem S_X10_rowEnd_2 {E : q_Ev} {Γ : q_Gm} {w : (Int32 ⊕ q_Exn) × q_St} (B : q_Bd E Γ cX10_rowEnd yX10_rowEnd.cls 3 2 40 (some .int) yX10_rowEnd.name w) (hT : q_nT Γ) : ∀ (n : Nat) (l0 : Option Nat) (l2 : Int32) (σ : q_St), F_X10_rowEnd_2 (q_kap E) n l0 l2 σ = some w → q_W E Γ (q_QF E Γ q_oI w) 3 σ 2 [(0, q_R l0), (2, q_I l2)] []
  | 0, _, _, _, h => by cases h
  | n + 1, l0, l2, σ, h => S_X10_rowEnd_2B B hT (F_X10_rowEnd_2 (q_kap E) n) (S_X10_rowEnd_2 B hT n) (M_X10_rowEnd_2 (q_kap E) n) l0 l2 σ h
def F_X10_rowEnd (κ : Nat → Nat) (l0 : Option Nat) (l1 : Int32) : q_X Int32 :=
  F_X10_rowEnd_2 κ q_fu l0 l1
theorem M_X10_rowEnd (κ : Nat → Nat) (l0 : Option Nat) (l1 : Int32) : q_mo (F_X10_rowEnd κ l0 l1) := (M_X10_rowEnd_2 κ q_fu l0 l1)
set_option maxRecDepth 100000 in
set_option maxHeartbeats 4000000 in
theorem K_X10_rowEnd {E : q_Ev} (l0 : Option Nat) (l1 : Int32) : q_Ct E yX10_rowEnd (.code yX10_rowEnd cX10_rowEnd 3 (some .int)) 2 40 [q_R l0, q_I l1] q_oI (F_X10_rowEnd (q_kap E) l0 l1) := by
  refine q_enter (by decide) (Nat.le_of_ble_eq_true rfl) (fun Γ σ w h B hT => ?_)
  have C := B.1
  unfold F_X10_rowEnd at h
  refine q_iload_n (pc := 0) C 1 rfl dX10_rowEnd_0 rfl ?_
  refine q_istore_n (pc := 1) (l' := [(2, q_I l1), (0, q_R l0), (1, q_I l1)]) C dX10_rowEnd_1 rfl (by decide) rfl ?_
  refine q_W.sub [1, 0] rfl ?_
  exact S_X10_rowEnd_2 B hT q_fu l0 l1 _ h
def F_X10_digitValue_61 (κ : Nat → Nat) (s0 : Int32) : q_X Int32 :=
  q_rt s0
theorem M_X10_digitValue_61 (κ : Nat → Nat) (s0 : Int32) : q_mo (F_X10_digitValue_61 κ s0) := q_mo_rt
set_option maxRecDepth 100000 in
set_option maxHeartbeats 4000000 in
theorem S_X10_digitValue_61 {E : q_Ev} {Γ : q_Gm} {w : (Int32 ⊕ q_Exn) × q_St} (B : q_Bd E Γ cX10_digitValue yX10_digitValue.cls 1 0 0 (some .int) yX10_digitValue.name w) (hT : q_nT Γ) (s0 : Int32) (σ : q_St) (h : F_X10_digitValue_61 (q_kap E) s0 σ = some w) : q_W E Γ (q_QF E Γ q_oI w) 1 σ 61 [] [q_I s0] := by
  have C := B.1
  unfold F_X10_digitValue_61 at h
  exact q_iret C B.2.2.2.2.1 dX10_digitValue_61 h
def F_X10_digitValue_59 (κ : Nat → Nat) : q_X Int32 :=
  F_X10_digitValue_61 κ (16 : Int32)
theorem M_X10_digitValue_59 (κ : Nat → Nat) : q_mo (F_X10_digitValue_59 κ) := (M_X10_digitValue_61 κ (16 : Int32))
set_option maxRecDepth 100000 in
set_option maxHeartbeats 4000000 in
theorem S_X10_digitValue_59 {E : q_Ev} {Γ : q_Gm} {w : (Int32 ⊕ q_Exn) × q_St} (B : q_Bd E Γ cX10_digitValue yX10_digitValue.cls 1 0 0 (some .int) yX10_digitValue.name w) (hT : q_nT Γ) (σ : q_St) (h : F_X10_digitValue_59 (q_kap E) σ = some w) : q_W E Γ (q_QF E Γ q_oI w) 1 σ 59 [] [] := by
  have C := B.1
  unfold F_X10_digitValue_59 at h
  refine q_bipush (pc := 59) (v := (16 : Int32)) C dX10_digitValue_59 (by decide) ?_
  exact S_X10_digitValue_61 B hT (16 : Int32) _ h
def F_X10_digitValue_37 (κ : Nat → Nat) (l0 : Int32) : q_X Int32 :=
  q_br (l0 < (65 : Int32)) (F_X10_digitValue_59 κ) (q_br ((70 : Int32) < l0) (F_X10_digitValue_59 κ) (F_X10_digitValue_61 κ ((l0 - (65 : Int32)) + (10 : Int32))))
theorem M_X10_digitValue_37 (κ : Nat → Nat) (l0 : Int32) : q_mo (F_X10_digitValue_37 κ l0) := (q_mo_br (M_X10_digitValue_59 κ) (q_mo_br (M_X10_digitValue_59 κ) (M_X10_digitValue_61 κ ((l0 - (65 : Int32)) + (10 : Int32)))))
set_option maxRecDepth 100000 in
set_option maxHeartbeats 4000000 in
theorem S_X10_digitValue_37 {E : q_Ev} {Γ : q_Gm} {w : (Int32 ⊕ q_Exn) × q_St} (B : q_Bd E Γ cX10_digitValue yX10_digitValue.cls 1 0 0 (some .int) yX10_digitValue.name w) (hT : q_nT Γ) (l0 : Int32) (σ : q_St) (h : F_X10_digitValue_37 (q_kap E) l0 σ = some w) : q_W E Γ (q_QF E Γ q_oI w) 1 σ 37 [(0, q_I l0)] [] := by
  have C := B.1
  unfold F_X10_digitValue_37 at h
  refine q_iload_n (pc := 37) C 0 rfl dX10_digitValue_37 rfl ?_
  refine q_bipush (pc := 38) (v := (65 : Int32)) C dX10_digitValue_38 (by decide) ?_
  refine q_icmp_lt (pc := 40) (tgt := 59) C dX10_digitValue_40 (by decide) h (fun _ h => ?_) (fun _ h => ?_)
  · refine q_W.sub [] rfl ?_
    exact S_X10_digitValue_59 B hT _ h
  · refine q_iload_n (pc := 43) C 0 rfl dX10_digitValue_43 rfl ?_
    refine q_bipush (pc := 44) (v := (70 : Int32)) C dX10_digitValue_44 (by decide) ?_
    refine q_icmp_gt (pc := 46) (tgt := 59) C dX10_digitValue_46 (by decide) h (fun _ h => ?_) (fun _ h => ?_)
    · refine q_W.sub [] rfl ?_
      exact S_X10_digitValue_59 B hT _ h
    · refine q_iload_n (pc := 49) C 0 rfl dX10_digitValue_49 rfl ?_
      refine q_bipush (pc := 50) (v := (65 : Int32)) C dX10_digitValue_50 (by decide) ?_
      refine q_isub (pc := 52) C dX10_digitValue_52 ?_
      refine q_bipush (pc := 53) (v := (10 : Int32)) C dX10_digitValue_53 (by decide) ?_
      refine q_iadd (pc := 55) C dX10_digitValue_55 ?_
      refine q_goto (pc := 56) (tgt := 61) C dX10_digitValue_56 (by decide) ?_
      refine q_W.sub [] rfl ?_
      exact S_X10_digitValue_61 B hT ((l0 - (65 : Int32)) + (10 : Int32)) _ h
def F_X10_digitValue_17 (κ : Nat → Nat) (l0 : Int32) : q_X Int32 :=
  q_br (l0 < (97 : Int32)) (F_X10_digitValue_37 κ l0) (q_br ((102 : Int32) < l0) (F_X10_digitValue_37 κ l0) (q_rt ((l0 - (97 : Int32)) + (10 : Int32))))
theorem M_X10_digitValue_17 (κ : Nat → Nat) (l0 : Int32) : q_mo (F_X10_digitValue_17 κ l0) := (q_mo_br (M_X10_digitValue_37 κ l0) (q_mo_br (M_X10_digitValue_37 κ l0) q_mo_rt))
set_option maxRecDepth 100000 in
set_option maxHeartbeats 4000000 in
theorem S_X10_digitValue_17 {E : q_Ev} {Γ : q_Gm} {w : (Int32 ⊕ q_Exn) × q_St} (B : q_Bd E Γ cX10_digitValue yX10_digitValue.cls 1 0 0 (some .int) yX10_digitValue.name w) (hT : q_nT Γ) (l0 : Int32) (σ : q_St) (h : F_X10_digitValue_17 (q_kap E) l0 σ = some w) : q_W E Γ (q_QF E Γ q_oI w) 1 σ 17 [(0, q_I l0)] [] := by
  have C := B.1
  unfold F_X10_digitValue_17 at h
  refine q_iload_n (pc := 17) C 0 rfl dX10_digitValue_17 rfl ?_
  refine q_bipush (pc := 18) (v := (97 : Int32)) C dX10_digitValue_18 (by decide) ?_
  refine q_icmp_lt (pc := 20) (tgt := 37) C dX10_digitValue_20 (by decide) h (fun _ h => ?_) (fun _ h => ?_)
  · exact S_X10_digitValue_37 B hT l0 _ h
  · refine q_iload_n (pc := 23) C 0 rfl dX10_digitValue_23 rfl ?_
    refine q_bipush (pc := 24) (v := (102 : Int32)) C dX10_digitValue_24 (by decide) ?_
    refine q_icmp_gt (pc := 26) (tgt := 37) C dX10_digitValue_26 (by decide) h (fun _ h => ?_) (fun _ h => ?_)
    · exact S_X10_digitValue_37 B hT l0 _ h
    · refine q_iload_n (pc := 29) C 0 rfl dX10_digitValue_29 rfl ?_
      refine q_bipush (pc := 30) (v := (97 : Int32)) C dX10_digitValue_30 (by decide) ?_
      refine q_isub (pc := 32) C dX10_digitValue_32 ?_
      refine q_bipush (pc := 33) (v := (10 : Int32)) C dX10_digitValue_33 (by decide) ?_
      refine q_iadd (pc := 35) C dX10_digitValue_35 ?_
      exact q_iret C B.2.2.2.2.1 dX10_digitValue_36 h
def F_X10_digitValue (κ : Nat → Nat) (l0 : Int32) : q_X Int32 :=
  q_br (l0 < (48 : Int32)) (F_X10_digitValue_17 κ l0) (q_br ((57 : Int32) < l0) (F_X10_digitValue_17 κ l0) (q_rt (l0 - (48 : Int32))))
theorem M_X10_digitValue (κ : Nat → Nat) (l0 : Int32) : q_mo (F_X10_digitValue κ l0) := (q_mo_br (M_X10_digitValue_17 κ l0) (q_mo_br (M_X10_digitValue_17 κ l0) q_mo_rt))
set_option maxRecDepth 100000 in
set_option maxHeartbeats 4000000 in
theorem K_X10_digitValue {E : q_Ev} (l0 : Int32) : q_Ct E yX10_digitValue (.code yX10_digitValue cX10_digitValue 1 (some .int)) 0 0 [q_I l0] q_oI (F_X10_digitValue (q_kap E) l0) := by
  refine q_enter (by decide) (Nat.le_of_ble_eq_true rfl) (fun Γ σ w h B hT => ?_)
  have C := B.1
  unfold F_X10_digitValue at h
  refine q_iload_n (pc := 0) C 0 rfl dX10_digitValue_0 rfl ?_
  refine q_bipush (pc := 1) (v := (48 : Int32)) C dX10_digitValue_1 (by decide) ?_
  refine q_icmp_lt (pc := 3) (tgt := 17) C dX10_digitValue_3 (by decide) h (fun _ h => ?_) (fun _ h => ?_)
  · exact S_X10_digitValue_17 B hT l0 _ h
  · refine q_iload_n (pc := 6) C 0 rfl dX10_digitValue_6 rfl ?_
    refine q_bipush (pc := 7) (v := (57 : Int32)) C dX10_digitValue_7 (by decide) ?_
    refine q_icmp_gt (pc := 9) (tgt := 17) C dX10_digitValue_9 (by decide) h (fun _ h => ?_) (fun _ h => ?_)
    · exact S_X10_digitValue_17 B hT l0 _ h
    · refine q_iload_n (pc := 12) C 0 rfl dX10_digitValue_12 rfl ?_
      refine q_bipush (pc := 13) (v := (48 : Int32)) C dX10_digitValue_13 (by decide) ?_
      refine q_isub (pc := 15) C dX10_digitValue_15 ?_
      exact q_iret C B.2.2.2.2.1 dX10_digitValue_16 h
def F_X10_valueOf_80 (κ : Nat → Nat) (s0 : Int64) : q_X Int64 :=
  q_rt s0
theorem M_X10_valueOf_80 (κ : Nat → Nat) (s0 : Int64) : q_mo (F_X10_valueOf_80 κ s0) := q_mo_rt
set_option maxRecDepth 100000 in
set_option maxHeartbeats 4000000 in
theorem S_X10_valueOf_80 {E : q_Ev} {Γ : q_Gm} {w : (Int64 ⊕ q_Exn) × q_St} (B : q_Bd E Γ cX10_valueOf yX10_valueOf.cls 9 1 20 (some .long) yX10_valueOf.name w) (hT : q_nT Γ) (s0 : Int64) (σ : q_St) (h : F_X10_valueOf_80 (q_kap E) s0 σ = some w) : q_W E Γ (q_QF E Γ q_oL w) 9 σ 80 [] [q_L s0] := by
  have C := B.1
  unfold F_X10_valueOf_80 at h
  exact q_lret C B.2.2.2.2.1 dX10_valueOf_80 h
def F_X10_valueOf_18B (κ : Nat → Nat) (r18 : Option Nat → Int32 → Int32 → Int64 → Int32 → q_X Int64) (l0 : Option Nat) (l2 : Int32) (l3 : Int32) (l5 : Int64) (l7 : Int32) : q_X Int64 :=
  q_br (l2 ≤ l7) (q_br (0 ≤ (lg_cmp l5 (4294967296 : Int64))) (F_X10_valueOf_80 κ (-1 : Int64)) (F_X10_valueOf_80 κ l5)) (q_rd (q_gA l0 13 0) fun v25 => q_rd (q_lI 0 v25 l7) fun v30 => q_ca (F_X10_digitValue κ v30) fun v31 => q_br (v31 < l3) (r18 l0 l2 l3 ((l5 * l3.toInt64) + v31.toInt64) (l7 + (1 : Int32))) (q_rt (-1 : Int64)))
theorem M_X10_valueOf_18B (κ : Nat → Nat) (r18 : Option Nat → Int32 → Int32 → Int64 → Int32 → q_X Int64) (mr18 : ∀ (l0 : Option Nat) (l2 : Int32) (l3 : Int32) (l5 : Int64) (l7 : Int32), q_mo (r18 l0 l2 l3 l5 l7)) (l0 : Option Nat) (l2 : Int32) (l3 : Int32) (l5 : Int64) (l7 : Int32) : q_mo (F_X10_valueOf_18B κ r18 l0 l2 l3 l5 l7) := (q_mo_br (q_mo_br (M_X10_valueOf_80 κ (-1 : Int64)) (M_X10_valueOf_80 κ l5)) (q_mo_rd fun v25 => (q_mo_rd fun v30 => (q_mo_ca (M_X10_digitValue κ v30) fun v31 => (q_mo_br (mr18 l0 l2 l3 ((l5 * l3.toInt64) + v31.toInt64) (l7 + (1 : Int32))) q_mo_rt)))))
set_option maxRecDepth 100000 in
set_option maxHeartbeats 4000000 in
theorem S_X10_valueOf_18B {E : q_Ev} {Γ : q_Gm} {w : (Int64 ⊕ q_Exn) × q_St} (B : q_Bd E Γ cX10_valueOf yX10_valueOf.cls 9 1 20 (some .long) yX10_valueOf.name w) (hT : q_nT Γ) (r18 : Option Nat → Int32 → Int32 → Int64 → Int32 → q_X Int64) (hr18 : ∀ (l0 : Option Nat) (l2 : Int32) (l3 : Int32) (l5 : Int64) (l7 : Int32) (σ : q_St), r18 l0 l2 l3 l5 l7 σ = some w → q_W E Γ (q_QF E Γ q_oL w) 9 σ 18 [(0, q_R l0), (2, q_I l2), (3, q_I l3), (5, q_L l5), (7, q_I l7)] []) (mr18 : ∀ (l0 : Option Nat) (l2 : Int32) (l3 : Int32) (l5 : Int64) (l7 : Int32), q_mo (r18 l0 l2 l3 l5 l7)) (l0 : Option Nat) (l2 : Int32) (l3 : Int32) (l5 : Int64) (l7 : Int32) (σ : q_St) (h : F_X10_valueOf_18B (q_kap E) r18 l0 l2 l3 l5 l7 σ = some w) : q_W E Γ (q_QF E Γ q_oL w) 9 σ 18 [(0, q_R l0), (2, q_I l2), (3, q_I l3), (5, q_L l5), (7, q_I l7)] [] := by
  have C := B.1
  unfold F_X10_valueOf_18B at h
  refine q_iload (pc := 18) C 4 rfl dX10_valueOf_18 ?_
  refine q_iload_n (pc := 20) C 1 rfl dX10_valueOf_20 rfl ?_
  refine q_icmp_ge (pc := 21) (tgt := 63) C dX10_valueOf_21 (by decide) h (fun _ h => ?_) (fun _ h => ?_)
  · refine q_lload (pc := 63) C 3 rfl dX10_valueOf_63 ?_
    refine q_ldc2 (pc := 65) (v := (4294967296 : Int64)) C dX10_valueOf_65 qc_X10_84 ?_
    refine q_lcmp (pc := 68) C dX10_valueOf_68 ?_
    refine q_if_ge (pc := 69) (tgt := 77) C dX10_valueOf_69 (by decide) h (fun _ h => ?_) (fun _ h => ?_)
    · refine q_ldc2 (pc := 77) (v := (-1 : Int64)) C dX10_valueOf_77 qc_X10_75 ?_
      refine q_W.sub [] rfl ?_
      exact S_X10_valueOf_80 B hT (-1 : Int64) _ h
    · refine q_lload (pc := 72) C 3 rfl dX10_valueOf_72 ?_
      refine q_goto (pc := 74) (tgt := 80) C dX10_valueOf_74 (by decide) ?_
      refine q_W.sub [] rfl ?_
      exact S_X10_valueOf_80 B hT l5 _ h
  · refine q_aload_n (pc := 24) C 0 rfl dX10_valueOf_24 rfl ?_
    refine q_getA (pc := 25) C dX10_valueOf_25 ql_X10_9 h (fun v25 h => ?_)
    refine q_iload (pc := 28) C 4 rfl dX10_valueOf_28 ?_
    refine q_ldI (pc := 30) C dX10_valueOf_30 (Or.inl ⟨rfl, rfl⟩) h (fun v30 h => ?_)
    refine q_callS (pc := 31) (As := [q_I v30]) (st := []) (ps := q_psI) C B.2.1 hT q_hpI qm_X10_81 qs_X10_digitValue dX10_valueOf_31 rfl rfl (Nat.le_of_ble_eq_true rfl) (q_flo B.2.2.1 B.2.2.2.1 (by decide) (by decide)) (K_X10_digitValue v30) (M_X10_digitValue (q_kap E) v30) (fun v31 => (q_mo_br (mr18 l0 l2 l3 ((l5 * l3.toInt64) + v31.toInt64) (l7 + (1 : Int32))) q_mo_rt)) h (fun v31 σ h => ?_)
    refine q_W.st (st' := [q_I v31]) rfl ?_
    refine q_istore (pc := 34) (l' := [(8, q_I v31), (0, q_R l0), (2, q_I l2), (3, q_I l3), (5, q_L l5), (7, q_I l7)]) C dX10_valueOf_34 (by decide) rfl ?_
    refine q_iload (pc := 36) C 0 rfl dX10_valueOf_36 ?_
    refine q_iload_n (pc := 38) C 3 rfl dX10_valueOf_38 rfl ?_
    refine q_icmp_lt (pc := 39) (tgt := 46) C dX10_valueOf_39 (by decide) h (fun _ h => ?_) (fun _ h => ?_)
    · refine q_lload (pc := 46) C 4 rfl dX10_valueOf_46 ?_
      refine q_iload_n (pc := 48) C 3 rfl dX10_valueOf_48 rfl ?_
      refine q_i2l (pc := 49) C dX10_valueOf_49 ?_
      refine q_lmul (pc := 50) C dX10_valueOf_50 ?_
      refine q_iload (pc := 51) C 0 rfl dX10_valueOf_51 ?_
      refine q_i2l (pc := 53) C dX10_valueOf_53 ?_
      refine q_ladd (pc := 54) C dX10_valueOf_54 ?_
      refine q_lstore (pc := 55) (l' := [(5, q_L ((l5 * l3.toInt64) + v31.toInt64)), (8, q_I v31), (0, q_R l0), (2, q_I l2), (3, q_I l3), (7, q_I l7)]) C dX10_valueOf_55 (by decide) rfl ?_
      refine q_iinc (pc := 57) (v := (1 : Int32)) (l' := [(7, q_I (l7 + (1 : Int32))), (5, q_L ((l5 * l3.toInt64) + v31.toInt64)), (8, q_I v31), (0, q_R l0), (2, q_I l2), (3, q_I l3)]) C 5 rfl dX10_valueOf_57 (by decide) (by decide) rfl ?_
      refine q_goto (pc := 60) (tgt := 18) C dX10_valueOf_60 (by decide) ?_
      refine q_W.sub [3, 4, 5, 1, 0] rfl ?_
      exact hr18 l0 l2 l3 ((l5 * l3.toInt64) + v31.toInt64) (l7 + (1 : Int32)) _ h
    · refine q_ldc2 (pc := 42) (v := (-1 : Int64)) C dX10_valueOf_42 qc_X10_75 ?_
      exact q_lret C B.2.2.2.2.1 dX10_valueOf_45 h
def F_X10_valueOf_18 (κ : Nat → Nat) : Nat → Option Nat → Int32 → Int32 → Int64 → Int32 → q_X Int64
  | 0, _, _, _, _, _ => q_no
  | n + 1, l0, l2, l3, l5, l7 => F_X10_valueOf_18B κ (F_X10_valueOf_18 κ n) l0 l2 l3 l5 l7
theorem M_X10_valueOf_18 (κ : Nat → Nat) : ∀ (n : Nat) (l0 : Option Nat) (l2 : Int32) (l3 : Int32) (l5 : Int64) (l7 : Int32), q_mo (F_X10_valueOf_18 κ n l0 l2 l3 l5 l7)
  | 0, _, _, _, _, _ => q_mo_no
  | n + 1, l0, l2, l3, l5, l7 => M_X10_valueOf_18B κ (F_X10_valueOf_18 κ n) (M_X10_valueOf_18 κ n) l0 l2 l3 l5 l7
theorem S_X10_valueOf_18 {E : q_Ev} {Γ : q_Gm} {w : (Int64 ⊕ q_Exn) × q_St} (B : q_Bd E Γ cX10_valueOf yX10_valueOf.cls 9 1 20 (some .long) yX10_valueOf.name w) (hT : q_nT Γ) : ∀ (n : Nat) (l0 : Option Nat) (l2 : Int32) (l3 : Int32) (l5 : Int64) (l7 : Int32) (σ : q_St), F_X10_valueOf_18 (q_kap E) n l0 l2 l3 l5 l7 σ = some w → q_W E Γ (q_QF E Γ q_oL w) 9 σ 18 [(0, q_R l0), (2, q_I l2), (3, q_I l3), (5, q_L l5), (7, q_I l7)] []
  | 0, _, _, _, _, _, _, h => by cases h
  | n + 1, l0, l2, l3, l5, l7, σ, h => S_X10_valueOf_18B B hT (F_X10_valueOf_18 (q_kap E) n) (S_X10_valueOf_18 B hT n) (M_X10_valueOf_18 (q_kap E) n) l0 l2 l3 l5 l7 σ h
def F_X10_valueOf (κ : Nat → Nat) (l0 : Option Nat) (l1 : Int32) (l2 : Int32) (l3 : Int32) (l4 : Int32) : q_X Int64 :=
  q_br ((l2 - l1) ≤ l4) (F_X10_valueOf_18 κ q_fu l0 l2 l3 (0 : Int64) l1) (q_rt (-1 : Int64))
theorem M_X10_valueOf (κ : Nat → Nat) (l0 : Option Nat) (l1 : Int32) (l2 : Int32) (l3 : Int32) (l4 : Int32) : q_mo (F_X10_valueOf κ l0 l1 l2 l3 l4) := (q_mo_br (M_X10_valueOf_18 κ q_fu l0 l2 l3 (0 : Int64) l1) q_mo_rt)
set_option maxRecDepth 100000 in
set_option maxHeartbeats 4000000 in
theorem K_X10_valueOf {E : q_Ev} (l0 : Option Nat) (l1 : Int32) (l2 : Int32) (l3 : Int32) (l4 : Int32) : q_Ct E yX10_valueOf (.code yX10_valueOf cX10_valueOf 9 (some .long)) 1 20 [q_R l0, q_I l1, q_I l2, q_I l3, q_I l4] q_oL (F_X10_valueOf (q_kap E) l0 l1 l2 l3 l4) := by
  refine q_enter (by decide) (Nat.le_of_ble_eq_true rfl) (fun Γ σ w h B hT => ?_)
  have C := B.1
  unfold F_X10_valueOf at h
  refine q_iload_n (pc := 0) C 2 rfl dX10_valueOf_0 rfl ?_
  refine q_iload_n (pc := 1) C 1 rfl dX10_valueOf_1 rfl ?_
  refine q_isub (pc := 2) C dX10_valueOf_2 ?_
  refine q_iload (pc := 3) C 4 rfl dX10_valueOf_3 ?_
  refine q_icmp_le (pc := 5) (tgt := 12) C dX10_valueOf_5 (by decide) h (fun _ h => ?_) (fun _ h => ?_)
  · refine q_lconst (pc := 12) (v := (0 : Int64)) C dX10_valueOf_12 (by decide) ?_
    refine q_lstore (pc := 13) (l' := [(5, q_L (0 : Int64)), (0, q_R l0), (1, q_I l1), (2, q_I l2), (3, q_I l3), (4, q_I l4)]) C dX10_valueOf_13 (by decide) rfl ?_
    refine q_iload_n (pc := 15) C 2 rfl dX10_valueOf_15 rfl ?_
    refine q_istore (pc := 16) (l' := [(7, q_I l1), (5, q_L (0 : Int64)), (0, q_R l0), (1, q_I l1), (2, q_I l2), (3, q_I l3), (4, q_I l4)]) C dX10_valueOf_16 (by decide) rfl ?_
    refine q_W.sub [2, 4, 5, 1, 0] rfl ?_
    exact S_X10_valueOf_18 B hT q_fu l0 l2 l3 (0 : Int64) l1 _ h
  · refine q_ldc2 (pc := 8) (v := (-1 : Int64)) C dX10_valueOf_8 qc_X10_75 ?_
    exact q_lret C B.2.2.2.2.1 dX10_valueOf_11 h
def F_X10_addRow_26 (κ : Nat → Nat) (l1 : Int32) (l2 : Int32) (s0 : Option Nat) (s1 : Int32) : q_X Unit :=
  q_rd (q_is s0 13) fun _ => q_ca (F_X10_addToken κ s0 s1 l1 l2 (-1 : Int64)) fun _v31 => q_rt ()
theorem M_X10_addRow_26 (κ : Nat → Nat) (l1 : Int32) (l2 : Int32) (s0 : Option Nat) (s1 : Int32) : q_mo (F_X10_addRow_26 κ l1 l2 s0 s1) := (q_mo_rd fun _ => q_mo_ca (M_X10_addToken κ s0 s1 l1 l2 (-1 : Int64)) fun _v31 => q_mo_rt)
set_option maxRecDepth 100000 in
set_option maxHeartbeats 4000000 in
theorem S_X10_addRow_26 {E : q_Ev} {Γ : q_Gm} {w : (Unit ⊕ q_Exn) × q_St} (B : q_Bd E Γ cX10_addRow yX10_addRow.cls 6 2 48 (none) yX10_addRow.name w) (hT : q_nT Γ) (l1 : Int32) (l2 : Int32) (s0 : Option Nat) (s1 : Int32) (σ : q_St) (h : F_X10_addRow_26 (q_kap E) l1 l2 s0 s1 σ = some w) : q_W E Γ (q_QF E Γ q_oV w) 6 σ 26 [(1, q_I l1), (2, q_I l2)] [q_I s1, q_R s0] := by
  have C := B.1
  unfold F_X10_addRow_26 at h
  refine q_iload_n (pc := 26) C 0 rfl dX10_addRow_26 rfl ?_
  refine q_iload_n (pc := 27) C 1 rfl dX10_addRow_27 rfl ?_
  refine q_ldc2 (pc := 28) (v := (-1 : Int64)) C dX10_addRow_28 qc_X10_75 ?_
  refine q_callV (pc := 31) (As := [q_I s1, q_I l1, q_I l2, q_L (-1 : Int64)]) (st := []) (ps := q_psV) C B.2.1 hT q_hpV qm_X10_55 qv_X10_addToken dX10_addRow_31 rfl rfl (Nat.le_of_ble_eq_true rfl) (q_flo B.2.2.1 B.2.2.2.1 (by decide) (by decide)) (K_X10_addToken s0 s1 l1 l2 (-1 : Int64)) (M_X10_addToken (q_kap E) s0 s1 l1 l2 (-1 : Int64)) (fun _v31 => q_mo_rt) h (fun _v31 σ h => ?_)
  refine q_W.st (st' := []) rfl ?_
  exact q_vret C B.2.2.2.2.1 dX10_addRow_34 h
def F_X10_addRow_116 (κ : Nat → Nat) (l1 : Int32) (l2 : Int32) (l4 : Int64) (s0 : Option Nat) (s1 : Int32) : q_X Unit :=
  q_rd (q_is s0 13) fun _ => q_ca (F_X10_addToken κ s0 s1 l1 l2 l4) fun _v120 => q_rt ()
theorem M_X10_addRow_116 (κ : Nat → Nat) (l1 : Int32) (l2 : Int32) (l4 : Int64) (s0 : Option Nat) (s1 : Int32) : q_mo (F_X10_addRow_116 κ l1 l2 l4 s0 s1) := (q_mo_rd fun _ => q_mo_ca (M_X10_addToken κ s0 s1 l1 l2 l4) fun _v120 => q_mo_rt)
set_option maxRecDepth 100000 in
set_option maxHeartbeats 4000000 in
theorem S_X10_addRow_116 {E : q_Ev} {Γ : q_Gm} {w : (Unit ⊕ q_Exn) × q_St} (B : q_Bd E Γ cX10_addRow yX10_addRow.cls 6 2 48 (none) yX10_addRow.name w) (hT : q_nT Γ) (l1 : Int32) (l2 : Int32) (l4 : Int64) (s0 : Option Nat) (s1 : Int32) (σ : q_St) (h : F_X10_addRow_116 (q_kap E) l1 l2 l4 s0 s1 σ = some w) : q_W E Γ (q_QF E Γ q_oV w) 6 σ 116 [(1, q_I l1), (2, q_I l2), (4, q_L l4)] [q_I s1, q_R s0] := by
  have C := B.1
  unfold F_X10_addRow_116 at h
  refine q_iload_n (pc := 116) C 0 rfl dX10_addRow_116 rfl ?_
  refine q_iload_n (pc := 117) C 1 rfl dX10_addRow_117 rfl ?_
  refine q_lload (pc := 118) C 2 rfl dX10_addRow_118 ?_
  refine q_callV (pc := 120) (As := [q_I s1, q_I l1, q_I l2, q_L l4]) (st := []) (ps := q_psV) C B.2.1 hT q_hpV qm_X10_55 qv_X10_addToken dX10_addRow_120 rfl rfl (Nat.le_of_ble_eq_true rfl) (q_flo B.2.2.1 B.2.2.2.1 (by decide) (by decide)) (K_X10_addToken s0 s1 l1 l2 l4) (M_X10_addToken (q_kap E) s0 s1 l1 l2 l4) (fun _v120 => q_mo_rt) h (fun _v120 σ h => ?_)
  refine q_W.st (st' := []) rfl ?_
  exact q_vret C B.2.2.2.2.1 dX10_addRow_123 h
def F_X10_addRow_101 (κ : Nat → Nat) (l0 : Option Nat) (l1 : Int32) (l2 : Int32) (s0 : Int64) : q_X Unit :=
  q_br (0 ≤ (lg_cmp s0 (0 : Int64))) (F_X10_addRow_116 κ l1 l2 s0 l0 (2 : Int32)) (F_X10_addRow_116 κ l1 l2 s0 l0 (0 : Int32))
theorem M_X10_addRow_101 (κ : Nat → Nat) (l0 : Option Nat) (l1 : Int32) (l2 : Int32) (s0 : Int64) : q_mo (F_X10_addRow_101 κ l0 l1 l2 s0) := (q_mo_br (M_X10_addRow_116 κ l1 l2 s0 l0 (2 : Int32)) (M_X10_addRow_116 κ l1 l2 s0 l0 (0 : Int32)))
set_option maxRecDepth 100000 in
set_option maxHeartbeats 4000000 in
theorem S_X10_addRow_101 {E : q_Ev} {Γ : q_Gm} {w : (Unit ⊕ q_Exn) × q_St} (B : q_Bd E Γ cX10_addRow yX10_addRow.cls 6 2 48 (none) yX10_addRow.name w) (hT : q_nT Γ) (l0 : Option Nat) (l1 : Int32) (l2 : Int32) (s0 : Int64) (σ : q_St) (h : F_X10_addRow_101 (q_kap E) l0 l1 l2 s0 σ = some w) : q_W E Γ (q_QF E Γ q_oV w) 6 σ 101 [(0, q_R l0), (1, q_I l1), (2, q_I l2)] [q_L s0] := by
  have C := B.1
  unfold F_X10_addRow_101 at h
  refine q_lstore (pc := 101) (l' := [(4, q_L s0), (0, q_R l0), (1, q_I l1), (2, q_I l2)]) C dX10_addRow_101 (by decide) rfl ?_
  refine q_aload_n (pc := 103) C 1 rfl dX10_addRow_103 rfl ?_
  refine q_lload (pc := 104) C 0 rfl dX10_addRow_104 ?_
  refine q_lconst (pc := 106) (v := (0 : Int64)) C dX10_addRow_106 (by decide) ?_
  refine q_lcmp (pc := 107) C dX10_addRow_107 ?_
  refine q_if_ge (pc := 108) (tgt := 115) C dX10_addRow_108 (by decide) h (fun _ h => ?_) (fun _ h => ?_)
  · refine q_iconst (pc := 115) (v := (2 : Int32)) C dX10_addRow_115 (by decide) ?_
    refine q_W.sub [2, 3, 0] rfl ?_
    exact S_X10_addRow_116 B hT l1 l2 s0 l0 (2 : Int32) _ h
  · refine q_iconst (pc := 111) (v := (0 : Int32)) C dX10_addRow_111 (by decide) ?_
    refine q_goto (pc := 112) (tgt := 116) C dX10_addRow_112 (by decide) ?_
    refine q_W.sub [2, 3, 0] rfl ?_
    exact S_X10_addRow_116 B hT l1 l2 s0 l0 (0 : Int32) _ h
def F_X10_addRow_71 (κ : Nat → Nat) (l0 : Option Nat) (l1 : Int32) (l2 : Int32) (s0 : Int32) : q_X Unit :=
  q_br (s0 = 0) (q_rd (q_is l0 13) fun _ => q_ca (F_X10_valueOf κ l0 l1 l2 (10 : Int32) (10 : Int32)) fun v98 => F_X10_addRow_101 κ l0 l1 l2 v98) (q_rd (q_is l0 13) fun _ => q_ca (F_X10_valueOf κ l0 (l1 + (2 : Int32)) l2 (16 : Int32) (8 : Int32)) fun v85 => F_X10_addRow_101 κ l0 l1 l2 v85)
theorem M_X10_addRow_71 (κ : Nat → Nat) (l0 : Option Nat) (l1 : Int32) (l2 : Int32) (s0 : Int32) : q_mo (F_X10_addRow_71 κ l0 l1 l2 s0) := (q_mo_br (q_mo_rd fun _ => q_mo_ca (M_X10_valueOf κ l0 l1 l2 (10 : Int32) (10 : Int32)) fun v98 => (M_X10_addRow_101 κ l0 l1 l2 v98)) (q_mo_rd fun _ => q_mo_ca (M_X10_valueOf κ l0 (l1 + (2 : Int32)) l2 (16 : Int32) (8 : Int32)) fun v85 => (M_X10_addRow_101 κ l0 l1 l2 v85)))
set_option maxRecDepth 100000 in
set_option maxHeartbeats 4000000 in
theorem S_X10_addRow_71 {E : q_Ev} {Γ : q_Gm} {w : (Unit ⊕ q_Exn) × q_St} (B : q_Bd E Γ cX10_addRow yX10_addRow.cls 6 2 48 (none) yX10_addRow.name w) (hT : q_nT Γ) (l0 : Option Nat) (l1 : Int32) (l2 : Int32) (s0 : Int32) (σ : q_St) (h : F_X10_addRow_71 (q_kap E) l0 l1 l2 s0 σ = some w) : q_W E Γ (q_QF E Γ q_oV w) 6 σ 71 [(0, q_R l0), (1, q_I l1), (2, q_I l2)] [q_I s0] := by
  have C := B.1
  unfold F_X10_addRow_71 at h
  refine q_istore_n (pc := 71) (l' := [(3, q_I s0), (0, q_R l0), (1, q_I l1), (2, q_I l2)]) C dX10_addRow_71 rfl (by decide) rfl ?_
  refine q_iload_n (pc := 72) C 0 rfl dX10_addRow_72 rfl ?_
  refine q_if_eq (pc := 73) (tgt := 91) C dX10_addRow_73 (by decide) h (fun _ h => ?_) (fun _ h => ?_)
  · refine q_aload_n (pc := 91) C 1 rfl dX10_addRow_91 rfl ?_
    refine q_iload_n (pc := 92) C 2 rfl dX10_addRow_92 rfl ?_
    refine q_iload_n (pc := 93) C 3 rfl dX10_addRow_93 rfl ?_
    refine q_bipush (pc := 94) (v := (10 : Int32)) C dX10_addRow_94 (by decide) ?_
    refine q_bipush (pc := 96) (v := (10 : Int32)) C dX10_addRow_96 (by decide) ?_
    refine q_callV (pc := 98) (As := [q_I l1, q_I l2, q_I (10 : Int32), q_I (10 : Int32)]) (st := []) (ps := q_psL) C B.2.1 hT q_hpL qm_X10_77 qv_X10_valueOf dX10_addRow_98 rfl rfl (Nat.le_of_ble_eq_true rfl) (q_flo B.2.2.1 B.2.2.2.1 (by decide) (by decide)) (K_X10_valueOf l0 l1 l2 (10 : Int32) (10 : Int32)) (M_X10_valueOf (q_kap E) l0 l1 l2 (10 : Int32) (10 : Int32)) (fun v98 => (M_X10_addRow_101 (q_kap E) l0 l1 l2 v98)) h (fun v98 σ h => ?_)
    refine q_W.st (st' := [q_L v98]) rfl ?_
    refine q_W.sub [1, 2, 3] rfl ?_
    exact S_X10_addRow_101 B hT l0 l1 l2 v98 _ h
  · refine q_aload_n (pc := 76) C 1 rfl dX10_addRow_76 rfl ?_
    refine q_iload_n (pc := 77) C 2 rfl dX10_addRow_77 rfl ?_
    refine q_iconst (pc := 78) (v := (2 : Int32)) C dX10_addRow_78 (by decide) ?_
    refine q_iadd (pc := 79) C dX10_addRow_79 ?_
    refine q_iload_n (pc := 80) C 3 rfl dX10_addRow_80 rfl ?_
    refine q_bipush (pc := 81) (v := (16 : Int32)) C dX10_addRow_81 (by decide) ?_
    refine q_bipush (pc := 83) (v := (8 : Int32)) C dX10_addRow_83 (by decide) ?_
    refine q_callV (pc := 85) (As := [q_I (l1 + (2 : Int32)), q_I l2, q_I (16 : Int32), q_I (8 : Int32)]) (st := []) (ps := q_psL) C B.2.1 hT q_hpL qm_X10_77 qv_X10_valueOf dX10_addRow_85 rfl rfl (Nat.le_of_ble_eq_true rfl) (q_flo B.2.2.1 B.2.2.2.1 (by decide) (by decide)) (K_X10_valueOf l0 (l1 + (2 : Int32)) l2 (16 : Int32) (8 : Int32)) (M_X10_valueOf (q_kap E) l0 (l1 + (2 : Int32)) l2 (16 : Int32) (8 : Int32)) (fun v85 => (M_X10_addRow_101 (q_kap E) l0 l1 l2 v85)) h (fun v85 σ h => ?_)
    refine q_W.st (st' := [q_L v85]) rfl ?_
    refine q_goto (pc := 88) (tgt := 101) C dX10_addRow_88 (by decide) ?_
    refine q_W.sub [1, 2, 3] rfl ?_
    exact S_X10_addRow_101 B hT l0 l1 l2 v85 _ h
def F_X10_addRow_70 (κ : Nat → Nat) (l0 : Option Nat) (l1 : Int32) (l2 : Int32) : q_X Unit :=
  F_X10_addRow_71 κ l0 l1 l2 (0 : Int32)
theorem M_X10_addRow_70 (κ : Nat → Nat) (l0 : Option Nat) (l1 : Int32) (l2 : Int32) : q_mo (F_X10_addRow_70 κ l0 l1 l2) := (M_X10_addRow_71 κ l0 l1 l2 (0 : Int32))
set_option maxRecDepth 100000 in
set_option maxHeartbeats 4000000 in
theorem S_X10_addRow_70 {E : q_Ev} {Γ : q_Gm} {w : (Unit ⊕ q_Exn) × q_St} (B : q_Bd E Γ cX10_addRow yX10_addRow.cls 6 2 48 (none) yX10_addRow.name w) (hT : q_nT Γ) (l0 : Option Nat) (l1 : Int32) (l2 : Int32) (σ : q_St) (h : F_X10_addRow_70 (q_kap E) l0 l1 l2 σ = some w) : q_W E Γ (q_QF E Γ q_oV w) 6 σ 70 [(0, q_R l0), (1, q_I l1), (2, q_I l2)] [] := by
  have C := B.1
  unfold F_X10_addRow_70 at h
  refine q_iconst (pc := 70) (v := (0 : Int32)) C dX10_addRow_70 (by decide) ?_
  exact S_X10_addRow_71 B hT l0 l1 l2 (0 : Int32) _ h
def F_X10_addRow (κ : Nat → Nat) (l0 : Option Nat) (l1 : Int32) (l2 : Int32) : q_X Unit :=
  q_rd (q_gA l0 13 0) fun v1 => q_rd (q_lI 0 v1 l1) fun v5 => q_ca (F_X10_isDigit κ v5) fun v6 => q_br (¬ v6 = 0) (q_br ((l2 - l1) ≤ (2 : Int32)) (F_X10_addRow_70 κ l0 l1 l2) (q_rd (q_gA l0 13 0) fun v43 => q_rd (q_lI 0 v43 l1) fun v47 => q_br (¬ v47 = (48 : Int32)) (F_X10_addRow_70 κ l0 l1 l2) (q_rd (q_gA l0 13 0) fun v54 => q_rd (q_lI 0 v54 (l1 + (1 : Int32))) fun v60 => q_br (¬ v60 = (120 : Int32)) (F_X10_addRow_70 κ l0 l1 l2) (F_X10_addRow_71 κ l0 l1 l2 (1 : Int32))))) (q_br ((20 : Int32) < (l2 - l1)) (F_X10_addRow_26 κ l1 l2 l0 (0 : Int32)) (F_X10_addRow_26 κ l1 l2 l0 (1 : Int32)))
theorem M_X10_addRow (κ : Nat → Nat) (l0 : Option Nat) (l1 : Int32) (l2 : Int32) : q_mo (F_X10_addRow κ l0 l1 l2) := (q_mo_rd fun v1 => (q_mo_rd fun v5 => (q_mo_ca (M_X10_isDigit κ v5) fun v6 => (q_mo_br (q_mo_br (M_X10_addRow_70 κ l0 l1 l2) (q_mo_rd fun v43 => (q_mo_rd fun v47 => (q_mo_br (M_X10_addRow_70 κ l0 l1 l2) (q_mo_rd fun v54 => (q_mo_rd fun v60 => (q_mo_br (M_X10_addRow_70 κ l0 l1 l2) (M_X10_addRow_71 κ l0 l1 l2 (1 : Int32))))))))) (q_mo_br (M_X10_addRow_26 κ l1 l2 l0 (0 : Int32)) (M_X10_addRow_26 κ l1 l2 l0 (1 : Int32)))))))
set_option maxRecDepth 100000 in
set_option maxHeartbeats 4000000 in
theorem K_X10_addRow {E : q_Ev} (l0 : Option Nat) (l1 : Int32) (l2 : Int32) : q_Ct E yX10_addRow (.code yX10_addRow cX10_addRow 6 (none)) 2 48 [q_R l0, q_I l1, q_I l2] q_oV (F_X10_addRow (q_kap E) l0 l1 l2) := by
  refine q_enter (by decide) (Nat.le_of_ble_eq_true rfl) (fun Γ σ w h B hT => ?_)
  have C := B.1
  unfold F_X10_addRow at h
  refine q_aload_n (pc := 0) C 0 rfl dX10_addRow_0 rfl ?_
  refine q_getA (pc := 1) C dX10_addRow_1 ql_X10_9 h (fun v1 h => ?_)
  refine q_iload_n (pc := 4) C 1 rfl dX10_addRow_4 rfl ?_
  refine q_ldI (pc := 5) C dX10_addRow_5 (Or.inl ⟨rfl, rfl⟩) h (fun v5 h => ?_)
  refine q_callS (pc := 6) (As := [q_I v5]) (st := []) (ps := q_psI) C B.2.1 hT q_hpI qm_X10_72 qs_X10_isDigit dX10_addRow_6 rfl rfl (Nat.le_of_ble_eq_true rfl) (q_flo B.2.2.1 B.2.2.2.1 (by decide) (by decide)) (K_X10_isDigit v5) (M_X10_isDigit (q_kap E) v5) (fun v6 => (q_mo_br (q_mo_br (M_X10_addRow_70 (q_kap E) l0 l1 l2) (q_mo_rd fun v43 => (q_mo_rd fun v47 => (q_mo_br (M_X10_addRow_70 (q_kap E) l0 l1 l2) (q_mo_rd fun v54 => (q_mo_rd fun v60 => (q_mo_br (M_X10_addRow_70 (q_kap E) l0 l1 l2) (M_X10_addRow_71 (q_kap E) l0 l1 l2 (1 : Int32))))))))) (q_mo_br (M_X10_addRow_26 (q_kap E) l1 l2 l0 (0 : Int32)) (M_X10_addRow_26 (q_kap E) l1 l2 l0 (1 : Int32))))) h (fun v6 σ h => ?_)
  refine q_W.st (st' := [q_I v6]) rfl ?_
  refine q_if_ne (pc := 9) (tgt := 35) C dX10_addRow_9 (by decide) h (fun _ h => ?_) (fun _ h => ?_)
  · refine q_iload_n (pc := 35) C 2 rfl dX10_addRow_35 rfl ?_
    refine q_iload_n (pc := 36) C 1 rfl dX10_addRow_36 rfl ?_
    refine q_isub (pc := 37) C dX10_addRow_37 ?_
    refine q_iconst (pc := 38) (v := (2 : Int32)) C dX10_addRow_38 (by decide) ?_
    refine q_icmp_le (pc := 39) (tgt := 70) C dX10_addRow_39 (by decide) h (fun _ h => ?_) (fun _ h => ?_)
    · exact S_X10_addRow_70 B hT l0 l1 l2 _ h
    · refine q_aload_n (pc := 42) C 0 rfl dX10_addRow_42 rfl ?_
      refine q_getA (pc := 43) C dX10_addRow_43 ql_X10_9 h (fun v43 h => ?_)
      refine q_iload_n (pc := 46) C 1 rfl dX10_addRow_46 rfl ?_
      refine q_ldI (pc := 47) C dX10_addRow_47 (Or.inl ⟨rfl, rfl⟩) h (fun v47 h => ?_)
      refine q_bipush (pc := 48) (v := (48 : Int32)) C dX10_addRow_48 (by decide) ?_
      refine q_icmp_ne (pc := 50) (tgt := 70) C dX10_addRow_50 (by decide) h (fun _ h => ?_) (fun _ h => ?_)
      · exact S_X10_addRow_70 B hT l0 l1 l2 _ h
      · refine q_aload_n (pc := 53) C 0 rfl dX10_addRow_53 rfl ?_
        refine q_getA (pc := 54) C dX10_addRow_54 ql_X10_9 h (fun v54 h => ?_)
        refine q_iload_n (pc := 57) C 1 rfl dX10_addRow_57 rfl ?_
        refine q_iconst (pc := 58) (v := (1 : Int32)) C dX10_addRow_58 (by decide) ?_
        refine q_iadd (pc := 59) C dX10_addRow_59 ?_
        refine q_ldI (pc := 60) C dX10_addRow_60 (Or.inl ⟨rfl, rfl⟩) h (fun v60 h => ?_)
        refine q_bipush (pc := 61) (v := (120 : Int32)) C dX10_addRow_61 (by decide) ?_
        refine q_icmp_ne (pc := 63) (tgt := 70) C dX10_addRow_63 (by decide) h (fun _ h => ?_) (fun _ h => ?_)
        · exact S_X10_addRow_70 B hT l0 l1 l2 _ h
        · refine q_iconst (pc := 66) (v := (1 : Int32)) C dX10_addRow_66 (by decide) ?_
          refine q_goto (pc := 67) (tgt := 71) C dX10_addRow_67 (by decide) ?_
          exact S_X10_addRow_71 B hT l0 l1 l2 (1 : Int32) _ h
  · refine q_aload_n (pc := 12) C 0 rfl dX10_addRow_12 rfl ?_
    refine q_iload_n (pc := 13) C 2 rfl dX10_addRow_13 rfl ?_
    refine q_iload_n (pc := 14) C 1 rfl dX10_addRow_14 rfl ?_
    refine q_isub (pc := 15) C dX10_addRow_15 ?_
    refine q_bipush (pc := 16) (v := (20 : Int32)) C dX10_addRow_16 (by decide) ?_
    refine q_icmp_gt (pc := 18) (tgt := 25) C dX10_addRow_18 (by decide) h (fun _ h => ?_) (fun _ h => ?_)
    · refine q_iconst (pc := 25) (v := (0 : Int32)) C dX10_addRow_25 (by decide) ?_
      refine q_W.sub [1, 2] rfl ?_
      exact S_X10_addRow_26 B hT l1 l2 l0 (0 : Int32) _ h
    · refine q_iconst (pc := 21) (v := (1 : Int32)) C dX10_addRow_21 (by decide) ?_
      refine q_goto (pc := 22) (tgt := 26) C dX10_addRow_22 (by decide) ?_
      refine q_W.sub [1, 2] rfl ?_
      exact S_X10_addRow_26 B hT l1 l2 l0 (1 : Int32) _ h
def F_X10_isSign_27 (κ : Nat → Nat) (s0 : Int32) : q_X Int32 :=
  q_rz s0
theorem M_X10_isSign_27 (κ : Nat → Nat) (s0 : Int32) : q_mo (F_X10_isSign_27 κ s0) := q_mo_rz
set_option maxRecDepth 100000 in
set_option maxHeartbeats 4000000 in
theorem S_X10_isSign_27 {E : q_Ev} {Γ : q_Gm} {w : (Int32 ⊕ q_Exn) × q_St} (B : q_Bd E Γ cX10_isSign yX10_isSign.cls 3 0 0 (some .boolean) yX10_isSign.name w) (hT : q_nT Γ) (s0 : Int32) (σ : q_St) (h : F_X10_isSign_27 (q_kap E) s0 σ = some w) : q_W E Γ (q_QF E Γ q_oI w) 3 σ 27 [] [q_I s0] := by
  have C := B.1
  unfold F_X10_isSign_27 at h
  exact q_zret C B.2.2.2.2.1 dX10_isSign_27 h
def F_X10_isSign_26 (κ : Nat → Nat) : q_X Int32 :=
  F_X10_isSign_27 κ (0 : Int32)
theorem M_X10_isSign_26 (κ : Nat → Nat) : q_mo (F_X10_isSign_26 κ) := (M_X10_isSign_27 κ (0 : Int32))
set_option maxRecDepth 100000 in
set_option maxHeartbeats 4000000 in
theorem S_X10_isSign_26 {E : q_Ev} {Γ : q_Gm} {w : (Int32 ⊕ q_Exn) × q_St} (B : q_Bd E Γ cX10_isSign yX10_isSign.cls 3 0 0 (some .boolean) yX10_isSign.name w) (hT : q_nT Γ) (σ : q_St) (h : F_X10_isSign_26 (q_kap E) σ = some w) : q_W E Γ (q_QF E Γ q_oI w) 3 σ 26 [] [] := by
  have C := B.1
  unfold F_X10_isSign_26 at h
  refine q_iconst (pc := 26) (v := (0 : Int32)) C dX10_isSign_26 (by decide) ?_
  exact S_X10_isSign_27 B hT (0 : Int32) _ h
def F_X10_isSign (κ : Nat → Nat) (l0 : Option Nat) (l1 : Int32) (l2 : Int32) : q_X Int32 :=
  q_rd (q_gA l0 13 1) fun v1 => q_rd (q_lI 0 v1 l1) fun v5 => q_br (¬ v5 = (3 : Int32)) (F_X10_isSign_26 κ) (q_rd (q_gA l0 13 4) fun v11 => q_rd (q_lL v11 l1) fun v15 => q_br (¬ (lg_cmp v15 l2.toInt64) = 0) (F_X10_isSign_26 κ) (F_X10_isSign_27 κ (1 : Int32)))
theorem M_X10_isSign (κ : Nat → Nat) (l0 : Option Nat) (l1 : Int32) (l2 : Int32) : q_mo (F_X10_isSign κ l0 l1 l2) := (q_mo_rd fun v1 => (q_mo_rd fun v5 => (q_mo_br (M_X10_isSign_26 κ) (q_mo_rd fun v11 => (q_mo_rd fun v15 => (q_mo_br (M_X10_isSign_26 κ) (M_X10_isSign_27 κ (1 : Int32))))))))
set_option maxRecDepth 100000 in
set_option maxHeartbeats 4000000 in
theorem K_X10_isSign {E : q_Ev} (l0 : Option Nat) (l1 : Int32) (l2 : Int32) : q_Ct E yX10_isSign (.code yX10_isSign cX10_isSign 3 (some .boolean)) 0 0 [q_R l0, q_I l1, q_I l2] q_oI (F_X10_isSign (q_kap E) l0 l1 l2) := by
  refine q_enter (by decide) (Nat.le_of_ble_eq_true rfl) (fun Γ σ w h B hT => ?_)
  have C := B.1
  unfold F_X10_isSign at h
  refine q_aload_n (pc := 0) C 0 rfl dX10_isSign_0 rfl ?_
  refine q_getA (pc := 1) C dX10_isSign_1 ql_X10_15 h (fun v1 h => ?_)
  refine q_iload_n (pc := 4) C 1 rfl dX10_isSign_4 rfl ?_
  refine q_ldI (pc := 5) C dX10_isSign_5 (Or.inl ⟨rfl, rfl⟩) h (fun v5 h => ?_)
  refine q_iconst (pc := 6) (v := (3 : Int32)) C dX10_isSign_6 (by decide) ?_
  refine q_icmp_ne (pc := 7) (tgt := 26) C dX10_isSign_7 (by decide) h (fun _ h => ?_) (fun _ h => ?_)
  · refine q_W.sub [] rfl ?_
    exact S_X10_isSign_26 B hT _ h
  · refine q_aload_n (pc := 10) C 0 rfl dX10_isSign_10 rfl ?_
    refine q_getA (pc := 11) C dX10_isSign_11 ql_X10_25 h (fun v11 h => ?_)
    refine q_iload_n (pc := 14) C 1 rfl dX10_isSign_14 rfl ?_
    refine q_ldL (pc := 15) C dX10_isSign_15 h (fun v15 h => ?_)
    refine q_iload_n (pc := 16) C 2 rfl dX10_isSign_16 rfl ?_
    refine q_i2l (pc := 17) C dX10_isSign_17 ?_
    refine q_lcmp (pc := 18) C dX10_isSign_18 ?_
    refine q_if_ne (pc := 19) (tgt := 26) C dX10_isSign_19 (by decide) h (fun _ h => ?_) (fun _ h => ?_)
    · refine q_W.sub [] rfl ?_
      exact S_X10_isSign_26 B hT _ h
    · refine q_iconst (pc := 22) (v := (1 : Int32)) C dX10_isSign_22 (by decide) ?_
      refine q_goto (pc := 23) (tgt := 27) C dX10_isSign_23 (by decide) ?_
      refine q_W.sub [] rfl ?_
      exact S_X10_isSign_27 B hT (1 : Int32) _ h
def F_X10_isLineEnd_25 (κ : Nat → Nat) (s0 : Int32) : q_X Int32 :=
  q_rz s0
theorem M_X10_isLineEnd_25 (κ : Nat → Nat) (s0 : Int32) : q_mo (F_X10_isLineEnd_25 κ s0) := q_mo_rz
set_option maxRecDepth 100000 in
set_option maxHeartbeats 4000000 in
theorem S_X10_isLineEnd_25 {E : q_Ev} {Γ : q_Gm} {w : (Int32 ⊕ q_Exn) × q_St} (B : q_Bd E Γ cX10_isLineEnd yX10_isLineEnd.cls 2 0 0 (some .boolean) yX10_isLineEnd.name w) (hT : q_nT Γ) (s0 : Int32) (σ : q_St) (h : F_X10_isLineEnd_25 (q_kap E) s0 σ = some w) : q_W E Γ (q_QF E Γ q_oI w) 2 σ 25 [] [q_I s0] := by
  have C := B.1
  unfold F_X10_isLineEnd_25 at h
  exact q_zret C B.2.2.2.2.1 dX10_isLineEnd_25 h
def F_X10_isLineEnd_20 (κ : Nat → Nat) : q_X Int32 :=
  F_X10_isLineEnd_25 κ (1 : Int32)
theorem M_X10_isLineEnd_20 (κ : Nat → Nat) : q_mo (F_X10_isLineEnd_20 κ) := (M_X10_isLineEnd_25 κ (1 : Int32))
set_option maxRecDepth 100000 in
set_option maxHeartbeats 4000000 in
theorem S_X10_isLineEnd_20 {E : q_Ev} {Γ : q_Gm} {w : (Int32 ⊕ q_Exn) × q_St} (B : q_Bd E Γ cX10_isLineEnd yX10_isLineEnd.cls 2 0 0 (some .boolean) yX10_isLineEnd.name w) (hT : q_nT Γ) (σ : q_St) (h : F_X10_isLineEnd_20 (q_kap E) σ = some w) : q_W E Γ (q_QF E Γ q_oI w) 2 σ 20 [] [] := by
  have C := B.1
  unfold F_X10_isLineEnd_20 at h
  refine q_iconst (pc := 20) (v := (1 : Int32)) C dX10_isLineEnd_20 (by decide) ?_
  refine q_goto (pc := 21) (tgt := 25) C dX10_isLineEnd_21 (by decide) ?_
  exact S_X10_isLineEnd_25 B hT (1 : Int32) _ h
def F_X10_isLineEnd (κ : Nat → Nat) (l0 : Option Nat) (l1 : Int32) : q_X Int32 :=
  q_rd (q_gA l0 13 1) fun v1 => q_rd (q_lI 0 v1 l1) fun v5 => q_br (v5 = (4 : Int32)) (F_X10_isLineEnd_20 κ) (q_rd (q_gA l0 13 1) fun v11 => q_rd (q_lI 0 v11 l1) fun v15 => q_br (¬ v15 = (5 : Int32)) (F_X10_isLineEnd_25 κ (0 : Int32)) (F_X10_isLineEnd_20 κ))
theorem M_X10_isLineEnd (κ : Nat → Nat) (l0 : Option Nat) (l1 : Int32) : q_mo (F_X10_isLineEnd κ l0 l1) := (q_mo_rd fun v1 => (q_mo_rd fun v5 => (q_mo_br (M_X10_isLineEnd_20 κ) (q_mo_rd fun v11 => (q_mo_rd fun v15 => (q_mo_br (M_X10_isLineEnd_25 κ (0 : Int32)) (M_X10_isLineEnd_20 κ)))))))
set_option maxRecDepth 100000 in
set_option maxHeartbeats 4000000 in
theorem K_X10_isLineEnd {E : q_Ev} (l0 : Option Nat) (l1 : Int32) : q_Ct E yX10_isLineEnd (.code yX10_isLineEnd cX10_isLineEnd 2 (some .boolean)) 0 0 [q_R l0, q_I l1] q_oI (F_X10_isLineEnd (q_kap E) l0 l1) := by
  refine q_enter (by decide) (Nat.le_of_ble_eq_true rfl) (fun Γ σ w h B hT => ?_)
  have C := B.1
  unfold F_X10_isLineEnd at h
  refine q_aload_n (pc := 0) C 0 rfl dX10_isLineEnd_0 rfl ?_
  refine q_getA (pc := 1) C dX10_isLineEnd_1 ql_X10_15 h (fun v1 h => ?_)
  refine q_iload_n (pc := 4) C 1 rfl dX10_isLineEnd_4 rfl ?_
  refine q_ldI (pc := 5) C dX10_isLineEnd_5 (Or.inl ⟨rfl, rfl⟩) h (fun v5 h => ?_)
  refine q_iconst (pc := 6) (v := (4 : Int32)) C dX10_isLineEnd_6 (by decide) ?_
  refine q_icmp_eq (pc := 7) (tgt := 20) C dX10_isLineEnd_7 (by decide) h (fun _ h => ?_) (fun _ h => ?_)
  · refine q_W.sub [] rfl ?_
    exact S_X10_isLineEnd_20 B hT _ h
  · refine q_aload_n (pc := 10) C 0 rfl dX10_isLineEnd_10 rfl ?_
    refine q_getA (pc := 11) C dX10_isLineEnd_11 ql_X10_15 h (fun v11 h => ?_)
    refine q_iload_n (pc := 14) C 1 rfl dX10_isLineEnd_14 rfl ?_
    refine q_ldI (pc := 15) C dX10_isLineEnd_15 (Or.inl ⟨rfl, rfl⟩) h (fun v15 h => ?_)
    refine q_iconst (pc := 16) (v := (5 : Int32)) C dX10_isLineEnd_16 (by decide) ?_
    refine q_icmp_ne (pc := 17) (tgt := 24) C dX10_isLineEnd_17 (by decide) h (fun _ h => ?_) (fun _ h => ?_)
    · refine q_iconst (pc := 24) (v := (0 : Int32)) C dX10_isLineEnd_24 (by decide) ?_
      refine q_W.sub [] rfl ?_
      exact S_X10_isLineEnd_25 B hT (0 : Int32) _ h
    · refine q_W.sub [] rfl ?_
      exact S_X10_isLineEnd_20 B hT _ h
def F_X10_isSame_36B (κ : Nat → Nat) (r36 : Option Nat → Int32 → Int32 → Int32 → Int32 → q_X Int32) (l0 : Option Nat) (l1 : Int32) (l2 : Int32) (l3 : Int32) (l4 : Int32) : q_X Int32 :=
  q_br (l3 ≤ l4) (q_rz (1 : Int32)) (q_rd (q_gA l0 13 0) fun v43 => q_rd (q_gA l0 13 2) fun v47 => q_rd (q_lI 1 v47 l1) fun v51 => q_rd (q_lI 0 v43 (v51 + l4)) fun v55 => q_rd (q_gA l0 13 0) fun v57 => q_rd (q_gA l0 13 2) fun v61 => q_rd (q_lI 1 v61 l2) fun v65 => q_rd (q_lI 0 v57 (v65 + l4)) fun v69 => q_br (v55 = v69) (r36 l0 l1 l2 l3 (l4 + (1 : Int32))) (q_rz (0 : Int32)))
theorem M_X10_isSame_36B (κ : Nat → Nat) (r36 : Option Nat → Int32 → Int32 → Int32 → Int32 → q_X Int32) (mr36 : ∀ (l0 : Option Nat) (l1 : Int32) (l2 : Int32) (l3 : Int32) (l4 : Int32), q_mo (r36 l0 l1 l2 l3 l4)) (l0 : Option Nat) (l1 : Int32) (l2 : Int32) (l3 : Int32) (l4 : Int32) : q_mo (F_X10_isSame_36B κ r36 l0 l1 l2 l3 l4) := (q_mo_br q_mo_rz (q_mo_rd fun v43 => (q_mo_rd fun v47 => (q_mo_rd fun v51 => (q_mo_rd fun v55 => (q_mo_rd fun v57 => (q_mo_rd fun v61 => (q_mo_rd fun v65 => (q_mo_rd fun v69 => (q_mo_br (mr36 l0 l1 l2 l3 (l4 + (1 : Int32))) q_mo_rz))))))))))
set_option maxRecDepth 100000 in
set_option maxHeartbeats 4000000 in
theorem S_X10_isSame_36B {E : q_Ev} {Γ : q_Gm} {w : (Int32 ⊕ q_Exn) × q_St} (B : q_Bd E Γ cX10_isSame yX10_isSame.cls 5 0 0 (some .boolean) yX10_isSame.name w) (hT : q_nT Γ) (r36 : Option Nat → Int32 → Int32 → Int32 → Int32 → q_X Int32) (hr36 : ∀ (l0 : Option Nat) (l1 : Int32) (l2 : Int32) (l3 : Int32) (l4 : Int32) (σ : q_St), r36 l0 l1 l2 l3 l4 σ = some w → q_W E Γ (q_QF E Γ q_oI w) 5 σ 36 [(0, q_R l0), (1, q_I l1), (2, q_I l2), (3, q_I l3), (4, q_I l4)] []) (mr36 : ∀ (l0 : Option Nat) (l1 : Int32) (l2 : Int32) (l3 : Int32) (l4 : Int32), q_mo (r36 l0 l1 l2 l3 l4)) (l0 : Option Nat) (l1 : Int32) (l2 : Int32) (l3 : Int32) (l4 : Int32) (σ : q_St) (h : F_X10_isSame_36B (q_kap E) r36 l0 l1 l2 l3 l4 σ = some w) : q_W E Γ (q_QF E Γ q_oI w) 5 σ 36 [(0, q_R l0), (1, q_I l1), (2, q_I l2), (3, q_I l3), (4, q_I l4)] [] := by
  have C := B.1
  unfold F_X10_isSame_36B at h
  refine q_iload (pc := 36) C 4 rfl dX10_isSame_36 ?_
  refine q_iload_n (pc := 38) C 3 rfl dX10_isSame_38 rfl ?_
  refine q_icmp_ge (pc := 39) (tgt := 81) C dX10_isSame_39 (by decide) h (fun _ h => ?_) (fun _ h => ?_)
  · refine q_iconst (pc := 81) (v := (1 : Int32)) C dX10_isSame_81 (by decide) ?_
    exact q_zret C B.2.2.2.2.1 dX10_isSame_82 h
  · refine q_aload_n (pc := 42) C 0 rfl dX10_isSame_42 rfl ?_
    refine q_getA (pc := 43) C dX10_isSame_43 ql_X10_9 h (fun v43 h => ?_)
    refine q_aload_n (pc := 46) C 0 rfl dX10_isSame_46 rfl ?_
    refine q_getA (pc := 47) C dX10_isSame_47 ql_X10_18 h (fun v47 h => ?_)
    refine q_iload_n (pc := 50) C 1 rfl dX10_isSame_50 rfl ?_
    refine q_ldI (pc := 51) C dX10_isSame_51 (Or.inr (Or.inl ⟨rfl, rfl⟩)) h (fun v51 h => ?_)
    refine q_iload (pc := 52) C 4 rfl dX10_isSame_52 ?_
    refine q_iadd (pc := 54) C dX10_isSame_54 ?_
    refine q_ldI (pc := 55) C dX10_isSame_55 (Or.inl ⟨rfl, rfl⟩) h (fun v55 h => ?_)
    refine q_aload_n (pc := 56) C 0 rfl dX10_isSame_56 rfl ?_
    refine q_getA (pc := 57) C dX10_isSame_57 ql_X10_9 h (fun v57 h => ?_)
    refine q_aload_n (pc := 60) C 0 rfl dX10_isSame_60 rfl ?_
    refine q_getA (pc := 61) C dX10_isSame_61 ql_X10_18 h (fun v61 h => ?_)
    refine q_iload_n (pc := 64) C 2 rfl dX10_isSame_64 rfl ?_
    refine q_ldI (pc := 65) C dX10_isSame_65 (Or.inr (Or.inl ⟨rfl, rfl⟩)) h (fun v65 h => ?_)
    refine q_iload (pc := 66) C 4 rfl dX10_isSame_66 ?_
    refine q_iadd (pc := 68) C dX10_isSame_68 ?_
    refine q_ldI (pc := 69) C dX10_isSame_69 (Or.inl ⟨rfl, rfl⟩) h (fun v69 h => ?_)
    refine q_icmp_eq (pc := 70) (tgt := 75) C dX10_isSame_70 (by decide) h (fun _ h => ?_) (fun _ h => ?_)
    · refine q_iinc (pc := 75) (v := (1 : Int32)) (l' := [(4, q_I (l4 + (1 : Int32))), (0, q_R l0), (1, q_I l1), (2, q_I l2), (3, q_I l3)]) C 4 rfl dX10_isSame_75 (by decide) (by decide) rfl ?_
      refine q_goto (pc := 78) (tgt := 36) C dX10_isSame_78 (by decide) ?_
      refine q_W.sub [1, 2, 3, 4, 0] rfl ?_
      exact hr36 l0 l1 l2 l3 (l4 + (1 : Int32)) _ h
    · refine q_iconst (pc := 73) (v := (0 : Int32)) C dX10_isSame_73 (by decide) ?_
      exact q_zret C B.2.2.2.2.1 dX10_isSame_74 h
def F_X10_isSame_36 (κ : Nat → Nat) : Nat → Option Nat → Int32 → Int32 → Int32 → Int32 → q_X Int32
  | 0, _, _, _, _, _ => q_no
  | n + 1, l0, l1, l2, l3, l4 => F_X10_isSame_36B κ (F_X10_isSame_36 κ n) l0 l1 l2 l3 l4
theorem M_X10_isSame_36 (κ : Nat → Nat) : ∀ (n : Nat) (l0 : Option Nat) (l1 : Int32) (l2 : Int32) (l3 : Int32) (l4 : Int32), q_mo (F_X10_isSame_36 κ n l0 l1 l2 l3 l4)
  | 0, _, _, _, _, _ => q_mo_no
  | n + 1, l0, l1, l2, l3, l4 => M_X10_isSame_36B κ (F_X10_isSame_36 κ n) (M_X10_isSame_36 κ n) l0 l1 l2 l3 l4
theorem S_X10_isSame_36 {E : q_Ev} {Γ : q_Gm} {w : (Int32 ⊕ q_Exn) × q_St} (B : q_Bd E Γ cX10_isSame yX10_isSame.cls 5 0 0 (some .boolean) yX10_isSame.name w) (hT : q_nT Γ) : ∀ (n : Nat) (l0 : Option Nat) (l1 : Int32) (l2 : Int32) (l3 : Int32) (l4 : Int32) (σ : q_St), F_X10_isSame_36 (q_kap E) n l0 l1 l2 l3 l4 σ = some w → q_W E Γ (q_QF E Γ q_oI w) 5 σ 36 [(0, q_R l0), (1, q_I l1), (2, q_I l2), (3, q_I l3), (4, q_I l4)] []
  | 0, _, _, _, _, _, _, h => by cases h
  | n + 1, l0, l1, l2, l3, l4, σ, h => S_X10_isSame_36B B hT (F_X10_isSame_36 (q_kap E) n) (S_X10_isSame_36 B hT n) (M_X10_isSame_36 (q_kap E) n) l0 l1 l2 l3 l4 σ h
def F_X10_isSame (κ : Nat → Nat) (l0 : Option Nat) (l1 : Int32) (l2 : Int32) : q_X Int32 :=
  q_rd (q_gA l0 13 3) fun v1 => q_rd (q_lI 1 v1 l1) fun v5 => q_rd (q_gA l0 13 2) fun v7 => q_rd (q_lI 1 v7 l1) fun v11 => q_rd (q_gA l0 13 3) fun v16 => q_rd (q_lI 1 v16 l2) fun v20 => q_rd (q_gA l0 13 2) fun v22 => q_rd (q_lI 1 v22 l2) fun v26 => q_br ((v5 - v11) = (v20 - v26)) (F_X10_isSame_36 κ q_fu l0 l1 l2 (v5 - v11) (0 : Int32)) (q_rz (0 : Int32))
theorem M_X10_isSame (κ : Nat → Nat) (l0 : Option Nat) (l1 : Int32) (l2 : Int32) : q_mo (F_X10_isSame κ l0 l1 l2) := (q_mo_rd fun v1 => (q_mo_rd fun v5 => (q_mo_rd fun v7 => (q_mo_rd fun v11 => (q_mo_rd fun v16 => (q_mo_rd fun v20 => (q_mo_rd fun v22 => (q_mo_rd fun v26 => (q_mo_br (M_X10_isSame_36 κ q_fu l0 l1 l2 (v5 - v11) (0 : Int32)) q_mo_rz)))))))))
set_option maxRecDepth 100000 in
set_option maxHeartbeats 4000000 in
theorem K_X10_isSame {E : q_Ev} (l0 : Option Nat) (l1 : Int32) (l2 : Int32) : q_Ct E yX10_isSame (.code yX10_isSame cX10_isSame 5 (some .boolean)) 0 0 [q_R l0, q_I l1, q_I l2] q_oI (F_X10_isSame (q_kap E) l0 l1 l2) := by
  refine q_enter (by decide) (Nat.le_of_ble_eq_true rfl) (fun Γ σ w h B hT => ?_)
  have C := B.1
  unfold F_X10_isSame at h
  refine q_aload_n (pc := 0) C 0 rfl dX10_isSame_0 rfl ?_
  refine q_getA (pc := 1) C dX10_isSame_1 ql_X10_22 h (fun v1 h => ?_)
  refine q_iload_n (pc := 4) C 1 rfl dX10_isSame_4 rfl ?_
  refine q_ldI (pc := 5) C dX10_isSame_5 (Or.inr (Or.inl ⟨rfl, rfl⟩)) h (fun v5 h => ?_)
  refine q_aload_n (pc := 6) C 0 rfl dX10_isSame_6 rfl ?_
  refine q_getA (pc := 7) C dX10_isSame_7 ql_X10_18 h (fun v7 h => ?_)
  refine q_iload_n (pc := 10) C 1 rfl dX10_isSame_10 rfl ?_
  refine q_ldI (pc := 11) C dX10_isSame_11 (Or.inr (Or.inl ⟨rfl, rfl⟩)) h (fun v11 h => ?_)
  refine q_isub (pc := 12) C dX10_isSame_12 ?_
  refine q_istore_n (pc := 13) (l' := [(3, q_I (v5 - v11)), (0, q_R l0), (1, q_I l1), (2, q_I l2)]) C dX10_isSame_13 rfl (by decide) rfl ?_
  refine q_iload_n (pc := 14) C 0 rfl dX10_isSame_14 rfl ?_
  refine q_aload_n (pc := 15) C 1 rfl dX10_isSame_15 rfl ?_
  refine q_getA (pc := 16) C dX10_isSame_16 ql_X10_22 h (fun v16 h => ?_)
  refine q_iload_n (pc := 19) C 3 rfl dX10_isSame_19 rfl ?_
  refine q_ldI (pc := 20) C dX10_isSame_20 (Or.inr (Or.inl ⟨rfl, rfl⟩)) h (fun v20 h => ?_)
  refine q_aload_n (pc := 21) C 1 rfl dX10_isSame_21 rfl ?_
  refine q_getA (pc := 22) C dX10_isSame_22 ql_X10_18 h (fun v22 h => ?_)
  refine q_iload_n (pc := 25) C 3 rfl dX10_isSame_25 rfl ?_
  refine q_ldI (pc := 26) C dX10_isSame_26 (Or.inr (Or.inl ⟨rfl, rfl⟩)) h (fun v26 h => ?_)
  refine q_isub (pc := 27) C dX10_isSame_27 ?_
  refine q_icmp_eq (pc := 28) (tgt := 33) C dX10_isSame_28 (by decide) h (fun _ h => ?_) (fun _ h => ?_)
  · refine q_iconst (pc := 33) (v := (0 : Int32)) C dX10_isSame_33 (by decide) ?_
    refine q_istore (pc := 34) (l' := [(4, q_I (0 : Int32)), (3, q_I (v5 - v11)), (0, q_R l0), (1, q_I l1), (2, q_I l2)]) C dX10_isSame_34 (by decide) rfl ?_
    refine q_W.sub [2, 3, 4, 1, 0] rfl ?_
    exact S_X10_isSame_36 B hT q_fu l0 l1 l2 (v5 - v11) (0 : Int32) _ h
  · refine q_iconst (pc := 31) (v := (0 : Int32)) C dX10_isSame_31 (by decide) ?_
    exact q_zret C B.2.2.2.2.1 dX10_isSame_32 h
def F_X10_hash_9B (κ : Nat → Nat) (r9 : Option Nat → Int32 → Int32 → Int32 → q_X Int32) (l0 : Option Nat) (l1 : Int32) (l2 : Int32) (l3 : Int32) : q_X Int32 :=
  q_rd (q_gA l0 13 3) fun v11 => q_rd (q_lI 1 v11 l1) fun v15 => q_br (v15 ≤ l3) (q_rt l2) (q_rd (q_gA l0 13 0) fun v24 => q_rd (q_lI 0 v24 l3) fun v28 => r9 l0 l1 ((l2 * (31 : Int32)) + v28) (l3 + (1 : Int32)))
theorem M_X10_hash_9B (κ : Nat → Nat) (r9 : Option Nat → Int32 → Int32 → Int32 → q_X Int32) (mr9 : ∀ (l0 : Option Nat) (l1 : Int32) (l2 : Int32) (l3 : Int32), q_mo (r9 l0 l1 l2 l3)) (l0 : Option Nat) (l1 : Int32) (l2 : Int32) (l3 : Int32) : q_mo (F_X10_hash_9B κ r9 l0 l1 l2 l3) := (q_mo_rd fun v11 => (q_mo_rd fun v15 => (q_mo_br q_mo_rt (q_mo_rd fun v24 => (q_mo_rd fun v28 => (mr9 l0 l1 ((l2 * (31 : Int32)) + v28) (l3 + (1 : Int32))))))))
set_option maxRecDepth 100000 in
set_option maxHeartbeats 4000000 in
theorem S_X10_hash_9B {E : q_Ev} {Γ : q_Gm} {w : (Int32 ⊕ q_Exn) × q_St} (B : q_Bd E Γ cX10_hash yX10_hash.cls 4 0 0 (some .int) yX10_hash.name w) (hT : q_nT Γ) (r9 : Option Nat → Int32 → Int32 → Int32 → q_X Int32) (hr9 : ∀ (l0 : Option Nat) (l1 : Int32) (l2 : Int32) (l3 : Int32) (σ : q_St), r9 l0 l1 l2 l3 σ = some w → q_W E Γ (q_QF E Γ q_oI w) 4 σ 9 [(0, q_R l0), (1, q_I l1), (2, q_I l2), (3, q_I l3)] []) (mr9 : ∀ (l0 : Option Nat) (l1 : Int32) (l2 : Int32) (l3 : Int32), q_mo (r9 l0 l1 l2 l3)) (l0 : Option Nat) (l1 : Int32) (l2 : Int32) (l3 : Int32) (σ : q_St) (h : F_X10_hash_9B (q_kap E) r9 l0 l1 l2 l3 σ = some w) : q_W E Γ (q_QF E Γ q_oI w) 4 σ 9 [(0, q_R l0), (1, q_I l1), (2, q_I l2), (3, q_I l3)] [] := by
  have C := B.1
  unfold F_X10_hash_9B at h
  refine q_iload_n (pc := 9) C 3 rfl dX10_hash_9 rfl ?_
  refine q_aload_n (pc := 10) C 0 rfl dX10_hash_10 rfl ?_
  refine q_getA (pc := 11) C dX10_hash_11 ql_X10_22 h (fun v11 h => ?_)
  refine q_iload_n (pc := 14) C 1 rfl dX10_hash_14 rfl ?_
  refine q_ldI (pc := 15) C dX10_hash_15 (Or.inr (Or.inl ⟨rfl, rfl⟩)) h (fun v15 h => ?_)
  refine q_icmp_ge (pc := 16) (tgt := 37) C dX10_hash_16 (by decide) h (fun _ h => ?_) (fun _ h => ?_)
  · refine q_iload_n (pc := 37) C 2 rfl dX10_hash_37 rfl ?_
    exact q_iret C B.2.2.2.2.1 dX10_hash_38 h
  · refine q_iload_n (pc := 19) C 2 rfl dX10_hash_19 rfl ?_
    refine q_bipush (pc := 20) (v := (31 : Int32)) C dX10_hash_20 (by decide) ?_
    refine q_imul (pc := 22) C dX10_hash_22 ?_
    refine q_aload_n (pc := 23) C 0 rfl dX10_hash_23 rfl ?_
    refine q_getA (pc := 24) C dX10_hash_24 ql_X10_9 h (fun v24 h => ?_)
    refine q_iload_n (pc := 27) C 3 rfl dX10_hash_27 rfl ?_
    refine q_ldI (pc := 28) C dX10_hash_28 (Or.inl ⟨rfl, rfl⟩) h (fun v28 h => ?_)
    refine q_iadd (pc := 29) C dX10_hash_29 ?_
    refine q_istore_n (pc := 30) (l' := [(2, q_I ((l2 * (31 : Int32)) + v28)), (0, q_R l0), (1, q_I l1), (3, q_I l3)]) C dX10_hash_30 rfl (by decide) rfl ?_
    refine q_iinc (pc := 31) (v := (1 : Int32)) (l' := [(3, q_I (l3 + (1 : Int32))), (2, q_I ((l2 * (31 : Int32)) + v28)), (0, q_R l0), (1, q_I l1)]) C 3 rfl dX10_hash_31 (by decide) (by decide) rfl ?_
    refine q_goto (pc := 34) (tgt := 9) C dX10_hash_34 (by decide) ?_
    refine q_W.sub [2, 3, 1, 0] rfl ?_
    exact hr9 l0 l1 ((l2 * (31 : Int32)) + v28) (l3 + (1 : Int32)) _ h
def F_X10_hash_9 (κ : Nat → Nat) : Nat → Option Nat → Int32 → Int32 → Int32 → q_X Int32
  | 0, _, _, _, _ => q_no
  | n + 1, l0, l1, l2, l3 => F_X10_hash_9B κ (F_X10_hash_9 κ n) l0 l1 l2 l3
theorem M_X10_hash_9 (κ : Nat → Nat) : ∀ (n : Nat) (l0 : Option Nat) (l1 : Int32) (l2 : Int32) (l3 : Int32), q_mo (F_X10_hash_9 κ n l0 l1 l2 l3)
  | 0, _, _, _, _ => q_mo_no
  | n + 1, l0, l1, l2, l3 => M_X10_hash_9B κ (F_X10_hash_9 κ n) (M_X10_hash_9 κ n) l0 l1 l2 l3
theorem S_X10_hash_9 {E : q_Ev} {Γ : q_Gm} {w : (Int32 ⊕ q_Exn) × q_St} (B : q_Bd E Γ cX10_hash yX10_hash.cls 4 0 0 (some .int) yX10_hash.name w) (hT : q_nT Γ) : ∀ (n : Nat) (l0 : Option Nat) (l1 : Int32) (l2 : Int32) (l3 : Int32) (σ : q_St), F_X10_hash_9 (q_kap E) n l0 l1 l2 l3 σ = some w → q_W E Γ (q_QF E Γ q_oI w) 4 σ 9 [(0, q_R l0), (1, q_I l1), (2, q_I l2), (3, q_I l3)] []
  | 0, _, _, _, _, _, h => by cases h
  | n + 1, l0, l1, l2, l3, σ, h => S_X10_hash_9B B hT (F_X10_hash_9 (q_kap E) n) (S_X10_hash_9 B hT n) (M_X10_hash_9 (q_kap E) n) l0 l1 l2 l3 σ h
def F_X10_hash (κ : Nat → Nat) (l0 : Option Nat) (l1 : Int32) : q_X Int32 :=
  q_rd (q_gA l0 13 2) fun v3 => q_rd (q_lI 1 v3 l1) fun v7 => F_X10_hash_9 κ q_fu l0 l1 (0 : Int32) v7
theorem M_X10_hash (κ : Nat → Nat) (l0 : Option Nat) (l1 : Int32) : q_mo (F_X10_hash κ l0 l1) := (q_mo_rd fun v3 => (q_mo_rd fun v7 => (M_X10_hash_9 κ q_fu l0 l1 (0 : Int32) v7)))
set_option maxRecDepth 100000 in
set_option maxHeartbeats 4000000 in
theorem K_X10_hash {E : q_Ev} (l0 : Option Nat) (l1 : Int32) : q_Ct E yX10_hash (.code yX10_hash cX10_hash 4 (some .int)) 0 0 [q_R l0, q_I l1] q_oI (F_X10_hash (q_kap E) l0 l1) := by
  refine q_enter (by decide) (Nat.le_of_ble_eq_true rfl) (fun Γ σ w h B hT => ?_)
  have C := B.1
  unfold F_X10_hash at h
  refine q_iconst (pc := 0) (v := (0 : Int32)) C dX10_hash_0 (by decide) ?_
  refine q_istore_n (pc := 1) (l' := [(2, q_I (0 : Int32)), (0, q_R l0), (1, q_I l1)]) C dX10_hash_1 rfl (by decide) rfl ?_
  refine q_aload_n (pc := 2) C 1 rfl dX10_hash_2 rfl ?_
  refine q_getA (pc := 3) C dX10_hash_3 ql_X10_18 h (fun v3 h => ?_)
  refine q_iload_n (pc := 6) C 2 rfl dX10_hash_6 rfl ?_
  refine q_ldI (pc := 7) C dX10_hash_7 (Or.inr (Or.inl ⟨rfl, rfl⟩)) h (fun v7 h => ?_)
  refine q_istore_n (pc := 8) (l' := [(3, q_I v7), (2, q_I (0 : Int32)), (0, q_R l0), (1, q_I l1)]) C dX10_hash_8 rfl (by decide) rfl ?_
  refine q_W.sub [2, 3, 1, 0] rfl ?_
  exact S_X10_hash_9 B hT q_fu l0 l1 (0 : Int32) v7 _ h
def F_X10_hasOnlyLetters_7B (κ : Nat → Nat) (r7 : Option Nat → Int32 → Int32 → q_X Int32) (l0 : Option Nat) (l1 : Int32) (l2 : Int32) : q_X Int32 :=
  q_rd (q_gA l0 13 3) fun v9 => q_rd (q_lI 1 v9 l1) fun v13 => q_br (v13 ≤ l2) (q_rz (1 : Int32)) (q_rd (q_gA l0 13 0) fun v18 => q_rd (q_lI 0 v18 l2) fun v22 => q_ca (F_X10_isLetter κ v22) fun v23 => q_br (¬ v23 = 0) (r7 l0 l1 (l2 + (1 : Int32))) (q_rz (0 : Int32)))
theorem M_X10_hasOnlyLetters_7B (κ : Nat → Nat) (r7 : Option Nat → Int32 → Int32 → q_X Int32) (mr7 : ∀ (l0 : Option Nat) (l1 : Int32) (l2 : Int32), q_mo (r7 l0 l1 l2)) (l0 : Option Nat) (l1 : Int32) (l2 : Int32) : q_mo (F_X10_hasOnlyLetters_7B κ r7 l0 l1 l2) := (q_mo_rd fun v9 => (q_mo_rd fun v13 => (q_mo_br q_mo_rz (q_mo_rd fun v18 => (q_mo_rd fun v22 => (q_mo_ca (M_X10_isLetter κ v22) fun v23 => (q_mo_br (mr7 l0 l1 (l2 + (1 : Int32))) q_mo_rz)))))))
set_option maxRecDepth 100000 in
set_option maxHeartbeats 4000000 in
theorem S_X10_hasOnlyLetters_7B {E : q_Ev} {Γ : q_Gm} {w : (Int32 ⊕ q_Exn) × q_St} (B : q_Bd E Γ cX10_hasOnlyLetters yX10_hasOnlyLetters.cls 3 1 20 (some .boolean) yX10_hasOnlyLetters.name w) (hT : q_nT Γ) (r7 : Option Nat → Int32 → Int32 → q_X Int32) (hr7 : ∀ (l0 : Option Nat) (l1 : Int32) (l2 : Int32) (σ : q_St), r7 l0 l1 l2 σ = some w → q_W E Γ (q_QF E Γ q_oI w) 3 σ 7 [(0, q_R l0), (1, q_I l1), (2, q_I l2)] []) (mr7 : ∀ (l0 : Option Nat) (l1 : Int32) (l2 : Int32), q_mo (r7 l0 l1 l2)) (l0 : Option Nat) (l1 : Int32) (l2 : Int32) (σ : q_St) (h : F_X10_hasOnlyLetters_7B (q_kap E) r7 l0 l1 l2 σ = some w) : q_W E Γ (q_QF E Γ q_oI w) 3 σ 7 [(0, q_R l0), (1, q_I l1), (2, q_I l2)] [] := by
  have C := B.1
  unfold F_X10_hasOnlyLetters_7B at h
  refine q_iload_n (pc := 7) C 2 rfl dX10_hasOnlyLetters_7 rfl ?_
  refine q_aload_n (pc := 8) C 0 rfl dX10_hasOnlyLetters_8 rfl ?_
  refine q_getA (pc := 9) C dX10_hasOnlyLetters_9 ql_X10_22 h (fun v9 h => ?_)
  refine q_iload_n (pc := 12) C 1 rfl dX10_hasOnlyLetters_12 rfl ?_
  refine q_ldI (pc := 13) C dX10_hasOnlyLetters_13 (Or.inr (Or.inl ⟨rfl, rfl⟩)) h (fun v13 h => ?_)
  refine q_icmp_ge (pc := 14) (tgt := 37) C dX10_hasOnlyLetters_14 (by decide) h (fun _ h => ?_) (fun _ h => ?_)
  · refine q_iconst (pc := 37) (v := (1 : Int32)) C dX10_hasOnlyLetters_37 (by decide) ?_
    exact q_zret C B.2.2.2.2.1 dX10_hasOnlyLetters_38 h
  · refine q_aload_n (pc := 17) C 0 rfl dX10_hasOnlyLetters_17 rfl ?_
    refine q_getA (pc := 18) C dX10_hasOnlyLetters_18 ql_X10_9 h (fun v18 h => ?_)
    refine q_iload_n (pc := 21) C 2 rfl dX10_hasOnlyLetters_21 rfl ?_
    refine q_ldI (pc := 22) C dX10_hasOnlyLetters_22 (Or.inl ⟨rfl, rfl⟩) h (fun v22 h => ?_)
    refine q_callS (pc := 23) (As := [q_I v22]) (st := []) (ps := q_psI) C B.2.1 hT q_hpI qm_X10_86 qs_X10_isLetter dX10_hasOnlyLetters_23 rfl rfl (Nat.le_of_ble_eq_true rfl) (q_flo B.2.2.1 B.2.2.2.1 (by decide) (by decide)) (K_X10_isLetter v22) (M_X10_isLetter (q_kap E) v22) (fun v23 => (q_mo_br (mr7 l0 l1 (l2 + (1 : Int32))) q_mo_rz)) h (fun v23 σ h => ?_)
    refine q_W.st (st' := [q_I v23]) rfl ?_
    refine q_if_ne (pc := 26) (tgt := 31) C dX10_hasOnlyLetters_26 (by decide) h (fun _ h => ?_) (fun _ h => ?_)
    · refine q_iinc (pc := 31) (v := (1 : Int32)) (l' := [(2, q_I (l2 + (1 : Int32))), (0, q_R l0), (1, q_I l1)]) C 2 rfl dX10_hasOnlyLetters_31 (by decide) (by decide) rfl ?_
      refine q_goto (pc := 34) (tgt := 7) C dX10_hasOnlyLetters_34 (by decide) ?_
      refine q_W.sub [1, 2, 0] rfl ?_
      exact hr7 l0 l1 (l2 + (1 : Int32)) _ h
    · refine q_iconst (pc := 29) (v := (0 : Int32)) C dX10_hasOnlyLetters_29 (by decide) ?_
      exact q_zret C B.2.2.2.2.1 dX10_hasOnlyLetters_30 h
def F_X10_hasOnlyLetters_7 (κ : Nat → Nat) : Nat → Option Nat → Int32 → Int32 → q_X Int32
  | 0, _, _, _ => q_no
  | n + 1, l0, l1, l2 => F_X10_hasOnlyLetters_7B κ (F_X10_hasOnlyLetters_7 κ n) l0 l1 l2
theorem M_X10_hasOnlyLetters_7 (κ : Nat → Nat) : ∀ (n : Nat) (l0 : Option Nat) (l1 : Int32) (l2 : Int32), q_mo (F_X10_hasOnlyLetters_7 κ n l0 l1 l2)
  | 0, _, _, _ => q_mo_no
  | n + 1, l0, l1, l2 => M_X10_hasOnlyLetters_7B κ (F_X10_hasOnlyLetters_7 κ n) (M_X10_hasOnlyLetters_7 κ n) l0 l1 l2
theorem S_X10_hasOnlyLetters_7 {E : q_Ev} {Γ : q_Gm} {w : (Int32 ⊕ q_Exn) × q_St} (B : q_Bd E Γ cX10_hasOnlyLetters yX10_hasOnlyLetters.cls 3 1 20 (some .boolean) yX10_hasOnlyLetters.name w) (hT : q_nT Γ) : ∀ (n : Nat) (l0 : Option Nat) (l1 : Int32) (l2 : Int32) (σ : q_St), F_X10_hasOnlyLetters_7 (q_kap E) n l0 l1 l2 σ = some w → q_W E Γ (q_QF E Γ q_oI w) 3 σ 7 [(0, q_R l0), (1, q_I l1), (2, q_I l2)] []
  | 0, _, _, _, _, h => by cases h
  | n + 1, l0, l1, l2, σ, h => S_X10_hasOnlyLetters_7B B hT (F_X10_hasOnlyLetters_7 (q_kap E) n) (S_X10_hasOnlyLetters_7 B hT n) (M_X10_hasOnlyLetters_7 (q_kap E) n) l0 l1 l2 σ h
def F_X10_hasOnlyLetters (κ : Nat → Nat) (l0 : Option Nat) (l1 : Int32) : q_X Int32 :=
  q_rd (q_gA l0 13 2) fun v1 => q_rd (q_lI 1 v1 l1) fun v5 => F_X10_hasOnlyLetters_7 κ q_fu l0 l1 v5
theorem M_X10_hasOnlyLetters (κ : Nat → Nat) (l0 : Option Nat) (l1 : Int32) : q_mo (F_X10_hasOnlyLetters κ l0 l1) := (q_mo_rd fun v1 => (q_mo_rd fun v5 => (M_X10_hasOnlyLetters_7 κ q_fu l0 l1 v5)))
set_option maxRecDepth 100000 in
set_option maxHeartbeats 4000000 in
theorem K_X10_hasOnlyLetters {E : q_Ev} (l0 : Option Nat) (l1 : Int32) : q_Ct E yX10_hasOnlyLetters (.code yX10_hasOnlyLetters cX10_hasOnlyLetters 3 (some .boolean)) 1 20 [q_R l0, q_I l1] q_oI (F_X10_hasOnlyLetters (q_kap E) l0 l1) := by
  refine q_enter (by decide) (Nat.le_of_ble_eq_true rfl) (fun Γ σ w h B hT => ?_)
  have C := B.1
  unfold F_X10_hasOnlyLetters at h
  refine q_aload_n (pc := 0) C 0 rfl dX10_hasOnlyLetters_0 rfl ?_
  refine q_getA (pc := 1) C dX10_hasOnlyLetters_1 ql_X10_18 h (fun v1 h => ?_)
  refine q_iload_n (pc := 4) C 1 rfl dX10_hasOnlyLetters_4 rfl ?_
  refine q_ldI (pc := 5) C dX10_hasOnlyLetters_5 (Or.inr (Or.inl ⟨rfl, rfl⟩)) h (fun v5 h => ?_)
  refine q_istore_n (pc := 6) (l' := [(2, q_I v5), (0, q_R l0), (1, q_I l1)]) C dX10_hasOnlyLetters_6 rfl (by decide) rfl ?_
  refine q_W.sub [1, 2, 0] rfl ?_
  exact S_X10_hasOnlyLetters_7 B hT q_fu l0 l1 v5 _ h
def F_X10_hasOnlyBits_41 (κ : Nat → Nat) (r7 : Option Nat → Int32 → Int32 → q_X Int32) (l0 : Option Nat) (l1 : Int32) (l2 : Int32) : q_X Int32 :=
  r7 l0 l1 (l2 + (1 : Int32))
theorem M_X10_hasOnlyBits_41 (κ : Nat → Nat) (r7 : Option Nat → Int32 → Int32 → q_X Int32) (mr7 : ∀ (l0 : Option Nat) (l1 : Int32) (l2 : Int32), q_mo (r7 l0 l1 l2)) (l0 : Option Nat) (l1 : Int32) (l2 : Int32) : q_mo (F_X10_hasOnlyBits_41 κ r7 l0 l1 l2) := (mr7 l0 l1 (l2 + (1 : Int32)))
set_option maxRecDepth 100000 in
set_option maxHeartbeats 4000000 in
theorem S_X10_hasOnlyBits_41 {E : q_Ev} {Γ : q_Gm} {w : (Int32 ⊕ q_Exn) × q_St} (B : q_Bd E Γ cX10_hasOnlyBits yX10_hasOnlyBits.cls 3 0 0 (some .boolean) yX10_hasOnlyBits.name w) (hT : q_nT Γ) (r7 : Option Nat → Int32 → Int32 → q_X Int32) (hr7 : ∀ (l0 : Option Nat) (l1 : Int32) (l2 : Int32) (σ : q_St), r7 l0 l1 l2 σ = some w → q_W E Γ (q_QF E Γ q_oI w) 3 σ 7 [(0, q_R l0), (1, q_I l1), (2, q_I l2)] []) (mr7 : ∀ (l0 : Option Nat) (l1 : Int32) (l2 : Int32), q_mo (r7 l0 l1 l2)) (l0 : Option Nat) (l1 : Int32) (l2 : Int32) (σ : q_St) (h : F_X10_hasOnlyBits_41 (q_kap E) r7 l0 l1 l2 σ = some w) : q_W E Γ (q_QF E Γ q_oI w) 3 σ 41 [(0, q_R l0), (1, q_I l1), (2, q_I l2)] [] := by
  have C := B.1
  unfold F_X10_hasOnlyBits_41 at h
  refine q_iinc (pc := 41) (v := (1 : Int32)) (l' := [(2, q_I (l2 + (1 : Int32))), (0, q_R l0), (1, q_I l1)]) C 2 rfl dX10_hasOnlyBits_41 (by decide) (by decide) rfl ?_
  refine q_goto (pc := 44) (tgt := 7) C dX10_hasOnlyBits_44 (by decide) ?_
  refine q_W.sub [1, 2, 0] rfl ?_
  exact hr7 l0 l1 (l2 + (1 : Int32)) _ h
def F_X10_hasOnlyBits_7B (κ : Nat → Nat) (r7 : Option Nat → Int32 → Int32 → q_X Int32) (l0 : Option Nat) (l1 : Int32) (l2 : Int32) : q_X Int32 :=
  q_rd (q_gA l0 13 3) fun v9 => q_rd (q_lI 1 v9 l1) fun v13 => q_br (v13 ≤ l2) (q_rz (1 : Int32)) (q_rd (q_gA l0 13 0) fun v18 => q_rd (q_lI 0 v18 l2) fun v22 => q_br (v22 = (48 : Int32)) (F_X10_hasOnlyBits_41 κ r7 l0 l1 l2) (q_rd (q_gA l0 13 0) fun v29 => q_rd (q_lI 0 v29 l2) fun v33 => q_br (v33 = (49 : Int32)) (F_X10_hasOnlyBits_41 κ r7 l0 l1 l2) (q_rz (0 : Int32))))
theorem M_X10_hasOnlyBits_7B (κ : Nat → Nat) (r7 : Option Nat → Int32 → Int32 → q_X Int32) (mr7 : ∀ (l0 : Option Nat) (l1 : Int32) (l2 : Int32), q_mo (r7 l0 l1 l2)) (l0 : Option Nat) (l1 : Int32) (l2 : Int32) : q_mo (F_X10_hasOnlyBits_7B κ r7 l0 l1 l2) := (q_mo_rd fun v9 => (q_mo_rd fun v13 => (q_mo_br q_mo_rz (q_mo_rd fun v18 => (q_mo_rd fun v22 => (q_mo_br (M_X10_hasOnlyBits_41 κ r7 mr7 l0 l1 l2) (q_mo_rd fun v29 => (q_mo_rd fun v33 => (q_mo_br (M_X10_hasOnlyBits_41 κ r7 mr7 l0 l1 l2) q_mo_rz)))))))))
set_option maxRecDepth 100000 in
set_option maxHeartbeats 4000000 in
theorem S_X10_hasOnlyBits_7B {E : q_Ev} {Γ : q_Gm} {w : (Int32 ⊕ q_Exn) × q_St} (B : q_Bd E Γ cX10_hasOnlyBits yX10_hasOnlyBits.cls 3 0 0 (some .boolean) yX10_hasOnlyBits.name w) (hT : q_nT Γ) (r7 : Option Nat → Int32 → Int32 → q_X Int32) (hr7 : ∀ (l0 : Option Nat) (l1 : Int32) (l2 : Int32) (σ : q_St), r7 l0 l1 l2 σ = some w → q_W E Γ (q_QF E Γ q_oI w) 3 σ 7 [(0, q_R l0), (1, q_I l1), (2, q_I l2)] []) (mr7 : ∀ (l0 : Option Nat) (l1 : Int32) (l2 : Int32), q_mo (r7 l0 l1 l2)) (l0 : Option Nat) (l1 : Int32) (l2 : Int32) (σ : q_St) (h : F_X10_hasOnlyBits_7B (q_kap E) r7 l0 l1 l2 σ = some w) : q_W E Γ (q_QF E Γ q_oI w) 3 σ 7 [(0, q_R l0), (1, q_I l1), (2, q_I l2)] [] := by
  have C := B.1
  unfold F_X10_hasOnlyBits_7B at h
  refine q_iload_n (pc := 7) C 2 rfl dX10_hasOnlyBits_7 rfl ?_
  refine q_aload_n (pc := 8) C 0 rfl dX10_hasOnlyBits_8 rfl ?_
  refine q_getA (pc := 9) C dX10_hasOnlyBits_9 ql_X10_22 h (fun v9 h => ?_)
  refine q_iload_n (pc := 12) C 1 rfl dX10_hasOnlyBits_12 rfl ?_
  refine q_ldI (pc := 13) C dX10_hasOnlyBits_13 (Or.inr (Or.inl ⟨rfl, rfl⟩)) h (fun v13 h => ?_)
  refine q_icmp_ge (pc := 14) (tgt := 47) C dX10_hasOnlyBits_14 (by decide) h (fun _ h => ?_) (fun _ h => ?_)
  · refine q_iconst (pc := 47) (v := (1 : Int32)) C dX10_hasOnlyBits_47 (by decide) ?_
    exact q_zret C B.2.2.2.2.1 dX10_hasOnlyBits_48 h
  · refine q_aload_n (pc := 17) C 0 rfl dX10_hasOnlyBits_17 rfl ?_
    refine q_getA (pc := 18) C dX10_hasOnlyBits_18 ql_X10_9 h (fun v18 h => ?_)
    refine q_iload_n (pc := 21) C 2 rfl dX10_hasOnlyBits_21 rfl ?_
    refine q_ldI (pc := 22) C dX10_hasOnlyBits_22 (Or.inl ⟨rfl, rfl⟩) h (fun v22 h => ?_)
    refine q_bipush (pc := 23) (v := (48 : Int32)) C dX10_hasOnlyBits_23 (by decide) ?_
    refine q_icmp_eq (pc := 25) (tgt := 41) C dX10_hasOnlyBits_25 (by decide) h (fun _ h => ?_) (fun _ h => ?_)
    · exact S_X10_hasOnlyBits_41 B hT r7 hr7 mr7 l0 l1 l2 _ h
    · refine q_aload_n (pc := 28) C 0 rfl dX10_hasOnlyBits_28 rfl ?_
      refine q_getA (pc := 29) C dX10_hasOnlyBits_29 ql_X10_9 h (fun v29 h => ?_)
      refine q_iload_n (pc := 32) C 2 rfl dX10_hasOnlyBits_32 rfl ?_
      refine q_ldI (pc := 33) C dX10_hasOnlyBits_33 (Or.inl ⟨rfl, rfl⟩) h (fun v33 h => ?_)
      refine q_bipush (pc := 34) (v := (49 : Int32)) C dX10_hasOnlyBits_34 (by decide) ?_
      refine q_icmp_eq (pc := 36) (tgt := 41) C dX10_hasOnlyBits_36 (by decide) h (fun _ h => ?_) (fun _ h => ?_)
      · exact S_X10_hasOnlyBits_41 B hT r7 hr7 mr7 l0 l1 l2 _ h
      · refine q_iconst (pc := 39) (v := (0 : Int32)) C dX10_hasOnlyBits_39 (by decide) ?_
        exact q_zret C B.2.2.2.2.1 dX10_hasOnlyBits_40 h
def F_X10_hasOnlyBits_7 (κ : Nat → Nat) : Nat → Option Nat → Int32 → Int32 → q_X Int32
  | 0, _, _, _ => q_no
  | n + 1, l0, l1, l2 => F_X10_hasOnlyBits_7B κ (F_X10_hasOnlyBits_7 κ n) l0 l1 l2
theorem M_X10_hasOnlyBits_7 (κ : Nat → Nat) : ∀ (n : Nat) (l0 : Option Nat) (l1 : Int32) (l2 : Int32), q_mo (F_X10_hasOnlyBits_7 κ n l0 l1 l2)
  | 0, _, _, _ => q_mo_no
  | n + 1, l0, l1, l2 => M_X10_hasOnlyBits_7B κ (F_X10_hasOnlyBits_7 κ n) (M_X10_hasOnlyBits_7 κ n) l0 l1 l2
theorem S_X10_hasOnlyBits_7 {E : q_Ev} {Γ : q_Gm} {w : (Int32 ⊕ q_Exn) × q_St} (B : q_Bd E Γ cX10_hasOnlyBits yX10_hasOnlyBits.cls 3 0 0 (some .boolean) yX10_hasOnlyBits.name w) (hT : q_nT Γ) : ∀ (n : Nat) (l0 : Option Nat) (l1 : Int32) (l2 : Int32) (σ : q_St), F_X10_hasOnlyBits_7 (q_kap E) n l0 l1 l2 σ = some w → q_W E Γ (q_QF E Γ q_oI w) 3 σ 7 [(0, q_R l0), (1, q_I l1), (2, q_I l2)] []
  | 0, _, _, _, _, h => by cases h
  | n + 1, l0, l1, l2, σ, h => S_X10_hasOnlyBits_7B B hT (F_X10_hasOnlyBits_7 (q_kap E) n) (S_X10_hasOnlyBits_7 B hT n) (M_X10_hasOnlyBits_7 (q_kap E) n) l0 l1 l2 σ h
def F_X10_hasOnlyBits (κ : Nat → Nat) (l0 : Option Nat) (l1 : Int32) : q_X Int32 :=
  q_rd (q_gA l0 13 2) fun v1 => q_rd (q_lI 1 v1 l1) fun v5 => F_X10_hasOnlyBits_7 κ q_fu l0 l1 v5
theorem M_X10_hasOnlyBits (κ : Nat → Nat) (l0 : Option Nat) (l1 : Int32) : q_mo (F_X10_hasOnlyBits κ l0 l1) := (q_mo_rd fun v1 => (q_mo_rd fun v5 => (M_X10_hasOnlyBits_7 κ q_fu l0 l1 v5)))
set_option maxRecDepth 100000 in
set_option maxHeartbeats 4000000 in
theorem K_X10_hasOnlyBits {E : q_Ev} (l0 : Option Nat) (l1 : Int32) : q_Ct E yX10_hasOnlyBits (.code yX10_hasOnlyBits cX10_hasOnlyBits 3 (some .boolean)) 0 0 [q_R l0, q_I l1] q_oI (F_X10_hasOnlyBits (q_kap E) l0 l1) := by
  refine q_enter (by decide) (Nat.le_of_ble_eq_true rfl) (fun Γ σ w h B hT => ?_)
  have C := B.1
  unfold F_X10_hasOnlyBits at h
  refine q_aload_n (pc := 0) C 0 rfl dX10_hasOnlyBits_0 rfl ?_
  refine q_getA (pc := 1) C dX10_hasOnlyBits_1 ql_X10_18 h (fun v1 h => ?_)
  refine q_iload_n (pc := 4) C 1 rfl dX10_hasOnlyBits_4 rfl ?_
  refine q_ldI (pc := 5) C dX10_hasOnlyBits_5 (Or.inr (Or.inl ⟨rfl, rfl⟩)) h (fun v5 h => ?_)
  refine q_istore_n (pc := 6) (l' := [(2, q_I v5), (0, q_R l0), (1, q_I l1)]) C dX10_hasOnlyBits_6 rfl (by decide) rfl ?_
  refine q_W.sub [1, 2, 0] rfl ?_
  exact S_X10_hasOnlyBits_7 B hT q_fu l0 l1 v5 _ h
