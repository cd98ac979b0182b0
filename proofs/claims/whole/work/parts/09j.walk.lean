def F_X13_poke_76 (κ : Nat → Nat) (l0 : Option Nat) (l1 : Int32) (l2 : Int64) : q_X Int32 :=
  q_rd (q_gA l0 16 41) fun v77 => q_wr (q_sI 3 v77 l1 (vp_nar .boolean (1 : Int32))) (q_rd (q_gA l0 16 40) fun v84 => q_wr (q_sL v84 l1 l2) (q_rd (q_gI l0 16 42) fun v91 => q_rt v91))
theorem M_X13_poke_76 (κ : Nat → Nat) (l0 : Option Nat) (l1 : Int32) (l2 : Int64) : q_mo (F_X13_poke_76 κ l0 l1 l2) := (q_mo_rd fun v77 => (q_mo_wr (q_mo_rd fun v84 => (q_mo_wr (q_mo_rd fun v91 => q_mo_rt)))))
theorem N_X13_poke_76 (κ : Nat → Nat) (l0 : Option Nat) (l1 : Int32) (l2 : Int64) : q_ni (F_X13_poke_76 κ l0 l1 l2) := (q_ni_rd fun v77 => (q_ni_wr (q_ni_rd fun v84 => (q_ni_wr (q_ni_rd fun v91 => q_ni_rt)))))
set_option maxRecDepth 100000 in
set_option maxHeartbeats 4000000 in
theorem S_X13_poke_76 {E : q_Ev} {Γ : q_Gm} {w : (Int32 ⊕ q_Exn) × q_St} (B : q_Bd E Γ cX13_poke yX13_poke.cls 4 0 0 (some .int) yX13_poke.name w) (hT : q_nT Γ) (l0 : Option Nat) (l1 : Int32) (l2 : Int64) (σ : q_St) (h : F_X13_poke_76 (q_kap E) l0 l1 l2 σ = some w) : q_W E Γ (q_QF E Γ q_oI w) 4 σ 76 [(0, q_R l0), (1, q_I l1), (2, q_L l2)] [] := by
  have C := B.1
  unfold F_X13_poke_76 at h
  refine q_aload_n (pc := 76) C 0 rfl dX13_poke_76 rfl ?_
  refine q_getA (pc := 77) C dX13_poke_77 ql_X13_101 h (fun v77 h => ?_)
  refine q_iload_n (pc := 80) C 1 rfl dX13_poke_80 rfl ?_
  refine q_iconst (pc := 81) (v := (1 : Int32)) C dX13_poke_81 (by decide) ?_
  refine q_stZ (pc := 82) C dX13_poke_82 h (fun M82 h => ?_)
  refine q_aload_n (pc := 83) C 0 rfl dX13_poke_83 rfl ?_
  refine q_getA (pc := 84) C dX13_poke_84 ql_X13_98 h (fun v84 h => ?_)
  refine q_iload_n (pc := 87) C 1 rfl dX13_poke_87 rfl ?_
  refine q_lload_n (pc := 88) C 2 rfl dX13_poke_88 rfl ?_
  refine q_stL (pc := 89) C dX13_poke_89 h (fun M89 h => ?_)
  refine q_aload_n (pc := 90) C 0 rfl dX13_poke_90 rfl ?_
  refine q_getI (pc := 91) C dX13_poke_91 ql_X13_283 h (fun v91 h => ?_)
  exact q_iret C B.2.2.2.2.1 dX13_poke_94 h
def F_X13_poke_45 (κ : Nat → Nat) (l0 : Option Nat) (l1 : Int32) (l2 : Int64) (s0 : Option Nat) (s1 : Int32) : q_X Int32 :=
  q_wr (q_pF s0 16 7 (.int s1)) (q_rd (q_gI l0 16 7) fun v49 => q_br (v49 ≤ 0) (q_rd (q_gA l0 16 41) fun v58 => q_rd (q_lI 3 v58 l1) fun v62 => q_br (¬ v62 = 0) (F_X13_poke_76 κ l0 l1 l2) (q_rd (q_gI l0 16 42) fun v68 => q_wr (q_pF l0 16 42 (.int (v68 + (1 : Int32)))) (F_X13_poke_76 κ l0 l1 l2))) (q_rt (0 : Int32)))
theorem M_X13_poke_45 (κ : Nat → Nat) (l0 : Option Nat) (l1 : Int32) (l2 : Int64) (s0 : Option Nat) (s1 : Int32) : q_mo (F_X13_poke_45 κ l0 l1 l2 s0 s1) := (q_mo_wr (q_mo_rd fun v49 => (q_mo_br (q_mo_rd fun v58 => (q_mo_rd fun v62 => (q_mo_br (M_X13_poke_76 κ l0 l1 l2) (q_mo_rd fun v68 => (q_mo_wr (M_X13_poke_76 κ l0 l1 l2)))))) q_mo_rt)))
theorem N_X13_poke_45 (κ : Nat → Nat) (l0 : Option Nat) (l1 : Int32) (l2 : Int64) (s0 : Option Nat) (s1 : Int32) : q_ni (F_X13_poke_45 κ l0 l1 l2 s0 s1) := (q_ni_wr (q_ni_rd fun v49 => (q_ni_br (q_ni_rd fun v58 => (q_ni_rd fun v62 => (q_ni_br (N_X13_poke_76 κ l0 l1 l2) (q_ni_rd fun v68 => (q_ni_wr (N_X13_poke_76 κ l0 l1 l2)))))) q_ni_rt)))
set_option maxRecDepth 100000 in
set_option maxHeartbeats 4000000 in
theorem S_X13_poke_45 {E : q_Ev} {Γ : q_Gm} {w : (Int32 ⊕ q_Exn) × q_St} (B : q_Bd E Γ cX13_poke yX13_poke.cls 4 0 0 (some .int) yX13_poke.name w) (hT : q_nT Γ) (l0 : Option Nat) (l1 : Int32) (l2 : Int64) (s0 : Option Nat) (s1 : Int32) (σ : q_St) (h : F_X13_poke_45 (q_kap E) l0 l1 l2 s0 s1 σ = some w) : q_W E Γ (q_QF E Γ q_oI w) 4 σ 45 [(0, q_R l0), (1, q_I l1), (2, q_L l2)] [q_I s1, q_R s0] := by
  have C := B.1
  unfold F_X13_poke_45 at h
  refine q_putV (pc := 45) (v := q_I s1) C dX13_poke_45 ql_X13_138 (Or.inl rfl) rfl rfl h (fun M45 h => ?_)
  refine q_aload_n (pc := 48) C 0 rfl dX13_poke_48 rfl ?_
  refine q_getI (pc := 49) C dX13_poke_49 ql_X13_138 h (fun v49 h => ?_)
  refine q_if_le (pc := 52) (tgt := 57) C dX13_poke_52 (by decide) h (fun _ h => ?_) (fun _ h => ?_)
  · refine q_aload_n (pc := 57) C 0 rfl dX13_poke_57 rfl ?_
    refine q_getA (pc := 58) C dX13_poke_58 ql_X13_101 h (fun v58 h => ?_)
    refine q_iload_n (pc := 61) C 1 rfl dX13_poke_61 rfl ?_
    refine q_ldI (pc := 62) C dX13_poke_62 (Or.inr (Or.inr ⟨rfl, rfl⟩)) h (fun v62 h => ?_)
    refine q_if_ne (pc := 63) (tgt := 76) C dX13_poke_63 (by decide) h (fun _ h => ?_) (fun _ h => ?_)
    · exact S_X13_poke_76 B hT l0 l1 l2 _ h
    · refine q_aload_n (pc := 66) C 0 rfl dX13_poke_66 rfl ?_
      refine q_dup (pc := 67) C dX13_poke_67 rfl ?_
      refine q_getI (pc := 68) C dX13_poke_68 ql_X13_283 h (fun v68 h => ?_)
      refine q_iconst (pc := 71) (v := (1 : Int32)) C dX13_poke_71 (by decide) ?_
      refine q_iadd (pc := 72) C dX13_poke_72 ?_
      refine q_putV (pc := 73) (v := q_I (v68 + (1 : Int32))) C dX13_poke_73 ql_X13_283 (Or.inl rfl) rfl rfl h (fun M73 h => ?_)
      exact S_X13_poke_76 B hT l0 l1 l2 _ h
  · refine q_iconst (pc := 55) (v := (0 : Int32)) C dX13_poke_55 (by decide) ?_
    exact q_iret C B.2.2.2.2.1 dX13_poke_56 h
def F_X13_poke_40 (κ : Nat → Nat) (l0 : Option Nat) (l1 : Int32) (l2 : Int64) (s0 : Option Nat) : q_X Int32 :=
  F_X13_poke_45 κ l0 l1 l2 s0 (2 : Int32)
theorem M_X13_poke_40 (κ : Nat → Nat) (l0 : Option Nat) (l1 : Int32) (l2 : Int64) (s0 : Option Nat) : q_mo (F_X13_poke_40 κ l0 l1 l2 s0) := (M_X13_poke_45 κ l0 l1 l2 s0 (2 : Int32))
theorem N_X13_poke_40 (κ : Nat → Nat) (l0 : Option Nat) (l1 : Int32) (l2 : Int64) (s0 : Option Nat) : q_ni (F_X13_poke_40 κ l0 l1 l2 s0) := (N_X13_poke_45 κ l0 l1 l2 s0 (2 : Int32))
set_option maxRecDepth 100000 in
set_option maxHeartbeats 4000000 in
theorem S_X13_poke_40 {E : q_Ev} {Γ : q_Gm} {w : (Int32 ⊕ q_Exn) × q_St} (B : q_Bd E Γ cX13_poke yX13_poke.cls 4 0 0 (some .int) yX13_poke.name w) (hT : q_nT Γ) (l0 : Option Nat) (l1 : Int32) (l2 : Int64) (s0 : Option Nat) (σ : q_St) (h : F_X13_poke_40 (q_kap E) l0 l1 l2 s0 σ = some w) : q_W E Γ (q_QF E Γ q_oI w) 4 σ 40 [(0, q_R l0), (1, q_I l1), (2, q_L l2)] [q_R s0] := by
  have C := B.1
  unfold F_X13_poke_40 at h
  refine q_iconst (pc := 40) (v := (2 : Int32)) C dX13_poke_40 (by decide) ?_
  refine q_goto (pc := 41) (tgt := 45) C dX13_poke_41 (by decide) ?_
  exact S_X13_poke_45 B hT l0 l1 l2 s0 (2 : Int32) _ h
def F_X13_poke (κ : Nat → Nat) (l0 : Option Nat) (l1 : Int32) (l2 : Int64) : q_X Int32 :=
  q_rd (q_gI l0 16 21) fun v2 => q_br (¬ v2 = 0) (q_br (l1 < 0) (F_X13_poke_40 κ l0 l1 l2 l0) (q_br ((4096 : Int32) ≤ l1) (F_X13_poke_40 κ l0 l1 l2 l0) (q_br ((lg_cmp l2 (0 : Int64)) < 0) (F_X13_poke_40 κ l0 l1 l2 l0) (q_rd (q_gI l0 16 21) fun v32 => q_br ((lg_cmp l2 ((1 : Int64) <<< (v32.toInt64 &&& 63))) < 0) (F_X13_poke_45 κ l0 l1 l2 l0 (0 : Int32)) (F_X13_poke_40 κ l0 l1 l2 l0))))) (F_X13_poke_45 κ l0 l1 l2 l0 (1 : Int32))
theorem M_X13_poke (κ : Nat → Nat) (l0 : Option Nat) (l1 : Int32) (l2 : Int64) : q_mo (F_X13_poke κ l0 l1 l2) := (q_mo_rd fun v2 => (q_mo_br (q_mo_br (M_X13_poke_40 κ l0 l1 l2 l0) (q_mo_br (M_X13_poke_40 κ l0 l1 l2 l0) (q_mo_br (M_X13_poke_40 κ l0 l1 l2 l0) (q_mo_rd fun v32 => (q_mo_br (M_X13_poke_45 κ l0 l1 l2 l0 (0 : Int32)) (M_X13_poke_40 κ l0 l1 l2 l0)))))) (M_X13_poke_45 κ l0 l1 l2 l0 (1 : Int32))))
theorem N_X13_poke (κ : Nat → Nat) (l0 : Option Nat) (l1 : Int32) (l2 : Int64) : q_ni (F_X13_poke κ l0 l1 l2) := (q_ni_rd fun v2 => (q_ni_br (q_ni_br (N_X13_poke_40 κ l0 l1 l2 l0) (q_ni_br (N_X13_poke_40 κ l0 l1 l2 l0) (q_ni_br (N_X13_poke_40 κ l0 l1 l2 l0) (q_ni_rd fun v32 => (q_ni_br (N_X13_poke_45 κ l0 l1 l2 l0 (0 : Int32)) (N_X13_poke_40 κ l0 l1 l2 l0)))))) (N_X13_poke_45 κ l0 l1 l2 l0 (1 : Int32))))
set_option maxRecDepth 100000 in
set_option maxHeartbeats 4000000 in
theorem K_X13_poke {E : q_Ev} (l0 : Option Nat) (l1 : Int32) (l2 : Int64) : q_Ct E yX13_poke (.code yX13_poke cX13_poke 4 (some .int)) 0 0 [q_R l0, q_I l1, q_L l2] q_oI (F_X13_poke (q_kap E) l0 l1 l2) := by
  refine q_enter (by decide) (Nat.le_of_ble_eq_true rfl) (fun Γ σ w h B hT => ?_)
  have C := B.1
  unfold F_X13_poke at h
  refine q_aload_n (pc := 0) C 0 rfl dX13_poke_0 rfl ?_
  refine q_aload_n (pc := 1) C 0 rfl dX13_poke_1 rfl ?_
  refine q_getI (pc := 2) C dX13_poke_2 ql_X13_217 h (fun v2 h => ?_)
  refine q_if_ne (pc := 5) (tgt := 12) C dX13_poke_5 (by decide) h (fun _ h => ?_) (fun _ h => ?_)
  · refine q_iload_n (pc := 12) C 1 rfl dX13_poke_12 rfl ?_
    refine q_if_lt (pc := 13) (tgt := 40) C dX13_poke_13 (by decide) h (fun _ h => ?_) (fun _ h => ?_)
    · exact S_X13_poke_40 B hT l0 l1 l2 l0 _ h
    · refine q_iload_n (pc := 16) C 1 rfl dX13_poke_16 rfl ?_
      refine q_sipush (pc := 17) (v := (4096 : Int32)) C dX13_poke_17 (by decide) ?_
      refine q_icmp_ge (pc := 20) (tgt := 40) C dX13_poke_20 (by decide) h (fun _ h => ?_) (fun _ h => ?_)
      · exact S_X13_poke_40 B hT l0 l1 l2 l0 _ h
      · refine q_lload_n (pc := 23) C 2 rfl dX13_poke_23 rfl ?_
        refine q_lconst (pc := 24) (v := (0 : Int64)) C dX13_poke_24 (by decide) ?_
        refine q_lcmp (pc := 25) C dX13_poke_25 ?_
        refine q_if_lt (pc := 26) (tgt := 40) C dX13_poke_26 (by decide) h (fun _ h => ?_) (fun _ h => ?_)
        · exact S_X13_poke_40 B hT l0 l1 l2 l0 _ h
        · refine q_lload_n (pc := 29) C 2 rfl dX13_poke_29 rfl ?_
          refine q_lconst (pc := 30) (v := (1 : Int64)) C dX13_poke_30 (by decide) ?_
          refine q_aload_n (pc := 31) C 0 rfl dX13_poke_31 rfl ?_
          refine q_getI (pc := 32) C dX13_poke_32 ql_X13_217 h (fun v32 h => ?_)
          refine q_lshl (pc := 35) C dX13_poke_35 ?_
          refine q_lcmp (pc := 36) C dX13_poke_36 ?_
          refine q_if_lt (pc := 37) (tgt := 44) C dX13_poke_37 (by decide) h (fun _ h => ?_) (fun _ h => ?_)
          · refine q_iconst (pc := 44) (v := (0 : Int32)) C dX13_poke_44 (by decide) ?_
            exact S_X13_poke_45 B hT l0 l1 l2 l0 (0 : Int32) _ h
          · exact S_X13_poke_40 B hT l0 l1 l2 l0 _ h
  · refine q_iconst (pc := 8) (v := (1 : Int32)) C dX13_poke_8 (by decide) ?_
    refine q_goto (pc := 9) (tgt := 45) C dX13_poke_9 (by decide) ?_
    exact S_X13_poke_45 B hT l0 l1 l2 l0 (1 : Int32) _ h
def F_X13_list_35 (κ : Nat → Nat) (s0 : Int32) : q_X Int32 :=
  q_rt s0
theorem M_X13_list_35 (κ : Nat → Nat) (s0 : Int32) : q_mo (F_X13_list_35 κ s0) := q_mo_rt
theorem N_X13_list_35 (κ : Nat → Nat) (s0 : Int32) : q_ni (F_X13_list_35 κ s0) := q_ni_rt
set_option maxRecDepth 100000 in
set_option maxHeartbeats 4000000 in
theorem S_X13_list_35 {E : q_Ev} {Γ : q_Gm} {w : (Int32 ⊕ q_Exn) × q_St} (B : q_Bd E Γ cX13_list yX13_list.cls 2 5 115 (some .int) yX13_list.name w) (hT : q_nT Γ) (s0 : Int32) (σ : q_St) (h : F_X13_list_35 (q_kap E) s0 σ = some w) : q_W E Γ (q_QF E Γ q_oI w) 2 σ 35 [] [q_I s0] := by
  have C := B.1
  unfold F_X13_list_35 at h
  exact q_iret C B.2.2.2.2.1 dX13_list_35 h
def F_X13_list (κ : Nat → Nat) (l0 : Option Nat) (l1 : Int32) : q_X Int32 :=
  q_rd (q_is l0 16) fun _ => q_ca (F_X13_isLaid κ l0 l1) fun v2 => q_br (¬ v2 = 0) (q_rd (q_is l0 16) fun _ => q_ca (F_X13_lists κ l0 l1) fun _v12 => q_rd (q_gI l0 16 8) fun v16 => q_br (0 ≤ v16) (q_rd (q_gA l0 16 33) fun v27 => q_rd (q_gI l0 16 8) fun v31 => q_rd (q_lI 1 v27 v31) fun v34 => F_X13_list_35 κ v34) (F_X13_list_35 κ (1 : Int32))) (q_rt (0 : Int32))
theorem M_X13_list (κ : Nat → Nat) (l0 : Option Nat) (l1 : Int32) : q_mo (F_X13_list κ l0 l1) := (q_mo_rd fun _ => q_mo_ca (M_X13_isLaid κ l0 l1) fun v2 => (q_mo_br (q_mo_rd fun _ => q_mo_ca (M_X13_lists κ l0 l1) fun _v12 => (q_mo_rd fun v16 => (q_mo_br (q_mo_rd fun v27 => (q_mo_rd fun v31 => (q_mo_rd fun v34 => (M_X13_list_35 κ v34)))) (M_X13_list_35 κ (1 : Int32))))) q_mo_rt))
set_option maxRecDepth 100000 in
set_option maxHeartbeats 4000000 in
theorem K_X13_list {E : q_Ev} (l0 : Option Nat) (l1 : Int32) : q_Ct E yX13_list (.code yX13_list cX13_list 2 (some .int)) 5 115 [q_R l0, q_I l1] q_oI (F_X13_list (q_kap E) l0 l1) := by
  refine q_enter (by decide) (Nat.le_of_ble_eq_true rfl) (fun Γ σ w h B hT => ?_)
  have C := B.1
  unfold F_X13_list at h
  refine q_aload_n (pc := 0) C 0 rfl dX13_list_0 rfl ?_
  refine q_iload_n (pc := 1) C 1 rfl dX13_list_1 rfl ?_
  refine q_callV (pc := 2) (As := [q_I l1]) (st := []) (ps := q_psI) C B.2.1 hT q_hpI qm_X13_387 qv_X13_isLaid dX13_list_2 rfl rfl (Nat.le_of_ble_eq_true rfl) (q_flo B.2.2.1 B.2.2.2.1 (by decide) (by decide)) (K_X13_isLaid l0 l1) (M_X13_isLaid (q_kap E) l0 l1) (by exact fun v2 => (q_mo_br (q_mo_rd fun _ => q_mo_ca (M_X13_lists (q_kap E) l0 l1) fun _v12 => (q_mo_rd fun v16 => (q_mo_br (q_mo_rd fun v27 => (q_mo_rd fun v31 => (q_mo_rd fun v34 => (M_X13_list_35 (q_kap E) v34)))) (M_X13_list_35 (q_kap E) (1 : Int32))))) q_mo_rt)) h (fun v2 σ h => ?_)
  refine q_W.st (st' := [q_I v2]) rfl ?_
  refine q_if_ne (pc := 5) (tgt := 10) C dX13_list_5 (by decide) h (fun _ h => ?_) (fun _ h => ?_)
  · refine q_aload_n (pc := 10) C 0 rfl dX13_list_10 rfl ?_
    refine q_iload_n (pc := 11) C 1 rfl dX13_list_11 rfl ?_
    refine q_callV (pc := 12) (As := [q_I l1]) (st := []) (ps := q_psV) C B.2.1 hT q_hpV qm_X13_390 qv_X13_lists dX13_list_12 rfl rfl (Nat.le_of_ble_eq_true rfl) (q_flo B.2.2.1 B.2.2.2.1 (by decide) (by decide)) (K_X13_lists l0 l1) (M_X13_lists (q_kap E) l0 l1) (by exact fun _v12 => (q_mo_rd fun v16 => (q_mo_br (q_mo_rd fun v27 => (q_mo_rd fun v31 => (q_mo_rd fun v34 => (M_X13_list_35 (q_kap E) v34)))) (M_X13_list_35 (q_kap E) (1 : Int32))))) h (fun _v12 σ h => ?_)
    refine q_W.st (st' := []) rfl ?_
    refine q_aload_n (pc := 15) C 0 rfl dX13_list_15 rfl ?_
    refine q_getI (pc := 16) C dX13_list_16 ql_X13_23 h (fun v16 h => ?_)
    refine q_if_ge (pc := 19) (tgt := 26) C dX13_list_19 (by decide) h (fun _ h => ?_) (fun _ h => ?_)
    · refine q_aload_n (pc := 26) C 0 rfl dX13_list_26 rfl ?_
      refine q_getA (pc := 27) C dX13_list_27 ql_X13_77 h (fun v27 h => ?_)
      refine q_aload_n (pc := 30) C 0 rfl dX13_list_30 rfl ?_
      refine q_getI (pc := 31) C dX13_list_31 ql_X13_23 h (fun v31 h => ?_)
      refine q_ldI (pc := 34) C dX13_list_34 (Or.inr (Or.inl ⟨rfl, rfl⟩)) h (fun v34 h => ?_)
      refine q_W.sub [] rfl ?_
      exact S_X13_list_35 B hT v34 _ h
    · refine q_iconst (pc := 22) (v := (1 : Int32)) C dX13_list_22 (by decide) ?_
      refine q_goto (pc := 23) (tgt := 35) C dX13_list_23 (by decide) ?_
      refine q_W.sub [] rfl ?_
      exact S_X13_list_35 B hT (1 : Int32) _ h
  · refine q_iconst (pc := 8) (v := (0 : Int32)) C dX13_list_8 (by decide) ?_
    exact q_iret C B.2.2.2.2.1 dX13_list_9 h
def F_X13_which (κ : Nat → Nat) (l0 : Option Nat) : q_X Int32 :=
  q_wr (q_pF l0 16 7 (.int (0 : Int32))) (q_rd (q_gI l0 16 8) fun v6 => q_rt v6)
theorem M_X13_which (κ : Nat → Nat) (l0 : Option Nat) : q_mo (F_X13_which κ l0) := (q_mo_wr (q_mo_rd fun v6 => q_mo_rt))
theorem N_X13_which (κ : Nat → Nat) (l0 : Option Nat) : q_ni (F_X13_which κ l0) := (q_ni_wr (q_ni_rd fun v6 => q_ni_rt))
set_option maxRecDepth 100000 in
set_option maxHeartbeats 4000000 in
theorem K_X13_which {E : q_Ev} (l0 : Option Nat) : q_Ct E yX13_which (.code yX13_which cX13_which 1 (some .int)) 0 0 [q_R l0] q_oI (F_X13_which (q_kap E) l0) := by
  refine q_enter (by decide) (Nat.le_of_ble_eq_true rfl) (fun Γ σ w h B hT => ?_)
  have C := B.1
  unfold F_X13_which at h
  refine q_aload_n (pc := 0) C 0 rfl dX13_which_0 rfl ?_
  refine q_iconst (pc := 1) (v := (0 : Int32)) C dX13_which_1 (by decide) ?_
  refine q_putV (pc := 2) (v := q_I (0 : Int32)) C dX13_which_2 ql_X13_138 (Or.inl rfl) rfl rfl h (fun M2 h => ?_)
  refine q_aload_n (pc := 5) C 0 rfl dX13_which_5 rfl ?_
  refine q_getI (pc := 6) C dX13_which_6 ql_X13_23 h (fun v6 h => ?_)
  exact q_iret C B.2.2.2.2.1 dX13_which_9 h
def F_X13_listing_71 (κ : Nat → Nat) (r34 : Option Nat → Int32 → Int64 → Int32 → q_X Int64) (l0 : Option Nat) (l1 : Int32) (l4 : Int32) (s0 : Int64) (s1 : Int32) : q_X Int64 :=
  r34 l0 l1 (s0 ||| s1.toInt64) (l4 + (1 : Int32))
theorem M_X13_listing_71 (κ : Nat → Nat) (r34 : Option Nat → Int32 → Int64 → Int32 → q_X Int64) (mr34 : ∀ (l0 : Option Nat) (l1 : Int32) (l2 : Int64) (l4 : Int32), q_mo (r34 l0 l1 l2 l4)) (l0 : Option Nat) (l1 : Int32) (l4 : Int32) (s0 : Int64) (s1 : Int32) : q_mo (F_X13_listing_71 κ r34 l0 l1 l4 s0 s1) := (mr34 l0 l1 (s0 ||| s1.toInt64) (l4 + (1 : Int32)))
set_option maxRecDepth 100000 in
set_option maxHeartbeats 4000000 in
theorem S_X13_listing_71 {E : q_Ev} {Γ : q_Gm} {w : (Int64 ⊕ q_Exn) × q_St} (B : q_Bd E Γ cX13_listing yX13_listing.cls 5 0 0 (some .long) yX13_listing.name w) (hT : q_nT Γ) (r34 : Option Nat → Int32 → Int64 → Int32 → q_X Int64) (hr34 : ∀ (l0 : Option Nat) (l1 : Int32) (l2 : Int64) (l4 : Int32) (σ : q_St), r34 l0 l1 l2 l4 σ = some w → q_W E Γ (q_QF E Γ q_oL w) 5 σ 34 [(0, q_R l0), (1, q_I l1), (2, q_L l2), (4, q_I l4)] []) (mr34 : ∀ (l0 : Option Nat) (l1 : Int32) (l2 : Int64) (l4 : Int32), q_mo (r34 l0 l1 l2 l4)) (l0 : Option Nat) (l1 : Int32) (l4 : Int32) (s0 : Int64) (s1 : Int32) (σ : q_St) (h : F_X13_listing_71 (q_kap E) r34 l0 l1 l4 s0 s1 σ = some w) : q_W E Γ (q_QF E Γ q_oL w) 5 σ 71 [(0, q_R l0), (1, q_I l1), (4, q_I l4)] [q_I s1, q_L s0] := by
  have C := B.1
  unfold F_X13_listing_71 at h
  refine q_i2l (pc := 71) C dX13_listing_71 ?_
  refine q_lor (pc := 72) C dX13_listing_72 ?_
  refine q_lstore_n (pc := 73) (l' := [(2, q_L (s0 ||| s1.toInt64)), (0, q_R l0), (1, q_I l1), (4, q_I l4)]) C dX13_listing_73 rfl (by decide) rfl ?_
  refine q_iinc (pc := 74) (v := (1 : Int32)) (l' := [(4, q_I (l4 + (1 : Int32))), (2, q_L (s0 ||| s1.toInt64)), (0, q_R l0), (1, q_I l1)]) C 3 rfl dX13_listing_74 (by decide) (by decide) rfl ?_
  refine q_goto (pc := 77) (tgt := 34) C dX13_listing_77 (by decide) ?_
  refine q_W.sub [2, 3, 1, 0] rfl ?_
  exact hr34 l0 l1 (s0 ||| s1.toInt64) (l4 + (1 : Int32)) _ h
def F_X13_listing_34B (κ : Nat → Nat) (r34 : Option Nat → Int32 → Int64 → Int32 → q_X Int64) (l0 : Option Nat) (l1 : Int32) (l2 : Int64) (l4 : Int32) : q_X Int64 :=
  q_br ((l1 + (8 : Int32)) ≤ l4) (q_rt l2) (q_rd (q_gI l0 16 4) fun v50 => q_br (v50 ≤ l4) (F_X13_listing_71 κ r34 l0 l1 l4 (l2 <<< ((8 : Int32).toInt64 &&& 63)) (0 : Int32)) (q_rd (q_gA l0 16 2) fun v57 => q_rd (q_lI 0 v57 l4) fun v62 => F_X13_listing_71 κ r34 l0 l1 l4 (l2 <<< ((8 : Int32).toInt64 &&& 63)) (v62 &&& (255 : Int32))))
theorem M_X13_listing_34B (κ : Nat → Nat) (r34 : Option Nat → Int32 → Int64 → Int32 → q_X Int64) (mr34 : ∀ (l0 : Option Nat) (l1 : Int32) (l2 : Int64) (l4 : Int32), q_mo (r34 l0 l1 l2 l4)) (l0 : Option Nat) (l1 : Int32) (l2 : Int64) (l4 : Int32) : q_mo (F_X13_listing_34B κ r34 l0 l1 l2 l4) := (q_mo_br q_mo_rt (q_mo_rd fun v50 => (q_mo_br (M_X13_listing_71 κ r34 mr34 l0 l1 l4 (l2 <<< ((8 : Int32).toInt64 &&& 63)) (0 : Int32)) (q_mo_rd fun v57 => (q_mo_rd fun v62 => (M_X13_listing_71 κ r34 mr34 l0 l1 l4 (l2 <<< ((8 : Int32).toInt64 &&& 63)) (v62 &&& (255 : Int32))))))))
set_option maxRecDepth 100000 in
set_option maxHeartbeats 4000000 in
theorem S_X13_listing_34B {E : q_Ev} {Γ : q_Gm} {w : (Int64 ⊕ q_Exn) × q_St} (B : q_Bd E Γ cX13_listing yX13_listing.cls 5 0 0 (some .long) yX13_listing.name w) (hT : q_nT Γ) (r34 : Option Nat → Int32 → Int64 → Int32 → q_X Int64) (hr34 : ∀ (l0 : Option Nat) (l1 : Int32) (l2 : Int64) (l4 : Int32) (σ : q_St), r34 l0 l1 l2 l4 σ = some w → q_W E Γ (q_QF E Γ q_oL w) 5 σ 34 [(0, q_R l0), (1, q_I l1), (2, q_L l2), (4, q_I l4)] []) (mr34 : ∀ (l0 : Option Nat) (l1 : Int32) (l2 : Int64) (l4 : Int32), q_mo (r34 l0 l1 l2 l4)) (l0 : Option Nat) (l1 : Int32) (l2 : Int64) (l4 : Int32) (σ : q_St) (h : F_X13_listing_34B (q_kap E) r34 l0 l1 l2 l4 σ = some w) : q_W E Γ (q_QF E Γ q_oL w) 5 σ 34 [(0, q_R l0), (1, q_I l1), (2, q_L l2), (4, q_I l4)] [] := by
  have C := B.1
  unfold F_X13_listing_34B at h
  refine q_iload (pc := 34) C 3 rfl dX13_listing_34 ?_
  refine q_iload_n (pc := 36) C 1 rfl dX13_listing_36 rfl ?_
  refine q_bipush (pc := 37) (v := (8 : Int32)) C dX13_listing_37 (by decide) ?_
  refine q_iadd (pc := 39) C dX13_listing_39 ?_
  refine q_icmp_ge (pc := 40) (tgt := 80) C dX13_listing_40 (by decide) h (fun _ h => ?_) (fun _ h => ?_)
  · refine q_lload_n (pc := 80) C 2 rfl dX13_listing_80 rfl ?_
    exact q_lret C B.2.2.2.2.1 dX13_listing_81 h
  · refine q_lload_n (pc := 43) C 2 rfl dX13_listing_43 rfl ?_
    refine q_bipush (pc := 44) (v := (8 : Int32)) C dX13_listing_44 (by decide) ?_
    refine q_lshl (pc := 46) C dX13_listing_46 ?_
    refine q_iload (pc := 47) C 3 rfl dX13_listing_47 ?_
    refine q_aload_n (pc := 49) C 0 rfl dX13_listing_49 rfl ?_
    refine q_getI (pc := 50) C dX13_listing_50 ql_X13_339 h (fun v50 h => ?_)
    refine q_icmp_ge (pc := 53) (tgt := 70) C dX13_listing_53 (by decide) h (fun _ h => ?_) (fun _ h => ?_)
    · refine q_iconst (pc := 70) (v := (0 : Int32)) C dX13_listing_70 (by decide) ?_
      refine q_W.sub [0, 1, 3] rfl ?_
      exact S_X13_listing_71 B hT r34 hr34 mr34 l0 l1 l4 (l2 <<< ((8 : Int32).toInt64 &&& 63)) (0 : Int32) _ h
    · refine q_aload_n (pc := 56) C 0 rfl dX13_listing_56 rfl ?_
      refine q_getA (pc := 57) C dX13_listing_57 ql_X13_16 h (fun v57 h => ?_)
      refine q_iload (pc := 60) C 3 rfl dX13_listing_60 ?_
      refine q_ldI (pc := 62) C dX13_listing_62 (Or.inl ⟨rfl, rfl⟩) h (fun v62 h => ?_)
      refine q_sipush (pc := 63) (v := (255 : Int32)) C dX13_listing_63 (by decide) ?_
      refine q_iand (pc := 66) C dX13_listing_66 ?_
      refine q_goto (pc := 67) (tgt := 71) C dX13_listing_67 (by decide) ?_
      refine q_W.sub [0, 1, 3] rfl ?_
      exact S_X13_listing_71 B hT r34 hr34 mr34 l0 l1 l4 (l2 <<< ((8 : Int32).toInt64 &&& 63)) (v62 &&& (255 : Int32)) _ h
def F_X13_listing_34 (κ : Nat → Nat) : Nat → Option Nat → Int32 → Int64 → Int32 → q_X Int64
  | 0, _, _, _, _ => q_no
  | n + 1, l0, l1, l2, l4 => F_X13_listing_34B κ (F_X13_listing_34 κ n) l0 l1 l2 l4
theorem M_X13_listing_34 (κ : Nat → Nat) : ∀ (n : Nat) (l0 : Option Nat) (l1 : Int32) (l2 : Int64) (l4 : Int32), q_mo (F_X13_listing_34 κ n l0 l1 l2 l4)
  | 0, _, _, _, _ => q_mo_no
  | n + 1, l0, l1, l2, l4 => M_X13_listing_34B κ (F_X13_listing_34 κ n) (M_X13_listing_34 κ n) l0 l1 l2 l4
theorem S_X13_listing_34 {E : q_Ev} {Γ : q_Gm} {w : (Int64 ⊕ q_Exn) × q_St} (B : q_Bd E Γ cX13_listing yX13_listing.cls 5 0 0 (some .long) yX13_listing.name w) (hT : q_nT Γ) : ∀ (n : Nat) (l0 : Option Nat) (l1 : Int32) (l2 : Int64) (l4 : Int32) (σ : q_St), F_X13_listing_34 (q_kap E) n l0 l1 l2 l4 σ = some w → q_W E Γ (q_QF E Γ q_oL w) 5 σ 34 [(0, q_R l0), (1, q_I l1), (2, q_L l2), (4, q_I l4)] []
  | 0, _, _, _, _, _, h => by cases h
  | n + 1, l0, l1, l2, l4, σ, h => S_X13_listing_34B B hT (F_X13_listing_34 (q_kap E) n) (S_X13_listing_34 B hT n) (M_X13_listing_34 (q_kap E) n) l0 l1 l2 l4 σ h
def F_X13_listing_17 (κ : Nat → Nat) (l0 : Option Nat) (l1 : Int32) (s0 : Option Nat) (s1 : Int32) : q_X Int64 :=
  q_wr (q_pF s0 16 7 (.int s1)) (q_rd (q_gI l0 16 7) fun v21 => q_br (v21 ≤ 0) (F_X13_listing_34 κ q_fu l0 l1 (0 : Int64) l1) (q_rt (0 : Int64)))
theorem M_X13_listing_17 (κ : Nat → Nat) (l0 : Option Nat) (l1 : Int32) (s0 : Option Nat) (s1 : Int32) : q_mo (F_X13_listing_17 κ l0 l1 s0 s1) := (q_mo_wr (q_mo_rd fun v21 => (q_mo_br (M_X13_listing_34 κ q_fu l0 l1 (0 : Int64) l1) q_mo_rt)))
set_option maxRecDepth 100000 in
set_option maxHeartbeats 4000000 in
theorem S_X13_listing_17 {E : q_Ev} {Γ : q_Gm} {w : (Int64 ⊕ q_Exn) × q_St} (B : q_Bd E Γ cX13_listing yX13_listing.cls 5 0 0 (some .long) yX13_listing.name w) (hT : q_nT Γ) (l0 : Option Nat) (l1 : Int32) (s0 : Option Nat) (s1 : Int32) (σ : q_St) (h : F_X13_listing_17 (q_kap E) l0 l1 s0 s1 σ = some w) : q_W E Γ (q_QF E Γ q_oL w) 5 σ 17 [(0, q_R l0), (1, q_I l1)] [q_I s1, q_R s0] := by
  have C := B.1
  unfold F_X13_listing_17 at h
  refine q_putV (pc := 17) (v := q_I s1) C dX13_listing_17 ql_X13_138 (Or.inl rfl) rfl rfl h (fun M17 h => ?_)
  refine q_aload_n (pc := 20) C 0 rfl dX13_listing_20 rfl ?_
  refine q_getI (pc := 21) C dX13_listing_21 ql_X13_138 h (fun v21 h => ?_)
  refine q_if_le (pc := 24) (tgt := 29) C dX13_listing_24 (by decide) h (fun _ h => ?_) (fun _ h => ?_)
  · refine q_lconst (pc := 29) (v := (0 : Int64)) C dX13_listing_29 (by decide) ?_
    refine q_lstore_n (pc := 30) (l' := [(2, q_L (0 : Int64)), (0, q_R l0), (1, q_I l1)]) C dX13_listing_30 rfl (by decide) rfl ?_
    refine q_iload_n (pc := 31) C 2 rfl dX13_listing_31 rfl ?_
    refine q_istore (pc := 32) (l' := [(4, q_I l1), (2, q_L (0 : Int64)), (0, q_R l0), (1, q_I l1)]) C dX13_listing_32 (by decide) rfl ?_
    refine q_W.sub [2, 3, 1, 0] rfl ?_
    exact S_X13_listing_34 B hT q_fu l0 l1 (0 : Int64) l1 _ h
  · refine q_lconst (pc := 27) (v := (0 : Int64)) C dX13_listing_27 (by decide) ?_
    exact q_lret C B.2.2.2.2.1 dX13_listing_28 h
def F_X13_listing_12 (κ : Nat → Nat) (l0 : Option Nat) (l1 : Int32) (s0 : Option Nat) : q_X Int64 :=
  F_X13_listing_17 κ l0 l1 s0 (1 : Int32)
theorem M_X13_listing_12 (κ : Nat → Nat) (l0 : Option Nat) (l1 : Int32) (s0 : Option Nat) : q_mo (F_X13_listing_12 κ l0 l1 s0) := (M_X13_listing_17 κ l0 l1 s0 (1 : Int32))
set_option maxRecDepth 100000 in
set_option maxHeartbeats 4000000 in
theorem S_X13_listing_12 {E : q_Ev} {Γ : q_Gm} {w : (Int64 ⊕ q_Exn) × q_St} (B : q_Bd E Γ cX13_listing yX13_listing.cls 5 0 0 (some .long) yX13_listing.name w) (hT : q_nT Γ) (l0 : Option Nat) (l1 : Int32) (s0 : Option Nat) (σ : q_St) (h : F_X13_listing_12 (q_kap E) l0 l1 s0 σ = some w) : q_W E Γ (q_QF E Γ q_oL w) 5 σ 12 [(0, q_R l0), (1, q_I l1)] [q_R s0] := by
  have C := B.1
  unfold F_X13_listing_12 at h
  refine q_iconst (pc := 12) (v := (1 : Int32)) C dX13_listing_12 (by decide) ?_
  refine q_goto (pc := 13) (tgt := 17) C dX13_listing_13 (by decide) ?_
  exact S_X13_listing_17 B hT l0 l1 s0 (1 : Int32) _ h
def F_X13_listing (κ : Nat → Nat) (l0 : Option Nat) (l1 : Int32) : q_X Int64 :=
  q_br (l1 < 0) (F_X13_listing_12 κ l0 l1 l0) (q_br (l1 ≤ (300 : Int32)) (F_X13_listing_17 κ l0 l1 l0 (0 : Int32)) (F_X13_listing_12 κ l0 l1 l0))
theorem M_X13_listing (κ : Nat → Nat) (l0 : Option Nat) (l1 : Int32) : q_mo (F_X13_listing κ l0 l1) := (q_mo_br (M_X13_listing_12 κ l0 l1 l0) (q_mo_br (M_X13_listing_17 κ l0 l1 l0 (0 : Int32)) (M_X13_listing_12 κ l0 l1 l0)))
set_option maxRecDepth 100000 in
set_option maxHeartbeats 4000000 in
theorem K_X13_listing {E : q_Ev} (l0 : Option Nat) (l1 : Int32) : q_Ct E yX13_listing (.code yX13_listing cX13_listing 5 (some .long)) 0 0 [q_R l0, q_I l1] q_oL (F_X13_listing (q_kap E) l0 l1) := by
  refine q_enter (by decide) (Nat.le_of_ble_eq_true rfl) (fun Γ σ w h B hT => ?_)
  have C := B.1
  unfold F_X13_listing at h
  refine q_aload_n (pc := 0) C 0 rfl dX13_listing_0 rfl ?_
  refine q_iload_n (pc := 1) C 1 rfl dX13_listing_1 rfl ?_
  refine q_if_lt (pc := 2) (tgt := 12) C dX13_listing_2 (by decide) h (fun _ h => ?_) (fun _ h => ?_)
  · exact S_X13_listing_12 B hT l0 l1 l0 _ h
  · refine q_iload_n (pc := 5) C 1 rfl dX13_listing_5 rfl ?_
    refine q_sipush (pc := 6) (v := (300 : Int32)) C dX13_listing_6 (by decide) ?_
    refine q_icmp_le (pc := 9) (tgt := 16) C dX13_listing_9 (by decide) h (fun _ h => ?_) (fun _ h => ?_)
    · refine q_iconst (pc := 16) (v := (0 : Int32)) C dX13_listing_16 (by decide) ?_
      exact S_X13_listing_17 B hT l0 l1 l0 (0 : Int32) _ h
    · exact S_X13_listing_12 B hT l0 l1 l0 _ h
def F_X13_quote_23 (κ : Nat → Nat) (l0 : Option Nat) (s0 : Option Nat) (s1 : Int32) : q_X Int32 :=
  q_wr (q_pF s0 16 7 (.int s1)) (q_rd (q_gI l0 16 7) fun v27 => q_br (v27 ≤ 0) (q_rd (q_gA l0 16 2) fun v36 => q_rd (q_gA l0 16 0) fun v41 => q_rd (q_gI l0 16 3) fun v45 => q_rd (q_gI l0 16 4) fun v49 => q_wr (q_cB v36 (0 : Int32) v41 v45 v49) (q_rd (q_gI l0 16 3) fun v57 => q_rd (q_gI l0 16 4) fun v61 => q_wr (q_pF l0 16 3 (.int (v57 + v61))) (q_rd (q_gA l0 16 0) fun v69 => q_rd (q_gI l0 16 3) fun v73 => q_wr (q_sI 0 v69 v73 (vp_nar .byte (10 : Int32))) (q_rd (q_gI l0 16 3) fun v81 => q_wr (q_pF l0 16 3 (.int (v81 + (1 : Int32)))) (q_rd (q_gI l0 16 3) fun v90 => q_rt v90))))) (q_rt (0 : Int32)))
theorem M_X13_quote_23 (κ : Nat → Nat) (l0 : Option Nat) (s0 : Option Nat) (s1 : Int32) : q_mo (F_X13_quote_23 κ l0 s0 s1) := (q_mo_wr (q_mo_rd fun v27 => (q_mo_br (q_mo_rd fun v36 => (q_mo_rd fun v41 => (q_mo_rd fun v45 => (q_mo_rd fun v49 => (q_mo_wr (q_mo_rd fun v57 => (q_mo_rd fun v61 => (q_mo_wr (q_mo_rd fun v69 => (q_mo_rd fun v73 => (q_mo_wr (q_mo_rd fun v81 => (q_mo_wr (q_mo_rd fun v90 => q_mo_rt)))))))))))))) q_mo_rt)))
theorem N_X13_quote_23 (κ : Nat → Nat) (l0 : Option Nat) (s0 : Option Nat) (s1 : Int32) : q_ni (F_X13_quote_23 κ l0 s0 s1) := (q_ni_wr (q_ni_rd fun v27 => (q_ni_br (q_ni_rd fun v36 => (q_ni_rd fun v41 => (q_ni_rd fun v45 => (q_ni_rd fun v49 => (q_ni_wr (q_ni_rd fun v57 => (q_ni_rd fun v61 => (q_ni_wr (q_ni_rd fun v69 => (q_ni_rd fun v73 => (q_ni_wr (q_ni_rd fun v81 => (q_ni_wr (q_ni_rd fun v90 => q_ni_rt)))))))))))))) q_ni_rt)))
set_option maxRecDepth 100000 in
set_option maxHeartbeats 4000000 in
theorem S_X13_quote_23 {E : q_Ev} {Γ : q_Gm} {w : (Int32 ⊕ q_Exn) × q_St} (B : q_Bd E Γ cX13_quote yX13_quote.cls 1 1 40 (some .int) yX13_quote.name w) (hT : q_nT Γ) (l0 : Option Nat) (s0 : Option Nat) (s1 : Int32) (σ : q_St) (h : F_X13_quote_23 (q_kap E) l0 s0 s1 σ = some w) : q_W E Γ (q_QF E Γ q_oI w) 1 σ 23 [(0, q_R l0)] [q_I s1, q_R s0] := by
  have C := B.1
  unfold F_X13_quote_23 at h
  refine q_putV (pc := 23) (v := q_I s1) C dX13_quote_23 ql_X13_138 (Or.inl rfl) rfl rfl h (fun M23 h => ?_)
  refine q_aload_n (pc := 26) C 0 rfl dX13_quote_26 rfl ?_
  refine q_getI (pc := 27) C dX13_quote_27 ql_X13_138 h (fun v27 h => ?_)
  refine q_if_le (pc := 30) (tgt := 35) C dX13_quote_30 (by decide) h (fun _ h => ?_) (fun _ h => ?_)
  · refine q_aload_n (pc := 35) C 0 rfl dX13_quote_35 rfl ?_
    refine q_getA (pc := 36) C dX13_quote_36 ql_X13_16 h (fun v36 h => ?_)
    refine q_iconst (pc := 39) (v := (0 : Int32)) C dX13_quote_39 (by decide) ?_
    refine q_aload_n (pc := 40) C 0 rfl dX13_quote_40 rfl ?_
    refine q_getA (pc := 41) C dX13_quote_41 ql_X13_9 h (fun v41 h => ?_)
    refine q_aload_n (pc := 44) C 0 rfl dX13_quote_44 rfl ?_
    refine q_getI (pc := 45) C dX13_quote_45 ql_X13_364 h (fun v45 h => ?_)
    refine q_aload_n (pc := 48) C 0 rfl dX13_quote_48 rfl ?_
    refine q_getI (pc := 49) C dX13_quote_49 ql_X13_339 h (fun v49 h => ?_)
    refine q_cpB (pc := 52) C dX13_quote_52 qy_X13_200 (q_flo B.2.2.1 B.2.2.2.1 (by decide) (by decide)) (Nat.le_of_ble_eq_true rfl) h (fun M52 h => ?_)
    refine q_aload_n (pc := 55) C 0 rfl dX13_quote_55 rfl ?_
    refine q_dup (pc := 56) C dX13_quote_56 rfl ?_
    refine q_getI (pc := 57) C dX13_quote_57 ql_X13_364 h (fun v57 h => ?_)
    refine q_aload_n (pc := 60) C 0 rfl dX13_quote_60 rfl ?_
    refine q_getI (pc := 61) C dX13_quote_61 ql_X13_339 h (fun v61 h => ?_)
    refine q_iadd (pc := 64) C dX13_quote_64 ?_
    refine q_putV (pc := 65) (v := q_I (v57 + v61)) C dX13_quote_65 ql_X13_364 (Or.inl rfl) rfl rfl h (fun M65 h => ?_)
    refine q_aload_n (pc := 68) C 0 rfl dX13_quote_68 rfl ?_
    refine q_getA (pc := 69) C dX13_quote_69 ql_X13_9 h (fun v69 h => ?_)
    refine q_aload_n (pc := 72) C 0 rfl dX13_quote_72 rfl ?_
    refine q_getI (pc := 73) C dX13_quote_73 ql_X13_364 h (fun v73 h => ?_)
    refine q_bipush (pc := 76) (v := (10 : Int32)) C dX13_quote_76 (by decide) ?_
    refine q_stB (pc := 78) C dX13_quote_78 h (fun M78 h => ?_)
    refine q_aload_n (pc := 79) C 0 rfl dX13_quote_79 rfl ?_
    refine q_dup (pc := 80) C dX13_quote_80 rfl ?_
    refine q_getI (pc := 81) C dX13_quote_81 ql_X13_364 h (fun v81 h => ?_)
    refine q_iconst (pc := 84) (v := (1 : Int32)) C dX13_quote_84 (by decide) ?_
    refine q_iadd (pc := 85) C dX13_quote_85 ?_
    refine q_putV (pc := 86) (v := q_I (v81 + (1 : Int32))) C dX13_quote_86 ql_X13_364 (Or.inl rfl) rfl rfl h (fun M86 h => ?_)
    refine q_aload_n (pc := 89) C 0 rfl dX13_quote_89 rfl ?_
    refine q_getI (pc := 90) C dX13_quote_90 ql_X13_364 h (fun v90 h => ?_)
    exact q_iret C B.2.2.2.2.1 dX13_quote_93 h
  · refine q_iconst (pc := 33) (v := (0 : Int32)) C dX13_quote_33 (by decide) ?_
    exact q_iret C B.2.2.2.2.1 dX13_quote_34 h
def F_X13_quote (κ : Nat → Nat) (l0 : Option Nat) : q_X Int32 :=
  q_rd (q_gI l0 16 3) fun v2 => q_rd (q_gI l0 16 4) fun v6 => q_br (((v2 + v6) + (1 : Int32)) ≤ (6000 : Int32)) (F_X13_quote_23 κ l0 l0 (0 : Int32)) (F_X13_quote_23 κ l0 l0 (1 : Int32))
theorem M_X13_quote (κ : Nat → Nat) (l0 : Option Nat) : q_mo (F_X13_quote κ l0) := (q_mo_rd fun v2 => (q_mo_rd fun v6 => (q_mo_br (M_X13_quote_23 κ l0 l0 (0 : Int32)) (M_X13_quote_23 κ l0 l0 (1 : Int32)))))
theorem N_X13_quote (κ : Nat → Nat) (l0 : Option Nat) : q_ni (F_X13_quote κ l0) := (q_ni_rd fun v2 => (q_ni_rd fun v6 => (q_ni_br (N_X13_quote_23 κ l0 l0 (0 : Int32)) (N_X13_quote_23 κ l0 l0 (1 : Int32)))))
set_option maxRecDepth 100000 in
set_option maxHeartbeats 4000000 in
theorem K_X13_quote {E : q_Ev} (l0 : Option Nat) : q_Ct E yX13_quote (.code yX13_quote cX13_quote 1 (some .int)) 1 40 [q_R l0] q_oI (F_X13_quote (q_kap E) l0) := by
  refine q_enter (by decide) (Nat.le_of_ble_eq_true rfl) (fun Γ σ w h B hT => ?_)
  have C := B.1
  unfold F_X13_quote at h
  refine q_aload_n (pc := 0) C 0 rfl dX13_quote_0 rfl ?_
  refine q_aload_n (pc := 1) C 0 rfl dX13_quote_1 rfl ?_
  refine q_getI (pc := 2) C dX13_quote_2 ql_X13_364 h (fun v2 h => ?_)
  refine q_aload_n (pc := 5) C 0 rfl dX13_quote_5 rfl ?_
  refine q_getI (pc := 6) C dX13_quote_6 ql_X13_339 h (fun v6 h => ?_)
  refine q_iadd (pc := 9) C dX13_quote_9 ?_
  refine q_iconst (pc := 10) (v := (1 : Int32)) C dX13_quote_10 (by decide) ?_
  refine q_iadd (pc := 11) C dX13_quote_11 ?_
  refine q_sipush (pc := 12) (v := (6000 : Int32)) C dX13_quote_12 (by decide) ?_
  refine q_icmp_le (pc := 15) (tgt := 22) C dX13_quote_15 (by decide) h (fun _ h => ?_) (fun _ h => ?_)
  · refine q_iconst (pc := 22) (v := (0 : Int32)) C dX13_quote_22 (by decide) ?_
    exact S_X13_quote_23 B hT l0 l0 (0 : Int32) _ h
  · refine q_iconst (pc := 18) (v := (1 : Int32)) C dX13_quote_18 (by decide) ?_
    refine q_goto (pc := 19) (tgt := 23) C dX13_quote_19 (by decide) ?_
    exact S_X13_quote_23 B hT l0 l0 (1 : Int32) _ h
def F_X13_digits_64 (κ : Nat → Nat) (r6 : Option Nat → Int32 → Int32 → Int32 → Int64 → Int32 → q_X Int64) (l0 : Option Nat) (l1 : Int32) (l2 : Int32) (l3 : Int32) (l6 : Int32) (s0 : Int64) (s1 : Int32) : q_X Int64 :=
  r6 l0 l1 l2 l3 (s0 + s1.toInt64) (l6 + (1 : Int32))
theorem M_X13_digits_64 (κ : Nat → Nat) (r6 : Option Nat → Int32 → Int32 → Int32 → Int64 → Int32 → q_X Int64) (mr6 : ∀ (l0 : Option Nat) (l1 : Int32) (l2 : Int32) (l3 : Int32) (l4 : Int64) (l6 : Int32), q_mo (r6 l0 l1 l2 l3 l4 l6)) (l0 : Option Nat) (l1 : Int32) (l2 : Int32) (l3 : Int32) (l6 : Int32) (s0 : Int64) (s1 : Int32) : q_mo (F_X13_digits_64 κ r6 l0 l1 l2 l3 l6 s0 s1) := (mr6 l0 l1 l2 l3 (s0 + s1.toInt64) (l6 + (1 : Int32)))
set_option maxRecDepth 100000 in
set_option maxHeartbeats 4000000 in
theorem S_X13_digits_64 {E : q_Ev} {Γ : q_Gm} {w : (Int64 ⊕ q_Exn) × q_St} (B : q_Bd E Γ cX13_digits yX13_digits.cls 8 0 0 (some .long) yX13_digits.name w) (hT : q_nT Γ) (r6 : Option Nat → Int32 → Int32 → Int32 → Int64 → Int32 → q_X Int64) (hr6 : ∀ (l0 : Option Nat) (l1 : Int32) (l2 : Int32) (l3 : Int32) (l4 : Int64) (l6 : Int32) (σ : q_St), r6 l0 l1 l2 l3 l4 l6 σ = some w → q_W E Γ (q_QF E Γ q_oL w) 8 σ 6 [(0, q_R l0), (1, q_I l1), (2, q_I l2), (3, q_I l3), (4, q_L l4), (6, q_I l6)] []) (mr6 : ∀ (l0 : Option Nat) (l1 : Int32) (l2 : Int32) (l3 : Int32) (l4 : Int64) (l6 : Int32), q_mo (r6 l0 l1 l2 l3 l4 l6)) (l0 : Option Nat) (l1 : Int32) (l2 : Int32) (l3 : Int32) (l6 : Int32) (s0 : Int64) (s1 : Int32) (σ : q_St) (h : F_X13_digits_64 (q_kap E) r6 l0 l1 l2 l3 l6 s0 s1 σ = some w) : q_W E Γ (q_QF E Γ q_oL w) 8 σ 64 [(0, q_R l0), (1, q_I l1), (2, q_I l2), (3, q_I l3), (6, q_I l6)] [q_I s1, q_L s0] := by
  have C := B.1
  unfold F_X13_digits_64 at h
  refine q_i2l (pc := 64) C dX13_digits_64 ?_
  refine q_ladd (pc := 65) C dX13_digits_65 ?_
  refine q_lstore (pc := 66) (l' := [(4, q_L (s0 + s1.toInt64)), (0, q_R l0), (1, q_I l1), (2, q_I l2), (3, q_I l3), (6, q_I l6)]) C dX13_digits_66 (by decide) rfl ?_
  refine q_iinc (pc := 68) (v := (1 : Int32)) (l' := [(6, q_I (l6 + (1 : Int32))), (4, q_L (s0 + s1.toInt64)), (0, q_R l0), (1, q_I l1), (2, q_I l2), (3, q_I l3)]) C 5 rfl dX13_digits_68 (by decide) (by decide) rfl ?_
  refine q_goto (pc := 71) (tgt := 6) C dX13_digits_71 (by decide) ?_
  refine q_W.sub [2, 3, 4, 5, 1, 0] rfl ?_
  exact hr6 l0 l1 l2 l3 (s0 + s1.toInt64) (l6 + (1 : Int32)) _ h
def F_X13_digits_63 (κ : Nat → Nat) (r6 : Option Nat → Int32 → Int32 → Int32 → Int64 → Int32 → q_X Int64) (l0 : Option Nat) (l1 : Int32) (l2 : Int32) (l3 : Int32) (l6 : Int32) (s0 : Int64) : q_X Int64 :=
  F_X13_digits_64 κ r6 l0 l1 l2 l3 l6 s0 (0 : Int32)
theorem M_X13_digits_63 (κ : Nat → Nat) (r6 : Option Nat → Int32 → Int32 → Int32 → Int64 → Int32 → q_X Int64) (mr6 : ∀ (l0 : Option Nat) (l1 : Int32) (l2 : Int32) (l3 : Int32) (l4 : Int64) (l6 : Int32), q_mo (r6 l0 l1 l2 l3 l4 l6)) (l0 : Option Nat) (l1 : Int32) (l2 : Int32) (l3 : Int32) (l6 : Int32) (s0 : Int64) : q_mo (F_X13_digits_63 κ r6 l0 l1 l2 l3 l6 s0) := (M_X13_digits_64 κ r6 mr6 l0 l1 l2 l3 l6 s0 (0 : Int32))
set_option maxRecDepth 100000 in
set_option maxHeartbeats 4000000 in
theorem S_X13_digits_63 {E : q_Ev} {Γ : q_Gm} {w : (Int64 ⊕ q_Exn) × q_St} (B : q_Bd E Γ cX13_digits yX13_digits.cls 8 0 0 (some .long) yX13_digits.name w) (hT : q_nT Γ) (r6 : Option Nat → Int32 → Int32 → Int32 → Int64 → Int32 → q_X Int64) (hr6 : ∀ (l0 : Option Nat) (l1 : Int32) (l2 : Int32) (l3 : Int32) (l4 : Int64) (l6 : Int32) (σ : q_St), r6 l0 l1 l2 l3 l4 l6 σ = some w → q_W E Γ (q_QF E Γ q_oL w) 8 σ 6 [(0, q_R l0), (1, q_I l1), (2, q_I l2), (3, q_I l3), (4, q_L l4), (6, q_I l6)] []) (mr6 : ∀ (l0 : Option Nat) (l1 : Int32) (l2 : Int32) (l3 : Int32) (l4 : Int64) (l6 : Int32), q_mo (r6 l0 l1 l2 l3 l4 l6)) (l0 : Option Nat) (l1 : Int32) (l2 : Int32) (l3 : Int32) (l6 : Int32) (s0 : Int64) (σ : q_St) (h : F_X13_digits_63 (q_kap E) r6 l0 l1 l2 l3 l6 s0 σ = some w) : q_W E Γ (q_QF E Γ q_oL w) 8 σ 63 [(0, q_R l0), (1, q_I l1), (2, q_I l2), (3, q_I l3), (6, q_I l6)] [q_L s0] := by
  have C := B.1
  unfold F_X13_digits_63 at h
  refine q_iconst (pc := 63) (v := (0 : Int32)) C dX13_digits_63 (by decide) ?_
  exact S_X13_digits_64 B hT r6 hr6 mr6 l0 l1 l2 l3 l6 s0 (0 : Int32) _ h
def F_X13_digits_59 (κ : Nat → Nat) (r6 : Option Nat → Int32 → Int32 → Int32 → Int64 → Int32 → q_X Int64) (l0 : Option Nat) (l1 : Int32) (l2 : Int32) (l3 : Int32) (l6 : Int32) (s0 : Int64) : q_X Int64 :=
  F_X13_digits_64 κ r6 l0 l1 l2 l3 l6 s0 (1 : Int32)
theorem M_X13_digits_59 (κ : Nat → Nat) (r6 : Option Nat → Int32 → Int32 → Int32 → Int64 → Int32 → q_X Int64) (mr6 : ∀ (l0 : Option Nat) (l1 : Int32) (l2 : Int32) (l3 : Int32) (l4 : Int64) (l6 : Int32), q_mo (r6 l0 l1 l2 l3 l4 l6)) (l0 : Option Nat) (l1 : Int32) (l2 : Int32) (l3 : Int32) (l6 : Int32) (s0 : Int64) : q_mo (F_X13_digits_59 κ r6 l0 l1 l2 l3 l6 s0) := (M_X13_digits_64 κ r6 mr6 l0 l1 l2 l3 l6 s0 (1 : Int32))
set_option maxRecDepth 100000 in
set_option maxHeartbeats 4000000 in
theorem S_X13_digits_59 {E : q_Ev} {Γ : q_Gm} {w : (Int64 ⊕ q_Exn) × q_St} (B : q_Bd E Γ cX13_digits yX13_digits.cls 8 0 0 (some .long) yX13_digits.name w) (hT : q_nT Γ) (r6 : Option Nat → Int32 → Int32 → Int32 → Int64 → Int32 → q_X Int64) (hr6 : ∀ (l0 : Option Nat) (l1 : Int32) (l2 : Int32) (l3 : Int32) (l4 : Int64) (l6 : Int32) (σ : q_St), r6 l0 l1 l2 l3 l4 l6 σ = some w → q_W E Γ (q_QF E Γ q_oL w) 8 σ 6 [(0, q_R l0), (1, q_I l1), (2, q_I l2), (3, q_I l3), (4, q_L l4), (6, q_I l6)] []) (mr6 : ∀ (l0 : Option Nat) (l1 : Int32) (l2 : Int32) (l3 : Int32) (l4 : Int64) (l6 : Int32), q_mo (r6 l0 l1 l2 l3 l4 l6)) (l0 : Option Nat) (l1 : Int32) (l2 : Int32) (l3 : Int32) (l6 : Int32) (s0 : Int64) (σ : q_St) (h : F_X13_digits_59 (q_kap E) r6 l0 l1 l2 l3 l6 s0 σ = some w) : q_W E Γ (q_QF E Γ q_oL w) 8 σ 59 [(0, q_R l0), (1, q_I l1), (2, q_I l2), (3, q_I l3), (6, q_I l6)] [q_L s0] := by
  have C := B.1
  unfold F_X13_digits_59 at h
  refine q_iconst (pc := 59) (v := (1 : Int32)) C dX13_digits_59 (by decide) ?_
  refine q_goto (pc := 60) (tgt := 64) C dX13_digits_60 (by decide) ?_
  exact S_X13_digits_64 B hT r6 hr6 mr6 l0 l1 l2 l3 l6 s0 (1 : Int32) _ h
def F_X13_digits_6B (κ : Nat → Nat) (r6 : Option Nat → Int32 → Int32 → Int32 → Int64 → Int32 → q_X Int64) (l0 : Option Nat) (l1 : Int32) (l2 : Int32) (l3 : Int32) (l4 : Int64) (l6 : Int32) : q_X Int64 :=
  q_rd (q_gI l0 16 21) fun v9 => q_br (v9 ≤ l6) (q_rt l4) (q_rd (q_gA l0 16 38) fun v16 => q_rd (q_gI l0 16 21) fun v26 => q_rd (q_lI 1 v16 ((((160 : Int32) * l1) + (l2 * v26)) + l6)) fun v34 => q_br (0 ≤ v34) (F_X13_digits_63 κ r6 l0 l1 l2 l3 l6 ((2 : Int64) * l4)) (q_br (l3 = 0) (F_X13_digits_59 κ r6 l0 l1 l2 l3 l6 ((2 : Int64) * l4)) (q_br (¬ v34 = (-2 : Int32)) (F_X13_digits_63 κ r6 l0 l1 l2 l3 l6 ((2 : Int64) * l4)) (F_X13_digits_59 κ r6 l0 l1 l2 l3 l6 ((2 : Int64) * l4)))))
theorem M_X13_digits_6B (κ : Nat → Nat) (r6 : Option Nat → Int32 → Int32 → Int32 → Int64 → Int32 → q_X Int64) (mr6 : ∀ (l0 : Option Nat) (l1 : Int32) (l2 : Int32) (l3 : Int32) (l4 : Int64) (l6 : Int32), q_mo (r6 l0 l1 l2 l3 l4 l6)) (l0 : Option Nat) (l1 : Int32) (l2 : Int32) (l3 : Int32) (l4 : Int64) (l6 : Int32) : q_mo (F_X13_digits_6B κ r6 l0 l1 l2 l3 l4 l6) := (q_mo_rd fun v9 => (q_mo_br q_mo_rt (q_mo_rd fun v16 => (q_mo_rd fun v26 => (q_mo_rd fun v34 => (q_mo_br (M_X13_digits_63 κ r6 mr6 l0 l1 l2 l3 l6 ((2 : Int64) * l4)) (q_mo_br (M_X13_digits_59 κ r6 mr6 l0 l1 l2 l3 l6 ((2 : Int64) * l4)) (q_mo_br (M_X13_digits_63 κ r6 mr6 l0 l1 l2 l3 l6 ((2 : Int64) * l4)) (M_X13_digits_59 κ r6 mr6 l0 l1 l2 l3 l6 ((2 : Int64) * l4))))))))))
set_option maxRecDepth 100000 in
set_option maxHeartbeats 4000000 in
theorem S_X13_digits_6B {E : q_Ev} {Γ : q_Gm} {w : (Int64 ⊕ q_Exn) × q_St} (B : q_Bd E Γ cX13_digits yX13_digits.cls 8 0 0 (some .long) yX13_digits.name w) (hT : q_nT Γ) (r6 : Option Nat → Int32 → Int32 → Int32 → Int64 → Int32 → q_X Int64) (hr6 : ∀ (l0 : Option Nat) (l1 : Int32) (l2 : Int32) (l3 : Int32) (l4 : Int64) (l6 : Int32) (σ : q_St), r6 l0 l1 l2 l3 l4 l6 σ = some w → q_W E Γ (q_QF E Γ q_oL w) 8 σ 6 [(0, q_R l0), (1, q_I l1), (2, q_I l2), (3, q_I l3), (4, q_L l4), (6, q_I l6)] []) (mr6 : ∀ (l0 : Option Nat) (l1 : Int32) (l2 : Int32) (l3 : Int32) (l4 : Int64) (l6 : Int32), q_mo (r6 l0 l1 l2 l3 l4 l6)) (l0 : Option Nat) (l1 : Int32) (l2 : Int32) (l3 : Int32) (l4 : Int64) (l6 : Int32) (σ : q_St) (h : F_X13_digits_6B (q_kap E) r6 l0 l1 l2 l3 l4 l6 σ = some w) : q_W E Γ (q_QF E Γ q_oL w) 8 σ 6 [(0, q_R l0), (1, q_I l1), (2, q_I l2), (3, q_I l3), (4, q_L l4), (6, q_I l6)] [] := by
  have C := B.1
  unfold F_X13_digits_6B at h
  refine q_iload (pc := 6) C 5 rfl dX13_digits_6 ?_
  refine q_aload_n (pc := 8) C 0 rfl dX13_digits_8 rfl ?_
  refine q_getI (pc := 9) C dX13_digits_9 ql_X13_217 h (fun v9 h => ?_)
  refine q_icmp_ge (pc := 12) (tgt := 74) C dX13_digits_12 (by decide) h (fun _ h => ?_) (fun _ h => ?_)
  · refine q_lload (pc := 74) C 4 rfl dX13_digits_74 ?_
    exact q_lret C B.2.2.2.2.1 dX13_digits_76 h
  · refine q_aload_n (pc := 15) C 0 rfl dX13_digits_15 rfl ?_
    refine q_getA (pc := 16) C dX13_digits_16 ql_X13_92 h (fun v16 h => ?_)
    refine q_sipush (pc := 19) (v := (160 : Int32)) C dX13_digits_19 (by decide) ?_
    refine q_iload_n (pc := 22) C 1 rfl dX13_digits_22 rfl ?_
    refine q_imul (pc := 23) C dX13_digits_23 ?_
    refine q_iload_n (pc := 24) C 2 rfl dX13_digits_24 rfl ?_
    refine q_aload_n (pc := 25) C 0 rfl dX13_digits_25 rfl ?_
    refine q_getI (pc := 26) C dX13_digits_26 ql_X13_217 h (fun v26 h => ?_)
    refine q_imul (pc := 29) C dX13_digits_29 ?_
    refine q_iadd (pc := 30) C dX13_digits_30 ?_
    refine q_iload (pc := 31) C 5 rfl dX13_digits_31 ?_
    refine q_iadd (pc := 33) C dX13_digits_33 ?_
    refine q_ldI (pc := 34) C dX13_digits_34 (Or.inr (Or.inl ⟨rfl, rfl⟩)) h (fun v34 h => ?_)
    refine q_istore (pc := 35) (l' := [(7, q_I v34), (0, q_R l0), (1, q_I l1), (2, q_I l2), (3, q_I l3), (4, q_L l4), (6, q_I l6)]) C dX13_digits_35 (by decide) rfl ?_
    refine q_ldc2 (pc := 37) (v := (2 : Int64)) C dX13_digits_37 qc_X13_337 ?_
    refine q_lload (pc := 40) C 5 rfl dX13_digits_40 ?_
    refine q_lmul (pc := 42) C dX13_digits_42 ?_
    refine q_iload (pc := 43) C 0 rfl dX13_digits_43 ?_
    refine q_if_ge (pc := 45) (tgt := 63) C dX13_digits_45 (by decide) h (fun _ h => ?_) (fun _ h => ?_)
    · refine q_W.sub [1, 2, 3, 4, 6] rfl ?_
      exact S_X13_digits_63 B hT r6 hr6 mr6 l0 l1 l2 l3 l6 ((2 : Int64) * l4) _ h
    · refine q_iload_n (pc := 48) C 4 rfl dX13_digits_48 rfl ?_
      refine q_if_eq (pc := 49) (tgt := 59) C dX13_digits_49 (by decide) h (fun _ h => ?_) (fun _ h => ?_)
      · refine q_W.sub [1, 2, 3, 4, 6] rfl ?_
        exact S_X13_digits_59 B hT r6 hr6 mr6 l0 l1 l2 l3 l6 ((2 : Int64) * l4) _ h
      · refine q_iload (pc := 52) C 0 rfl dX13_digits_52 ?_
        refine q_bipush (pc := 54) (v := (-2 : Int32)) C dX13_digits_54 (by decide) ?_
        refine q_icmp_ne (pc := 56) (tgt := 63) C dX13_digits_56 (by decide) h (fun _ h => ?_) (fun _ h => ?_)
        · refine q_W.sub [1, 2, 3, 4, 6] rfl ?_
          exact S_X13_digits_63 B hT r6 hr6 mr6 l0 l1 l2 l3 l6 ((2 : Int64) * l4) _ h
        · refine q_W.sub [1, 2, 3, 4, 6] rfl ?_
          exact S_X13_digits_59 B hT r6 hr6 mr6 l0 l1 l2 l3 l6 ((2 : Int64) * l4) _ h
def F_X13_digits_6 (κ : Nat → Nat) : Nat → Option Nat → Int32 → Int32 → Int32 → Int64 → Int32 → q_X Int64
  | 0, _, _, _, _, _, _ => q_no
  | n + 1, l0, l1, l2, l3, l4, l6 => F_X13_digits_6B κ (F_X13_digits_6 κ n) l0 l1 l2 l3 l4 l6
theorem M_X13_digits_6 (κ : Nat → Nat) : ∀ (n : Nat) (l0 : Option Nat) (l1 : Int32) (l2 : Int32) (l3 : Int32) (l4 : Int64) (l6 : Int32), q_mo (F_X13_digits_6 κ n l0 l1 l2 l3 l4 l6)
  | 0, _, _, _, _, _, _ => q_mo_no
  | n + 1, l0, l1, l2, l3, l4, l6 => M_X13_digits_6B κ (F_X13_digits_6 κ n) (M_X13_digits_6 κ n) l0 l1 l2 l3 l4 l6
theorem S_X13_digits_6 {E : q_Ev} {Γ : q_Gm} {w : (Int64 ⊕ q_Exn) × q_St} (B : q_Bd E Γ cX13_digits yX13_digits.cls 8 0 0 (some .long) yX13_digits.name w) (hT : q_nT Γ) : ∀ (n : Nat) (l0 : Option Nat) (l1 : Int32) (l2 : Int32) (l3 : Int32) (l4 : Int64) (l6 : Int32) (σ : q_St), F_X13_digits_6 (q_kap E) n l0 l1 l2 l3 l4 l6 σ = some w → q_W E Γ (q_QF E Γ q_oL w) 8 σ 6 [(0, q_R l0), (1, q_I l1), (2, q_I l2), (3, q_I l3), (4, q_L l4), (6, q_I l6)] []
  | 0, _, _, _, _, _, _, _, h => by cases h
  | n + 1, l0, l1, l2, l3, l4, l6, σ, h => S_X13_digits_6B B hT (F_X13_digits_6 (q_kap E) n) (S_X13_digits_6 B hT n) (M_X13_digits_6 (q_kap E) n) l0 l1 l2 l3 l4 l6 σ h
def F_X13_digits (κ : Nat → Nat) (l0 : Option Nat) (l1 : Int32) (l2 : Int32) (l3 : Int32) : q_X Int64 :=
  F_X13_digits_6 κ q_fu l0 l1 l2 l3 (0 : Int64) (0 : Int32)
theorem M_X13_digits (κ : Nat → Nat) (l0 : Option Nat) (l1 : Int32) (l2 : Int32) (l3 : Int32) : q_mo (F_X13_digits κ l0 l1 l2 l3) := (M_X13_digits_6 κ q_fu l0 l1 l2 l3 (0 : Int64) (0 : Int32))
set_option maxRecDepth 100000 in
set_option maxHeartbeats 4000000 in
theorem K_X13_digits {E : q_Ev} (l0 : Option Nat) (l1 : Int32) (l2 : Int32) (l3 : Int32) : q_Ct E yX13_digits (.code yX13_digits cX13_digits 8 (some .long)) 0 0 [q_R l0, q_I l1, q_I l2, q_I l3] q_oL (F_X13_digits (q_kap E) l0 l1 l2 l3) := by
  refine q_enter (by decide) (Nat.le_of_ble_eq_true rfl) (fun Γ σ w h B hT => ?_)
  have C := B.1
  unfold F_X13_digits at h
  refine q_lconst (pc := 0) (v := (0 : Int64)) C dX13_digits_0 (by decide) ?_
  refine q_lstore (pc := 1) (l' := [(4, q_L (0 : Int64)), (0, q_R l0), (1, q_I l1), (2, q_I l2), (3, q_I l3)]) C dX13_digits_1 (by decide) rfl ?_
  refine q_iconst (pc := 3) (v := (0 : Int32)) C dX13_digits_3 (by decide) ?_
  refine q_istore (pc := 4) (l' := [(6, q_I (0 : Int32)), (4, q_L (0 : Int64)), (0, q_R l0), (1, q_I l1), (2, q_I l2), (3, q_I l3)]) C dX13_digits_4 (by decide) rfl ?_
  refine q_W.sub [2, 3, 4, 5, 1, 0] rfl ?_
  exact S_X13_digits_6 B hT q_fu l0 l1 l2 l3 (0 : Int64) (0 : Int32) _ h
def F_X13_told_152 (κ : Nat → Nat) (l0 : Option Nat) : q_X Int64 :=
  q_wr (q_pF l0 16 7 (.int (2 : Int32))) (q_rt (0 : Int64))
theorem M_X13_told_152 (κ : Nat → Nat) (l0 : Option Nat) : q_mo (F_X13_told_152 κ l0) := (q_mo_wr q_mo_rt)
theorem N_X13_told_152 (κ : Nat → Nat) (l0 : Option Nat) : q_ni (F_X13_told_152 κ l0) := (q_ni_wr q_ni_rt)
set_option maxRecDepth 100000 in
set_option maxHeartbeats 4000000 in
theorem S_X13_told_152 {E : q_Ev} {Γ : q_Gm} {w : (Int64 ⊕ q_Exn) × q_St} (B : q_Bd E Γ cX13_told yX13_told.cls 3 1 27 (some .long) yX13_told.name w) (hT : q_nT Γ) (l0 : Option Nat) (σ : q_St) (h : F_X13_told_152 (q_kap E) l0 σ = some w) : q_W E Γ (q_QF E Γ q_oL w) 3 σ 152 [(0, q_R l0)] [] := by
  have C := B.1
  unfold F_X13_told_152 at h
  refine q_aload_n (pc := 152) C 0 rfl dX13_told_152 rfl ?_
  refine q_iconst (pc := 153) (v := (2 : Int32)) C dX13_told_153 (by decide) ?_
  refine q_putV (pc := 154) (v := q_I (2 : Int32)) C dX13_told_154 ql_X13_138 (Or.inl rfl) rfl rfl h (fun M154 h => ?_)
  refine q_lconst (pc := 157) (v := (0 : Int64)) C dX13_told_157 (by decide) ?_
  exact q_lret C B.2.2.2.2.1 dX13_told_158 h
def F_X13_told_122 (κ : Nat → Nat) (l0 : Option Nat) (l1 : Int32) (l2 : Int32) : q_X Int64 :=
  q_br (l2 < (20 : Int32)) (F_X13_told_152 κ l0) (q_rd (q_gA l0 16 33) fun v132 => q_rd (q_lI 1 v132 l1) fun v136 => q_br (((20 : Int32) + v136) ≤ l2) (F_X13_told_152 κ l0) (q_rd (q_is l0 16) fun _ => q_ca (F_X13_digits κ l0 l1 (l2 - (20 : Int32)) (1 : Int32)) fun v148 => q_rt v148))
theorem M_X13_told_122 (κ : Nat → Nat) (l0 : Option Nat) (l1 : Int32) (l2 : Int32) : q_mo (F_X13_told_122 κ l0 l1 l2) := (q_mo_br (M_X13_told_152 κ l0) (q_mo_rd fun v132 => (q_mo_rd fun v136 => (q_mo_br (M_X13_told_152 κ l0) (q_mo_rd fun _ => q_mo_ca (M_X13_digits κ l0 l1 (l2 - (20 : Int32)) (1 : Int32)) fun v148 => q_mo_rt)))))
set_option maxRecDepth 100000 in
set_option maxHeartbeats 4000000 in
theorem S_X13_told_122 {E : q_Ev} {Γ : q_Gm} {w : (Int64 ⊕ q_Exn) × q_St} (B : q_Bd E Γ cX13_told yX13_told.cls 3 1 27 (some .long) yX13_told.name w) (hT : q_nT Γ) (l0 : Option Nat) (l1 : Int32) (l2 : Int32) (σ : q_St) (h : F_X13_told_122 (q_kap E) l0 l1 l2 σ = some w) : q_W E Γ (q_QF E Γ q_oL w) 3 σ 122 [(0, q_R l0), (1, q_I l1), (2, q_I l2)] [] := by
  have C := B.1
  unfold F_X13_told_122 at h
  refine q_iload_n (pc := 122) C 2 rfl dX13_told_122 rfl ?_
  refine q_bipush (pc := 123) (v := (20 : Int32)) C dX13_told_123 (by decide) ?_
  refine q_icmp_lt (pc := 125) (tgt := 152) C dX13_told_125 (by decide) h (fun _ h => ?_) (fun _ h => ?_)
  · refine q_W.sub [0] rfl ?_
    exact S_X13_told_152 B hT l0 _ h
  · refine q_iload_n (pc := 128) C 2 rfl dX13_told_128 rfl ?_
    refine q_bipush (pc := 129) (v := (20 : Int32)) C dX13_told_129 (by decide) ?_
    refine q_aload_n (pc := 131) C 0 rfl dX13_told_131 rfl ?_
    refine q_getA (pc := 132) C dX13_told_132 ql_X13_77 h (fun v132 h => ?_)
    refine q_iload_n (pc := 135) C 1 rfl dX13_told_135 rfl ?_
    refine q_ldI (pc := 136) C dX13_told_136 (Or.inr (Or.inl ⟨rfl, rfl⟩)) h (fun v136 h => ?_)
    refine q_iadd (pc := 137) C dX13_told_137 ?_
    refine q_icmp_ge (pc := 138) (tgt := 152) C dX13_told_138 (by decide) h (fun _ h => ?_) (fun _ h => ?_)
    · refine q_W.sub [0] rfl ?_
      exact S_X13_told_152 B hT l0 _ h
    · refine q_aload_n (pc := 141) C 0 rfl dX13_told_141 rfl ?_
      refine q_iload_n (pc := 142) C 1 rfl dX13_told_142 rfl ?_
      refine q_iload_n (pc := 143) C 2 rfl dX13_told_143 rfl ?_
      refine q_bipush (pc := 144) (v := (20 : Int32)) C dX13_told_144 (by decide) ?_
      refine q_isub (pc := 146) C dX13_told_146 ?_
      refine q_iconst (pc := 147) (v := (1 : Int32)) C dX13_told_147 (by decide) ?_
      refine q_callV (pc := 148) (As := [q_I l1, q_I (l2 - (20 : Int32)), q_I (1 : Int32)]) (st := []) (ps := q_psL) C B.2.1 hT q_hpL qm_X13_393 qv_X13_digits dX13_told_148 rfl rfl (Nat.le_of_ble_eq_true rfl) (q_flo B.2.2.1 B.2.2.2.1 (by decide) (by decide)) (K_X13_digits l0 l1 (l2 - (20 : Int32)) (1 : Int32)) (M_X13_digits (q_kap E) l0 l1 (l2 - (20 : Int32)) (1 : Int32)) (by exact fun v148 => q_mo_rt) h (fun v148 σ h => ?_)
      refine q_W.st (st' := [q_L v148]) rfl ?_
      exact q_lret C B.2.2.2.2.1 dX13_told_151 h
def F_X13_told_18 (κ : Nat → Nat) (l0 : Option Nat) (l1 : Int32) (l2 : Int32) (s0 : Option Nat) (s1 : Int32) : q_X Int64 :=
  q_wr (q_pF s0 16 7 (.int s1)) (q_rd (q_gI l0 16 7) fun v22 => q_br (v22 ≤ 0) (q_br (l2.toInt < 0 ∨ 3 < l2.toInt) (q_br (l2 < (10 : Int32)) (F_X13_told_122 κ l0 l1 l2) (q_rd (q_gA l0 16 33) fun v102 => q_rd (q_lI 1 v102 l1) fun v106 => q_br (((10 : Int32) + v106) ≤ l2) (F_X13_told_122 κ l0 l1 l2) (q_rd (q_is l0 16) fun _ => q_ca (F_X13_digits κ l0 l1 (l2 - (10 : Int32)) (0 : Int32)) fun v118 => q_rt v118))) (q_br (l2 = 0) (q_rd (q_gA l0 16 33) fun v61 => q_rd (q_lI 1 v61 l1) fun v65 => q_rt v65.toInt64) (q_br (l2 = 1) (q_rd (q_gA l0 16 34) fun v69 => q_rd (q_lI 1 v69 l1) fun v73 => q_rt v73.toInt64) (q_br (l2 = 2) (q_rd (q_gA l0 16 31) fun v77 => q_rd (q_lI 1 v77 l1) fun v81 => q_rt v81.toInt64) (q_br (l2 = 3) (q_rd (q_gA l0 16 32) fun v85 => q_rd (q_lI 1 v85 l1) fun v89 => q_rt v89.toInt64) (q_no)))))) (q_rt (0 : Int64)))
theorem M_X13_told_18 (κ : Nat → Nat) (l0 : Option Nat) (l1 : Int32) (l2 : Int32) (s0 : Option Nat) (s1 : Int32) : q_mo (F_X13_told_18 κ l0 l1 l2 s0 s1) := (q_mo_wr (q_mo_rd fun v22 => (q_mo_br (q_mo_br (q_mo_br (M_X13_told_122 κ l0 l1 l2) (q_mo_rd fun v102 => (q_mo_rd fun v106 => (q_mo_br (M_X13_told_122 κ l0 l1 l2) (q_mo_rd fun _ => q_mo_ca (M_X13_digits κ l0 l1 (l2 - (10 : Int32)) (0 : Int32)) fun v118 => q_mo_rt))))) (q_mo_br (q_mo_rd fun v61 => (q_mo_rd fun v65 => q_mo_rt)) (q_mo_br (q_mo_rd fun v69 => (q_mo_rd fun v73 => q_mo_rt)) (q_mo_br (q_mo_rd fun v77 => (q_mo_rd fun v81 => q_mo_rt)) (q_mo_br (q_mo_rd fun v85 => (q_mo_rd fun v89 => q_mo_rt)) q_mo_no))))) q_mo_rt)))
set_option maxRecDepth 100000 in
set_option maxHeartbeats 4000000 in
theorem S_X13_told_18 {E : q_Ev} {Γ : q_Gm} {w : (Int64 ⊕ q_Exn) × q_St} (B : q_Bd E Γ cX13_told yX13_told.cls 3 1 27 (some .long) yX13_told.name w) (hT : q_nT Γ) (l0 : Option Nat) (l1 : Int32) (l2 : Int32) (s0 : Option Nat) (s1 : Int32) (σ : q_St) (h : F_X13_told_18 (q_kap E) l0 l1 l2 s0 s1 σ = some w) : q_W E Γ (q_QF E Γ q_oL w) 3 σ 18 [(0, q_R l0), (1, q_I l1), (2, q_I l2)] [q_I s1, q_R s0] := by
  have C := B.1
  unfold F_X13_told_18 at h
  refine q_putV (pc := 18) (v := q_I s1) C dX13_told_18 ql_X13_138 (Or.inl rfl) rfl rfl h (fun M18 h => ?_)
  refine q_aload_n (pc := 21) C 0 rfl dX13_told_21 rfl ?_
  refine q_getI (pc := 22) C dX13_told_22 ql_X13_138 h (fun v22 h => ?_)
  refine q_if_le (pc := 25) (tgt := 30) C dX13_told_25 (by decide) h (fun _ h => ?_) (fun _ h => ?_)
  · refine q_iload_n (pc := 30) C 2 rfl dX13_told_30 rfl ?_
    by_cases cd : l2.toInt < 0 ∨ 3 < l2.toInt
    · replace h := (q_br_e h).1 cd
      refine q_tabOut (pc := 31) (tgt := 92) C dX13_told_31 cd (by decide) ?_
      refine q_iload_n (pc := 92) C 2 rfl dX13_told_92 rfl ?_
      refine q_bipush (pc := 93) (v := (10 : Int32)) C dX13_told_93 (by decide) ?_
      refine q_icmp_lt (pc := 95) (tgt := 122) C dX13_told_95 (by decide) h (fun _ h => ?_) (fun _ h => ?_)
      · exact S_X13_told_122 B hT l0 l1 l2 _ h
      · refine q_iload_n (pc := 98) C 2 rfl dX13_told_98 rfl ?_
        refine q_bipush (pc := 99) (v := (10 : Int32)) C dX13_told_99 (by decide) ?_
        refine q_aload_n (pc := 101) C 0 rfl dX13_told_101 rfl ?_
        refine q_getA (pc := 102) C dX13_told_102 ql_X13_77 h (fun v102 h => ?_)
        refine q_iload_n (pc := 105) C 1 rfl dX13_told_105 rfl ?_
        refine q_ldI (pc := 106) C dX13_told_106 (Or.inr (Or.inl ⟨rfl, rfl⟩)) h (fun v106 h => ?_)
        refine q_iadd (pc := 107) C dX13_told_107 ?_
        refine q_icmp_ge (pc := 108) (tgt := 122) C dX13_told_108 (by decide) h (fun _ h => ?_) (fun _ h => ?_)
        · exact S_X13_told_122 B hT l0 l1 l2 _ h
        · refine q_aload_n (pc := 111) C 0 rfl dX13_told_111 rfl ?_
          refine q_iload_n (pc := 112) C 1 rfl dX13_told_112 rfl ?_
          refine q_iload_n (pc := 113) C 2 rfl dX13_told_113 rfl ?_
          refine q_bipush (pc := 114) (v := (10 : Int32)) C dX13_told_114 (by decide) ?_
          refine q_isub (pc := 116) C dX13_told_116 ?_
          refine q_iconst (pc := 117) (v := (0 : Int32)) C dX13_told_117 (by decide) ?_
          refine q_callV (pc := 118) (As := [q_I l1, q_I (l2 - (10 : Int32)), q_I (0 : Int32)]) (st := []) (ps := q_psL) C B.2.1 hT q_hpL qm_X13_393 qv_X13_digits dX13_told_118 rfl rfl (Nat.le_of_ble_eq_true rfl) (q_flo B.2.2.1 B.2.2.2.1 (by decide) (by decide)) (K_X13_digits l0 l1 (l2 - (10 : Int32)) (0 : Int32)) (M_X13_digits (q_kap E) l0 l1 (l2 - (10 : Int32)) (0 : Int32)) (by exact fun v118 => q_mo_rt) h (fun v118 σ h => ?_)
          refine q_W.st (st' := [q_L v118]) rfl ?_
          exact q_lret C B.2.2.2.2.1 dX13_told_121 h
    replace h := (q_br_e h).2 cd
    by_cases cv : l2 = 0
    · replace h := (q_br_e h).1 cv
      refine q_tabIn (pc := 31) (tgt := 60) (off := 29) C dX13_told_31 (by rw [cv]; decide) (by rw [cv]; decide) (by rw [cv]; rfl) (by decide) ?_
      refine q_aload_n (pc := 60) C 0 rfl dX13_told_60 rfl ?_
      refine q_getA (pc := 61) C dX13_told_61 ql_X13_77 h (fun v61 h => ?_)
      refine q_iload_n (pc := 64) C 1 rfl dX13_told_64 rfl ?_
      refine q_ldI (pc := 65) C dX13_told_65 (Or.inr (Or.inl ⟨rfl, rfl⟩)) h (fun v65 h => ?_)
      refine q_i2l (pc := 66) C dX13_told_66 ?_
      exact q_lret C B.2.2.2.2.1 dX13_told_67 h
    replace h := (q_br_e h).2 cv
    by_cases cv : l2 = 1
    · replace h := (q_br_e h).1 cv
      refine q_tabIn (pc := 31) (tgt := 68) (off := 37) C dX13_told_31 (by rw [cv]; decide) (by rw [cv]; decide) (by rw [cv]; rfl) (by decide) ?_
      refine q_aload_n (pc := 68) C 0 rfl dX13_told_68 rfl ?_
      refine q_getA (pc := 69) C dX13_told_69 ql_X13_80 h (fun v69 h => ?_)
      refine q_iload_n (pc := 72) C 1 rfl dX13_told_72 rfl ?_
      refine q_ldI (pc := 73) C dX13_told_73 (Or.inr (Or.inl ⟨rfl, rfl⟩)) h (fun v73 h => ?_)
      refine q_i2l (pc := 74) C dX13_told_74 ?_
      exact q_lret C B.2.2.2.2.1 dX13_told_75 h
    replace h := (q_br_e h).2 cv
    by_cases cv : l2 = 2
    · replace h := (q_br_e h).1 cv
      refine q_tabIn (pc := 31) (tgt := 76) (off := 45) C dX13_told_31 (by rw [cv]; decide) (by rw [cv]; decide) (by rw [cv]; rfl) (by decide) ?_
      refine q_aload_n (pc := 76) C 0 rfl dX13_told_76 rfl ?_
      refine q_getA (pc := 77) C dX13_told_77 ql_X13_71 h (fun v77 h => ?_)
      refine q_iload_n (pc := 80) C 1 rfl dX13_told_80 rfl ?_
      refine q_ldI (pc := 81) C dX13_told_81 (Or.inr (Or.inl ⟨rfl, rfl⟩)) h (fun v81 h => ?_)
      refine q_i2l (pc := 82) C dX13_told_82 ?_
      exact q_lret C B.2.2.2.2.1 dX13_told_83 h
    replace h := (q_br_e h).2 cv
    by_cases cv : l2 = 3
    · replace h := (q_br_e h).1 cv
      refine q_tabIn (pc := 31) (tgt := 84) (off := 53) C dX13_told_31 (by rw [cv]; decide) (by rw [cv]; decide) (by rw [cv]; rfl) (by decide) ?_
      refine q_aload_n (pc := 84) C 0 rfl dX13_told_84 rfl ?_
      refine q_getA (pc := 85) C dX13_told_85 ql_X13_74 h (fun v85 h => ?_)
      refine q_iload_n (pc := 88) C 1 rfl dX13_told_88 rfl ?_
      refine q_ldI (pc := 89) C dX13_told_89 (Or.inr (Or.inl ⟨rfl, rfl⟩)) h (fun v89 h => ?_)
      refine q_i2l (pc := 90) C dX13_told_90 ?_
      exact q_lret C B.2.2.2.2.1 dX13_told_91 h
    replace h := (q_br_e h).2 cv
    cases h
  · refine q_lconst (pc := 28) (v := (0 : Int64)) C dX13_told_28 (by decide) ?_
    exact q_lret C B.2.2.2.2.1 dX13_told_29 h
def F_X13_told_13 (κ : Nat → Nat) (l0 : Option Nat) (l1 : Int32) (l2 : Int32) (s0 : Option Nat) : q_X Int64 :=
  F_X13_told_18 κ l0 l1 l2 s0 (1 : Int32)
theorem M_X13_told_13 (κ : Nat → Nat) (l0 : Option Nat) (l1 : Int32) (l2 : Int32) (s0 : Option Nat) : q_mo (F_X13_told_13 κ l0 l1 l2 s0) := (M_X13_told_18 κ l0 l1 l2 s0 (1 : Int32))
set_option maxRecDepth 100000 in
set_option maxHeartbeats 4000000 in
theorem S_X13_told_13 {E : q_Ev} {Γ : q_Gm} {w : (Int64 ⊕ q_Exn) × q_St} (B : q_Bd E Γ cX13_told yX13_told.cls 3 1 27 (some .long) yX13_told.name w) (hT : q_nT Γ) (l0 : Option Nat) (l1 : Int32) (l2 : Int32) (s0 : Option Nat) (σ : q_St) (h : F_X13_told_13 (q_kap E) l0 l1 l2 s0 σ = some w) : q_W E Γ (q_QF E Γ q_oL w) 3 σ 13 [(0, q_R l0), (1, q_I l1), (2, q_I l2)] [q_R s0] := by
  have C := B.1
  unfold F_X13_told_13 at h
  refine q_iconst (pc := 13) (v := (1 : Int32)) C dX13_told_13 (by decide) ?_
  refine q_goto (pc := 14) (tgt := 18) C dX13_told_14 (by decide) ?_
  exact S_X13_told_18 B hT l0 l1 l2 s0 (1 : Int32) _ h
def F_X13_told (κ : Nat → Nat) (l0 : Option Nat) (l1 : Int32) (l2 : Int32) : q_X Int64 :=
  q_br (l1 < 0) (F_X13_told_13 κ l0 l1 l2 l0) (q_rd (q_gI l0 16 23) fun v7 => q_br (l1 < v7) (F_X13_told_18 κ l0 l1 l2 l0 (0 : Int32)) (F_X13_told_13 κ l0 l1 l2 l0))
theorem M_X13_told (κ : Nat → Nat) (l0 : Option Nat) (l1 : Int32) (l2 : Int32) : q_mo (F_X13_told κ l0 l1 l2) := (q_mo_br (M_X13_told_13 κ l0 l1 l2 l0) (q_mo_rd fun v7 => (q_mo_br (M_X13_told_18 κ l0 l1 l2 l0 (0 : Int32)) (M_X13_told_13 κ l0 l1 l2 l0))))
set_option maxRecDepth 100000 in
set_option maxHeartbeats 4000000 in
theorem K_X13_told {E : q_Ev} (l0 : Option Nat) (l1 : Int32) (l2 : Int32) : q_Ct E yX13_told (.code yX13_told cX13_told 3 (some .long)) 1 27 [q_R l0, q_I l1, q_I l2] q_oL (F_X13_told (q_kap E) l0 l1 l2) := by
  refine q_enter (by decide) (Nat.le_of_ble_eq_true rfl) (fun Γ σ w h B hT => ?_)
  have C := B.1
  unfold F_X13_told at h
  refine q_aload_n (pc := 0) C 0 rfl dX13_told_0 rfl ?_
  refine q_iload_n (pc := 1) C 1 rfl dX13_told_1 rfl ?_
  refine q_if_lt (pc := 2) (tgt := 13) C dX13_told_2 (by decide) h (fun _ h => ?_) (fun _ h => ?_)
  · exact S_X13_told_13 B hT l0 l1 l2 l0 _ h
  · refine q_iload_n (pc := 5) C 1 rfl dX13_told_5 rfl ?_
    refine q_aload_n (pc := 6) C 0 rfl dX13_told_6 rfl ?_
    refine q_getI (pc := 7) C dX13_told_7 ql_X13_223 h (fun v7 h => ?_)
    refine q_icmp_lt (pc := 10) (tgt := 17) C dX13_told_10 (by decide) h (fun _ h => ?_) (fun _ h => ?_)
    · refine q_iconst (pc := 17) (v := (0 : Int32)) C dX13_told_17 (by decide) ?_
      exact S_X13_told_18 B hT l0 l1 l2 l0 (0 : Int32) _ h
    · exact S_X13_told_13 B hT l0 l1 l2 l0 _ h
def F_X13_overlap_151 (κ : Nat → Nat) : q_X Int32 :=
  q_rz (1 : Int32)
theorem M_X13_overlap_151 (κ : Nat → Nat) : q_mo (F_X13_overlap_151 κ) := q_mo_rz
set_option maxRecDepth 100000 in
set_option maxHeartbeats 4000000 in
theorem S_X13_overlap_151 {E : q_Ev} {Γ : q_Gm} {w : (Int32 ⊕ q_Exn) × q_St} (B : q_Bd E Γ cX13_overlap yX13_overlap.cls 7 0 0 (some .boolean) yX13_overlap.name w) (hT : q_nT Γ) (σ : q_St) (h : F_X13_overlap_151 (q_kap E) σ = some w) : q_W E Γ (q_QF E Γ q_oI w) 7 σ 151 [] [] := by
  have C := B.1
  unfold F_X13_overlap_151 at h
  refine q_iconst (pc := 151) (v := (1 : Int32)) C dX13_overlap_151 (by decide) ?_
  exact q_zret C B.2.2.2.2.1 dX13_overlap_152 h
def F_X13_overlap_139 (κ : Nat → Nat) (r44 : Option Nat → Int32 → Int32 → Int32 → q_X Int32) (r67 : Option Nat → Int32 → Int32 → Int32 → Int32 → q_X Int32) (l0 : Option Nat) (l1 : Int32) (l2 : Int32) (l3 : Int32) (l4 : Int32) : q_X Int32 :=
  r67 l0 l1 l2 l3 (l4 + (1 : Int32))
theorem M_X13_overlap_139 (κ : Nat → Nat) (r44 : Option Nat → Int32 → Int32 → Int32 → q_X Int32) (mr44 : ∀ (l0 : Option Nat) (l1 : Int32) (l2 : Int32) (l3 : Int32), q_mo (r44 l0 l1 l2 l3)) (r67 : Option Nat → Int32 → Int32 → Int32 → Int32 → q_X Int32) (mr67 : ∀ (l0 : Option Nat) (l1 : Int32) (l2 : Int32) (l3 : Int32) (l4 : Int32), q_mo (r67 l0 l1 l2 l3 l4)) (l0 : Option Nat) (l1 : Int32) (l2 : Int32) (l3 : Int32) (l4 : Int32) : q_mo (F_X13_overlap_139 κ r44 r67 l0 l1 l2 l3 l4) := (mr67 l0 l1 l2 l3 (l4 + (1 : Int32)))
set_option maxRecDepth 100000 in
set_option maxHeartbeats 4000000 in
theorem S_X13_overlap_139 {E : q_Ev} {Γ : q_Gm} {w : (Int32 ⊕ q_Exn) × q_St} (B : q_Bd E Γ cX13_overlap yX13_overlap.cls 7 0 0 (some .boolean) yX13_overlap.name w) (hT : q_nT Γ) (r44 : Option Nat → Int32 → Int32 → Int32 → q_X Int32) (hr44 : ∀ (l0 : Option Nat) (l1 : Int32) (l2 : Int32) (l3 : Int32) (σ : q_St), r44 l0 l1 l2 l3 σ = some w → q_W E Γ (q_QF E Γ q_oI w) 7 σ 44 [(0, q_R l0), (1, q_I l1), (2, q_I l2), (3, q_I l3)] []) (mr44 : ∀ (l0 : Option Nat) (l1 : Int32) (l2 : Int32) (l3 : Int32), q_mo (r44 l0 l1 l2 l3)) (r67 : Option Nat → Int32 → Int32 → Int32 → Int32 → q_X Int32) (hr67 : ∀ (l0 : Option Nat) (l1 : Int32) (l2 : Int32) (l3 : Int32) (l4 : Int32) (σ : q_St), r67 l0 l1 l2 l3 l4 σ = some w → q_W E Γ (q_QF E Γ q_oI w) 7 σ 67 [(0, q_R l0), (1, q_I l1), (2, q_I l2), (3, q_I l3), (4, q_I l4)] []) (mr67 : ∀ (l0 : Option Nat) (l1 : Int32) (l2 : Int32) (l3 : Int32) (l4 : Int32), q_mo (r67 l0 l1 l2 l3 l4)) (l0 : Option Nat) (l1 : Int32) (l2 : Int32) (l3 : Int32) (l4 : Int32) (σ : q_St) (h : F_X13_overlap_139 (q_kap E) r44 r67 l0 l1 l2 l3 l4 σ = some w) : q_W E Γ (q_QF E Γ q_oI w) 7 σ 139 [(0, q_R l0), (1, q_I l1), (2, q_I l2), (3, q_I l3), (4, q_I l4)] [] := by
  have C := B.1
  unfold F_X13_overlap_139 at h
  refine q_iinc (pc := 139) (v := (1 : Int32)) (l' := [(4, q_I (l4 + (1 : Int32))), (0, q_R l0), (1, q_I l1), (2, q_I l2), (3, q_I l3)]) C 4 rfl dX13_overlap_139 (by decide) (by decide) rfl ?_
  refine q_goto (pc := 142) (tgt := 67) C dX13_overlap_142 (by decide) ?_
  refine q_W.sub [1, 2, 3, 4, 0] rfl ?_
  exact hr67 l0 l1 l2 l3 (l4 + (1 : Int32)) _ h
def F_X13_overlap_67B (κ : Nat → Nat) (r44 : Option Nat → Int32 → Int32 → Int32 → q_X Int32) (r67 : Option Nat → Int32 → Int32 → Int32 → Int32 → q_X Int32) (l0 : Option Nat) (l1 : Int32) (l2 : Int32) (l3 : Int32) (l4 : Int32) : q_X Int32 :=
  q_rd (q_gI l0 16 21) fun v70 => q_br (v70 ≤ l4) (r44 l0 l1 l2 (l3 + (1 : Int32))) (q_rd (q_gA l0 16 38) fun v77 => q_rd (q_gI l0 16 21) fun v87 => q_rd (q_lI 1 v77 ((((160 : Int32) * l1) + (l3 * v87)) + l4)) fun v95 => q_rd (q_gA l0 16 38) fun v99 => q_rd (q_gI l0 16 21) fun v109 => q_rd (q_lI 1 v99 ((((160 : Int32) * l2) + (l3 * v109)) + l4)) fun v117 => q_br (0 ≤ v95) (F_X13_overlap_139 κ r44 r67 l0 l1 l2 l3 l4) (q_br (0 ≤ v117) (F_X13_overlap_139 κ r44 r67 l0 l1 l2 l3 l4) (q_br (v95 = v117) (F_X13_overlap_139 κ r44 r67 l0 l1 l2 l3 l4) (q_rz (0 : Int32)))))
theorem M_X13_overlap_67B (κ : Nat → Nat) (r44 : Option Nat → Int32 → Int32 → Int32 → q_X Int32) (mr44 : ∀ (l0 : Option Nat) (l1 : Int32) (l2 : Int32) (l3 : Int32), q_mo (r44 l0 l1 l2 l3)) (r67 : Option Nat → Int32 → Int32 → Int32 → Int32 → q_X Int32) (mr67 : ∀ (l0 : Option Nat) (l1 : Int32) (l2 : Int32) (l3 : Int32) (l4 : Int32), q_mo (r67 l0 l1 l2 l3 l4)) (l0 : Option Nat) (l1 : Int32) (l2 : Int32) (l3 : Int32) (l4 : Int32) : q_mo (F_X13_overlap_67B κ r44 r67 l0 l1 l2 l3 l4) := (q_mo_rd fun v70 => (q_mo_br (mr44 l0 l1 l2 (l3 + (1 : Int32))) (q_mo_rd fun v77 => (q_mo_rd fun v87 => (q_mo_rd fun v95 => (q_mo_rd fun v99 => (q_mo_rd fun v109 => (q_mo_rd fun v117 => (q_mo_br (M_X13_overlap_139 κ r44 mr44 r67 mr67 l0 l1 l2 l3 l4) (q_mo_br (M_X13_overlap_139 κ r44 mr44 r67 mr67 l0 l1 l2 l3 l4) (q_mo_br (M_X13_overlap_139 κ r44 mr44 r67 mr67 l0 l1 l2 l3 l4) q_mo_rz)))))))))))
set_option maxRecDepth 100000 in
set_option maxHeartbeats 4000000 in
theorem S_X13_overlap_67B {E : q_Ev} {Γ : q_Gm} {w : (Int32 ⊕ q_Exn) × q_St} (B : q_Bd E Γ cX13_overlap yX13_overlap.cls 7 0 0 (some .boolean) yX13_overlap.name w) (hT : q_nT Γ) (r44 : Option Nat → Int32 → Int32 → Int32 → q_X Int32) (hr44 : ∀ (l0 : Option Nat) (l1 : Int32) (l2 : Int32) (l3 : Int32) (σ : q_St), r44 l0 l1 l2 l3 σ = some w → q_W E Γ (q_QF E Γ q_oI w) 7 σ 44 [(0, q_R l0), (1, q_I l1), (2, q_I l2), (3, q_I l3)] []) (mr44 : ∀ (l0 : Option Nat) (l1 : Int32) (l2 : Int32) (l3 : Int32), q_mo (r44 l0 l1 l2 l3)) (r67 : Option Nat → Int32 → Int32 → Int32 → Int32 → q_X Int32) (hr67 : ∀ (l0 : Option Nat) (l1 : Int32) (l2 : Int32) (l3 : Int32) (l4 : Int32) (σ : q_St), r67 l0 l1 l2 l3 l4 σ = some w → q_W E Γ (q_QF E Γ q_oI w) 7 σ 67 [(0, q_R l0), (1, q_I l1), (2, q_I l2), (3, q_I l3), (4, q_I l4)] []) (mr67 : ∀ (l0 : Option Nat) (l1 : Int32) (l2 : Int32) (l3 : Int32) (l4 : Int32), q_mo (r67 l0 l1 l2 l3 l4)) (l0 : Option Nat) (l1 : Int32) (l2 : Int32) (l3 : Int32) (l4 : Int32) (σ : q_St) (h : F_X13_overlap_67B (q_kap E) r44 r67 l0 l1 l2 l3 l4 σ = some w) : q_W E Γ (q_QF E Γ q_oI w) 7 σ 67 [(0, q_R l0), (1, q_I l1), (2, q_I l2), (3, q_I l3), (4, q_I l4)] [] := by
  have C := B.1
  unfold F_X13_overlap_67B at h
  refine q_iload (pc := 67) C 4 rfl dX13_overlap_67 ?_
  refine q_aload_n (pc := 69) C 0 rfl dX13_overlap_69 rfl ?_
  refine q_getI (pc := 70) C dX13_overlap_70 ql_X13_217 h (fun v70 h => ?_)
  refine q_icmp_ge (pc := 73) (tgt := 145) C dX13_overlap_73 (by decide) h (fun _ h => ?_) (fun _ h => ?_)
  · refine q_iinc (pc := 145) (v := (1 : Int32)) (l' := [(3, q_I (l3 + (1 : Int32))), (0, q_R l0), (1, q_I l1), (2, q_I l2), (4, q_I l4)]) C 3 rfl dX13_overlap_145 (by decide) (by decide) rfl ?_
    refine q_goto (pc := 148) (tgt := 44) C dX13_overlap_148 (by decide) ?_
    refine q_W.sub [1, 2, 3, 0] rfl ?_
    exact hr44 l0 l1 l2 (l3 + (1 : Int32)) _ h
  · refine q_aload_n (pc := 76) C 0 rfl dX13_overlap_76 rfl ?_
    refine q_getA (pc := 77) C dX13_overlap_77 ql_X13_92 h (fun v77 h => ?_)
    refine q_sipush (pc := 80) (v := (160 : Int32)) C dX13_overlap_80 (by decide) ?_
    refine q_iload_n (pc := 83) C 1 rfl dX13_overlap_83 rfl ?_
    refine q_imul (pc := 84) C dX13_overlap_84 ?_
    refine q_iload_n (pc := 85) C 3 rfl dX13_overlap_85 rfl ?_
    refine q_aload_n (pc := 86) C 0 rfl dX13_overlap_86 rfl ?_
    refine q_getI (pc := 87) C dX13_overlap_87 ql_X13_217 h (fun v87 h => ?_)
    refine q_imul (pc := 90) C dX13_overlap_90 ?_
    refine q_iadd (pc := 91) C dX13_overlap_91 ?_
    refine q_iload (pc := 92) C 4 rfl dX13_overlap_92 ?_
    refine q_iadd (pc := 94) C dX13_overlap_94 ?_
    refine q_ldI (pc := 95) C dX13_overlap_95 (Or.inr (Or.inl ⟨rfl, rfl⟩)) h (fun v95 h => ?_)
    refine q_istore (pc := 96) (l' := [(5, q_I v95), (0, q_R l0), (1, q_I l1), (2, q_I l2), (3, q_I l3), (4, q_I l4)]) C dX13_overlap_96 (by decide) rfl ?_
    refine q_aload_n (pc := 98) C 1 rfl dX13_overlap_98 rfl ?_
    refine q_getA (pc := 99) C dX13_overlap_99 ql_X13_92 h (fun v99 h => ?_)
    refine q_sipush (pc := 102) (v := (160 : Int32)) C dX13_overlap_102 (by decide) ?_
    refine q_iload_n (pc := 105) C 3 rfl dX13_overlap_105 rfl ?_
    refine q_imul (pc := 106) C dX13_overlap_106 ?_
    refine q_iload_n (pc := 107) C 4 rfl dX13_overlap_107 rfl ?_
    refine q_aload_n (pc := 108) C 1 rfl dX13_overlap_108 rfl ?_
    refine q_getI (pc := 109) C dX13_overlap_109 ql_X13_217 h (fun v109 h => ?_)
    refine q_imul (pc := 112) C dX13_overlap_112 ?_
    refine q_iadd (pc := 113) C dX13_overlap_113 ?_
    refine q_iload (pc := 114) C 5 rfl dX13_overlap_114 ?_
    refine q_iadd (pc := 116) C dX13_overlap_116 ?_
    refine q_ldI (pc := 117) C dX13_overlap_117 (Or.inr (Or.inl ⟨rfl, rfl⟩)) h (fun v117 h => ?_)
    refine q_istore (pc := 118) (l' := [(6, q_I v117), (5, q_I v95), (0, q_R l0), (1, q_I l1), (2, q_I l2), (3, q_I l3), (4, q_I l4)]) C dX13_overlap_118 (by decide) rfl ?_
    refine q_iload (pc := 120) C 1 rfl dX13_overlap_120 ?_
    refine q_if_ge (pc := 122) (tgt := 139) C dX13_overlap_122 (by decide) h (fun _ h => ?_) (fun _ h => ?_)
    · refine q_W.sub [2, 3, 4, 5, 6] rfl ?_
      exact S_X13_overlap_139 B hT r44 hr44 mr44 r67 hr67 mr67 l0 l1 l2 l3 l4 _ h
    · refine q_iload (pc := 125) C 0 rfl dX13_overlap_125 ?_
      refine q_if_ge (pc := 127) (tgt := 139) C dX13_overlap_127 (by decide) h (fun _ h => ?_) (fun _ h => ?_)
      · refine q_W.sub [2, 3, 4, 5, 6] rfl ?_
        exact S_X13_overlap_139 B hT r44 hr44 mr44 r67 hr67 mr67 l0 l1 l2 l3 l4 _ h
      · refine q_iload (pc := 130) C 1 rfl dX13_overlap_130 ?_
        refine q_iload (pc := 132) C 0 rfl dX13_overlap_132 ?_
        refine q_icmp_eq (pc := 134) (tgt := 139) C dX13_overlap_134 (by decide) h (fun _ h => ?_) (fun _ h => ?_)
        · refine q_W.sub [2, 3, 4, 5, 6] rfl ?_
          exact S_X13_overlap_139 B hT r44 hr44 mr44 r67 hr67 mr67 l0 l1 l2 l3 l4 _ h
        · refine q_iconst (pc := 137) (v := (0 : Int32)) C dX13_overlap_137 (by decide) ?_
          exact q_zret C B.2.2.2.2.1 dX13_overlap_138 h
def F_X13_overlap_67 (κ : Nat → Nat) (r44 : Option Nat → Int32 → Int32 → Int32 → q_X Int32) : Nat → Option Nat → Int32 → Int32 → Int32 → Int32 → q_X Int32
  | 0, _, _, _, _, _ => q_no
  | n + 1, l0, l1, l2, l3, l4 => F_X13_overlap_67B κ r44 (F_X13_overlap_67 κ r44 n) l0 l1 l2 l3 l4
theorem M_X13_overlap_67 (κ : Nat → Nat) (r44 : Option Nat → Int32 → Int32 → Int32 → q_X Int32) (mr44 : ∀ (l0 : Option Nat) (l1 : Int32) (l2 : Int32) (l3 : Int32), q_mo (r44 l0 l1 l2 l3)) : ∀ (n : Nat) (l0 : Option Nat) (l1 : Int32) (l2 : Int32) (l3 : Int32) (l4 : Int32), q_mo (F_X13_overlap_67 κ r44 n l0 l1 l2 l3 l4)
  | 0, _, _, _, _, _ => q_mo_no
  | n + 1, l0, l1, l2, l3, l4 => M_X13_overlap_67B κ r44 mr44 (F_X13_overlap_67 κ r44 n) (M_X13_overlap_67 κ r44 mr44 n) l0 l1 l2 l3 l4
theorem S_X13_overlap_67 {E : q_Ev} {Γ : q_Gm} {w : (Int32 ⊕ q_Exn) × q_St} (B : q_Bd E Γ cX13_overlap yX13_overlap.cls 7 0 0 (some .boolean) yX13_overlap.name w) (hT : q_nT Γ) (r44 : Option Nat → Int32 → Int32 → Int32 → q_X Int32) (hr44 : ∀ (l0 : Option Nat) (l1 : Int32) (l2 : Int32) (l3 : Int32) (σ : q_St), r44 l0 l1 l2 l3 σ = some w → q_W E Γ (q_QF E Γ q_oI w) 7 σ 44 [(0, q_R l0), (1, q_I l1), (2, q_I l2), (3, q_I l3)] []) (mr44 : ∀ (l0 : Option Nat) (l1 : Int32) (l2 : Int32) (l3 : Int32), q_mo (r44 l0 l1 l2 l3)) : ∀ (n : Nat) (l0 : Option Nat) (l1 : Int32) (l2 : Int32) (l3 : Int32) (l4 : Int32) (σ : q_St), F_X13_overlap_67 (q_kap E) r44 n l0 l1 l2 l3 l4 σ = some w → q_W E Γ (q_QF E Γ q_oI w) 7 σ 67 [(0, q_R l0), (1, q_I l1), (2, q_I l2), (3, q_I l3), (4, q_I l4)] []
  | 0, _, _, _, _, _, _, h => by cases h
  | n + 1, l0, l1, l2, l3, l4, σ, h => S_X13_overlap_67B B hT r44 hr44 mr44 (F_X13_overlap_67 (q_kap E) r44 n) (S_X13_overlap_67 B hT r44 hr44 mr44 n) (M_X13_overlap_67 (q_kap E) r44 mr44 n) l0 l1 l2 l3 l4 σ h
def F_X13_overlap_44B (κ : Nat → Nat) (r44 : Option Nat → Int32 → Int32 → Int32 → q_X Int32) (l0 : Option Nat) (l1 : Int32) (l2 : Int32) (l3 : Int32) : q_X Int32 :=
  q_rd (q_gA l0 16 33) fun v46 => q_rd (q_lI 1 v46 l1) fun v50 => q_br (v50 ≤ l3) (F_X13_overlap_151 κ) (q_rd (q_gA l0 16 33) fun v56 => q_rd (q_lI 1 v56 l2) fun v60 => q_br (v60 ≤ l3) (F_X13_overlap_151 κ) (F_X13_overlap_67 κ r44 q_fu l0 l1 l2 l3 (0 : Int32)))
theorem M_X13_overlap_44B (κ : Nat → Nat) (r44 : Option Nat → Int32 → Int32 → Int32 → q_X Int32) (mr44 : ∀ (l0 : Option Nat) (l1 : Int32) (l2 : Int32) (l3 : Int32), q_mo (r44 l0 l1 l2 l3)) (l0 : Option Nat) (l1 : Int32) (l2 : Int32) (l3 : Int32) : q_mo (F_X13_overlap_44B κ r44 l0 l1 l2 l3) := (q_mo_rd fun v46 => (q_mo_rd fun v50 => (q_mo_br (M_X13_overlap_151 κ) (q_mo_rd fun v56 => (q_mo_rd fun v60 => (q_mo_br (M_X13_overlap_151 κ) (M_X13_overlap_67 κ r44 mr44 q_fu l0 l1 l2 l3 (0 : Int32))))))))
set_option maxRecDepth 100000 in
set_option maxHeartbeats 4000000 in
theorem S_X13_overlap_44B {E : q_Ev} {Γ : q_Gm} {w : (Int32 ⊕ q_Exn) × q_St} (B : q_Bd E Γ cX13_overlap yX13_overlap.cls 7 0 0 (some .boolean) yX13_overlap.name w) (hT : q_nT Γ) (r44 : Option Nat → Int32 → Int32 → Int32 → q_X Int32) (hr44 : ∀ (l0 : Option Nat) (l1 : Int32) (l2 : Int32) (l3 : Int32) (σ : q_St), r44 l0 l1 l2 l3 σ = some w → q_W E Γ (q_QF E Γ q_oI w) 7 σ 44 [(0, q_R l0), (1, q_I l1), (2, q_I l2), (3, q_I l3)] []) (mr44 : ∀ (l0 : Option Nat) (l1 : Int32) (l2 : Int32) (l3 : Int32), q_mo (r44 l0 l1 l2 l3)) (l0 : Option Nat) (l1 : Int32) (l2 : Int32) (l3 : Int32) (σ : q_St) (h : F_X13_overlap_44B (q_kap E) r44 l0 l1 l2 l3 σ = some w) : q_W E Γ (q_QF E Γ q_oI w) 7 σ 44 [(0, q_R l0), (1, q_I l1), (2, q_I l2), (3, q_I l3)] [] := by
  have C := B.1
  unfold F_X13_overlap_44B at h
  refine q_iload_n (pc := 44) C 3 rfl dX13_overlap_44 rfl ?_
  refine q_aload_n (pc := 45) C 0 rfl dX13_overlap_45 rfl ?_
  refine q_getA (pc := 46) C dX13_overlap_46 ql_X13_77 h (fun v46 h => ?_)
  refine q_iload_n (pc := 49) C 1 rfl dX13_overlap_49 rfl ?_
  refine q_ldI (pc := 50) C dX13_overlap_50 (Or.inr (Or.inl ⟨rfl, rfl⟩)) h (fun v50 h => ?_)
  refine q_icmp_ge (pc := 51) (tgt := 151) C dX13_overlap_51 (by decide) h (fun _ h => ?_) (fun _ h => ?_)
  · refine q_W.sub [] rfl ?_
    exact S_X13_overlap_151 B hT _ h
  · refine q_iload_n (pc := 54) C 3 rfl dX13_overlap_54 rfl ?_
    refine q_aload_n (pc := 55) C 0 rfl dX13_overlap_55 rfl ?_
    refine q_getA (pc := 56) C dX13_overlap_56 ql_X13_77 h (fun v56 h => ?_)
    refine q_iload_n (pc := 59) C 2 rfl dX13_overlap_59 rfl ?_
    refine q_ldI (pc := 60) C dX13_overlap_60 (Or.inr (Or.inl ⟨rfl, rfl⟩)) h (fun v60 h => ?_)
    refine q_icmp_ge (pc := 61) (tgt := 151) C dX13_overlap_61 (by decide) h (fun _ h => ?_) (fun _ h => ?_)
    · refine q_W.sub [] rfl ?_
      exact S_X13_overlap_151 B hT _ h
    · refine q_iconst (pc := 64) (v := (0 : Int32)) C dX13_overlap_64 (by decide) ?_
      refine q_istore (pc := 65) (l' := [(4, q_I (0 : Int32)), (0, q_R l0), (1, q_I l1), (2, q_I l2), (3, q_I l3)]) C dX13_overlap_65 (by decide) rfl ?_
      refine q_W.sub [1, 2, 3, 4, 0] rfl ?_
      exact S_X13_overlap_67 B hT r44 hr44 mr44 q_fu l0 l1 l2 l3 (0 : Int32) _ h
def F_X13_overlap_44 (κ : Nat → Nat) : Nat → Option Nat → Int32 → Int32 → Int32 → q_X Int32
  | 0, _, _, _, _ => q_no
  | n + 1, l0, l1, l2, l3 => F_X13_overlap_44B κ (F_X13_overlap_44 κ n) l0 l1 l2 l3
theorem M_X13_overlap_44 (κ : Nat → Nat) : ∀ (n : Nat) (l0 : Option Nat) (l1 : Int32) (l2 : Int32) (l3 : Int32), q_mo (F_X13_overlap_44 κ n l0 l1 l2 l3)
  | 0, _, _, _, _ => q_mo_no
  | n + 1, l0, l1, l2, l3 => M_X13_overlap_44B κ (F_X13_overlap_44 κ n) (M_X13_overlap_44 κ n) l0 l1 l2 l3
theorem S_X13_overlap_44 {E : q_Ev} {Γ : q_Gm} {w : (Int32 ⊕ q_Exn) × q_St} (B : q_Bd E Γ cX13_overlap yX13_overlap.cls 7 0 0 (some .boolean) yX13_overlap.name w) (hT : q_nT Γ) : ∀ (n : Nat) (l0 : Option Nat) (l1 : Int32) (l2 : Int32) (l3 : Int32) (σ : q_St), F_X13_overlap_44 (q_kap E) n l0 l1 l2 l3 σ = some w → q_W E Γ (q_QF E Γ q_oI w) 7 σ 44 [(0, q_R l0), (1, q_I l1), (2, q_I l2), (3, q_I l3)] []
  | 0, _, _, _, _, _, h => by cases h
  | n + 1, l0, l1, l2, l3, σ, h => S_X13_overlap_44B B hT (F_X13_overlap_44 (q_kap E) n) (S_X13_overlap_44 B hT n) (M_X13_overlap_44 (q_kap E) n) l0 l1 l2 l3 σ h
def F_X13_overlap_30 (κ : Nat → Nat) (l0 : Option Nat) (l1 : Int32) (l2 : Int32) (s0 : Option Nat) (s1 : Int32) : q_X Int32 :=
  q_wr (q_pF s0 16 7 (.int s1)) (q_rd (q_gI l0 16 7) fun v34 => q_br (v34 ≤ 0) (F_X13_overlap_44 κ q_fu l0 l1 l2 (0 : Int32)) (q_rz (0 : Int32)))
theorem M_X13_overlap_30 (κ : Nat → Nat) (l0 : Option Nat) (l1 : Int32) (l2 : Int32) (s0 : Option Nat) (s1 : Int32) : q_mo (F_X13_overlap_30 κ l0 l1 l2 s0 s1) := (q_mo_wr (q_mo_rd fun v34 => (q_mo_br (M_X13_overlap_44 κ q_fu l0 l1 l2 (0 : Int32)) q_mo_rz)))
set_option maxRecDepth 100000 in
set_option maxHeartbeats 4000000 in
theorem S_X13_overlap_30 {E : q_Ev} {Γ : q_Gm} {w : (Int32 ⊕ q_Exn) × q_St} (B : q_Bd E Γ cX13_overlap yX13_overlap.cls 7 0 0 (some .boolean) yX13_overlap.name w) (hT : q_nT Γ) (l0 : Option Nat) (l1 : Int32) (l2 : Int32) (s0 : Option Nat) (s1 : Int32) (σ : q_St) (h : F_X13_overlap_30 (q_kap E) l0 l1 l2 s0 s1 σ = some w) : q_W E Γ (q_QF E Γ q_oI w) 7 σ 30 [(0, q_R l0), (1, q_I l1), (2, q_I l2)] [q_I s1, q_R s0] := by
  have C := B.1
  unfold F_X13_overlap_30 at h
  refine q_putV (pc := 30) (v := q_I s1) C dX13_overlap_30 ql_X13_138 (Or.inl rfl) rfl rfl h (fun M30 h => ?_)
  refine q_aload_n (pc := 33) C 0 rfl dX13_overlap_33 rfl ?_
  refine q_getI (pc := 34) C dX13_overlap_34 ql_X13_138 h (fun v34 h => ?_)
  refine q_if_le (pc := 37) (tgt := 42) C dX13_overlap_37 (by decide) h (fun _ h => ?_) (fun _ h => ?_)
  · refine q_iconst (pc := 42) (v := (0 : Int32)) C dX13_overlap_42 (by decide) ?_
    refine q_istore_n (pc := 43) (l' := [(3, q_I (0 : Int32)), (0, q_R l0), (1, q_I l1), (2, q_I l2)]) C dX13_overlap_43 rfl (by decide) rfl ?_
    refine q_W.sub [1, 2, 3, 0] rfl ?_
    exact S_X13_overlap_44 B hT q_fu l0 l1 l2 (0 : Int32) _ h
  · refine q_iconst (pc := 40) (v := (0 : Int32)) C dX13_overlap_40 (by decide) ?_
    exact q_zret C B.2.2.2.2.1 dX13_overlap_41 h
def F_X13_overlap_25 (κ : Nat → Nat) (l0 : Option Nat) (l1 : Int32) (l2 : Int32) (s0 : Option Nat) : q_X Int32 :=
  F_X13_overlap_30 κ l0 l1 l2 s0 (1 : Int32)
theorem M_X13_overlap_25 (κ : Nat → Nat) (l0 : Option Nat) (l1 : Int32) (l2 : Int32) (s0 : Option Nat) : q_mo (F_X13_overlap_25 κ l0 l1 l2 s0) := (M_X13_overlap_30 κ l0 l1 l2 s0 (1 : Int32))
set_option maxRecDepth 100000 in
set_option maxHeartbeats 4000000 in
theorem S_X13_overlap_25 {E : q_Ev} {Γ : q_Gm} {w : (Int32 ⊕ q_Exn) × q_St} (B : q_Bd E Γ cX13_overlap yX13_overlap.cls 7 0 0 (some .boolean) yX13_overlap.name w) (hT : q_nT Γ) (l0 : Option Nat) (l1 : Int32) (l2 : Int32) (s0 : Option Nat) (σ : q_St) (h : F_X13_overlap_25 (q_kap E) l0 l1 l2 s0 σ = some w) : q_W E Γ (q_QF E Γ q_oI w) 7 σ 25 [(0, q_R l0), (1, q_I l1), (2, q_I l2)] [q_R s0] := by
  have C := B.1
  unfold F_X13_overlap_25 at h
  refine q_iconst (pc := 25) (v := (1 : Int32)) C dX13_overlap_25 (by decide) ?_
  refine q_goto (pc := 26) (tgt := 30) C dX13_overlap_26 (by decide) ?_
  exact S_X13_overlap_30 B hT l0 l1 l2 s0 (1 : Int32) _ h
def F_X13_overlap (κ : Nat → Nat) (l0 : Option Nat) (l1 : Int32) (l2 : Int32) : q_X Int32 :=
  q_br (l1 < 0) (F_X13_overlap_25 κ l0 l1 l2 l0) (q_rd (q_gI l0 16 23) fun v7 => q_br (v7 ≤ l1) (F_X13_overlap_25 κ l0 l1 l2 l0) (q_br (l2 < 0) (F_X13_overlap_25 κ l0 l1 l2 l0) (q_rd (q_gI l0 16 23) fun v19 => q_br (l2 < v19) (F_X13_overlap_30 κ l0 l1 l2 l0 (0 : Int32)) (F_X13_overlap_25 κ l0 l1 l2 l0))))
theorem M_X13_overlap (κ : Nat → Nat) (l0 : Option Nat) (l1 : Int32) (l2 : Int32) : q_mo (F_X13_overlap κ l0 l1 l2) := (q_mo_br (M_X13_overlap_25 κ l0 l1 l2 l0) (q_mo_rd fun v7 => (q_mo_br (M_X13_overlap_25 κ l0 l1 l2 l0) (q_mo_br (M_X13_overlap_25 κ l0 l1 l2 l0) (q_mo_rd fun v19 => (q_mo_br (M_X13_overlap_30 κ l0 l1 l2 l0 (0 : Int32)) (M_X13_overlap_25 κ l0 l1 l2 l0)))))))
set_option maxRecDepth 100000 in
set_option maxHeartbeats 4000000 in
theorem K_X13_overlap {E : q_Ev} (l0 : Option Nat) (l1 : Int32) (l2 : Int32) : q_Ct E yX13_overlap (.code yX13_overlap cX13_overlap 7 (some .boolean)) 0 0 [q_R l0, q_I l1, q_I l2] q_oI (F_X13_overlap (q_kap E) l0 l1 l2) := by
  refine q_enter (by decide) (Nat.le_of_ble_eq_true rfl) (fun Γ σ w h B hT => ?_)
  have C := B.1
  unfold F_X13_overlap at h
  refine q_aload_n (pc := 0) C 0 rfl dX13_overlap_0 rfl ?_
  refine q_iload_n (pc := 1) C 1 rfl dX13_overlap_1 rfl ?_
  refine q_if_lt (pc := 2) (tgt := 25) C dX13_overlap_2 (by decide) h (fun _ h => ?_) (fun _ h => ?_)
  · exact S_X13_overlap_25 B hT l0 l1 l2 l0 _ h
  · refine q_iload_n (pc := 5) C 1 rfl dX13_overlap_5 rfl ?_
    refine q_aload_n (pc := 6) C 0 rfl dX13_overlap_6 rfl ?_
    refine q_getI (pc := 7) C dX13_overlap_7 ql_X13_223 h (fun v7 h => ?_)
    refine q_icmp_ge (pc := 10) (tgt := 25) C dX13_overlap_10 (by decide) h (fun _ h => ?_) (fun _ h => ?_)
    · exact S_X13_overlap_25 B hT l0 l1 l2 l0 _ h
    · refine q_iload_n (pc := 13) C 2 rfl dX13_overlap_13 rfl ?_
      refine q_if_lt (pc := 14) (tgt := 25) C dX13_overlap_14 (by decide) h (fun _ h => ?_) (fun _ h => ?_)
      · exact S_X13_overlap_25 B hT l0 l1 l2 l0 _ h
      · refine q_iload_n (pc := 17) C 2 rfl dX13_overlap_17 rfl ?_
        refine q_aload_n (pc := 18) C 0 rfl dX13_overlap_18 rfl ?_
        refine q_getI (pc := 19) C dX13_overlap_19 ql_X13_223 h (fun v19 h => ?_)
        refine q_icmp_lt (pc := 22) (tgt := 29) C dX13_overlap_22 (by decide) h (fun _ h => ?_) (fun _ h => ?_)
        · refine q_iconst (pc := 29) (v := (0 : Int32)) C dX13_overlap_29 (by decide) ?_
          exact S_X13_overlap_30 B hT l0 l1 l2 l0 (0 : Int32) _ h
        · exact S_X13_overlap_25 B hT l0 l1 l2 l0 _ h
def F_X13_count_16 (κ : Nat → Nat) (l0 : Option Nat) (l1 : Int32) (s0 : Option Nat) (s1 : Int32) : q_X Int32 :=
  q_wr (q_pF s0 16 7 (.int s1)) (q_rd (q_gI l0 16 7) fun v20 => q_br (v20 ≤ 0) (q_br (l1.toInt < 0 ∨ 6 < l1.toInt) (q_rd (q_gI l0 16 4) fun v108 => q_rt v108) (q_br (l1 = 0) (q_rd (q_gI l0 16 23) fun v73 => q_rt v73) (q_br (l1 = 1) (q_rd (q_gI l0 16 21) fun v78 => q_rt v78) (q_br (l1 = 2) (q_rd (q_gI l0 16 22) fun v83 => q_rt v83) (q_br (l1 = 3) (q_rd (q_gI l0 16 42) fun v88 => q_rt v88) (q_br (l1 = 4) (q_rd (q_gI l0 16 43) fun v93 => q_rt v93) (q_br (l1 = 5) (q_rd (q_gI l0 16 44) fun v98 => q_rt v98) (q_br (l1 = 6) (q_rd (q_gI l0 16 3) fun v103 => q_rt v103) (q_no))))))))) (q_rt (0 : Int32)))
theorem M_X13_count_16 (κ : Nat → Nat) (l0 : Option Nat) (l1 : Int32) (s0 : Option Nat) (s1 : Int32) : q_mo (F_X13_count_16 κ l0 l1 s0 s1) := (q_mo_wr (q_mo_rd fun v20 => (q_mo_br (q_mo_br (q_mo_rd fun v108 => q_mo_rt) (q_mo_br (q_mo_rd fun v73 => q_mo_rt) (q_mo_br (q_mo_rd fun v78 => q_mo_rt) (q_mo_br (q_mo_rd fun v83 => q_mo_rt) (q_mo_br (q_mo_rd fun v88 => q_mo_rt) (q_mo_br (q_mo_rd fun v93 => q_mo_rt) (q_mo_br (q_mo_rd fun v98 => q_mo_rt) (q_mo_br (q_mo_rd fun v103 => q_mo_rt) q_mo_no)))))))) q_mo_rt)))
set_option maxRecDepth 100000 in
set_option maxHeartbeats 4000000 in
theorem S_X13_count_16 {E : q_Ev} {Γ : q_Gm} {w : (Int32 ⊕ q_Exn) × q_St} (B : q_Bd E Γ cX13_count yX13_count.cls 2 0 0 (some .int) yX13_count.name w) (hT : q_nT Γ) (l0 : Option Nat) (l1 : Int32) (s0 : Option Nat) (s1 : Int32) (σ : q_St) (h : F_X13_count_16 (q_kap E) l0 l1 s0 s1 σ = some w) : q_W E Γ (q_QF E Γ q_oI w) 2 σ 16 [(0, q_R l0), (1, q_I l1)] [q_I s1, q_R s0] := by
  have C := B.1
  unfold F_X13_count_16 at h
  refine q_putV (pc := 16) (v := q_I s1) C dX13_count_16 ql_X13_138 (Or.inl rfl) rfl rfl h (fun M16 h => ?_)
  refine q_aload_n (pc := 19) C 0 rfl dX13_count_19 rfl ?_
  refine q_getI (pc := 20) C dX13_count_20 ql_X13_138 h (fun v20 h => ?_)
  refine q_if_le (pc := 23) (tgt := 28) C dX13_count_23 (by decide) h (fun _ h => ?_) (fun _ h => ?_)
  · refine q_iload_n (pc := 28) C 1 rfl dX13_count_28 rfl ?_
    by_cases cd : l1.toInt < 0 ∨ 6 < l1.toInt
    · replace h := (q_br_e h).1 cd
      refine q_tabOut (pc := 29) (tgt := 107) C dX13_count_29 cd (by decide) ?_
      refine q_aload_n (pc := 107) C 0 rfl dX13_count_107 rfl ?_
      refine q_getI (pc := 108) C dX13_count_108 ql_X13_339 h (fun v108 h => ?_)
      exact q_iret C B.2.2.2.2.1 dX13_count_111 h
    replace h := (q_br_e h).2 cd
    by_cases cv : l1 = 0
    · replace h := (q_br_e h).1 cv
      refine q_tabIn (pc := 29) (tgt := 72) (off := 43) C dX13_count_29 (by rw [cv]; decide) (by rw [cv]; decide) (by rw [cv]; rfl) (by decide) ?_
      refine q_aload_n (pc := 72) C 0 rfl dX13_count_72 rfl ?_
      refine q_getI (pc := 73) C dX13_count_73 ql_X13_223 h (fun v73 h => ?_)
      exact q_iret C B.2.2.2.2.1 dX13_count_76 h
    replace h := (q_br_e h).2 cv
    by_cases cv : l1 = 1
    · replace h := (q_br_e h).1 cv
      refine q_tabIn (pc := 29) (tgt := 77) (off := 48) C dX13_count_29 (by rw [cv]; decide) (by rw [cv]; decide) (by rw [cv]; rfl) (by decide) ?_
      refine q_aload_n (pc := 77) C 0 rfl dX13_count_77 rfl ?_
      refine q_getI (pc := 78) C dX13_count_78 ql_X13_217 h (fun v78 h => ?_)
      exact q_iret C B.2.2.2.2.1 dX13_count_81 h
    replace h := (q_br_e h).2 cv
    by_cases cv : l1 = 2
    · replace h := (q_br_e h).1 cv
      refine q_tabIn (pc := 29) (tgt := 82) (off := 53) C dX13_count_29 (by rw [cv]; decide) (by rw [cv]; decide) (by rw [cv]; rfl) (by decide) ?_
      refine q_aload_n (pc := 82) C 0 rfl dX13_count_82 rfl ?_
      refine q_getI (pc := 83) C dX13_count_83 ql_X13_220 h (fun v83 h => ?_)
      exact q_iret C B.2.2.2.2.1 dX13_count_86 h
    replace h := (q_br_e h).2 cv
    by_cases cv : l1 = 3
    · replace h := (q_br_e h).1 cv
      refine q_tabIn (pc := 29) (tgt := 87) (off := 58) C dX13_count_29 (by rw [cv]; decide) (by rw [cv]; decide) (by rw [cv]; rfl) (by decide) ?_
      refine q_aload_n (pc := 87) C 0 rfl dX13_count_87 rfl ?_
      refine q_getI (pc := 88) C dX13_count_88 ql_X13_283 h (fun v88 h => ?_)
      exact q_iret C B.2.2.2.2.1 dX13_count_91 h
    replace h := (q_br_e h).2 cv
    by_cases cv : l1 = 4
    · replace h := (q_br_e h).1 cv
      refine q_tabIn (pc := 29) (tgt := 92) (off := 63) C dX13_count_29 (by rw [cv]; decide) (by rw [cv]; decide) (by rw [cv]; rfl) (by decide) ?_
      refine q_aload_n (pc := 92) C 0 rfl dX13_count_92 rfl ?_
      refine q_getI (pc := 93) C dX13_count_93 ql_X13_286 h (fun v93 h => ?_)
      exact q_iret C B.2.2.2.2.1 dX13_count_96 h
    replace h := (q_br_e h).2 cv
    by_cases cv : l1 = 5
    · replace h := (q_br_e h).1 cv
      refine q_tabIn (pc := 29) (tgt := 97) (off := 68) C dX13_count_29 (by rw [cv]; decide) (by rw [cv]; decide) (by rw [cv]; rfl) (by decide) ?_
      refine q_aload_n (pc := 97) C 0 rfl dX13_count_97 rfl ?_
      refine q_getI (pc := 98) C dX13_count_98 ql_X13_289 h (fun v98 h => ?_)
      exact q_iret C B.2.2.2.2.1 dX13_count_101 h
    replace h := (q_br_e h).2 cv
    by_cases cv : l1 = 6
    · replace h := (q_br_e h).1 cv
      refine q_tabIn (pc := 29) (tgt := 102) (off := 73) C dX13_count_29 (by rw [cv]; decide) (by rw [cv]; decide) (by rw [cv]; rfl) (by decide) ?_
      refine q_aload_n (pc := 102) C 0 rfl dX13_count_102 rfl ?_
      refine q_getI (pc := 103) C dX13_count_103 ql_X13_364 h (fun v103 h => ?_)
      exact q_iret C B.2.2.2.2.1 dX13_count_106 h
    replace h := (q_br_e h).2 cv
    cases h
  · refine q_iconst (pc := 26) (v := (0 : Int32)) C dX13_count_26 (by decide) ?_
    exact q_iret C B.2.2.2.2.1 dX13_count_27 h
def F_X13_count_11 (κ : Nat → Nat) (l0 : Option Nat) (l1 : Int32) (s0 : Option Nat) : q_X Int32 :=
  F_X13_count_16 κ l0 l1 s0 (1 : Int32)
theorem M_X13_count_11 (κ : Nat → Nat) (l0 : Option Nat) (l1 : Int32) (s0 : Option Nat) : q_mo (F_X13_count_11 κ l0 l1 s0) := (M_X13_count_16 κ l0 l1 s0 (1 : Int32))
set_option maxRecDepth 100000 in
set_option maxHeartbeats 4000000 in
theorem S_X13_count_11 {E : q_Ev} {Γ : q_Gm} {w : (Int32 ⊕ q_Exn) × q_St} (B : q_Bd E Γ cX13_count yX13_count.cls 2 0 0 (some .int) yX13_count.name w) (hT : q_nT Γ) (l0 : Option Nat) (l1 : Int32) (s0 : Option Nat) (σ : q_St) (h : F_X13_count_11 (q_kap E) l0 l1 s0 σ = some w) : q_W E Γ (q_QF E Γ q_oI w) 2 σ 11 [(0, q_R l0), (1, q_I l1)] [q_R s0] := by
  have C := B.1
  unfold F_X13_count_11 at h
  refine q_iconst (pc := 11) (v := (1 : Int32)) C dX13_count_11 (by decide) ?_
  refine q_goto (pc := 12) (tgt := 16) C dX13_count_12 (by decide) ?_
  exact S_X13_count_16 B hT l0 l1 s0 (1 : Int32) _ h
def F_X13_count (κ : Nat → Nat) (l0 : Option Nat) (l1 : Int32) : q_X Int32 :=
  q_br (l1 < 0) (F_X13_count_11 κ l0 l1 l0) (q_br (l1 ≤ (7 : Int32)) (F_X13_count_16 κ l0 l1 l0 (0 : Int32)) (F_X13_count_11 κ l0 l1 l0))
theorem M_X13_count (κ : Nat → Nat) (l0 : Option Nat) (l1 : Int32) : q_mo (F_X13_count κ l0 l1) := (q_mo_br (M_X13_count_11 κ l0 l1 l0) (q_mo_br (M_X13_count_16 κ l0 l1 l0 (0 : Int32)) (M_X13_count_11 κ l0 l1 l0)))
set_option maxRecDepth 100000 in
set_option maxHeartbeats 4000000 in
theorem K_X13_count {E : q_Ev} (l0 : Option Nat) (l1 : Int32) : q_Ct E yX13_count (.code yX13_count cX13_count 2 (some .int)) 0 0 [q_R l0, q_I l1] q_oI (F_X13_count (q_kap E) l0 l1) := by
  refine q_enter (by decide) (Nat.le_of_ble_eq_true rfl) (fun Γ σ w h B hT => ?_)
  have C := B.1
  unfold F_X13_count at h
  refine q_aload_n (pc := 0) C 0 rfl dX13_count_0 rfl ?_
  refine q_iload_n (pc := 1) C 1 rfl dX13_count_1 rfl ?_
  refine q_if_lt (pc := 2) (tgt := 11) C dX13_count_2 (by decide) h (fun _ h => ?_) (fun _ h => ?_)
  · exact S_X13_count_11 B hT l0 l1 l0 _ h
  · refine q_iload_n (pc := 5) C 1 rfl dX13_count_5 rfl ?_
    refine q_bipush (pc := 6) (v := (7 : Int32)) C dX13_count_6 (by decide) ?_
    refine q_icmp_le (pc := 8) (tgt := 15) C dX13_count_8 (by decide) h (fun _ h => ?_) (fun _ h => ?_)
    · refine q_iconst (pc := 15) (v := (0 : Int32)) C dX13_count_15 (by decide) ?_
      exact S_X13_count_16 B hT l0 l1 l0 (0 : Int32) _ h
    · exact S_X13_count_11 B hT l0 l1 l0 _ h
def F_L_feed (κ : Nat → Nat) (l0 : Option Nat) (l1 : Int32) (l2 : Int32) (l3 : Int32) (l4 : Int32) (l5 : Int32) (l6 : Option Nat) : q_X Int32 :=
  q_rd (q_is l0 14) fun _ => q_cc (F_X11_feed κ l0 l1 l2 l3 l4 l5) (fun v11 => q_wr (q_sL l6 (0 : Int32) v11.toInt64) (q_rt (0 : Int32))) (fun x11 => q_br (x11.1 = "java/lang/IllegalStateException") (q_rt (1 : Int32)) (q_no))
theorem M_L_feed (κ : Nat → Nat) (l0 : Option Nat) (l1 : Int32) (l2 : Int32) (l3 : Int32) (l4 : Int32) (l5 : Int32) (l6 : Option Nat) : q_mo (F_L_feed κ l0 l1 l2 l3 l4 l5 l6) := (q_mo_rd fun _ => q_mo_cc (M_X11_feed κ l0 l1 l2 l3 l4 l5) (fun v11 => (q_mo_wr q_mo_rt)) (fun x11 => (q_mo_br q_mo_rt q_mo_no)))
set_option maxRecDepth 100000 in
set_option maxHeartbeats 4000000 in
theorem K_L_feed {E : q_Ev} (l0 : Option Nat) (l1 : Int32) (l2 : Int32) (l3 : Int32) (l4 : Int32) (l5 : Int32) (l6 : Option Nat) : q_Ct E yL_feed (.codeWith yL_feed cL_feed 8 (some .int) [(0, 16, 19, 13)]) 7 115 [q_R l0, q_I l1, q_I l2, q_I l3, q_I l4, q_I l5, q_R l6] q_oI (F_L_feed (q_kap E) l0 l1 l2 l3 l4 l5 l6) := by
  refine q_enterH (by decide) (Nat.le_of_ble_eq_true rfl) (fun Γ σ w h B hT => ?_)
  have C := B.1
  unfold F_L_feed at h
  refine q_aload (pc := 0) C 6 rfl dL_feed_0 ?_
  refine q_iconst (pc := 2) (v := (0 : Int32)) C dL_feed_2 (by decide) ?_
  refine q_aload_n (pc := 3) C 0 rfl dL_feed_3 rfl ?_
  refine q_iload_n (pc := 4) C 1 rfl dL_feed_4 rfl ?_
  refine q_iload_n (pc := 5) C 2 rfl dL_feed_5 rfl ?_
  refine q_iload_n (pc := 6) C 3 rfl dL_feed_6 rfl ?_
  refine q_iload (pc := 7) C 4 rfl dL_feed_7 ?_
  refine q_iload (pc := 9) C 5 rfl dL_feed_9 ?_
  refine q_callVc (pc := 11) (As := [q_I l1, q_I l2, q_I l3, q_I l4, q_I l5]) (st := [q_I (0 : Int32), q_R l6]) (ps := q_psI) C B.2.1 q_hpI qm_L_7 qv_X11_feed dL_feed_11 rfl rfl (Nat.le_of_ble_eq_true rfl) (q_flo B.2.2.1 B.2.2.2.1 (by decide) (by decide)) (K_X11_feed l0 l1 l2 l3 l4 l5) (M_X11_feed (q_kap E) l0 l1 l2 l3 l4 l5) (by exact fun v11 => (q_mo_wr q_mo_rt)) (by exact fun x11 => (q_mo_br q_mo_rt q_mo_no)) h (fun v11 σ h => ?_) (fun N11 q11 σ h => ?_)
  · refine q_W.st (st' := [q_I v11, q_I (0 : Int32), q_R l6]) rfl ?_
    refine q_i2l (pc := 14) C dL_feed_14 ?_
    refine q_stL (pc := 15) C dL_feed_15 h (fun M15 h => ?_)
    refine q_goto (pc := 16) (tgt := 23) C dL_feed_16 (by decide) ?_
    refine q_iconst (pc := 23) (v := (0 : Int32)) C dL_feed_23 (by decide) ?_
    exact q_iret C B.2.2.2.2.1 dL_feed_24 h
  · by_cases cx0 : N11 = "java/lang/IllegalStateException"
    · replace h := (q_br_e h).1 cx0
      subst cx0
      refine ⟨[], ⟨0, 16, 19, 13⟩, [], "java/lang/IllegalStateException", hT, (fun z hz => nomatch hz), by decide, by decide, qb_L_13, by decide +kernel, ?_⟩
      refine q_astore (pc := 19) (l' := [(7, q_R (some q11)), (0, q_R l0), (1, q_I l1), (2, q_I l2), (3, q_I l3), (4, q_I l4), (5, q_I l5), (6, q_R l6)]) C dL_feed_19 (by decide) rfl ?_
      refine q_iconst (pc := 21) (v := (1 : Int32)) C dL_feed_21 (by decide) ?_
      exact q_iret C B.2.2.2.2.1 dL_feed_22 h
    replace h := (q_br_e h).2 cx0
    cases h
def F_L_end (κ : Nat → Nat) (l0 : Option Nat) (l1 : Int32) (l2 : Option Nat) : q_X Int32 :=
  q_rd (q_is l0 14) fun _ => q_cc (F_X11_end κ l0 l1) (fun v4 => q_wr (q_sL l2 (0 : Int32) v4.toInt64) (q_rt (0 : Int32))) (fun x4 => q_br (x4.1 = "java/lang/IllegalArgumentException") (q_rt (1 : Int32)) (q_no))
theorem M_L_end (κ : Nat → Nat) (l0 : Option Nat) (l1 : Int32) (l2 : Option Nat) : q_mo (F_L_end κ l0 l1 l2) := (q_mo_rd fun _ => q_mo_cc (M_X11_end κ l0 l1) (fun v4 => (q_mo_wr q_mo_rt)) (fun x4 => (q_mo_br q_mo_rt q_mo_no)))
set_option maxRecDepth 100000 in
set_option maxHeartbeats 4000000 in
theorem K_L_end {E : q_Ev} (l0 : Option Nat) (l1 : Int32) (l2 : Option Nat) : q_Ct E yL_end (.codeWith yL_end cL_end 4 (some .int) [(0, 9, 12, 19)]) 7 136 [q_R l0, q_I l1, q_R l2] q_oI (F_L_end (q_kap E) l0 l1 l2) := by
  refine q_enterH (by decide) (Nat.le_of_ble_eq_true rfl) (fun Γ σ w h B hT => ?_)
  have C := B.1
  unfold F_L_end at h
  refine q_aload_n (pc := 0) C 2 rfl dL_end_0 rfl ?_
  refine q_iconst (pc := 1) (v := (0 : Int32)) C dL_end_1 (by decide) ?_
  refine q_aload_n (pc := 2) C 0 rfl dL_end_2 rfl ?_
  refine q_iload_n (pc := 3) C 1 rfl dL_end_3 rfl ?_
  refine q_callVc (pc := 4) (As := [q_I l1]) (st := [q_I (0 : Int32), q_R l2]) (ps := q_psI) C B.2.1 q_hpI qm_L_15 qv_X11_end dL_end_4 rfl rfl (Nat.le_of_ble_eq_true rfl) (q_flo B.2.2.1 B.2.2.2.1 (by decide) (by decide)) (K_X11_end l0 l1) (M_X11_end (q_kap E) l0 l1) (by exact fun v4 => (q_mo_wr q_mo_rt)) (by exact fun x4 => (q_mo_br q_mo_rt q_mo_no)) h (fun v4 σ h => ?_) (fun N4 q4 σ h => ?_)
  · refine q_W.st (st' := [q_I v4, q_I (0 : Int32), q_R l2]) rfl ?_
    refine q_i2l (pc := 7) C dL_end_7 ?_
    refine q_stL (pc := 8) C dL_end_8 h (fun M8 h => ?_)
    refine q_goto (pc := 9) (tgt := 15) C dL_end_9 (by decide) ?_
    refine q_iconst (pc := 15) (v := (0 : Int32)) C dL_end_15 (by decide) ?_
    exact q_iret C B.2.2.2.2.1 dL_end_16 h
  · by_cases cx0 : N4 = "java/lang/IllegalArgumentException"
    · replace h := (q_br_e h).1 cx0
      subst cx0
      refine ⟨[], ⟨0, 9, 12, 19⟩, [], "java/lang/IllegalArgumentException", hT, (fun z hz => nomatch hz), by decide, by decide, qb_L_19, by decide +kernel, ?_⟩
      refine q_astore_n (pc := 12) (l' := [(3, q_R (some q4)), (0, q_R l0), (1, q_I l1), (2, q_R l2)]) C dL_end_12 rfl (by decide) rfl ?_
      refine q_iconst (pc := 13) (v := (1 : Int32)) C dL_end_13 (by decide) ?_
      exact q_iret C B.2.2.2.2.1 dL_end_14 h
    replace h := (q_br_e h).2 cx0
    cases h
def F_L_describe (κ : Nat → Nat) (l0 : Option Nat) (l1 : Option Nat) : q_X Int32 :=
  q_rd (q_is l0 14) fun _ => q_cc (F_X11_describe κ l0) (fun v3 => q_wr (q_sL l1 (0 : Int32) v3.toInt64) (q_rt (0 : Int32))) (fun x3 => q_br (x3.1 = "java/lang/UnsupportedOperationException") (q_rt (1 : Int32)) (q_no))
theorem M_L_describe (κ : Nat → Nat) (l0 : Option Nat) (l1 : Option Nat) : q_mo (F_L_describe κ l0 l1) := (q_mo_rd fun _ => q_mo_cc (M_X11_describe κ l0) (fun v3 => (q_mo_wr q_mo_rt)) (fun x3 => (q_mo_br q_mo_rt q_mo_no)))
set_option maxRecDepth 100000 in
set_option maxHeartbeats 4000000 in
theorem K_L_describe {E : q_Ev} (l0 : Option Nat) (l1 : Option Nat) : q_Ct E yL_describe (.codeWith yL_describe cL_describe 3 (some .int) [(0, 8, 11, 25)]) 10 237 [q_R l0, q_R l1] q_oI (F_L_describe (q_kap E) l0 l1) := by
  refine q_enterH (by decide) (Nat.le_of_ble_eq_true rfl) (fun Γ σ w h B hT => ?_)
  have C := B.1
  unfold F_L_describe at h
  refine q_aload_n (pc := 0) C 1 rfl dL_describe_0 rfl ?_
  refine q_iconst (pc := 1) (v := (0 : Int32)) C dL_describe_1 (by decide) ?_
  refine q_aload_n (pc := 2) C 0 rfl dL_describe_2 rfl ?_
  refine q_callVc (pc := 3) (As := []) (st := [q_I (0 : Int32), q_R l1]) (ps := q_psI) C B.2.1 q_hpI qm_L_21 qv_X11_describe dL_describe_3 rfl rfl (Nat.le_of_ble_eq_true rfl) (q_flo B.2.2.1 B.2.2.2.1 (by decide) (by decide)) (K_X11_describe l0) (M_X11_describe (q_kap E) l0) (by exact fun v3 => (q_mo_wr q_mo_rt)) (by exact fun x3 => (q_mo_br q_mo_rt q_mo_no)) h (fun v3 σ h => ?_) (fun N3 q3 σ h => ?_)
  · refine q_W.st (st' := [q_I v3, q_I (0 : Int32), q_R l1]) rfl ?_
    refine q_i2l (pc := 6) C dL_describe_6 ?_
    refine q_stL (pc := 7) C dL_describe_7 h (fun M7 h => ?_)
    refine q_goto (pc := 8) (tgt := 14) C dL_describe_8 (by decide) ?_
    refine q_iconst (pc := 14) (v := (0 : Int32)) C dL_describe_14 (by decide) ?_
    exact q_iret C B.2.2.2.2.1 dL_describe_15 h
  · by_cases cx0 : N3 = "java/lang/UnsupportedOperationException"
    · replace h := (q_br_e h).1 cx0
      subst cx0
      refine ⟨[], ⟨0, 8, 11, 25⟩, [], "java/lang/UnsupportedOperationException", hT, (fun z hz => nomatch hz), by decide, by decide, qb_L_25, by decide +kernel, ?_⟩
      refine q_astore_n (pc := 11) (l' := [(2, q_R (some q3)), (0, q_R l0), (1, q_R l1)]) C dL_describe_11 rfl (by decide) rfl ?_
      refine q_iconst (pc := 12) (v := (1 : Int32)) C dL_describe_12 (by decide) ?_
      exact q_iret C B.2.2.2.2.1 dL_describe_13 h
    replace h := (q_br_e h).2 cx0
    cases h
def F_L_assemble (κ : Nat → Nat) (l0 : Option Nat) (l1 : Option Nat) : q_X Int32 :=
  q_rd (q_is l0 14) fun _ => q_cc (F_X11_assemble κ l0) (fun v3 => q_wr (q_sL l1 (0 : Int32) v3.toInt64) (q_rt (0 : Int32))) (fun x3 => q_br (x3.1 = "java/lang/IllegalStateException") (q_rt (1 : Int32)) (q_br (x3.1 = "java/lang/UnsupportedOperationException") (q_rt (2 : Int32)) (q_no)))
theorem M_L_assemble (κ : Nat → Nat) (l0 : Option Nat) (l1 : Option Nat) : q_mo (F_L_assemble κ l0 l1) := (q_mo_rd fun _ => q_mo_cc (M_X11_assemble κ l0) (fun v3 => (q_mo_wr q_mo_rt)) (fun x3 => (q_mo_br q_mo_rt (q_mo_br q_mo_rt q_mo_no))))
set_option maxRecDepth 100000 in
set_option maxHeartbeats 4000000 in
theorem K_L_assemble {E : q_Ev} (l0 : Option Nat) (l1 : Option Nat) : q_Ct E yL_assemble (.codeWith yL_assemble cL_assemble 3 (some .int) [(0, 8, 11, 13), (0, 8, 14, 25)]) 11 261 [q_R l0, q_R l1] q_oI (F_L_assemble (q_kap E) l0 l1) := by
  refine q_enterH (by decide) (Nat.le_of_ble_eq_true rfl) (fun Γ σ w h B hT => ?_)
  have C := B.1
  unfold F_L_assemble at h
  refine q_aload_n (pc := 0) C 1 rfl dL_assemble_0 rfl ?_
  refine q_iconst (pc := 1) (v := (0 : Int32)) C dL_assemble_1 (by decide) ?_
  refine q_aload_n (pc := 2) C 0 rfl dL_assemble_2 rfl ?_
  refine q_callVc (pc := 3) (As := []) (st := [q_I (0 : Int32), q_R l1]) (ps := q_psI) C B.2.1 q_hpI qm_L_27 qv_X11_assemble dL_assemble_3 rfl rfl (Nat.le_of_ble_eq_true rfl) (q_flo B.2.2.1 B.2.2.2.1 (by decide) (by decide)) (K_X11_assemble l0) (M_X11_assemble (q_kap E) l0) (by exact fun v3 => (q_mo_wr q_mo_rt)) (by exact fun x3 => (q_mo_br q_mo_rt (q_mo_br q_mo_rt q_mo_no))) h (fun v3 σ h => ?_) (fun N3 q3 σ h => ?_)
  · refine q_W.st (st' := [q_I v3, q_I (0 : Int32), q_R l1]) rfl ?_
    refine q_i2l (pc := 6) C dL_assemble_6 ?_
    refine q_stL (pc := 7) C dL_assemble_7 h (fun M7 h => ?_)
    refine q_goto (pc := 8) (tgt := 17) C dL_assemble_8 (by decide) ?_
    refine q_iconst (pc := 17) (v := (0 : Int32)) C dL_assemble_17 (by decide) ?_
    exact q_iret C B.2.2.2.2.1 dL_assemble_18 h
  · by_cases cx0 : N3 = "java/lang/IllegalStateException"
    · replace h := (q_br_e h).1 cx0
      subst cx0
      refine ⟨[], ⟨0, 8, 11, 13⟩, [⟨0, 8, 14, 25⟩], "java/lang/IllegalStateException", hT, (fun z hz => nomatch hz), by decide, by decide, qb_L_13, by decide +kernel, ?_⟩
      refine q_astore_n (pc := 11) (l' := [(2, q_R (some q3)), (0, q_R l0), (1, q_R l1)]) C dL_assemble_11 rfl (by decide) rfl ?_
      refine q_iconst (pc := 12) (v := (1 : Int32)) C dL_assemble_12 (by decide) ?_
      exact q_iret C B.2.2.2.2.1 dL_assemble_13 h
    replace h := (q_br_e h).2 cx0
    by_cases cx1 : N3 = "java/lang/UnsupportedOperationException"
    · replace h := (q_br_e h).1 cx1
      subst cx1
      refine ⟨[⟨0, 8, 11, 13⟩], ⟨0, 8, 14, 25⟩, [], "java/lang/UnsupportedOperationException", hT, (fun z hz => by cases List.mem_singleton.mp hz; exact Or.inr ⟨by decide, "java/lang/IllegalStateException", qb_L_13, by decide +kernel⟩), by decide, by decide, qb_L_25, by decide +kernel, ?_⟩
      refine q_astore_n (pc := 14) (l' := [(2, q_R (some q3)), (0, q_R l0), (1, q_R l1)]) C dL_assemble_14 rfl (by decide) rfl ?_
      refine q_iconst (pc := 15) (v := (2 : Int32)) C dL_assemble_15 (by decide) ?_
      exact q_iret C B.2.2.2.2.1 dL_assemble_16 h
    replace h := (q_br_e h).2 cx1
    cases h
def F_L_word (κ : Nat → Nat) (l0 : Option Nat) (l1 : Int32) (l2 : Option Nat) : q_X Int32 :=
  q_rd (q_is l0 14) fun _ => q_cc (F_X11_word κ l0 l1) (fun v4 => q_wr (q_sL l2 (0 : Int32) v4) (q_rt (0 : Int32))) (fun x4 => q_br (x4.1 = "java/util/NoSuchElementException") (q_rt (1 : Int32)) (q_no))
theorem M_L_word (κ : Nat → Nat) (l0 : Option Nat) (l1 : Int32) (l2 : Option Nat) : q_mo (F_L_word κ l0 l1 l2) := (q_mo_rd fun _ => q_mo_cc (M_X11_word κ l0 l1) (fun v4 => (q_mo_wr q_mo_rt)) (fun x4 => (q_mo_br q_mo_rt q_mo_no)))
set_option maxRecDepth 100000 in
set_option maxHeartbeats 4000000 in
theorem K_L_word {E : q_Ev} (l0 : Option Nat) (l1 : Int32) (l2 : Option Nat) : q_Ct E yL_word (.codeWith yL_word cL_word 4 (some .int) [(0, 8, 11, 34)]) 7 111 [q_R l0, q_I l1, q_R l2] q_oI (F_L_word (q_kap E) l0 l1 l2) := by
  refine q_enterH (by decide) (Nat.le_of_ble_eq_true rfl) (fun Γ σ w h B hT => ?_)
  have C := B.1
  unfold F_L_word at h
  refine q_aload_n (pc := 0) C 2 rfl dL_word_0 rfl ?_
  refine q_iconst (pc := 1) (v := (0 : Int32)) C dL_word_1 (by decide) ?_
  refine q_aload_n (pc := 2) C 0 rfl dL_word_2 rfl ?_
  refine q_iload_n (pc := 3) C 1 rfl dL_word_3 rfl ?_
  refine q_callVc (pc := 4) (As := [q_I l1]) (st := [q_I (0 : Int32), q_R l2]) (ps := q_psL) C B.2.1 q_hpL qm_L_30 qv_X11_word dL_word_4 rfl rfl (Nat.le_of_ble_eq_true rfl) (q_flo B.2.2.1 B.2.2.2.1 (by decide) (by decide)) (K_X11_word l0 l1) (M_X11_word (q_kap E) l0 l1) (by exact fun v4 => (q_mo_wr q_mo_rt)) (by exact fun x4 => (q_mo_br q_mo_rt q_mo_no)) h (fun v4 σ h => ?_) (fun N4 q4 σ h => ?_)
  · refine q_W.st (st' := [q_L v4, q_I (0 : Int32), q_R l2]) rfl ?_
    refine q_stL (pc := 7) C dL_word_7 h (fun M7 h => ?_)
    refine q_goto (pc := 8) (tgt := 14) C dL_word_8 (by decide) ?_
    refine q_iconst (pc := 14) (v := (0 : Int32)) C dL_word_14 (by decide) ?_
    exact q_iret C B.2.2.2.2.1 dL_word_15 h
  · by_cases cx0 : N4 = "java/util/NoSuchElementException"
    · replace h := (q_br_e h).1 cx0
      subst cx0
      refine ⟨[], ⟨0, 8, 11, 34⟩, [], "java/util/NoSuchElementException", hT, (fun z hz => nomatch hz), by decide, by decide, qb_L_34, by decide +kernel, ?_⟩
      refine q_astore_n (pc := 11) (l' := [(3, q_R (some q4)), (0, q_R l0), (1, q_I l1), (2, q_R l2)]) C dL_word_11 rfl (by decide) rfl ?_
      refine q_iconst (pc := 12) (v := (1 : Int32)) C dL_word_12 (by decide) ?_
      exact q_iret C B.2.2.2.2.1 dL_word_13 h
    replace h := (q_br_e h).2 cx0
    cases h
def F_L_poke (κ : Nat → Nat) (l0 : Option Nat) (l1 : Int32) (l2 : Int64) (l4 : Option Nat) : q_X Int32 :=
  q_rd (q_is l0 14) fun _ => q_cc (F_X11_poke κ l0 l1 l2) (fun v6 => q_wr (q_sL l4 (0 : Int32) v6.toInt64) (q_rt (0 : Int32))) (fun x6 => q_br (x6.1 = "java/lang/IllegalStateException") (q_rt (1 : Int32)) (q_br (x6.1 = "java/lang/IllegalArgumentException") (q_rt (2 : Int32)) (q_no)))
theorem M_L_poke (κ : Nat → Nat) (l0 : Option Nat) (l1 : Int32) (l2 : Int64) (l4 : Option Nat) : q_mo (F_L_poke κ l0 l1 l2 l4) := (q_mo_rd fun _ => q_mo_cc (M_X11_poke κ l0 l1 l2) (fun v6 => (q_mo_wr q_mo_rt)) (fun x6 => (q_mo_br q_mo_rt (q_mo_br q_mo_rt q_mo_no))))
set_option maxRecDepth 100000 in
set_option maxHeartbeats 4000000 in
theorem K_L_poke {E : q_Ev} (l0 : Option Nat) (l1 : Int32) (l2 : Int64) (l4 : Option Nat) : q_Ct E yL_poke (.codeWith yL_poke cL_poke 6 (some .int) [(0, 11, 14, 13), (0, 11, 18, 19)]) 7 113 [q_R l0, q_I l1, q_L l2, q_R l4] q_oI (F_L_poke (q_kap E) l0 l1 l2 l4) := by
  refine q_enterH (by decide) (Nat.le_of_ble_eq_true rfl) (fun Γ σ w h B hT => ?_)
  have C := B.1
  unfold F_L_poke at h
  refine q_aload (pc := 0) C 3 rfl dL_poke_0 ?_
  refine q_iconst (pc := 2) (v := (0 : Int32)) C dL_poke_2 (by decide) ?_
  refine q_aload_n (pc := 3) C 0 rfl dL_poke_3 rfl ?_
  refine q_iload_n (pc := 4) C 1 rfl dL_poke_4 rfl ?_
  refine q_lload_n (pc := 5) C 2 rfl dL_poke_5 rfl ?_
  refine q_callVc (pc := 6) (As := [q_I l1, q_L l2]) (st := [q_I (0 : Int32), q_R l4]) (ps := q_psI) C B.2.1 q_hpI qm_L_36 qv_X11_poke dL_poke_6 rfl rfl (Nat.le_of_ble_eq_true rfl) (q_flo B.2.2.1 B.2.2.2.1 (by decide) (by decide)) (K_X11_poke l0 l1 l2) (M_X11_poke (q_kap E) l0 l1 l2) (by exact fun v6 => (q_mo_wr q_mo_rt)) (by exact fun x6 => (q_mo_br q_mo_rt (q_mo_br q_mo_rt q_mo_no))) h (fun v6 σ h => ?_) (fun N6 q6 σ h => ?_)
  · refine q_W.st (st' := [q_I v6, q_I (0 : Int32), q_R l4]) rfl ?_
    refine q_i2l (pc := 9) C dL_poke_9 ?_
    refine q_stL (pc := 10) C dL_poke_10 h (fun M10 h => ?_)
    refine q_goto (pc := 11) (tgt := 22) C dL_poke_11 (by decide) ?_
    refine q_iconst (pc := 22) (v := (0 : Int32)) C dL_poke_22 (by decide) ?_
    exact q_iret C B.2.2.2.2.1 dL_poke_23 h
  · by_cases cx0 : N6 = "java/lang/IllegalStateException"
    · replace h := (q_br_e h).1 cx0
      subst cx0
      refine ⟨[], ⟨0, 11, 14, 13⟩, [⟨0, 11, 18, 19⟩], "java/lang/IllegalStateException", hT, (fun z hz => nomatch hz), by decide, by decide, qb_L_13, by decide +kernel, ?_⟩
      refine q_astore (pc := 14) (l' := [(5, q_R (some q6)), (0, q_R l0), (1, q_I l1), (2, q_L l2), (4, q_R l4)]) C dL_poke_14 (by decide) rfl ?_
      refine q_iconst (pc := 16) (v := (1 : Int32)) C dL_poke_16 (by decide) ?_
      exact q_iret C B.2.2.2.2.1 dL_poke_17 h
    replace h := (q_br_e h).2 cx0
    by_cases cx1 : N6 = "java/lang/IllegalArgumentException"
    · replace h := (q_br_e h).1 cx1
      subst cx1
      refine ⟨[⟨0, 11, 14, 13⟩], ⟨0, 11, 18, 19⟩, [], "java/lang/IllegalArgumentException", hT, (fun z hz => by cases List.mem_singleton.mp hz; exact Or.inr ⟨by decide, "java/lang/IllegalStateException", qb_L_13, by decide +kernel⟩), by decide, by decide, qb_L_19, by decide +kernel, ?_⟩
      refine q_astore (pc := 18) (l' := [(5, q_R (some q6)), (0, q_R l0), (1, q_I l1), (2, q_L l2), (4, q_R l4)]) C dL_poke_18 (by decide) rfl ?_
      refine q_iconst (pc := 20) (v := (2 : Int32)) C dL_poke_20 (by decide) ?_
      exact q_iret C B.2.2.2.2.1 dL_poke_21 h
    replace h := (q_br_e h).2 cx1
    cases h
def F_L_list (κ : Nat → Nat) (l0 : Option Nat) (l1 : Int32) (l2 : Option Nat) : q_X Int32 :=
  q_rd (q_is l0 14) fun _ => q_cc (F_X11_list κ l0 l1) (fun v4 => q_wr (q_sL l2 (0 : Int32) v4.toInt64) (q_rt (0 : Int32))) (fun x4 => q_br (x4.1 = "java/util/NoSuchElementException") (q_rt (1 : Int32)) (q_no))
theorem M_L_list (κ : Nat → Nat) (l0 : Option Nat) (l1 : Int32) (l2 : Option Nat) : q_mo (F_L_list κ l0 l1 l2) := (q_mo_rd fun _ => q_mo_cc (M_X11_list κ l0 l1) (fun v4 => (q_mo_wr q_mo_rt)) (fun x4 => (q_mo_br q_mo_rt q_mo_no)))
set_option maxRecDepth 100000 in
set_option maxHeartbeats 4000000 in
theorem K_L_list {E : q_Ev} (l0 : Option Nat) (l1 : Int32) (l2 : Option Nat) : q_Ct E yL_list (.codeWith yL_list cL_list 4 (some .int) [(0, 9, 12, 34)]) 7 152 [q_R l0, q_I l1, q_R l2] q_oI (F_L_list (q_kap E) l0 l1 l2) := by
  refine q_enterH (by decide) (Nat.le_of_ble_eq_true rfl) (fun Γ σ w h B hT => ?_)
  have C := B.1
  unfold F_L_list at h
  refine q_aload_n (pc := 0) C 2 rfl dL_list_0 rfl ?_
  refine q_iconst (pc := 1) (v := (0 : Int32)) C dL_list_1 (by decide) ?_
  refine q_aload_n (pc := 2) C 0 rfl dL_list_2 rfl ?_
  refine q_iload_n (pc := 3) C 1 rfl dL_list_3 rfl ?_
  refine q_callVc (pc := 4) (As := [q_I l1]) (st := [q_I (0 : Int32), q_R l2]) (ps := q_psI) C B.2.1 q_hpI qm_L_40 qv_X11_list dL_list_4 rfl rfl (Nat.le_of_ble_eq_true rfl) (q_flo B.2.2.1 B.2.2.2.1 (by decide) (by decide)) (K_X11_list l0 l1) (M_X11_list (q_kap E) l0 l1) (by exact fun v4 => (q_mo_wr q_mo_rt)) (by exact fun x4 => (q_mo_br q_mo_rt q_mo_no)) h (fun v4 σ h => ?_) (fun N4 q4 σ h => ?_)
  · refine q_W.st (st' := [q_I v4, q_I (0 : Int32), q_R l2]) rfl ?_
    refine q_i2l (pc := 7) C dL_list_7 ?_
    refine q_stL (pc := 8) C dL_list_8 h (fun M8 h => ?_)
    refine q_goto (pc := 9) (tgt := 15) C dL_list_9 (by decide) ?_
    refine q_iconst (pc := 15) (v := (0 : Int32)) C dL_list_15 (by decide) ?_
    exact q_iret C B.2.2.2.2.1 dL_list_16 h
  · by_cases cx0 : N4 = "java/util/NoSuchElementException"
    · replace h := (q_br_e h).1 cx0
      subst cx0
      refine ⟨[], ⟨0, 9, 12, 34⟩, [], "java/util/NoSuchElementException", hT, (fun z hz => nomatch hz), by decide, by decide, qb_L_34, by decide +kernel, ?_⟩
      refine q_astore_n (pc := 12) (l' := [(3, q_R (some q4)), (0, q_R l0), (1, q_I l1), (2, q_R l2)]) C dL_list_12 rfl (by decide) rfl ?_
      refine q_iconst (pc := 13) (v := (1 : Int32)) C dL_list_13 (by decide) ?_
      exact q_iret C B.2.2.2.2.1 dL_list_14 h
    replace h := (q_br_e h).2 cx0
    cases h
def F_L_listing (κ : Nat → Nat) (l0 : Option Nat) (l1 : Int32) (l2 : Option Nat) : q_X Int32 :=
  q_rd (q_is l0 14) fun _ => q_cc (F_X11_listing κ l0 l1) (fun v4 => q_wr (q_sL l2 (0 : Int32) v4) (q_rt (0 : Int32))) (fun x4 => q_br (x4.1 = "java/lang/IllegalArgumentException") (q_rt (1 : Int32)) (q_no))
theorem M_L_listing (κ : Nat → Nat) (l0 : Option Nat) (l1 : Int32) (l2 : Option Nat) : q_mo (F_L_listing κ l0 l1 l2) := (q_mo_rd fun _ => q_mo_cc (M_X11_listing κ l0 l1) (fun v4 => (q_mo_wr q_mo_rt)) (fun x4 => (q_mo_br q_mo_rt q_mo_no)))
set_option maxRecDepth 100000 in
set_option maxHeartbeats 4000000 in
theorem K_L_listing {E : q_Ev} (l0 : Option Nat) (l1 : Int32) (l2 : Option Nat) : q_Ct E yL_listing (.codeWith yL_listing cL_listing 4 (some .int) [(0, 8, 11, 19)]) 7 111 [q_R l0, q_I l1, q_R l2] q_oI (F_L_listing (q_kap E) l0 l1 l2) := by
  refine q_enterH (by decide) (Nat.le_of_ble_eq_true rfl) (fun Γ σ w h B hT => ?_)
  have C := B.1
  unfold F_L_listing at h
  refine q_aload_n (pc := 0) C 2 rfl dL_listing_0 rfl ?_
  refine q_iconst (pc := 1) (v := (0 : Int32)) C dL_listing_1 (by decide) ?_
  refine q_aload_n (pc := 2) C 0 rfl dL_listing_2 rfl ?_
  refine q_iload_n (pc := 3) C 1 rfl dL_listing_3 rfl ?_
  refine q_callVc (pc := 4) (As := [q_I l1]) (st := [q_I (0 : Int32), q_R l2]) (ps := q_psL) C B.2.1 q_hpL qm_L_43 qv_X11_listing dL_listing_4 rfl rfl (Nat.le_of_ble_eq_true rfl) (q_flo B.2.2.1 B.2.2.2.1 (by decide) (by decide)) (K_X11_listing l0 l1) (M_X11_listing (q_kap E) l0 l1) (by exact fun v4 => (q_mo_wr q_mo_rt)) (by exact fun x4 => (q_mo_br q_mo_rt q_mo_no)) h (fun v4 σ h => ?_) (fun N4 q4 σ h => ?_)
  · refine q_W.st (st' := [q_L v4, q_I (0 : Int32), q_R l2]) rfl ?_
    refine q_stL (pc := 7) C dL_listing_7 h (fun M7 h => ?_)
    refine q_goto (pc := 8) (tgt := 14) C dL_listing_8 (by decide) ?_
    refine q_iconst (pc := 14) (v := (0 : Int32)) C dL_listing_14 (by decide) ?_
    exact q_iret C B.2.2.2.2.1 dL_listing_15 h
  · by_cases cx0 : N4 = "java/lang/IllegalArgumentException"
    · replace h := (q_br_e h).1 cx0
      subst cx0
      refine ⟨[], ⟨0, 8, 11, 19⟩, [], "java/lang/IllegalArgumentException", hT, (fun z hz => nomatch hz), by decide, by decide, qb_L_19, by decide +kernel, ?_⟩
      refine q_astore_n (pc := 11) (l' := [(3, q_R (some q4)), (0, q_R l0), (1, q_I l1), (2, q_R l2)]) C dL_listing_11 rfl (by decide) rfl ?_
      refine q_iconst (pc := 12) (v := (1 : Int32)) C dL_listing_12 (by decide) ?_
      exact q_iret C B.2.2.2.2.1 dL_listing_13 h
    replace h := (q_br_e h).2 cx0
    cases h
def F_L_quote (κ : Nat → Nat) (l0 : Option Nat) (l1 : Option Nat) : q_X Int32 :=
  q_rd (q_is l0 14) fun _ => q_cc (F_X11_quote κ l0) (fun v3 => q_wr (q_sL l1 (0 : Int32) v3.toInt64) (q_rt (0 : Int32))) (fun x3 => q_br (x3.1 = "java/lang/IllegalStateException") (q_rt (1 : Int32)) (q_no))
theorem M_L_quote (κ : Nat → Nat) (l0 : Option Nat) (l1 : Option Nat) : q_mo (F_L_quote κ l0 l1) := (q_mo_rd fun _ => q_mo_cc (M_X11_quote κ l0) (fun v3 => (q_mo_wr q_mo_rt)) (fun x3 => (q_mo_br q_mo_rt q_mo_no)))
set_option maxRecDepth 100000 in
set_option maxHeartbeats 4000000 in
theorem K_L_quote {E : q_Ev} (l0 : Option Nat) (l1 : Option Nat) : q_Ct E yL_quote (.codeWith yL_quote cL_quote 3 (some .int) [(0, 8, 11, 13)]) 7 111 [q_R l0, q_R l1] q_oI (F_L_quote (q_kap E) l0 l1) := by
  refine q_enterH (by decide) (Nat.le_of_ble_eq_true rfl) (fun Γ σ w h B hT => ?_)
  have C := B.1
  unfold F_L_quote at h
  refine q_aload_n (pc := 0) C 1 rfl dL_quote_0 rfl ?_
  refine q_iconst (pc := 1) (v := (0 : Int32)) C dL_quote_1 (by decide) ?_
  refine q_aload_n (pc := 2) C 0 rfl dL_quote_2 rfl ?_
  refine q_callVc (pc := 3) (As := []) (st := [q_I (0 : Int32), q_R l1]) (ps := q_psI) C B.2.1 q_hpI qm_L_46 qv_X11_quote dL_quote_3 rfl rfl (Nat.le_of_ble_eq_true rfl) (q_flo B.2.2.1 B.2.2.2.1 (by decide) (by decide)) (K_X11_quote l0) (M_X11_quote (q_kap E) l0) (by exact fun v3 => (q_mo_wr q_mo_rt)) (by exact fun x3 => (q_mo_br q_mo_rt q_mo_no)) h (fun v3 σ h => ?_) (fun N3 q3 σ h => ?_)
  · refine q_W.st (st' := [q_I v3, q_I (0 : Int32), q_R l1]) rfl ?_
    refine q_i2l (pc := 6) C dL_quote_6 ?_
    refine q_stL (pc := 7) C dL_quote_7 h (fun M7 h => ?_)
    refine q_goto (pc := 8) (tgt := 14) C dL_quote_8 (by decide) ?_
    refine q_iconst (pc := 14) (v := (0 : Int32)) C dL_quote_14 (by decide) ?_
    exact q_iret C B.2.2.2.2.1 dL_quote_15 h
  · by_cases cx0 : N3 = "java/lang/IllegalStateException"
    · replace h := (q_br_e h).1 cx0
      subst cx0
      refine ⟨[], ⟨0, 8, 11, 13⟩, [], "java/lang/IllegalStateException", hT, (fun z hz => nomatch hz), by decide, by decide, qb_L_13, by decide +kernel, ?_⟩
      refine q_astore_n (pc := 11) (l' := [(2, q_R (some q3)), (0, q_R l0), (1, q_R l1)]) C dL_quote_11 rfl (by decide) rfl ?_
      refine q_iconst (pc := 12) (v := (1 : Int32)) C dL_quote_12 (by decide) ?_
      exact q_iret C B.2.2.2.2.1 dL_quote_13 h
    replace h := (q_br_e h).2 cx0
    cases h
def F_L_told (κ : Nat → Nat) (l0 : Option Nat) (l1 : Int32) (l2 : Int32) (l3 : Option Nat) : q_X Int32 :=
  q_rd (q_is l0 14) fun _ => q_cc (F_X11_told κ l0 l1 l2) (fun v5 => q_wr (q_sL l3 (0 : Int32) v5) (q_rt (0 : Int32))) (fun x5 => q_br (x5.1 = "java/lang/IndexOutOfBoundsException") (q_rt (1 : Int32)) (q_br (x5.1 = "java/lang/IllegalArgumentException") (q_rt (2 : Int32)) (q_no)))
theorem M_L_told (κ : Nat → Nat) (l0 : Option Nat) (l1 : Int32) (l2 : Int32) (l3 : Option Nat) : q_mo (F_L_told κ l0 l1 l2 l3) := (q_mo_rd fun _ => q_mo_cc (M_X11_told κ l0 l1 l2) (fun v5 => (q_mo_wr q_mo_rt)) (fun x5 => (q_mo_br q_mo_rt (q_mo_br q_mo_rt q_mo_no))))
set_option maxRecDepth 100000 in
set_option maxHeartbeats 4000000 in
theorem K_L_told {E : q_Ev} (l0 : Option Nat) (l1 : Int32) (l2 : Int32) (l3 : Option Nat) : q_Ct E yL_told (.codeWith yL_told cL_told 5 (some .int) [(0, 9, 12, 53), (0, 9, 16, 19)]) 7 113 [q_R l0, q_I l1, q_I l2, q_R l3] q_oI (F_L_told (q_kap E) l0 l1 l2 l3) := by
  refine q_enterH (by decide) (Nat.le_of_ble_eq_true rfl) (fun Γ σ w h B hT => ?_)
  have C := B.1
  unfold F_L_told at h
  refine q_aload_n (pc := 0) C 3 rfl dL_told_0 rfl ?_
  refine q_iconst (pc := 1) (v := (0 : Int32)) C dL_told_1 (by decide) ?_
  refine q_aload_n (pc := 2) C 0 rfl dL_told_2 rfl ?_
  refine q_iload_n (pc := 3) C 1 rfl dL_told_3 rfl ?_
  refine q_iload_n (pc := 4) C 2 rfl dL_told_4 rfl ?_
  refine q_callVc (pc := 5) (As := [q_I l1, q_I l2]) (st := [q_I (0 : Int32), q_R l3]) (ps := q_psL) C B.2.1 q_hpL qm_L_49 qv_X11_told dL_told_5 rfl rfl (Nat.le_of_ble_eq_true rfl) (q_flo B.2.2.1 B.2.2.2.1 (by decide) (by decide)) (K_X11_told l0 l1 l2) (M_X11_told (q_kap E) l0 l1 l2) (by exact fun v5 => (q_mo_wr q_mo_rt)) (by exact fun x5 => (q_mo_br q_mo_rt (q_mo_br q_mo_rt q_mo_no))) h (fun v5 σ h => ?_) (fun N5 q5 σ h => ?_)
  · refine q_W.st (st' := [q_L v5, q_I (0 : Int32), q_R l3]) rfl ?_
    refine q_stL (pc := 8) C dL_told_8 h (fun M8 h => ?_)
    refine q_goto (pc := 9) (tgt := 20) C dL_told_9 (by decide) ?_
    refine q_iconst (pc := 20) (v := (0 : Int32)) C dL_told_20 (by decide) ?_
    exact q_iret C B.2.2.2.2.1 dL_told_21 h
  · by_cases cx0 : N5 = "java/lang/IndexOutOfBoundsException"
    · replace h := (q_br_e h).1 cx0
      subst cx0
      refine ⟨[], ⟨0, 9, 12, 53⟩, [⟨0, 9, 16, 19⟩], "java/lang/IndexOutOfBoundsException", hT, (fun z hz => nomatch hz), by decide, by decide, qb_L_53, by decide +kernel, ?_⟩
      refine q_astore (pc := 12) (l' := [(4, q_R (some q5)), (0, q_R l0), (1, q_I l1), (2, q_I l2), (3, q_R l3)]) C dL_told_12 (by decide) rfl ?_
      refine q_iconst (pc := 14) (v := (1 : Int32)) C dL_told_14 (by decide) ?_
      exact q_iret C B.2.2.2.2.1 dL_told_15 h
    replace h := (q_br_e h).2 cx0
    by_cases cx1 : N5 = "java/lang/IllegalArgumentException"
    · replace h := (q_br_e h).1 cx1
      subst cx1
      refine ⟨[⟨0, 9, 12, 53⟩], ⟨0, 9, 16, 19⟩, [], "java/lang/IllegalArgumentException", hT, (fun z hz => by cases List.mem_singleton.mp hz; exact Or.inr ⟨by decide, "java/lang/IndexOutOfBoundsException", qb_L_53, by decide +kernel⟩), by decide, by decide, qb_L_19, by decide +kernel, ?_⟩
      refine q_astore (pc := 16) (l' := [(4, q_R (some q5)), (0, q_R l0), (1, q_I l1), (2, q_I l2), (3, q_R l3)]) C dL_told_16 (by decide) rfl ?_
      refine q_iconst (pc := 18) (v := (2 : Int32)) C dL_told_18 (by decide) ?_
      exact q_iret C B.2.2.2.2.1 dL_told_19 h
    replace h := (q_br_e h).2 cx1
    cases h
def F_L_overlap_16 (κ : Nat → Nat) (s0 : Option Nat) (s1 : Int32) (s2 : Int64) : q_X Int32 :=
  q_wr (q_sL s0 s1 s2) (q_rt (0 : Int32))
theorem M_L_overlap_16 (κ : Nat → Nat) (s0 : Option Nat) (s1 : Int32) (s2 : Int64) : q_mo (F_L_overlap_16 κ s0 s1 s2) := (q_mo_wr q_mo_rt)
theorem N_L_overlap_16 (κ : Nat → Nat) (s0 : Option Nat) (s1 : Int32) (s2 : Int64) : q_ni (F_L_overlap_16 κ s0 s1 s2) := (q_ni_wr q_ni_rt)
set_option maxRecDepth 100000 in
set_option maxHeartbeats 4000000 in
theorem S_L_overlap_16 {E : q_Ev} {Γ : q_Gm} {w : (Int32 ⊕ q_Exn) × q_St} (B : q_Bd E Γ cL_overlap yL_overlap.cls 5 7 112 (some .int) yL_overlap.name w) (hT : (q_gc Γ).exceptionTable.toList = tableOf [(0, 17, 20, 53)]) (s0 : Option Nat) (s1 : Int32) (s2 : Int64) (σ : q_St) (h : F_L_overlap_16 (q_kap E) s0 s1 s2 σ = some w) : q_W E Γ (q_QF E Γ q_oI w) 5 σ 16 [] [q_L s2, q_I s1, q_R s0] := by
  have C := B.1
  unfold F_L_overlap_16 at h
  refine q_stL (pc := 16) C dL_overlap_16 h (fun M16 h => ?_)
  refine q_goto (pc := 17) (tgt := 24) C dL_overlap_17 (by decide) ?_
  refine q_iconst (pc := 24) (v := (0 : Int32)) C dL_overlap_24 (by decide) ?_
  exact q_iret C B.2.2.2.2.1 dL_overlap_25 h
def F_L_overlap (κ : Nat → Nat) (l0 : Option Nat) (l1 : Int32) (l2 : Int32) (l3 : Option Nat) : q_X Int32 :=
  q_rd (q_is l0 14) fun _ => q_cc (F_X11_overlap κ l0 l1 l2) (fun v5 => q_br (v5 = 0) (F_L_overlap_16 κ l3 (0 : Int32) (0 : Int64)) (F_L_overlap_16 κ l3 (0 : Int32) (1 : Int64))) (fun x5 => q_br (x5.1 = "java/lang/IndexOutOfBoundsException") (q_rt (1 : Int32)) (q_no))
theorem M_L_overlap (κ : Nat → Nat) (l0 : Option Nat) (l1 : Int32) (l2 : Int32) (l3 : Option Nat) : q_mo (F_L_overlap κ l0 l1 l2 l3) := (q_mo_rd fun _ => q_mo_cc (M_X11_overlap κ l0 l1 l2) (fun v5 => (q_mo_br (M_L_overlap_16 κ l3 (0 : Int32) (0 : Int64)) (M_L_overlap_16 κ l3 (0 : Int32) (1 : Int64)))) (fun x5 => (q_mo_br q_mo_rt q_mo_no)))
set_option maxRecDepth 100000 in
set_option maxHeartbeats 4000000 in
theorem K_L_overlap {E : q_Ev} (l0 : Option Nat) (l1 : Int32) (l2 : Int32) (l3 : Option Nat) : q_Ct E yL_overlap (.codeWith yL_overlap cL_overlap 5 (some .int) [(0, 17, 20, 53)]) 7 112 [q_R l0, q_I l1, q_I l2, q_R l3] q_oI (F_L_overlap (q_kap E) l0 l1 l2 l3) := by
  refine q_enterH (by decide) (Nat.le_of_ble_eq_true rfl) (fun Γ σ w h B hT => ?_)
  have C := B.1
  unfold F_L_overlap at h
  refine q_aload_n (pc := 0) C 3 rfl dL_overlap_0 rfl ?_
  refine q_iconst (pc := 1) (v := (0 : Int32)) C dL_overlap_1 (by decide) ?_
  refine q_aload_n (pc := 2) C 0 rfl dL_overlap_2 rfl ?_
  refine q_iload_n (pc := 3) C 1 rfl dL_overlap_3 rfl ?_
  refine q_iload_n (pc := 4) C 2 rfl dL_overlap_4 rfl ?_
  refine q_callVc (pc := 5) (As := [q_I l1, q_I l2]) (st := [q_I (0 : Int32), q_R l3]) (ps := q_psI) C B.2.1 q_hpI qm_L_55 qv_X11_overlap dL_overlap_5 rfl rfl (Nat.le_of_ble_eq_true rfl) (q_flo B.2.2.1 B.2.2.2.1 (by decide) (by decide)) (K_X11_overlap l0 l1 l2) (M_X11_overlap (q_kap E) l0 l1 l2) (by exact fun v5 => (q_mo_br (M_L_overlap_16 (q_kap E) l3 (0 : Int32) (0 : Int64)) (M_L_overlap_16 (q_kap E) l3 (0 : Int32) (1 : Int64)))) (by exact fun x5 => (q_mo_br q_mo_rt q_mo_no)) h (fun v5 σ h => ?_) (fun N5 q5 σ h => ?_)
  · refine q_W.st (st' := [q_I v5, q_I (0 : Int32), q_R l3]) rfl ?_
    refine q_if_eq (pc := 8) (tgt := 15) C dL_overlap_8 (by decide) h (fun _ h => ?_) (fun _ h => ?_)
    · refine q_lconst (pc := 15) (v := (0 : Int64)) C dL_overlap_15 (by decide) ?_
      refine q_W.sub [] rfl ?_
      exact S_L_overlap_16 B hT l3 (0 : Int32) (0 : Int64) _ h
    · refine q_lconst (pc := 11) (v := (1 : Int64)) C dL_overlap_11 (by decide) ?_
      refine q_goto (pc := 12) (tgt := 16) C dL_overlap_12 (by decide) ?_
      refine q_W.sub [] rfl ?_
      exact S_L_overlap_16 B hT l3 (0 : Int32) (1 : Int64) _ h
  · by_cases cx0 : N5 = "java/lang/IndexOutOfBoundsException"
    · replace h := (q_br_e h).1 cx0
      subst cx0
      refine ⟨[], ⟨0, 17, 20, 53⟩, [], "java/lang/IndexOutOfBoundsException", hT, (fun z hz => nomatch hz), by decide, by decide, qb_L_53, by decide +kernel, ?_⟩
      refine q_astore (pc := 20) (l' := [(4, q_R (some q5)), (0, q_R l0), (1, q_I l1), (2, q_I l2), (3, q_R l3)]) C dL_overlap_20 (by decide) rfl ?_
      refine q_iconst (pc := 22) (v := (1 : Int32)) C dL_overlap_22 (by decide) ?_
      exact q_iret C B.2.2.2.2.1 dL_overlap_23 h
    replace h := (q_br_e h).2 cx0
    cases h
def F_L_count (κ : Nat → Nat) (l0 : Option Nat) (l1 : Int32) (l2 : Option Nat) : q_X Int32 :=
  q_rd (q_is l0 14) fun _ => q_cc (F_X11_count κ l0 l1) (fun v4 => q_wr (q_sL l2 (0 : Int32) v4.toInt64) (q_rt (0 : Int32))) (fun x4 => q_br (x4.1 = "java/lang/IllegalArgumentException") (q_rt (1 : Int32)) (q_no))
theorem M_L_count (κ : Nat → Nat) (l0 : Option Nat) (l1 : Int32) (l2 : Option Nat) : q_mo (F_L_count κ l0 l1 l2) := (q_mo_rd fun _ => q_mo_cc (M_X11_count κ l0 l1) (fun v4 => (q_mo_wr q_mo_rt)) (fun x4 => (q_mo_br q_mo_rt q_mo_no)))
set_option maxRecDepth 100000 in
set_option maxHeartbeats 4000000 in
theorem K_L_count {E : q_Ev} (l0 : Option Nat) (l1 : Int32) (l2 : Option Nat) : q_Ct E yL_count (.codeWith yL_count cL_count 4 (some .int) [(0, 9, 12, 19)]) 7 111 [q_R l0, q_I l1, q_R l2] q_oI (F_L_count (q_kap E) l0 l1 l2) := by
  refine q_enterH (by decide) (Nat.le_of_ble_eq_true rfl) (fun Γ σ w h B hT => ?_)
  have C := B.1
  unfold F_L_count at h
  refine q_aload_n (pc := 0) C 2 rfl dL_count_0 rfl ?_
  refine q_iconst (pc := 1) (v := (0 : Int32)) C dL_count_1 (by decide) ?_
  refine q_aload_n (pc := 2) C 0 rfl dL_count_2 rfl ?_
  refine q_iload_n (pc := 3) C 1 rfl dL_count_3 rfl ?_
  refine q_callVc (pc := 4) (As := [q_I l1]) (st := [q_I (0 : Int32), q_R l2]) (ps := q_psI) C B.2.1 q_hpI qm_L_59 qv_X11_count dL_count_4 rfl rfl (Nat.le_of_ble_eq_true rfl) (q_flo B.2.2.1 B.2.2.2.1 (by decide) (by decide)) (K_X11_count l0 l1) (M_X11_count (q_kap E) l0 l1) (by exact fun v4 => (q_mo_wr q_mo_rt)) (by exact fun x4 => (q_mo_br q_mo_rt q_mo_no)) h (fun v4 σ h => ?_) (fun N4 q4 σ h => ?_)
  · refine q_W.st (st' := [q_I v4, q_I (0 : Int32), q_R l2]) rfl ?_
    refine q_i2l (pc := 7) C dL_count_7 ?_
    refine q_stL (pc := 8) C dL_count_8 h (fun M8 h => ?_)
    refine q_goto (pc := 9) (tgt := 15) C dL_count_9 (by decide) ?_
    refine q_iconst (pc := 15) (v := (0 : Int32)) C dL_count_15 (by decide) ?_
    exact q_iret C B.2.2.2.2.1 dL_count_16 h
  · by_cases cx0 : N4 = "java/lang/IllegalArgumentException"
    · replace h := (q_br_e h).1 cx0
      subst cx0
      refine ⟨[], ⟨0, 9, 12, 19⟩, [], "java/lang/IllegalArgumentException", hT, (fun z hz => nomatch hz), by decide, by decide, qb_L_19, by decide +kernel, ?_⟩
      refine q_astore_n (pc := 12) (l' := [(3, q_R (some q4)), (0, q_R l0), (1, q_I l1), (2, q_R l2)]) C dL_count_12 rfl (by decide) rfl ?_
      refine q_iconst (pc := 13) (v := (1 : Int32)) C dL_count_13 (by decide) ?_
      exact q_iret C B.2.2.2.2.1 dL_count_14 h
    replace h := (q_br_e h).2 cx0
    cases h
