def F_X10_addRow_26 (κ : Nat → Nat) (l1 : Int32) (l2 : Int32) (s0 : Option Nat) (s1 : Int32) : q_X Unit :=
  q_rd (q_is s0 13) fun _ => q_ca (F_X10_addToken κ s0 s1 l1 l2 (-1 : Int64)) fun _v31 => q_rt ()
theorem M_X10_addRow_26 (κ : Nat → Nat) (l1 : Int32) (l2 : Int32) (s0 : Option Nat) (s1 : Int32) : q_mo (F_X10_addRow_26 κ l1 l2 s0 s1) := (q_mo_rd fun _ => q_mo_ca (M_X10_addToken κ s0 s1 l1 l2 (-1 : Int64)) fun _v31 => q_mo_rt)
theorem N_X10_addRow_26 (κ : Nat → Nat) (l1 : Int32) (l2 : Int32) (s0 : Option Nat) (s1 : Int32) : q_ni (F_X10_addRow_26 κ l1 l2 s0 s1) := (q_ni_rd fun _ => q_ni_ca (N_X10_addToken κ s0 s1 l1 l2 (-1 : Int64)) fun _v31 => q_ni_rt)
set_option maxRecDepth 100000 in
set_option maxHeartbeats 4000000 in
theorem S_X10_addRow_26 {E : q_Ev} {Γ : q_Gm} {w : (Unit ⊕ q_Exn) × q_St} (B : q_Bd E Γ cX10_addRow yX10_addRow.cls 6 2 48 (none) yX10_addRow.name w) (hT : q_nT Γ) (l1 : Int32) (l2 : Int32) (s0 : Option Nat) (s1 : Int32) (σ : q_St) (h : F_X10_addRow_26 (q_kap E) l1 l2 s0 s1 σ = some w) : q_W E Γ (q_QF E Γ q_oV w) 6 σ 26 [(1, q_I l1), (2, q_I l2)] [q_I s1, q_R s0] := by
  have C := B.1
  unfold F_X10_addRow_26 at h
  refine q_iload_n (pc := 26) C 0 rfl dX10_addRow_26 rfl ?_
  refine q_iload_n (pc := 27) C 1 rfl dX10_addRow_27 rfl ?_
  refine q_ldc2 (pc := 28) (v := (-1 : Int64)) C dX10_addRow_28 qc_X10_75 ?_
  refine q_callV (pc := 31) (As := [q_I s1, q_I l1, q_I l2, q_L (-1 : Int64)]) (st := []) (ps := q_psV) C B.2.1 hT q_hpV qm_X10_55 qv_X10_addToken dX10_addRow_31 rfl rfl (Nat.le_of_ble_eq_true rfl) (q_flo B.2.2.1 B.2.2.2.1 (by decide) (by decide)) (K_X10_addToken s0 s1 l1 l2 (-1 : Int64)) (M_X10_addToken (q_kap E) s0 s1 l1 l2 (-1 : Int64)) (by exact fun _v31 => q_mo_rt) h (fun _v31 σ h => ?_)
  refine q_W.st (st' := []) rfl ?_
  exact q_vret C B.2.2.2.2.1 dX10_addRow_34 h
def F_X10_addRow_116 (κ : Nat → Nat) (l1 : Int32) (l2 : Int32) (l4 : Int64) (s0 : Option Nat) (s1 : Int32) : q_X Unit :=
  q_rd (q_is s0 13) fun _ => q_ca (F_X10_addToken κ s0 s1 l1 l2 l4) fun _v120 => q_rt ()
theorem M_X10_addRow_116 (κ : Nat → Nat) (l1 : Int32) (l2 : Int32) (l4 : Int64) (s0 : Option Nat) (s1 : Int32) : q_mo (F_X10_addRow_116 κ l1 l2 l4 s0 s1) := (q_mo_rd fun _ => q_mo_ca (M_X10_addToken κ s0 s1 l1 l2 l4) fun _v120 => q_mo_rt)
theorem N_X10_addRow_116 (κ : Nat → Nat) (l1 : Int32) (l2 : Int32) (l4 : Int64) (s0 : Option Nat) (s1 : Int32) : q_ni (F_X10_addRow_116 κ l1 l2 l4 s0 s1) := (q_ni_rd fun _ => q_ni_ca (N_X10_addToken κ s0 s1 l1 l2 l4) fun _v120 => q_ni_rt)
set_option maxRecDepth 100000 in
set_option maxHeartbeats 4000000 in
theorem S_X10_addRow_116 {E : q_Ev} {Γ : q_Gm} {w : (Unit ⊕ q_Exn) × q_St} (B : q_Bd E Γ cX10_addRow yX10_addRow.cls 6 2 48 (none) yX10_addRow.name w) (hT : q_nT Γ) (l1 : Int32) (l2 : Int32) (l4 : Int64) (s0 : Option Nat) (s1 : Int32) (σ : q_St) (h : F_X10_addRow_116 (q_kap E) l1 l2 l4 s0 s1 σ = some w) : q_W E Γ (q_QF E Γ q_oV w) 6 σ 116 [(1, q_I l1), (2, q_I l2), (4, q_L l4)] [q_I s1, q_R s0] := by
  have C := B.1
  unfold F_X10_addRow_116 at h
  refine q_iload_n (pc := 116) C 0 rfl dX10_addRow_116 rfl ?_
  refine q_iload_n (pc := 117) C 1 rfl dX10_addRow_117 rfl ?_
  refine q_lload (pc := 118) C 2 rfl dX10_addRow_118 ?_
  refine q_callV (pc := 120) (As := [q_I s1, q_I l1, q_I l2, q_L l4]) (st := []) (ps := q_psV) C B.2.1 hT q_hpV qm_X10_55 qv_X10_addToken dX10_addRow_120 rfl rfl (Nat.le_of_ble_eq_true rfl) (q_flo B.2.2.1 B.2.2.2.1 (by decide) (by decide)) (K_X10_addToken s0 s1 l1 l2 l4) (M_X10_addToken (q_kap E) s0 s1 l1 l2 l4) (by exact fun _v120 => q_mo_rt) h (fun _v120 σ h => ?_)
  refine q_W.st (st' := []) rfl ?_
  exact q_vret C B.2.2.2.2.1 dX10_addRow_123 h
def F_X10_addRow_101 (κ : Nat → Nat) (l0 : Option Nat) (l1 : Int32) (l2 : Int32) (s0 : Int64) : q_X Unit :=
  q_br (0 ≤ (lg_cmp s0 (0 : Int64))) (F_X10_addRow_116 κ l1 l2 s0 l0 (2 : Int32)) (F_X10_addRow_116 κ l1 l2 s0 l0 (0 : Int32))
theorem M_X10_addRow_101 (κ : Nat → Nat) (l0 : Option Nat) (l1 : Int32) (l2 : Int32) (s0 : Int64) : q_mo (F_X10_addRow_101 κ l0 l1 l2 s0) := (q_mo_br (M_X10_addRow_116 κ l1 l2 s0 l0 (2 : Int32)) (M_X10_addRow_116 κ l1 l2 s0 l0 (0 : Int32)))
theorem N_X10_addRow_101 (κ : Nat → Nat) (l0 : Option Nat) (l1 : Int32) (l2 : Int32) (s0 : Int64) : q_ni (F_X10_addRow_101 κ l0 l1 l2 s0) := (q_ni_br (N_X10_addRow_116 κ l1 l2 s0 l0 (2 : Int32)) (N_X10_addRow_116 κ l1 l2 s0 l0 (0 : Int32)))
set_option maxRecDepth 100000 in
set_option maxHeartbeats 4000000 in
theorem S_X10_addRow_101 {E : q_Ev} {Γ : q_Gm} {w : (Unit ⊕ q_Exn) × q_St} (B : q_Bd E Γ cX10_addRow yX10_addRow.cls 6 2 48 (none) yX10_addRow.name w) (hT : q_nT Γ) (l0 : Option Nat) (l1 : Int32) (l2 : Int32) (s0 : Int64) (σ : q_St) (h : F_X10_addRow_101 (q_kap E) l0 l1 l2 s0 σ = some w) : q_W E Γ (q_QF E Γ q_oV w) 6 σ 101 [(0, q_R l0), (1, q_I l1), (2, q_I l2)] [q_L s0] := by
  have C := B.1
  unfold F_X10_addRow_101 at h
  refine q_lstore (pc := 101) (l' := [(4, q_L s0), (0, q_R l0), (1, q_I l1), (2, q_I l2)]) C dX10_addRow_101 (by decide) rfl ?_
  refine q_aload_n (pc := 103) C 1 rfl dX10_addRow_103 rfl ?_
  refine q_lload (pc := 104) C 0 rfl dX10_addRow_104 ?_
  refine q_lconst (pc := 106) (v := (0 : Int64)) C dX10_addRow_106 (by decide) ?_
  refine q_lcmp (pc := 107) C dX10_addRow_107 ?_
  refine q_if_ge (pc := 108) (tgt := 115) C dX10_addRow_108 (by decide) h (fun _ h => ?_) (fun _ h => ?_)
  · refine q_iconst (pc := 115) (v := (2 : Int32)) C dX10_addRow_115 (by decide) ?_
    refine q_W.sub [2, 3, 0] rfl ?_
    exact S_X10_addRow_116 B hT l1 l2 s0 l0 (2 : Int32) _ h
  · refine q_iconst (pc := 111) (v := (0 : Int32)) C dX10_addRow_111 (by decide) ?_
    refine q_goto (pc := 112) (tgt := 116) C dX10_addRow_112 (by decide) ?_
    refine q_W.sub [2, 3, 0] rfl ?_
    exact S_X10_addRow_116 B hT l1 l2 s0 l0 (0 : Int32) _ h
def F_X10_addRow_71 (κ : Nat → Nat) (l0 : Option Nat) (l1 : Int32) (l2 : Int32) (s0 : Int32) : q_X Unit :=
  q_br (s0 = 0) (q_rd (q_is l0 13) fun _ => q_ca (F_X10_valueOf κ l0 l1 l2 (10 : Int32) (10 : Int32)) fun v98 => F_X10_addRow_101 κ l0 l1 l2 v98) (q_rd (q_is l0 13) fun _ => q_ca (F_X10_valueOf κ l0 (l1 + (2 : Int32)) l2 (16 : Int32) (8 : Int32)) fun v85 => F_X10_addRow_101 κ l0 l1 l2 v85)
theorem M_X10_addRow_71 (κ : Nat → Nat) (l0 : Option Nat) (l1 : Int32) (l2 : Int32) (s0 : Int32) : q_mo (F_X10_addRow_71 κ l0 l1 l2 s0) := (q_mo_br (q_mo_rd fun _ => q_mo_ca (M_X10_valueOf κ l0 l1 l2 (10 : Int32) (10 : Int32)) fun v98 => (M_X10_addRow_101 κ l0 l1 l2 v98)) (q_mo_rd fun _ => q_mo_ca (M_X10_valueOf κ l0 (l1 + (2 : Int32)) l2 (16 : Int32) (8 : Int32)) fun v85 => (M_X10_addRow_101 κ l0 l1 l2 v85)))
set_option maxRecDepth 100000 in
set_option maxHeartbeats 4000000 in
theorem S_X10_addRow_71 {E : q_Ev} {Γ : q_Gm} {w : (Unit ⊕ q_Exn) × q_St} (B : q_Bd E Γ cX10_addRow yX10_addRow.cls 6 2 48 (none) yX10_addRow.name w) (hT : q_nT Γ) (l0 : Option Nat) (l1 : Int32) (l2 : Int32) (s0 : Int32) (σ : q_St) (h : F_X10_addRow_71 (q_kap E) l0 l1 l2 s0 σ = some w) : q_W E Γ (q_QF E Γ q_oV w) 6 σ 71 [(0, q_R l0), (1, q_I l1), (2, q_I l2)] [q_I s0] := by
  have C := B.1
  unfold F_X10_addRow_71 at h
  refine q_istore_n (pc := 71) (l' := [(3, q_I s0), (0, q_R l0), (1, q_I l1), (2, q_I l2)]) C dX10_addRow_71 rfl (by decide) rfl ?_
  refine q_iload_n (pc := 72) C 0 rfl dX10_addRow_72 rfl ?_
  refine q_if_eq (pc := 73) (tgt := 91) C dX10_addRow_73 (by decide) h (fun _ h => ?_) (fun _ h => ?_)
  · refine q_aload_n (pc := 91) C 1 rfl dX10_addRow_91 rfl ?_
    refine q_iload_n (pc := 92) C 2 rfl dX10_addRow_92 rfl ?_
    refine q_iload_n (pc := 93) C 3 rfl dX10_addRow_93 rfl ?_
    refine q_bipush (pc := 94) (v := (10 : Int32)) C dX10_addRow_94 (by decide) ?_
    refine q_bipush (pc := 96) (v := (10 : Int32)) C dX10_addRow_96 (by decide) ?_
    refine q_callV (pc := 98) (As := [q_I l1, q_I l2, q_I (10 : Int32), q_I (10 : Int32)]) (st := []) (ps := q_psL) C B.2.1 hT q_hpL qm_X10_77 qv_X10_valueOf dX10_addRow_98 rfl rfl (Nat.le_of_ble_eq_true rfl) (q_flo B.2.2.1 B.2.2.2.1 (by decide) (by decide)) (K_X10_valueOf l0 l1 l2 (10 : Int32) (10 : Int32)) (M_X10_valueOf (q_kap E) l0 l1 l2 (10 : Int32) (10 : Int32)) (by exact fun v98 => (M_X10_addRow_101 (q_kap E) l0 l1 l2 v98)) h (fun v98 σ h => ?_)
    refine q_W.st (st' := [q_L v98]) rfl ?_
    refine q_W.sub [1, 2, 3] rfl ?_
    exact S_X10_addRow_101 B hT l0 l1 l2 v98 _ h
  · refine q_aload_n (pc := 76) C 1 rfl dX10_addRow_76 rfl ?_
    refine q_iload_n (pc := 77) C 2 rfl dX10_addRow_77 rfl ?_
    refine q_iconst (pc := 78) (v := (2 : Int32)) C dX10_addRow_78 (by decide) ?_
    refine q_iadd (pc := 79) C dX10_addRow_79 ?_
    refine q_iload_n (pc := 80) C 3 rfl dX10_addRow_80 rfl ?_
    refine q_bipush (pc := 81) (v := (16 : Int32)) C dX10_addRow_81 (by decide) ?_
    refine q_bipush (pc := 83) (v := (8 : Int32)) C dX10_addRow_83 (by decide) ?_
    refine q_callV (pc := 85) (As := [q_I (l1 + (2 : Int32)), q_I l2, q_I (16 : Int32), q_I (8 : Int32)]) (st := []) (ps := q_psL) C B.2.1 hT q_hpL qm_X10_77 qv_X10_valueOf dX10_addRow_85 rfl rfl (Nat.le_of_ble_eq_true rfl) (q_flo B.2.2.1 B.2.2.2.1 (by decide) (by decide)) (K_X10_valueOf l0 (l1 + (2 : Int32)) l2 (16 : Int32) (8 : Int32)) (M_X10_valueOf (q_kap E) l0 (l1 + (2 : Int32)) l2 (16 : Int32) (8 : Int32)) (by exact fun v85 => (M_X10_addRow_101 (q_kap E) l0 l1 l2 v85)) h (fun v85 σ h => ?_)
    refine q_W.st (st' := [q_L v85]) rfl ?_
    refine q_goto (pc := 88) (tgt := 101) C dX10_addRow_88 (by decide) ?_
    refine q_W.sub [1, 2, 3] rfl ?_
    exact S_X10_addRow_101 B hT l0 l1 l2 v85 _ h
def F_X10_addRow_70 (κ : Nat → Nat) (l0 : Option Nat) (l1 : Int32) (l2 : Int32) : q_X Unit :=
  F_X10_addRow_71 κ l0 l1 l2 (0 : Int32)
theorem M_X10_addRow_70 (κ : Nat → Nat) (l0 : Option Nat) (l1 : Int32) (l2 : Int32) : q_mo (F_X10_addRow_70 κ l0 l1 l2) := (M_X10_addRow_71 κ l0 l1 l2 (0 : Int32))
set_option maxRecDepth 100000 in
set_option maxHeartbeats 4000000 in
theorem S_X10_addRow_70 {E : q_Ev} {Γ : q_Gm} {w : (Unit ⊕ q_Exn) × q_St} (B : q_Bd E Γ cX10_addRow yX10_addRow.cls 6 2 48 (none) yX10_addRow.name w) (hT : q_nT Γ) (l0 : Option Nat) (l1 : Int32) (l2 : Int32) (σ : q_St) (h : F_X10_addRow_70 (q_kap E) l0 l1 l2 σ = some w) : q_W E Γ (q_QF E Γ q_oV w) 6 σ 70 [(0, q_R l0), (1, q_I l1), (2, q_I l2)] [] := by
  have C := B.1
  unfold F_X10_addRow_70 at h
  refine q_iconst (pc := 70) (v := (0 : Int32)) C dX10_addRow_70 (by decide) ?_
  exact S_X10_addRow_71 B hT l0 l1 l2 (0 : Int32) _ h
def F_X10_addRow (κ : Nat → Nat) (l0 : Option Nat) (l1 : Int32) (l2 : Int32) : q_X Unit :=
  q_rd (q_gA l0 13 0) fun v1 => q_rd (q_lI 0 v1 l1) fun v5 => q_ca (F_X10_isDigit κ v5) fun v6 => q_br (¬ v6 = 0) (q_br ((l2 - l1) ≤ (2 : Int32)) (F_X10_addRow_70 κ l0 l1 l2) (q_rd (q_gA l0 13 0) fun v43 => q_rd (q_lI 0 v43 l1) fun v47 => q_br (¬ v47 = (48 : Int32)) (F_X10_addRow_70 κ l0 l1 l2) (q_rd (q_gA l0 13 0) fun v54 => q_rd (q_lI 0 v54 (l1 + (1 : Int32))) fun v60 => q_br (¬ v60 = (120 : Int32)) (F_X10_addRow_70 κ l0 l1 l2) (F_X10_addRow_71 κ l0 l1 l2 (1 : Int32))))) (q_br ((20 : Int32) < (l2 - l1)) (F_X10_addRow_26 κ l1 l2 l0 (0 : Int32)) (F_X10_addRow_26 κ l1 l2 l0 (1 : Int32)))
theorem M_X10_addRow (κ : Nat → Nat) (l0 : Option Nat) (l1 : Int32) (l2 : Int32) : q_mo (F_X10_addRow κ l0 l1 l2) := (q_mo_rd fun v1 => (q_mo_rd fun v5 => (q_mo_ca (M_X10_isDigit κ v5) fun v6 => (q_mo_br (q_mo_br (M_X10_addRow_70 κ l0 l1 l2) (q_mo_rd fun v43 => (q_mo_rd fun v47 => (q_mo_br (M_X10_addRow_70 κ l0 l1 l2) (q_mo_rd fun v54 => (q_mo_rd fun v60 => (q_mo_br (M_X10_addRow_70 κ l0 l1 l2) (M_X10_addRow_71 κ l0 l1 l2 (1 : Int32))))))))) (q_mo_br (M_X10_addRow_26 κ l1 l2 l0 (0 : Int32)) (M_X10_addRow_26 κ l1 l2 l0 (1 : Int32)))))))
set_option maxRecDepth 100000 in
set_option maxHeartbeats 4000000 in
theorem K_X10_addRow {E : q_Ev} (l0 : Option Nat) (l1 : Int32) (l2 : Int32) : q_Ct E yX10_addRow (.code yX10_addRow cX10_addRow 6 (none)) 2 48 [q_R l0, q_I l1, q_I l2] q_oV (F_X10_addRow (q_kap E) l0 l1 l2) := by
  refine q_enter (by decide) (Nat.le_of_ble_eq_true rfl) (fun Γ σ w h B hT => ?_)
  have C := B.1
  unfold F_X10_addRow at h
  refine q_aload_n (pc := 0) C 0 rfl dX10_addRow_0 rfl ?_
  refine q_getA (pc := 1) C dX10_addRow_1 ql_X10_9 h (fun v1 h => ?_)
  refine q_iload_n (pc := 4) C 1 rfl dX10_addRow_4 rfl ?_
  refine q_ldI (pc := 5) C dX10_addRow_5 (Or.inl ⟨rfl, rfl⟩) h (fun v5 h => ?_)
  refine q_callS (pc := 6) (As := [q_I v5]) (st := []) (ps := q_psI) C B.2.1 hT q_hpI qm_X10_72 qs_X10_isDigit dX10_addRow_6 rfl rfl (Nat.le_of_ble_eq_true rfl) (q_flo B.2.2.1 B.2.2.2.1 (by decide) (by decide)) (K_X10_isDigit v5) (M_X10_isDigit (q_kap E) v5) (by exact fun v6 => (q_mo_br (q_mo_br (M_X10_addRow_70 (q_kap E) l0 l1 l2) (q_mo_rd fun v43 => (q_mo_rd fun v47 => (q_mo_br (M_X10_addRow_70 (q_kap E) l0 l1 l2) (q_mo_rd fun v54 => (q_mo_rd fun v60 => (q_mo_br (M_X10_addRow_70 (q_kap E) l0 l1 l2) (M_X10_addRow_71 (q_kap E) l0 l1 l2 (1 : Int32))))))))) (q_mo_br (M_X10_addRow_26 (q_kap E) l1 l2 l0 (0 : Int32)) (M_X10_addRow_26 (q_kap E) l1 l2 l0 (1 : Int32))))) h (fun v6 σ h => ?_)
  refine q_W.st (st' := [q_I v6]) rfl ?_
  refine q_if_ne (pc := 9) (tgt := 35) C dX10_addRow_9 (by decide) h (fun _ h => ?_) (fun _ h => ?_)
  · refine q_iload_n (pc := 35) C 2 rfl dX10_addRow_35 rfl ?_
    refine q_iload_n (pc := 36) C 1 rfl dX10_addRow_36 rfl ?_
    refine q_isub (pc := 37) C dX10_addRow_37 ?_
    refine q_iconst (pc := 38) (v := (2 : Int32)) C dX10_addRow_38 (by decide) ?_
    refine q_icmp_le (pc := 39) (tgt := 70) C dX10_addRow_39 (by decide) h (fun _ h => ?_) (fun _ h => ?_)
    · exact S_X10_addRow_70 B hT l0 l1 l2 _ h
    · refine q_aload_n (pc := 42) C 0 rfl dX10_addRow_42 rfl ?_
      refine q_getA (pc := 43) C dX10_addRow_43 ql_X10_9 h (fun v43 h => ?_)
      refine q_iload_n (pc := 46) C 1 rfl dX10_addRow_46 rfl ?_
      refine q_ldI (pc := 47) C dX10_addRow_47 (Or.inl ⟨rfl, rfl⟩) h (fun v47 h => ?_)
      refine q_bipush (pc := 48) (v := (48 : Int32)) C dX10_addRow_48 (by decide) ?_
      refine q_icmp_ne (pc := 50) (tgt := 70) C dX10_addRow_50 (by decide) h (fun _ h => ?_) (fun _ h => ?_)
      · exact S_X10_addRow_70 B hT l0 l1 l2 _ h
      · refine q_aload_n (pc := 53) C 0 rfl dX10_addRow_53 rfl ?_
        refine q_getA (pc := 54) C dX10_addRow_54 ql_X10_9 h (fun v54 h => ?_)
        refine q_iload_n (pc := 57) C 1 rfl dX10_addRow_57 rfl ?_
        refine q_iconst (pc := 58) (v := (1 : Int32)) C dX10_addRow_58 (by decide) ?_
        refine q_iadd (pc := 59) C dX10_addRow_59 ?_
        refine q_ldI (pc := 60) C dX10_addRow_60 (Or.inl ⟨rfl, rfl⟩) h (fun v60 h => ?_)
        refine q_bipush (pc := 61) (v := (120 : Int32)) C dX10_addRow_61 (by decide) ?_
        refine q_icmp_ne (pc := 63) (tgt := 70) C dX10_addRow_63 (by decide) h (fun _ h => ?_) (fun _ h => ?_)
        · exact S_X10_addRow_70 B hT l0 l1 l2 _ h
        · refine q_iconst (pc := 66) (v := (1 : Int32)) C dX10_addRow_66 (by decide) ?_
          refine q_goto (pc := 67) (tgt := 71) C dX10_addRow_67 (by decide) ?_
          exact S_X10_addRow_71 B hT l0 l1 l2 (1 : Int32) _ h
  · refine q_aload_n (pc := 12) C 0 rfl dX10_addRow_12 rfl ?_
    refine q_iload_n (pc := 13) C 2 rfl dX10_addRow_13 rfl ?_
    refine q_iload_n (pc := 14) C 1 rfl dX10_addRow_14 rfl ?_
    refine q_isub (pc := 15) C dX10_addRow_15 ?_
    refine q_bipush (pc := 16) (v := (20 : Int32)) C dX10_addRow_16 (by decide) ?_
    refine q_icmp_gt (pc := 18) (tgt := 25) C dX10_addRow_18 (by decide) h (fun _ h => ?_) (fun _ h => ?_)
    · refine q_iconst (pc := 25) (v := (0 : Int32)) C dX10_addRow_25 (by decide) ?_
      refine q_W.sub [1, 2] rfl ?_
      exact S_X10_addRow_26 B hT l1 l2 l0 (0 : Int32) _ h
    · refine q_iconst (pc := 21) (v := (1 : Int32)) C dX10_addRow_21 (by decide) ?_
      refine q_goto (pc := 22) (tgt := 26) C dX10_addRow_22 (by decide) ?_
      refine q_W.sub [1, 2] rfl ?_
      exact S_X10_addRow_26 B hT l1 l2 l0 (1 : Int32) _ h
def F_X10_commentEnd_27 (κ : Nat → Nat) (l2 : Int32) : q_X Int32 :=
  q_rt l2
theorem M_X10_commentEnd_27 (κ : Nat → Nat) (l2 : Int32) : q_mo (F_X10_commentEnd_27 κ l2) := q_mo_rt
theorem N_X10_commentEnd_27 (κ : Nat → Nat) (l2 : Int32) : q_ni (F_X10_commentEnd_27 κ l2) := q_ni_rt
set_option maxRecDepth 100000 in
set_option maxHeartbeats 4000000 in
theorem S_X10_commentEnd_27 {E : q_Ev} {Γ : q_Gm} {w : (Int32 ⊕ q_Exn) × q_St} (B : q_Bd E Γ cX10_commentEnd yX10_commentEnd.cls 3 0 0 (some .int) yX10_commentEnd.name w) (hT : q_nT Γ) (l2 : Int32) (σ : q_St) (h : F_X10_commentEnd_27 (q_kap E) l2 σ = some w) : q_W E Γ (q_QF E Γ q_oI w) 3 σ 27 [(2, q_I l2)] [] := by
  have C := B.1
  unfold F_X10_commentEnd_27 at h
  refine q_iload_n (pc := 27) C 0 rfl dX10_commentEnd_27 rfl ?_
  exact q_iret C B.2.2.2.2.1 dX10_commentEnd_28 h
def F_X10_commentEnd_2B (κ : Nat → Nat) (r2 : Option Nat → Int32 → q_X Int32) (l0 : Option Nat) (l2 : Int32) : q_X Int32 :=
  q_rd (q_gI l0 13 5) fun v4 => q_br (v4 ≤ l2) (F_X10_commentEnd_27 κ l2) (q_rd (q_gA l0 13 0) fun v11 => q_rd (q_lI 0 v11 l2) fun v15 => q_br (v15 = (10 : Int32)) (F_X10_commentEnd_27 κ l2) (r2 l0 (l2 + (1 : Int32))))
theorem M_X10_commentEnd_2B (κ : Nat → Nat) (r2 : Option Nat → Int32 → q_X Int32) (mr2 : ∀ (l0 : Option Nat) (l2 : Int32), q_mo (r2 l0 l2)) (l0 : Option Nat) (l2 : Int32) : q_mo (F_X10_commentEnd_2B κ r2 l0 l2) := (q_mo_rd fun v4 => (q_mo_br (M_X10_commentEnd_27 κ l2) (q_mo_rd fun v11 => (q_mo_rd fun v15 => (q_mo_br (M_X10_commentEnd_27 κ l2) (mr2 l0 (l2 + (1 : Int32))))))))
set_option maxRecDepth 100000 in
set_option maxHeartbeats 4000000 in
theorem S_X10_commentEnd_2B {E : q_Ev} {Γ : q_Gm} {w : (Int32 ⊕ q_Exn) × q_St} (B : q_Bd E Γ cX10_commentEnd yX10_commentEnd.cls 3 0 0 (some .int) yX10_commentEnd.name w) (hT : q_nT Γ) (r2 : Option Nat → Int32 → q_X Int32) (hr2 : ∀ (l0 : Option Nat) (l2 : Int32) (σ : q_St), r2 l0 l2 σ = some w → q_W E Γ (q_QF E Γ q_oI w) 3 σ 2 [(0, q_R l0), (2, q_I l2)] []) (mr2 : ∀ (l0 : Option Nat) (l2 : Int32), q_mo (r2 l0 l2)) (l0 : Option Nat) (l2 : Int32) (σ : q_St) (h : F_X10_commentEnd_2B (q_kap E) r2 l0 l2 σ = some w) : q_W E Γ (q_QF E Γ q_oI w) 3 σ 2 [(0, q_R l0), (2, q_I l2)] [] := by
  have C := B.1
  unfold F_X10_commentEnd_2B at h
  refine q_iload_n (pc := 2) C 1 rfl dX10_commentEnd_2 rfl ?_
  refine q_aload_n (pc := 3) C 0 rfl dX10_commentEnd_3 rfl ?_
  refine q_getI (pc := 4) C dX10_commentEnd_4 ql_X10_29 h (fun v4 h => ?_)
  refine q_icmp_ge (pc := 7) (tgt := 27) C dX10_commentEnd_7 (by decide) h (fun _ h => ?_) (fun _ h => ?_)
  · refine q_W.sub [1] rfl ?_
    exact S_X10_commentEnd_27 B hT l2 _ h
  · refine q_aload_n (pc := 10) C 0 rfl dX10_commentEnd_10 rfl ?_
    refine q_getA (pc := 11) C dX10_commentEnd_11 ql_X10_9 h (fun v11 h => ?_)
    refine q_iload_n (pc := 14) C 1 rfl dX10_commentEnd_14 rfl ?_
    refine q_ldI (pc := 15) C dX10_commentEnd_15 (Or.inl ⟨rfl, rfl⟩) h (fun v15 h => ?_)
    refine q_bipush (pc := 16) (v := (10 : Int32)) C dX10_commentEnd_16 (by decide) ?_
    refine q_icmp_eq (pc := 18) (tgt := 27) C dX10_commentEnd_18 (by decide) h (fun _ h => ?_) (fun _ h => ?_)
    · refine q_W.sub [1] rfl ?_
      exact S_X10_commentEnd_27 B hT l2 _ h
    · refine q_iinc (pc := 21) (v := (1 : Int32)) (l' := [(2, q_I (l2 + (1 : Int32))), (0, q_R l0)]) C 1 rfl dX10_commentEnd_21 (by decide) (by decide) rfl ?_
      refine q_goto (pc := 24) (tgt := 2) C dX10_commentEnd_24 (by decide) ?_
      refine q_W.sub [1, 0] rfl ?_
      exact hr2 l0 (l2 + (1 : Int32)) _ h
def F_X10_commentEnd_2 (κ : Nat → Nat) : Nat → Option Nat → Int32 → q_X Int32
  | 0, _, _ => q_no
  | n + 1, l0, l2 => F_X10_commentEnd_2B κ (F_X10_commentEnd_2 κ n) l0 l2
theorem M_X10_commentEnd_2 (κ : Nat → Nat) : ∀ (n : Nat) (l0 : Option Nat) (l2 : Int32), q_mo (F_X10_commentEnd_2 κ n l0 l2)
  | 0, _, _ => q_mo_no
  | n + 1, l0, l2 => M_X10_commentEnd_2B κ (F_X10_commentEnd_2 κ n) (M_X10_commentEnd_2 κ n) l0 l2
theorem S_X10_commentEnd_2 {E : q_Ev} {Γ : q_Gm} {w : (Int32 ⊕ q_Exn) × q_St} (B : q_Bd E Γ cX10_commentEnd yX10_commentEnd.cls 3 0 0 (some .int) yX10_commentEnd.name w) (hT : q_nT Γ) : ∀ (n : Nat) (l0 : Option Nat) (l2 : Int32) (σ : q_St), F_X10_commentEnd_2 (q_kap E) n l0 l2 σ = some w → q_W E Γ (q_QF E Γ q_oI w) 3 σ 2 [(0, q_R l0), (2, q_I l2)] []
  | 0, _, _, _, h => by cases h
  | n + 1, l0, l2, σ, h => S_X10_commentEnd_2B B hT (F_X10_commentEnd_2 (q_kap E) n) (S_X10_commentEnd_2 B hT n) (M_X10_commentEnd_2 (q_kap E) n) l0 l2 σ h
def F_X10_commentEnd (κ : Nat → Nat) (l0 : Option Nat) (l1 : Int32) : q_X Int32 :=
  F_X10_commentEnd_2 κ q_fu l0 l1
theorem M_X10_commentEnd (κ : Nat → Nat) (l0 : Option Nat) (l1 : Int32) : q_mo (F_X10_commentEnd κ l0 l1) := (M_X10_commentEnd_2 κ q_fu l0 l1)
set_option maxRecDepth 100000 in
set_option maxHeartbeats 4000000 in
theorem K_X10_commentEnd {E : q_Ev} (l0 : Option Nat) (l1 : Int32) : q_Ct E yX10_commentEnd (.code yX10_commentEnd cX10_commentEnd 3 (some .int)) 0 0 [q_R l0, q_I l1] q_oI (F_X10_commentEnd (q_kap E) l0 l1) := by
  refine q_enter (by decide) (Nat.le_of_ble_eq_true rfl) (fun Γ σ w h B hT => ?_)
  have C := B.1
  unfold F_X10_commentEnd at h
  refine q_iload_n (pc := 0) C 1 rfl dX10_commentEnd_0 rfl ?_
  refine q_istore_n (pc := 1) (l' := [(2, q_I l1), (0, q_R l0), (1, q_I l1)]) C dX10_commentEnd_1 rfl (by decide) rfl ?_
  refine q_W.sub [1, 0] rfl ?_
  exact S_X10_commentEnd_2 B hT q_fu l0 l1 _ h
def F_X10_scan_124 (κ : Nat → Nat) (r7 : Option Nat → Int32 → Int32 → q_X Int32) (l0 : Option Nat) (l1 : Int32) (l2 : Int32) (l4 : Int32) : q_X Int32 :=
  q_ca (F_J9_max_7cf53 κ (l2 + (1 : Int32)) l4) fun v129 => r7 l0 l1 v129
theorem M_X10_scan_124 (κ : Nat → Nat) (r7 : Option Nat → Int32 → Int32 → q_X Int32) (mr7 : ∀ (l0 : Option Nat) (l1 : Int32) (l2 : Int32), q_mo (r7 l0 l1 l2)) (l0 : Option Nat) (l1 : Int32) (l2 : Int32) (l4 : Int32) : q_mo (F_X10_scan_124 κ r7 l0 l1 l2 l4) := (q_mo_ca (M_J9_max_7cf53 κ (l2 + (1 : Int32)) l4) fun v129 => (mr7 l0 l1 v129))
set_option maxRecDepth 100000 in
set_option maxHeartbeats 4000000 in
theorem S_X10_scan_124 {E : q_Ev} {Γ : q_Gm} {w : (Int32 ⊕ q_Exn) × q_St} (B : q_Bd E Γ cX10_scan yX10_scan.cls 5 4 91 (some .int) yX10_scan.name w) (hT : q_nT Γ) (r7 : Option Nat → Int32 → Int32 → q_X Int32) (hr7 : ∀ (l0 : Option Nat) (l1 : Int32) (l2 : Int32) (σ : q_St), r7 l0 l1 l2 σ = some w → q_W E Γ (q_QF E Γ q_oI w) 5 σ 7 [(0, q_R l0), (1, q_I l1), (2, q_I l2)] []) (mr7 : ∀ (l0 : Option Nat) (l1 : Int32) (l2 : Int32), q_mo (r7 l0 l1 l2)) (l0 : Option Nat) (l1 : Int32) (l2 : Int32) (l4 : Int32) (σ : q_St) (h : F_X10_scan_124 (q_kap E) r7 l0 l1 l2 l4 σ = some w) : q_W E Γ (q_QF E Γ q_oI w) 5 σ 124 [(0, q_R l0), (1, q_I l1), (2, q_I l2), (4, q_I l4)] [] := by
  have C := B.1
  unfold F_X10_scan_124 at h
  refine q_iload_n (pc := 124) C 2 rfl dX10_scan_124 rfl ?_
  refine q_iconst (pc := 125) (v := (1 : Int32)) C dX10_scan_125 (by decide) ?_
  refine q_iadd (pc := 126) C dX10_scan_126 ?_
  refine q_iload (pc := 127) C 3 rfl dX10_scan_127 ?_
  refine q_callS (pc := 129) (As := [q_I (l2 + (1 : Int32)), q_I l4]) (st := []) (ps := q_psI) C B.2.1 hT q_hpI qm_X10_66 qs_J9_max_7cf53 dX10_scan_129 rfl rfl (Nat.le_of_ble_eq_true rfl) (q_flo B.2.2.1 B.2.2.2.1 (by decide) (by decide)) (K_J9_max_7cf53 (l2 + (1 : Int32)) l4) (M_J9_max_7cf53 (q_kap E) (l2 + (1 : Int32)) l4) (by exact fun v129 => (mr7 l0 l1 v129)) h (fun v129 σ h => ?_)
  refine q_W.st (st' := [q_I v129]) rfl ?_
  refine q_istore_n (pc := 132) (l' := [(2, q_I v129), (0, q_R l0), (1, q_I l1), (4, q_I l4)]) C dX10_scan_132 rfl (by decide) rfl ?_
  refine q_goto (pc := 133) (tgt := 7) C dX10_scan_133 (by decide) ?_
  refine q_W.sub [1, 2, 0] rfl ?_
  exact hr7 l0 l1 v129 _ h
def F_X10_scan_116 (κ : Nat → Nat) (r7 : Option Nat → Int32 → Int32 → q_X Int32) (l0 : Option Nat) (l1 : Int32) (l2 : Int32) (l3 : Int32) (l4 : Int32) (s0 : Option Nat) (s1 : Int32) : q_X Int32 :=
  q_rd (q_is s0 13) fun _ => q_ca (F_X10_addToken κ s0 s1 l2 l4 l3.toInt64) fun _v121 => F_X10_scan_124 κ r7 l0 l1 l2 l4
theorem M_X10_scan_116 (κ : Nat → Nat) (r7 : Option Nat → Int32 → Int32 → q_X Int32) (mr7 : ∀ (l0 : Option Nat) (l1 : Int32) (l2 : Int32), q_mo (r7 l0 l1 l2)) (l0 : Option Nat) (l1 : Int32) (l2 : Int32) (l3 : Int32) (l4 : Int32) (s0 : Option Nat) (s1 : Int32) : q_mo (F_X10_scan_116 κ r7 l0 l1 l2 l3 l4 s0 s1) := (q_mo_rd fun _ => q_mo_ca (M_X10_addToken κ s0 s1 l2 l4 l3.toInt64) fun _v121 => (M_X10_scan_124 κ r7 mr7 l0 l1 l2 l4))
set_option maxRecDepth 100000 in
set_option maxHeartbeats 4000000 in
theorem S_X10_scan_116 {E : q_Ev} {Γ : q_Gm} {w : (Int32 ⊕ q_Exn) × q_St} (B : q_Bd E Γ cX10_scan yX10_scan.cls 5 4 91 (some .int) yX10_scan.name w) (hT : q_nT Γ) (r7 : Option Nat → Int32 → Int32 → q_X Int32) (hr7 : ∀ (l0 : Option Nat) (l1 : Int32) (l2 : Int32) (σ : q_St), r7 l0 l1 l2 σ = some w → q_W E Γ (q_QF E Γ q_oI w) 5 σ 7 [(0, q_R l0), (1, q_I l1), (2, q_I l2)] []) (mr7 : ∀ (l0 : Option Nat) (l1 : Int32) (l2 : Int32), q_mo (r7 l0 l1 l2)) (l0 : Option Nat) (l1 : Int32) (l2 : Int32) (l3 : Int32) (l4 : Int32) (s0 : Option Nat) (s1 : Int32) (σ : q_St) (h : F_X10_scan_116 (q_kap E) r7 l0 l1 l2 l3 l4 s0 s1 σ = some w) : q_W E Γ (q_QF E Γ q_oI w) 5 σ 116 [(0, q_R l0), (1, q_I l1), (2, q_I l2), (3, q_I l3), (4, q_I l4)] [q_I s1, q_R s0] := by
  have C := B.1
  unfold F_X10_scan_116 at h
  refine q_iload_n (pc := 116) C 2 rfl dX10_scan_116 rfl ?_
  refine q_iload (pc := 117) C 4 rfl dX10_scan_117 ?_
  refine q_iload_n (pc := 119) C 3 rfl dX10_scan_119 rfl ?_
  refine q_i2l (pc := 120) C dX10_scan_120 ?_
  refine q_callV (pc := 121) (As := [q_I s1, q_I l2, q_I l4, q_L l3.toInt64]) (st := []) (ps := q_psV) C B.2.1 hT q_hpV qm_X10_55 qv_X10_addToken dX10_scan_121 rfl rfl (Nat.le_of_ble_eq_true rfl) (q_flo B.2.2.1 B.2.2.2.1 (by decide) (by decide)) (K_X10_addToken s0 s1 l2 l4 l3.toInt64) (M_X10_addToken (q_kap E) s0 s1 l2 l4 l3.toInt64) (by exact fun _v121 => (M_X10_scan_124 (q_kap E) r7 mr7 l0 l1 l2 l4)) h (fun _v121 σ h => ?_)
  refine q_W.st (st' := []) rfl ?_
  refine q_W.sub [0, 1, 2, 4] rfl ?_
  exact S_X10_scan_124 B hT r7 hr7 mr7 l0 l1 l2 l4 _ h
def F_X10_scan_138B (κ : Nat → Nat) (r138 : Option Nat → Int32 → q_X Int32) (l0 : Option Nat) (l3 : Int32) : q_X Int32 :=
  q_br ((3 : Int32) ≤ l3) (q_rd (q_gI l0 13 6) fun v162 => q_rt v162) (q_rd (q_gA l0 13 1) fun v144 => q_rd (q_gI l0 13 6) fun v148 => q_wr (q_sI 0 v144 (v148 + l3) (vp_nar .byte (5 : Int32))) (r138 l0 (l3 + (1 : Int32))))
theorem M_X10_scan_138B (κ : Nat → Nat) (r138 : Option Nat → Int32 → q_X Int32) (mr138 : ∀ (l0 : Option Nat) (l3 : Int32), q_mo (r138 l0 l3)) (l0 : Option Nat) (l3 : Int32) : q_mo (F_X10_scan_138B κ r138 l0 l3) := (q_mo_br (q_mo_rd fun v162 => q_mo_rt) (q_mo_rd fun v144 => (q_mo_rd fun v148 => (q_mo_wr (mr138 l0 (l3 + (1 : Int32)))))))
set_option maxRecDepth 100000 in
set_option maxHeartbeats 4000000 in
theorem S_X10_scan_138B {E : q_Ev} {Γ : q_Gm} {w : (Int32 ⊕ q_Exn) × q_St} (B : q_Bd E Γ cX10_scan yX10_scan.cls 5 4 91 (some .int) yX10_scan.name w) (hT : q_nT Γ) (r138 : Option Nat → Int32 → q_X Int32) (hr138 : ∀ (l0 : Option Nat) (l3 : Int32) (σ : q_St), r138 l0 l3 σ = some w → q_W E Γ (q_QF E Γ q_oI w) 5 σ 138 [(0, q_R l0), (3, q_I l3)] []) (mr138 : ∀ (l0 : Option Nat) (l3 : Int32), q_mo (r138 l0 l3)) (l0 : Option Nat) (l3 : Int32) (σ : q_St) (h : F_X10_scan_138B (q_kap E) r138 l0 l3 σ = some w) : q_W E Γ (q_QF E Γ q_oI w) 5 σ 138 [(0, q_R l0), (3, q_I l3)] [] := by
  have C := B.1
  unfold F_X10_scan_138B at h
  refine q_iload_n (pc := 138) C 1 rfl dX10_scan_138 rfl ?_
  refine q_iconst (pc := 139) (v := (3 : Int32)) C dX10_scan_139 (by decide) ?_
  refine q_icmp_ge (pc := 140) (tgt := 161) C dX10_scan_140 (by decide) h (fun _ h => ?_) (fun _ h => ?_)
  · refine q_aload_n (pc := 161) C 0 rfl dX10_scan_161 rfl ?_
    refine q_getI (pc := 162) C dX10_scan_162 ql_X10_37 h (fun v162 h => ?_)
    exact q_iret C B.2.2.2.2.1 dX10_scan_165 h
  · refine q_aload_n (pc := 143) C 0 rfl dX10_scan_143 rfl ?_
    refine q_getA (pc := 144) C dX10_scan_144 ql_X10_15 h (fun v144 h => ?_)
    refine q_aload_n (pc := 147) C 0 rfl dX10_scan_147 rfl ?_
    refine q_getI (pc := 148) C dX10_scan_148 ql_X10_37 h (fun v148 h => ?_)
    refine q_iload_n (pc := 151) C 1 rfl dX10_scan_151 rfl ?_
    refine q_iadd (pc := 152) C dX10_scan_152 ?_
    refine q_iconst (pc := 153) (v := (5 : Int32)) C dX10_scan_153 (by decide) ?_
    refine q_stB (pc := 154) C dX10_scan_154 h (fun M154 h => ?_)
    refine q_iinc (pc := 155) (v := (1 : Int32)) (l' := [(3, q_I (l3 + (1 : Int32))), (0, q_R l0)]) C 1 rfl dX10_scan_155 (by decide) (by decide) rfl ?_
    refine q_goto (pc := 158) (tgt := 138) C dX10_scan_158 (by decide) ?_
    refine q_W.sub [1, 0] rfl ?_
    exact hr138 l0 (l3 + (1 : Int32)) _ h
def F_X10_scan_138 (κ : Nat → Nat) : Nat → Option Nat → Int32 → q_X Int32
  | 0, _, _ => q_no
  | n + 1, l0, l3 => F_X10_scan_138B κ (F_X10_scan_138 κ n) l0 l3
theorem M_X10_scan_138 (κ : Nat → Nat) : ∀ (n : Nat) (l0 : Option Nat) (l3 : Int32), q_mo (F_X10_scan_138 κ n l0 l3)
  | 0, _, _ => q_mo_no
  | n + 1, l0, l3 => M_X10_scan_138B κ (F_X10_scan_138 κ n) (M_X10_scan_138 κ n) l0 l3
theorem S_X10_scan_138 {E : q_Ev} {Γ : q_Gm} {w : (Int32 ⊕ q_Exn) × q_St} (B : q_Bd E Γ cX10_scan yX10_scan.cls 5 4 91 (some .int) yX10_scan.name w) (hT : q_nT Γ) : ∀ (n : Nat) (l0 : Option Nat) (l3 : Int32) (σ : q_St), F_X10_scan_138 (q_kap E) n l0 l3 σ = some w → q_W E Γ (q_QF E Γ q_oI w) 5 σ 138 [(0, q_R l0), (3, q_I l3)] []
  | 0, _, _, _, h => by cases h
  | n + 1, l0, l3, σ, h => S_X10_scan_138B B hT (F_X10_scan_138 (q_kap E) n) (S_X10_scan_138 B hT n) (M_X10_scan_138 (q_kap E) n) l0 l3 σ h
def F_X10_scan_7B (κ : Nat → Nat) (r7 : Option Nat → Int32 → Int32 → q_X Int32) (l0 : Option Nat) (l1 : Int32) (l2 : Int32) : q_X Int32 :=
  q_rd (q_gI l0 13 5) fun v9 => q_br (v9 ≤ l2) (F_X10_scan_138 κ q_fu l0 (0 : Int32)) (q_rd (q_gA l0 13 0) fun v16 => q_rd (q_lI 0 v16 l2) fun v20 => q_br (¬ v20 = (35 : Int32)) (q_ca (F_X10_isRowByte κ v20) fun v44 => q_br (v44 = 0) (q_br (¬ v20 = (10 : Int32)) (q_br (v20 = (32 : Int32)) (F_X10_scan_124 κ r7 l0 l1 l2 (l2 + (1 : Int32))) (q_rd (q_sp (some (κ 2)) 0) fun _ => q_ca (F_J0_indexOf_0f7a4 κ (some (κ 2)) (((v20 &&& (255 : Int32)).toUInt32 % 65536).toInt32)) fun v105 => q_br (v105 < 0) (F_X10_scan_116 κ r7 l0 l1 l2 v20 (l2 + (1 : Int32)) l0 (0 : Int32)) (F_X10_scan_116 κ r7 l0 l1 l2 v20 (l2 + (1 : Int32)) l0 (3 : Int32)))) (q_br (l1 = 0) (F_X10_scan_124 κ r7 l0 l1 l2 (l2 + (1 : Int32))) (q_rd (q_is l0 13) fun _ => q_ca (F_X10_addToken κ l0 (4 : Int32) l2 (l2 + (1 : Int32)) v20.toInt64) fun _v84 => F_X10_scan_124 κ r7 l0 l1 l2 (l2 + (1 : Int32))))) (q_rd (q_is l0 13) fun _ => q_ca (F_X10_rowEnd κ l0 l2) fun v52 => q_rd (q_is l0 13) fun _ => q_ca (F_X10_addRow κ l0 l2 v52) fun _v61 => F_X10_scan_124 κ r7 l0 l1 l2 v52)) (q_rd (q_is l0 13) fun _ => q_ca (F_X10_commentEnd κ l0 l2) fun v35 => F_X10_scan_124 κ r7 l0 l1 l2 v35))
theorem M_X10_scan_7B (κ : Nat → Nat) (r7 : Option Nat → Int32 → Int32 → q_X Int32) (mr7 : ∀ (l0 : Option Nat) (l1 : Int32) (l2 : Int32), q_mo (r7 l0 l1 l2)) (l0 : Option Nat) (l1 : Int32) (l2 : Int32) : q_mo (F_X10_scan_7B κ r7 l0 l1 l2) := (q_mo_rd fun v9 => (q_mo_br (M_X10_scan_138 κ q_fu l0 (0 : Int32)) (q_mo_rd fun v16 => (q_mo_rd fun v20 => (q_mo_br (q_mo_ca (M_X10_isRowByte κ v20) fun v44 => (q_mo_br (q_mo_br (q_mo_br (M_X10_scan_124 κ r7 mr7 l0 l1 l2 (l2 + (1 : Int32))) (q_mo_rd fun _ => q_mo_ca (M_J0_indexOf_0f7a4 κ (some (κ 2)) (((v20 &&& (255 : Int32)).toUInt32 % 65536).toInt32)) fun v105 => (q_mo_br (M_X10_scan_116 κ r7 mr7 l0 l1 l2 v20 (l2 + (1 : Int32)) l0 (0 : Int32)) (M_X10_scan_116 κ r7 mr7 l0 l1 l2 v20 (l2 + (1 : Int32)) l0 (3 : Int32))))) (q_mo_br (M_X10_scan_124 κ r7 mr7 l0 l1 l2 (l2 + (1 : Int32))) (q_mo_rd fun _ => q_mo_ca (M_X10_addToken κ l0 (4 : Int32) l2 (l2 + (1 : Int32)) v20.toInt64) fun _v84 => (M_X10_scan_124 κ r7 mr7 l0 l1 l2 (l2 + (1 : Int32)))))) (q_mo_rd fun _ => q_mo_ca (M_X10_rowEnd κ l0 l2) fun v52 => (q_mo_rd fun _ => q_mo_ca (M_X10_addRow κ l0 l2 v52) fun _v61 => (M_X10_scan_124 κ r7 mr7 l0 l1 l2 v52))))) (q_mo_rd fun _ => q_mo_ca (M_X10_commentEnd κ l0 l2) fun v35 => (M_X10_scan_124 κ r7 mr7 l0 l1 l2 v35)))))))
set_option maxRecDepth 100000 in
set_option maxHeartbeats 4000000 in
theorem S_X10_scan_7B {E : q_Ev} {Γ : q_Gm} {w : (Int32 ⊕ q_Exn) × q_St} (B : q_Bd E Γ cX10_scan yX10_scan.cls 5 4 91 (some .int) yX10_scan.name w) (hT : q_nT Γ) (r7 : Option Nat → Int32 → Int32 → q_X Int32) (hr7 : ∀ (l0 : Option Nat) (l1 : Int32) (l2 : Int32) (σ : q_St), r7 l0 l1 l2 σ = some w → q_W E Γ (q_QF E Γ q_oI w) 5 σ 7 [(0, q_R l0), (1, q_I l1), (2, q_I l2)] []) (mr7 : ∀ (l0 : Option Nat) (l1 : Int32) (l2 : Int32), q_mo (r7 l0 l1 l2)) (l0 : Option Nat) (l1 : Int32) (l2 : Int32) (σ : q_St) (h : F_X10_scan_7B (q_kap E) r7 l0 l1 l2 σ = some w) : q_W E Γ (q_QF E Γ q_oI w) 5 σ 7 [(0, q_R l0), (1, q_I l1), (2, q_I l2)] [] := by
  have C := B.1
  unfold F_X10_scan_7B at h
  refine q_iload_n (pc := 7) C 2 rfl dX10_scan_7 rfl ?_
  refine q_aload_n (pc := 8) C 0 rfl dX10_scan_8 rfl ?_
  refine q_getI (pc := 9) C dX10_scan_9 ql_X10_29 h (fun v9 h => ?_)
  refine q_icmp_ge (pc := 12) (tgt := 136) C dX10_scan_12 (by decide) h (fun _ h => ?_) (fun _ h => ?_)
  · refine q_iconst (pc := 136) (v := (0 : Int32)) C dX10_scan_136 (by decide) ?_
    refine q_istore_n (pc := 137) (l' := [(3, q_I (0 : Int32)), (0, q_R l0), (1, q_I l1), (2, q_I l2)]) C dX10_scan_137 rfl (by decide) rfl ?_
    refine q_W.sub [1, 0] rfl ?_
    exact S_X10_scan_138 B hT q_fu l0 (0 : Int32) _ h
  · refine q_aload_n (pc := 15) C 0 rfl dX10_scan_15 rfl ?_
    refine q_getA (pc := 16) C dX10_scan_16 ql_X10_9 h (fun v16 h => ?_)
    refine q_iload_n (pc := 19) C 2 rfl dX10_scan_19 rfl ?_
    refine q_ldI (pc := 20) C dX10_scan_20 (Or.inl ⟨rfl, rfl⟩) h (fun v20 h => ?_)
    refine q_istore_n (pc := 21) (l' := [(3, q_I v20), (0, q_R l0), (1, q_I l1), (2, q_I l2)]) C dX10_scan_21 rfl (by decide) rfl ?_
    refine q_iload_n (pc := 22) C 3 rfl dX10_scan_22 rfl ?_
    refine q_iconst (pc := 23) (v := (1 : Int32)) C dX10_scan_23 (by decide) ?_
    refine q_iadd (pc := 24) C dX10_scan_24 ?_
    refine q_istore (pc := 25) (l' := [(4, q_I (l2 + (1 : Int32))), (3, q_I v20), (0, q_R l0), (1, q_I l1), (2, q_I l2)]) C dX10_scan_25 (by decide) rfl ?_
    refine q_iload_n (pc := 27) C 1 rfl dX10_scan_27 rfl ?_
    refine q_bipush (pc := 28) (v := (35 : Int32)) C dX10_scan_28 (by decide) ?_
    refine q_icmp_ne (pc := 30) (tgt := 43) C dX10_scan_30 (by decide) h (fun _ h => ?_) (fun _ h => ?_)
    · refine q_iload_n (pc := 43) C 1 rfl dX10_scan_43 rfl ?_
      refine q_callS (pc := 44) (As := [q_I v20]) (st := []) (ps := q_psI) C B.2.1 hT q_hpI qm_X10_44 qs_X10_isRowByte dX10_scan_44 rfl rfl (Nat.le_of_ble_eq_true rfl) (q_flo B.2.2.1 B.2.2.2.1 (by decide) (by decide)) (K_X10_isRowByte v20) (M_X10_isRowByte (q_kap E) v20) (by exact fun v44 => (q_mo_br (q_mo_br (q_mo_br (M_X10_scan_124 (q_kap E) r7 mr7 l0 l1 l2 (l2 + (1 : Int32))) (q_mo_rd fun _ => q_mo_ca (M_J0_indexOf_0f7a4 (q_kap E) (some ((q_kap E) 2)) (((v20 &&& (255 : Int32)).toUInt32 % 65536).toInt32)) fun v105 => (q_mo_br (M_X10_scan_116 (q_kap E) r7 mr7 l0 l1 l2 v20 (l2 + (1 : Int32)) l0 (0 : Int32)) (M_X10_scan_116 (q_kap E) r7 mr7 l0 l1 l2 v20 (l2 + (1 : Int32)) l0 (3 : Int32))))) (q_mo_br (M_X10_scan_124 (q_kap E) r7 mr7 l0 l1 l2 (l2 + (1 : Int32))) (q_mo_rd fun _ => q_mo_ca (M_X10_addToken (q_kap E) l0 (4 : Int32) l2 (l2 + (1 : Int32)) v20.toInt64) fun _v84 => (M_X10_scan_124 (q_kap E) r7 mr7 l0 l1 l2 (l2 + (1 : Int32)))))) (q_mo_rd fun _ => q_mo_ca (M_X10_rowEnd (q_kap E) l0 l2) fun v52 => (q_mo_rd fun _ => q_mo_ca (M_X10_addRow (q_kap E) l0 l2 v52) fun _v61 => (M_X10_scan_124 (q_kap E) r7 mr7 l0 l1 l2 v52))))) h (fun v44 σ h => ?_)
      refine q_W.st (st' := [q_I v44]) rfl ?_
      refine q_if_eq (pc := 47) (tgt := 67) C dX10_scan_47 (by decide) h (fun _ h => ?_) (fun _ h => ?_)
      · refine q_iload_n (pc := 67) C 1 rfl dX10_scan_67 rfl ?_
        refine q_bipush (pc := 68) (v := (10 : Int32)) C dX10_scan_68 (by decide) ?_
        refine q_icmp_ne (pc := 70) (tgt := 90) C dX10_scan_70 (by decide) h (fun _ h => ?_) (fun _ h => ?_)
        · refine q_iload_n (pc := 90) C 1 rfl dX10_scan_90 rfl ?_
          refine q_bipush (pc := 91) (v := (32 : Int32)) C dX10_scan_91 (by decide) ?_
          refine q_icmp_eq (pc := 93) (tgt := 124) C dX10_scan_93 (by decide) h (fun _ h => ?_) (fun _ h => ?_)
          · refine q_W.sub [2, 3, 4, 0] rfl ?_
            exact S_X10_scan_124 B hT r7 hr7 mr7 l0 l1 l2 (l2 + (1 : Int32)) _ h
          · refine q_aload_n (pc := 96) C 2 rfl dX10_scan_96 rfl ?_
            refine q_ldcT (pc := 97) (k := 2) (tx := ".,:;=|()[]+-@") C dX10_scan_97 (by decide +kernel) (by decide) ?_
            refine q_iload_n (pc := 99) C 1 rfl dX10_scan_99 rfl ?_
            refine q_sipush (pc := 100) (v := (255 : Int32)) C dX10_scan_100 (by decide) ?_
            refine q_iand (pc := 103) C dX10_scan_103 ?_
            refine q_i2c (pc := 104) C dX10_scan_104 ?_
            refine q_callVS (pc := 105) (As := [q_I (((v20 &&& (255 : Int32)).toUInt32 % 65536).toInt32)]) (st := [q_R l0]) (ps := q_psI) C B.2.1 hT q_hpI qm_X10_61 qv_J0_indexOf_0f7a4 dX10_scan_105 rfl rfl (Nat.le_of_ble_eq_true rfl) (q_flo B.2.2.1 B.2.2.2.1 (by decide) (by decide)) (K_J0_indexOf_0f7a4 (some ((q_kap E) 2)) (((v20 &&& (255 : Int32)).toUInt32 % 65536).toInt32)) (M_J0_indexOf_0f7a4 (q_kap E) (some ((q_kap E) 2)) (((v20 &&& (255 : Int32)).toUInt32 % 65536).toInt32)) (by exact fun v105 => (q_mo_br (M_X10_scan_116 (q_kap E) r7 mr7 l0 l1 l2 v20 (l2 + (1 : Int32)) l0 (0 : Int32)) (M_X10_scan_116 (q_kap E) r7 mr7 l0 l1 l2 v20 (l2 + (1 : Int32)) l0 (3 : Int32)))) h (fun v105 σ h => ?_)
            refine q_W.st (st' := [q_I v105, q_R l0]) rfl ?_
            refine q_if_lt (pc := 108) (tgt := 115) C dX10_scan_108 (by decide) h (fun _ h => ?_) (fun _ h => ?_)
            · refine q_iconst (pc := 115) (v := (0 : Int32)) C dX10_scan_115 (by decide) ?_
              refine q_W.sub [2, 3, 4, 1, 0] rfl ?_
              exact S_X10_scan_116 B hT r7 hr7 mr7 l0 l1 l2 v20 (l2 + (1 : Int32)) l0 (0 : Int32) _ h
            · refine q_iconst (pc := 111) (v := (3 : Int32)) C dX10_scan_111 (by decide) ?_
              refine q_goto (pc := 112) (tgt := 116) C dX10_scan_112 (by decide) ?_
              refine q_W.sub [2, 3, 4, 1, 0] rfl ?_
              exact S_X10_scan_116 B hT r7 hr7 mr7 l0 l1 l2 v20 (l2 + (1 : Int32)) l0 (3 : Int32) _ h
        · refine q_iload_n (pc := 73) C 3 rfl dX10_scan_73 rfl ?_
          refine q_if_eq (pc := 74) (tgt := 124) C dX10_scan_74 (by decide) h (fun _ h => ?_) (fun _ h => ?_)
          · refine q_W.sub [2, 3, 4, 0] rfl ?_
            exact S_X10_scan_124 B hT r7 hr7 mr7 l0 l1 l2 (l2 + (1 : Int32)) _ h
          · refine q_aload_n (pc := 77) C 2 rfl dX10_scan_77 rfl ?_
            refine q_iconst (pc := 78) (v := (4 : Int32)) C dX10_scan_78 (by decide) ?_
            refine q_iload_n (pc := 79) C 4 rfl dX10_scan_79 rfl ?_
            refine q_iload (pc := 80) C 0 rfl dX10_scan_80 ?_
            refine q_iload_n (pc := 82) C 1 rfl dX10_scan_82 rfl ?_
            refine q_i2l (pc := 83) C dX10_scan_83 ?_
            refine q_callV (pc := 84) (As := [q_I (4 : Int32), q_I l2, q_I (l2 + (1 : Int32)), q_L v20.toInt64]) (st := []) (ps := q_psV) C B.2.1 hT q_hpV qm_X10_55 qv_X10_addToken dX10_scan_84 rfl rfl (Nat.le_of_ble_eq_true rfl) (q_flo B.2.2.1 B.2.2.2.1 (by decide) (by decide)) (K_X10_addToken l0 (4 : Int32) l2 (l2 + (1 : Int32)) v20.toInt64) (M_X10_addToken (q_kap E) l0 (4 : Int32) l2 (l2 + (1 : Int32)) v20.toInt64) (by exact fun _v84 => (M_X10_scan_124 (q_kap E) r7 mr7 l0 l1 l2 (l2 + (1 : Int32)))) h (fun _v84 σ h => ?_)
            refine q_W.st (st' := []) rfl ?_
            refine q_goto (pc := 87) (tgt := 124) C dX10_scan_87 (by decide) ?_
            refine q_W.sub [2, 3, 4, 0] rfl ?_
            exact S_X10_scan_124 B hT r7 hr7 mr7 l0 l1 l2 (l2 + (1 : Int32)) _ h
      · refine q_aload_n (pc := 50) C 2 rfl dX10_scan_50 rfl ?_
        refine q_iload_n (pc := 51) C 4 rfl dX10_scan_51 rfl ?_
        refine q_callV (pc := 52) (As := [q_I l2]) (st := []) (ps := q_psI) C B.2.1 hT q_hpI qm_X10_48 qv_X10_rowEnd dX10_scan_52 rfl rfl (Nat.le_of_ble_eq_true rfl) (q_flo B.2.2.1 B.2.2.2.1 (by decide) (by decide)) (K_X10_rowEnd l0 l2) (M_X10_rowEnd (q_kap E) l0 l2) (by exact fun v52 => (q_mo_rd fun _ => q_mo_ca (M_X10_addRow (q_kap E) l0 l2 v52) fun _v61 => (M_X10_scan_124 (q_kap E) r7 mr7 l0 l1 l2 v52))) h (fun v52 σ h => ?_)
        refine q_W.st (st' := [q_I v52]) rfl ?_
        refine q_istore (pc := 55) (l' := [(4, q_I v52), (3, q_I v20), (0, q_R l0), (1, q_I l1), (2, q_I l2)]) C dX10_scan_55 (by decide) rfl ?_
        refine q_aload_n (pc := 57) C 2 rfl dX10_scan_57 rfl ?_
        refine q_iload_n (pc := 58) C 4 rfl dX10_scan_58 rfl ?_
        refine q_iload (pc := 59) C 0 rfl dX10_scan_59 ?_
        refine q_callV (pc := 61) (As := [q_I l2, q_I v52]) (st := []) (ps := q_psV) C B.2.1 hT q_hpV qm_X10_51 qv_X10_addRow dX10_scan_61 rfl rfl (Nat.le_of_ble_eq_true rfl) (q_flo B.2.2.1 B.2.2.2.1 (by decide) (by decide)) (K_X10_addRow l0 l2 v52) (M_X10_addRow (q_kap E) l0 l2 v52) (by exact fun _v61 => (M_X10_scan_124 (q_kap E) r7 mr7 l0 l1 l2 v52)) h (fun _v61 σ h => ?_)
        refine q_W.st (st' := []) rfl ?_
        refine q_goto (pc := 64) (tgt := 124) C dX10_scan_64 (by decide) ?_
        refine q_W.sub [2, 3, 4, 0] rfl ?_
        exact S_X10_scan_124 B hT r7 hr7 mr7 l0 l1 l2 v52 _ h
    · refine q_aload_n (pc := 33) C 2 rfl dX10_scan_33 rfl ?_
      refine q_iload_n (pc := 34) C 4 rfl dX10_scan_34 rfl ?_
      refine q_callV (pc := 35) (As := [q_I l2]) (st := []) (ps := q_psI) C B.2.1 hT q_hpI qm_X10_40 qv_X10_commentEnd dX10_scan_35 rfl rfl (Nat.le_of_ble_eq_true rfl) (q_flo B.2.2.1 B.2.2.2.1 (by decide) (by decide)) (K_X10_commentEnd l0 l2) (M_X10_commentEnd (q_kap E) l0 l2) (by exact fun v35 => (M_X10_scan_124 (q_kap E) r7 mr7 l0 l1 l2 v35)) h (fun v35 σ h => ?_)
      refine q_W.st (st' := [q_I v35]) rfl ?_
      refine q_istore (pc := 38) (l' := [(4, q_I v35), (3, q_I v20), (0, q_R l0), (1, q_I l1), (2, q_I l2)]) C dX10_scan_38 (by decide) rfl ?_
      refine q_goto (pc := 40) (tgt := 124) C dX10_scan_40 (by decide) ?_
      refine q_W.sub [2, 3, 4, 0] rfl ?_
      exact S_X10_scan_124 B hT r7 hr7 mr7 l0 l1 l2 v35 _ h
def F_X10_scan_7 (κ : Nat → Nat) : Nat → Option Nat → Int32 → Int32 → q_X Int32
  | 0, _, _, _ => q_no
  | n + 1, l0, l1, l2 => F_X10_scan_7B κ (F_X10_scan_7 κ n) l0 l1 l2
theorem M_X10_scan_7 (κ : Nat → Nat) : ∀ (n : Nat) (l0 : Option Nat) (l1 : Int32) (l2 : Int32), q_mo (F_X10_scan_7 κ n l0 l1 l2)
  | 0, _, _, _ => q_mo_no
  | n + 1, l0, l1, l2 => M_X10_scan_7B κ (F_X10_scan_7 κ n) (M_X10_scan_7 κ n) l0 l1 l2
theorem S_X10_scan_7 {E : q_Ev} {Γ : q_Gm} {w : (Int32 ⊕ q_Exn) × q_St} (B : q_Bd E Γ cX10_scan yX10_scan.cls 5 4 91 (some .int) yX10_scan.name w) (hT : q_nT Γ) : ∀ (n : Nat) (l0 : Option Nat) (l1 : Int32) (l2 : Int32) (σ : q_St), F_X10_scan_7 (q_kap E) n l0 l1 l2 σ = some w → q_W E Γ (q_QF E Γ q_oI w) 5 σ 7 [(0, q_R l0), (1, q_I l1), (2, q_I l2)] []
  | 0, _, _, _, _, h => by cases h
  | n + 1, l0, l1, l2, σ, h => S_X10_scan_7B B hT (F_X10_scan_7 (q_kap E) n) (S_X10_scan_7 B hT n) (M_X10_scan_7 (q_kap E) n) l0 l1 l2 σ h
def F_X10_scan (κ : Nat → Nat) (l0 : Option Nat) (l1 : Int32) : q_X Int32 :=
  q_wr (q_pF l0 13 6 (.int (0 : Int32))) (F_X10_scan_7 κ q_fu l0 l1 (0 : Int32))
theorem M_X10_scan (κ : Nat → Nat) (l0 : Option Nat) (l1 : Int32) : q_mo (F_X10_scan κ l0 l1) := (q_mo_wr (M_X10_scan_7 κ q_fu l0 l1 (0 : Int32)))
set_option maxRecDepth 100000 in
set_option maxHeartbeats 4000000 in
theorem K_X10_scan {E : q_Ev} (l0 : Option Nat) (l1 : Int32) : q_Ct E yX10_scan (.code yX10_scan cX10_scan 5 (some .int)) 4 91 [q_R l0, q_I l1] q_oI (F_X10_scan (q_kap E) l0 l1) := by
  refine q_enter (by decide) (Nat.le_of_ble_eq_true rfl) (fun Γ σ w h B hT => ?_)
  have C := B.1
  unfold F_X10_scan at h
  refine q_aload_n (pc := 0) C 0 rfl dX10_scan_0 rfl ?_
  refine q_iconst (pc := 1) (v := (0 : Int32)) C dX10_scan_1 (by decide) ?_
  refine q_putV (pc := 2) (v := q_I (0 : Int32)) C dX10_scan_2 ql_X10_37 (Or.inl rfl) rfl rfl h (fun M2 h => ?_)
  refine q_iconst (pc := 5) (v := (0 : Int32)) C dX10_scan_5 (by decide) ?_
  refine q_istore_n (pc := 6) (l' := [(2, q_I (0 : Int32)), (0, q_R l0), (1, q_I l1)]) C dX10_scan_6 rfl (by decide) rfl ?_
  refine q_W.sub [1, 2, 0] rfl ?_
  exact S_X10_scan_7 B hT q_fu l0 l1 (0 : Int32) _ h
def F_X9_begin (κ : Nat → Nat) (l0 : Option Nat) (l1 : Int32) : q_X Unit :=
  q_rd (q_gA l0 12 0) fun v1 => q_rd (q_is v1 13) fun _ => q_ca (F_X10_scan κ v1 l1) fun v5 => q_wr (q_pF l0 12 1 (.int (0 : Int32))) (q_wr (q_pF l0 12 2 (.int (0 : Int32))) (q_wr (q_pF l0 12 3 (.int (-1 : Int32))) (q_rt ())))
theorem M_X9_begin (κ : Nat → Nat) (l0 : Option Nat) (l1 : Int32) : q_mo (F_X9_begin κ l0 l1) := (q_mo_rd fun v1 => (q_mo_rd fun _ => q_mo_ca (M_X10_scan κ v1 l1) fun v5 => (q_mo_wr (q_mo_wr (q_mo_wr q_mo_rt)))))
set_option maxRecDepth 100000 in
set_option maxHeartbeats 4000000 in
theorem K_X9_begin {E : q_Ev} (l0 : Option Nat) (l1 : Int32) : q_Ct E yX9_begin (.code yX9_begin cX9_begin 2 (none)) 5 115 [q_R l0, q_I l1] q_oV (F_X9_begin (q_kap E) l0 l1) := by
  refine q_enter (by decide) (Nat.le_of_ble_eq_true rfl) (fun Γ σ w h B hT => ?_)
  have C := B.1
  unfold F_X9_begin at h
  refine q_aload_n (pc := 0) C 0 rfl dX9_begin_0 rfl ?_
  refine q_getA (pc := 1) C dX9_begin_1 ql_X9_18 h (fun v1 h => ?_)
  refine q_iload_n (pc := 4) C 1 rfl dX9_begin_4 rfl ?_
  refine q_callV (pc := 5) (As := [q_I l1]) (st := []) (ps := q_psI) C B.2.1 hT q_hpI qm_X9_22 qv_X10_scan dX9_begin_5 rfl rfl (Nat.le_of_ble_eq_true rfl) (q_flo B.2.2.1 B.2.2.2.1 (by decide) (by decide)) (K_X10_scan v1 l1) (M_X10_scan (q_kap E) v1 l1) (by exact fun v5 => (q_mo_wr (q_mo_wr (q_mo_wr q_mo_rt)))) h (fun v5 σ h => ?_)
  refine q_W.st (st' := [q_I v5]) rfl ?_
  refine q_pop (pc := 8) C dX9_begin_8 rfl ?_
  refine q_aload_n (pc := 9) C 0 rfl dX9_begin_9 rfl ?_
  refine q_iconst (pc := 10) (v := (0 : Int32)) C dX9_begin_10 (by decide) ?_
  refine q_putV (pc := 11) (v := q_I (0 : Int32)) C dX9_begin_11 ql_X9_28 (Or.inl rfl) rfl rfl h (fun M11 h => ?_)
  refine q_aload_n (pc := 14) C 0 rfl dX9_begin_14 rfl ?_
  refine q_iconst (pc := 15) (v := (0 : Int32)) C dX9_begin_15 (by decide) ?_
  refine q_putV (pc := 16) (v := q_I (0 : Int32)) C dX9_begin_16 ql_X9_9 (Or.inl rfl) rfl rfl h (fun M16 h => ?_)
  refine q_aload_n (pc := 19) C 0 rfl dX9_begin_19 rfl ?_
  refine q_iconst (pc := 20) (v := (-1 : Int32)) C dX9_begin_20 (by decide) ?_
  refine q_putV (pc := 21) (v := q_I (-1 : Int32)) C dX9_begin_21 ql_X9_15 (Or.inl rfl) rfl rfl h (fun M21 h => ?_)
  exact q_vret C B.2.2.2.2.1 dX9_begin_24 h
def F_X9_failAt (κ : Nat → Nat) (l0 : Option Nat) (l1 : Int32) (l2 : Int32) : q_X Unit :=
  q_wr (q_pF l0 12 2 (.int l1)) (q_wr (q_pF l0 12 3 (.int l2)) (q_rt ()))
theorem M_X9_failAt (κ : Nat → Nat) (l0 : Option Nat) (l1 : Int32) (l2 : Int32) : q_mo (F_X9_failAt κ l0 l1 l2) := (q_mo_wr (q_mo_wr q_mo_rt))
theorem N_X9_failAt (κ : Nat → Nat) (l0 : Option Nat) (l1 : Int32) (l2 : Int32) : q_ni (F_X9_failAt κ l0 l1 l2) := (q_ni_wr (q_ni_wr q_ni_rt))
set_option maxRecDepth 100000 in
set_option maxHeartbeats 4000000 in
theorem K_X9_failAt {E : q_Ev} (l0 : Option Nat) (l1 : Int32) (l2 : Int32) : q_Ct E yX9_failAt (.code yX9_failAt cX9_failAt 3 (none)) 0 0 [q_R l0, q_I l1, q_I l2] q_oV (F_X9_failAt (q_kap E) l0 l1 l2) := by
  refine q_enter (by decide) (Nat.le_of_ble_eq_true rfl) (fun Γ σ w h B hT => ?_)
  have C := B.1
  unfold F_X9_failAt at h
  refine q_aload_n (pc := 0) C 0 rfl dX9_failAt_0 rfl ?_
  refine q_iload_n (pc := 1) C 1 rfl dX9_failAt_1 rfl ?_
  refine q_putV (pc := 2) (v := q_I l1) C dX9_failAt_2 ql_X9_9 (Or.inl rfl) rfl rfl h (fun M2 h => ?_)
  refine q_aload_n (pc := 5) C 0 rfl dX9_failAt_5 rfl ?_
  refine q_iload_n (pc := 6) C 2 rfl dX9_failAt_6 rfl ?_
  refine q_putV (pc := 7) (v := q_I l2) C dX9_failAt_7 ql_X9_15 (Or.inl rfl) rfl rfl h (fun M7 h => ?_)
  exact q_vret C B.2.2.2.2.1 dX9_failAt_10 h
def F_X0_readWidth_124 (κ : Nat → Nat) : q_X Unit :=
  q_rt ()
theorem M_X0_readWidth_124 (κ : Nat → Nat) : q_mo (F_X0_readWidth_124 κ) := q_mo_rt
theorem N_X0_readWidth_124 (κ : Nat → Nat) : q_ni (F_X0_readWidth_124 κ) := q_ni_rt
set_option maxRecDepth 100000 in
set_option maxHeartbeats 4000000 in
theorem S_X0_readWidth_124 {E : q_Ev} {Γ : q_Gm} {w : (Unit ⊕ q_Exn) × q_St} (B : q_Bd E Γ cX0_readWidth yX0_readWidth.cls 4 5 108 (none) yX0_readWidth.name w) (hT : q_nT Γ) (σ : q_St) (h : F_X0_readWidth_124 (q_kap E) σ = some w) : q_W E Γ (q_QF E Γ q_oV w) 4 σ 124 [] [] := by
  have C := B.1
  unfold F_X0_readWidth_124 at h
  exact q_vret C B.2.2.2.2.1 dX0_readWidth_124 h
def F_X0_readWidth_103 (κ : Nat → Nat) (l0 : Option Nat) (l2 : Int64) : q_X Unit :=
  q_rd (q_gA l0 3 0) fun v104 => q_rd (q_is v104 12) fun _ => q_ca (F_X9_take κ v104 (59 : Int32)) fun v109 => q_br (v109 = 0) (F_X0_readWidth_124 κ) (q_rd (q_gA l0 3 2) fun v116 => q_wr (q_pF v116 8 2 (.int l2.toInt32)) (F_X0_readWidth_124 κ))
theorem M_X0_readWidth_103 (κ : Nat → Nat) (l0 : Option Nat) (l2 : Int64) : q_mo (F_X0_readWidth_103 κ l0 l2) := (q_mo_rd fun v104 => (q_mo_rd fun _ => q_mo_ca (M_X9_take κ v104 (59 : Int32)) fun v109 => (q_mo_br (M_X0_readWidth_124 κ) (q_mo_rd fun v116 => (q_mo_wr (M_X0_readWidth_124 κ))))))
set_option maxRecDepth 100000 in
set_option maxHeartbeats 4000000 in
theorem S_X0_readWidth_103 {E : q_Ev} {Γ : q_Gm} {w : (Unit ⊕ q_Exn) × q_St} (B : q_Bd E Γ cX0_readWidth yX0_readWidth.cls 4 5 108 (none) yX0_readWidth.name w) (hT : q_nT Γ) (l0 : Option Nat) (l2 : Int64) (σ : q_St) (h : F_X0_readWidth_103 (q_kap E) l0 l2 σ = some w) : q_W E Γ (q_QF E Γ q_oV w) 4 σ 103 [(0, q_R l0), (2, q_L l2)] [] := by
  have C := B.1
  unfold F_X0_readWidth_103 at h
  refine q_aload_n (pc := 103) C 0 rfl dX0_readWidth_103 rfl ?_
  refine q_getA (pc := 104) C dX0_readWidth_104 ql_X0_15 h (fun v104 h => ?_)
  refine q_bipush (pc := 107) (v := (59 : Int32)) C dX0_readWidth_107 (by decide) ?_
  refine q_callV (pc := 109) (As := [q_I (59 : Int32)]) (st := []) (ps := q_psI) C B.2.1 hT q_hpI qm_X0_87 qv_X9_take dX0_readWidth_109 rfl rfl (Nat.le_of_ble_eq_true rfl) (q_flo B.2.2.1 B.2.2.2.1 (by decide) (by decide)) (K_X9_take v104 (59 : Int32)) (M_X9_take (q_kap E) v104 (59 : Int32)) (by exact fun v109 => (q_mo_br (M_X0_readWidth_124 (q_kap E)) (q_mo_rd fun v116 => (q_mo_wr (M_X0_readWidth_124 (q_kap E)))))) h (fun v109 σ h => ?_)
  refine q_W.st (st' := [q_I v109]) rfl ?_
  refine q_if_eq (pc := 112) (tgt := 124) C dX0_readWidth_112 (by decide) h (fun _ h => ?_) (fun _ h => ?_)
  · refine q_W.sub [] rfl ?_
    exact S_X0_readWidth_124 B hT _ h
  · refine q_aload_n (pc := 115) C 0 rfl dX0_readWidth_115 rfl ?_
    refine q_getA (pc := 116) C dX0_readWidth_116 ql_X0_26 h (fun v116 h => ?_)
    refine q_lload_n (pc := 119) C 1 rfl dX0_readWidth_119 rfl ?_
    refine q_l2i (pc := 120) C dX0_readWidth_120 ?_
    refine q_putV (pc := 121) (v := q_I l2.toInt32) C dX0_readWidth_121 ql_X0_91 (Or.inl rfl) rfl rfl h (fun M121 h => ?_)
    refine q_W.sub [] rfl ?_
    exact S_X0_readWidth_124 B hT _ h
def F_X0_readWidth (κ : Nat → Nat) (l0 : Option Nat) : q_X Unit :=
  q_rd (q_gA l0 3 1) fun v1 => q_rd (q_gA l0 3 0) fun v5 => q_rd (q_gI v5 12 1) fun v8 => q_rd (q_is v1 13) fun _ => q_ca (F_X10_says κ v1 v8 (some (κ 3))) fun v13 => q_br (¬ v13 = 0) (q_rd (q_gA l0 3 0) fun v30 => q_rd (q_gI v30 12 1) fun v34 => q_wr (q_pF v30 12 1 (.int (v34 + (1 : Int32)))) (q_rd (q_gA l0 3 0) fun v43 => q_rd (q_gI v43 12 1) fun v46 => q_rd (q_gA l0 3 0) fun v51 => q_rd (q_is v51 12) fun _ => q_ca (F_X9_takeNumber κ v51 (0 : Int64) (4294967296 : Int64)) fun v58 => q_br (0 ≤ (lg_cmp v58 (0 : Int64))) (q_br ((lg_cmp v58 (8 : Int64)) = 0) (F_X0_readWidth_103 κ l0 v58) (q_br ((lg_cmp v58 (16 : Int64)) = 0) (F_X0_readWidth_103 κ l0 v58) (q_br ((lg_cmp v58 (32 : Int64)) = 0) (F_X0_readWidth_103 κ l0 v58) (q_rd (q_gA l0 3 0) fun v94 => q_rd (q_is v94 12) fun _ => q_ca (F_X9_failAt κ v94 (3 : Int32) v46) fun _v99 => q_rt ())))) (q_rt ()))) (q_rd (q_gA l0 3 0) fun v20 => q_rd (q_is v20 12) fun _ => q_ca (F_X9_fail κ v20 (1 : Int32)) fun v24 => q_rt ())
theorem M_X0_readWidth (κ : Nat → Nat) (l0 : Option Nat) : q_mo (F_X0_readWidth κ l0) := (q_mo_rd fun v1 => (q_mo_rd fun v5 => (q_mo_rd fun v8 => (q_mo_rd fun _ => q_mo_ca (M_X10_says κ v1 v8 (some (κ 3))) fun v13 => (q_mo_br (q_mo_rd fun v30 => (q_mo_rd fun v34 => (q_mo_wr (q_mo_rd fun v43 => (q_mo_rd fun v46 => (q_mo_rd fun v51 => (q_mo_rd fun _ => q_mo_ca (M_X9_takeNumber κ v51 (0 : Int64) (4294967296 : Int64)) fun v58 => (q_mo_br (q_mo_br (M_X0_readWidth_103 κ l0 v58) (q_mo_br (M_X0_readWidth_103 κ l0 v58) (q_mo_br (M_X0_readWidth_103 κ l0 v58) (q_mo_rd fun v94 => (q_mo_rd fun _ => q_mo_ca (M_X9_failAt κ v94 (3 : Int32) v46) fun _v99 => q_mo_rt))))) q_mo_rt)))))))) (q_mo_rd fun v20 => (q_mo_rd fun _ => q_mo_ca (M_X9_fail κ v20 (1 : Int32)) fun v24 => q_mo_rt)))))))
set_option maxRecDepth 100000 in
set_option maxHeartbeats 4000000 in
theorem K_X0_readWidth {E : q_Ev} (l0 : Option Nat) : q_Ct E yX0_readWidth (.code yX0_readWidth cX0_readWidth 4 (none)) 5 108 [q_R l0] q_oV (F_X0_readWidth (q_kap E) l0) := by
  refine q_enter (by decide) (Nat.le_of_ble_eq_true rfl) (fun Γ σ w h B hT => ?_)
  have C := B.1
  unfold F_X0_readWidth at h
  refine q_aload_n (pc := 0) C 0 rfl dX0_readWidth_0 rfl ?_
  refine q_getA (pc := 1) C dX0_readWidth_1 ql_X0_25 h (fun v1 h => ?_)
  refine q_aload_n (pc := 4) C 0 rfl dX0_readWidth_4 rfl ?_
  refine q_getA (pc := 5) C dX0_readWidth_5 ql_X0_15 h (fun v5 h => ?_)
  refine q_getI (pc := 8) C dX0_readWidth_8 ql_X0_58 h (fun v8 h => ?_)
  refine q_ldcT (pc := 11) (k := 3) (tx := "word") C dX0_readWidth_11 (by decide +kernel) (by decide) ?_
  refine q_callV (pc := 13) (As := [q_I v8, q_R (some ((q_kap E) 3))]) (st := []) (ps := q_psI) C B.2.1 hT q_hpI qm_X0_63 qv_X10_says dX0_readWidth_13 rfl rfl (Nat.le_of_ble_eq_true rfl) (q_flo B.2.2.1 B.2.2.2.1 (by decide) (by decide)) (K_X10_says v1 v8 (some ((q_kap E) 3))) (M_X10_says (q_kap E) v1 v8 (some ((q_kap E) 3))) (by exact fun v13 => (q_mo_br (q_mo_rd fun v30 => (q_mo_rd fun v34 => (q_mo_wr (q_mo_rd fun v43 => (q_mo_rd fun v46 => (q_mo_rd fun v51 => (q_mo_rd fun _ => q_mo_ca (M_X9_takeNumber (q_kap E) v51 (0 : Int64) (4294967296 : Int64)) fun v58 => (q_mo_br (q_mo_br (M_X0_readWidth_103 (q_kap E) l0 v58) (q_mo_br (M_X0_readWidth_103 (q_kap E) l0 v58) (q_mo_br (M_X0_readWidth_103 (q_kap E) l0 v58) (q_mo_rd fun v94 => (q_mo_rd fun _ => q_mo_ca (M_X9_failAt (q_kap E) v94 (3 : Int32) v46) fun _v99 => q_mo_rt))))) q_mo_rt)))))))) (q_mo_rd fun v20 => (q_mo_rd fun _ => q_mo_ca (M_X9_fail (q_kap E) v20 (1 : Int32)) fun v24 => q_mo_rt)))) h (fun v13 σ h => ?_)
  refine q_W.st (st' := [q_I v13]) rfl ?_
  refine q_if_ne (pc := 16) (tgt := 29) C dX0_readWidth_16 (by decide) h (fun _ h => ?_) (fun _ h => ?_)
  · refine q_aload_n (pc := 29) C 0 rfl dX0_readWidth_29 rfl ?_
    refine q_getA (pc := 30) C dX0_readWidth_30 ql_X0_15 h (fun v30 h => ?_)
    refine q_dup (pc := 33) C dX0_readWidth_33 rfl ?_
    refine q_getI (pc := 34) C dX0_readWidth_34 ql_X0_58 h (fun v34 h => ?_)
    refine q_iconst (pc := 37) (v := (1 : Int32)) C dX0_readWidth_37 (by decide) ?_
    refine q_iadd (pc := 38) C dX0_readWidth_38 ?_
    refine q_putV (pc := 39) (v := q_I (v34 + (1 : Int32))) C dX0_readWidth_39 ql_X0_58 (Or.inl rfl) rfl rfl h (fun M39 h => ?_)
    refine q_aload_n (pc := 42) C 0 rfl dX0_readWidth_42 rfl ?_
    refine q_getA (pc := 43) C dX0_readWidth_43 ql_X0_15 h (fun v43 h => ?_)
    refine q_getI (pc := 46) C dX0_readWidth_46 ql_X0_58 h (fun v46 h => ?_)
    refine q_istore_n (pc := 49) (l' := [(1, q_I v46), (0, q_R l0)]) C dX0_readWidth_49 rfl (by decide) rfl ?_
    refine q_aload_n (pc := 50) C 1 rfl dX0_readWidth_50 rfl ?_
    refine q_getA (pc := 51) C dX0_readWidth_51 ql_X0_15 h (fun v51 h => ?_)
    refine q_lconst (pc := 54) (v := (0 : Int64)) C dX0_readWidth_54 (by decide) ?_
    refine q_ldc2 (pc := 55) (v := (4294967296 : Int64)) C dX0_readWidth_55 qc_X0_71 ?_
    refine q_callV (pc := 58) (As := [q_L (0 : Int64), q_L (4294967296 : Int64)]) (st := []) (ps := q_psL) C B.2.1 hT q_hpL qm_X0_73 qv_X9_takeNumber dX0_readWidth_58 rfl rfl (Nat.le_of_ble_eq_true rfl) (q_flo B.2.2.1 B.2.2.2.1 (by decide) (by decide)) (K_X9_takeNumber v51 (0 : Int64) (4294967296 : Int64)) (M_X9_takeNumber (q_kap E) v51 (0 : Int64) (4294967296 : Int64)) (by exact fun v58 => (q_mo_br (q_mo_br (M_X0_readWidth_103 (q_kap E) l0 v58) (q_mo_br (M_X0_readWidth_103 (q_kap E) l0 v58) (q_mo_br (M_X0_readWidth_103 (q_kap E) l0 v58) (q_mo_rd fun v94 => (q_mo_rd fun _ => q_mo_ca (M_X9_failAt (q_kap E) v94 (3 : Int32) v46) fun _v99 => q_mo_rt))))) q_mo_rt)) h (fun v58 σ h => ?_)
    refine q_W.st (st' := [q_L v58]) rfl ?_
    refine q_lstore_n (pc := 61) (l' := [(2, q_L v58), (1, q_I v46), (0, q_R l0)]) C dX0_readWidth_61 rfl (by decide) rfl ?_
    refine q_lload_n (pc := 62) C 0 rfl dX0_readWidth_62 rfl ?_
    refine q_lconst (pc := 63) (v := (0 : Int64)) C dX0_readWidth_63 (by decide) ?_
    refine q_lcmp (pc := 64) C dX0_readWidth_64 ?_
    refine q_if_ge (pc := 65) (tgt := 69) C dX0_readWidth_65 (by decide) h (fun _ h => ?_) (fun _ h => ?_)
    · refine q_lload_n (pc := 69) C 0 rfl dX0_readWidth_69 rfl ?_
      refine q_ldc2 (pc := 70) (v := (8 : Int64)) C dX0_readWidth_70 qc_X0_77 ?_
      refine q_lcmp (pc := 73) C dX0_readWidth_73 ?_
      refine q_if_eq (pc := 74) (tgt := 103) C dX0_readWidth_74 (by decide) h (fun _ h => ?_) (fun _ h => ?_)
      · refine q_W.sub [2, 0] rfl ?_
        exact S_X0_readWidth_103 B hT l0 v58 _ h
      · refine q_lload_n (pc := 77) C 0 rfl dX0_readWidth_77 rfl ?_
        refine q_ldc2 (pc := 78) (v := (16 : Int64)) C dX0_readWidth_78 qc_X0_79 ?_
        refine q_lcmp (pc := 81) C dX0_readWidth_81 ?_
        refine q_if_eq (pc := 82) (tgt := 103) C dX0_readWidth_82 (by decide) h (fun _ h => ?_) (fun _ h => ?_)
        · refine q_W.sub [2, 0] rfl ?_
          exact S_X0_readWidth_103 B hT l0 v58 _ h
        · refine q_lload_n (pc := 85) C 0 rfl dX0_readWidth_85 rfl ?_
          refine q_ldc2 (pc := 86) (v := (32 : Int64)) C dX0_readWidth_86 qc_X0_81 ?_
          refine q_lcmp (pc := 89) C dX0_readWidth_89 ?_
          refine q_if_eq (pc := 90) (tgt := 103) C dX0_readWidth_90 (by decide) h (fun _ h => ?_) (fun _ h => ?_)
          · refine q_W.sub [2, 0] rfl ?_
            exact S_X0_readWidth_103 B hT l0 v58 _ h
          · refine q_aload_n (pc := 93) C 2 rfl dX0_readWidth_93 rfl ?_
            refine q_getA (pc := 94) C dX0_readWidth_94 ql_X0_15 h (fun v94 h => ?_)
            refine q_iconst (pc := 97) (v := (3 : Int32)) C dX0_readWidth_97 (by decide) ?_
            refine q_iload_n (pc := 98) C 1 rfl dX0_readWidth_98 rfl ?_
            refine q_callV (pc := 99) (As := [q_I (3 : Int32), q_I v46]) (st := []) (ps := q_psV) C B.2.1 hT q_hpV qm_X0_83 qv_X9_failAt dX0_readWidth_99 rfl rfl (Nat.le_of_ble_eq_true rfl) (q_flo B.2.2.1 B.2.2.2.1 (by decide) (by decide)) (K_X9_failAt v94 (3 : Int32) v46) (M_X9_failAt (q_kap E) v94 (3 : Int32) v46) (by exact fun _v99 => q_mo_rt) h (fun _v99 σ h => ?_)
            refine q_W.st (st' := []) rfl ?_
            exact q_vret C B.2.2.2.2.1 dX0_readWidth_102 h
    · exact q_vret C B.2.2.2.2.1 dX0_readWidth_68 h
  · refine q_aload_n (pc := 19) C 0 rfl dX0_readWidth_19 rfl ?_
    refine q_getA (pc := 20) C dX0_readWidth_20 ql_X0_15 h (fun v20 h => ?_)
    refine q_iconst (pc := 23) (v := (1 : Int32)) C dX0_readWidth_23 (by decide) ?_
    refine q_callV (pc := 24) (As := [q_I (1 : Int32)]) (st := []) (ps := q_psI) C B.2.1 hT q_hpI qm_X0_67 qv_X9_fail dX0_readWidth_24 rfl rfl (Nat.le_of_ble_eq_true rfl) (q_flo B.2.2.1 B.2.2.2.1 (by decide) (by decide)) (K_X9_fail v20 (1 : Int32)) (M_X9_fail (q_kap E) v20 (1 : Int32)) (by exact fun v24 => q_mo_rt) h (fun v24 σ h => ?_)
    refine q_W.st (st' := [q_I v24]) rfl ?_
    refine q_pop (pc := 27) C dX0_readWidth_27 rfl ?_
    exact q_vret C B.2.2.2.2.1 dX0_readWidth_28 h
def F_X0_read_84 (κ : Nat → Nat) (s0 : Int32) : q_X Int32 :=
  q_rz s0
theorem M_X0_read_84 (κ : Nat → Nat) (s0 : Int32) : q_mo (F_X0_read_84 κ s0) := q_mo_rz
set_option maxRecDepth 100000 in
set_option maxHeartbeats 4000000 in
theorem S_X0_read_84 {E : q_Ev} {Γ : q_Gm} {w : (Int32 ⊕ q_Exn) × q_St} (B : q_Bd E Γ cX0_read yX0_read.cls 2 8 195 (some .boolean) yX0_read.name w) (hT : q_nT Γ) (s0 : Int32) (σ : q_St) (h : F_X0_read_84 (q_kap E) s0 σ = some w) : q_W E Γ (q_QF E Γ q_oI w) 2 σ 84 [] [q_I s0] := by
  have C := B.1
  unfold F_X0_read_84 at h
  exact q_zret C B.2.2.2.2.1 dX0_read_84 h
def F_X0_read_69 (κ : Nat → Nat) (l0 : Option Nat) : q_X Int32 :=
  q_rd (q_gA l0 3 0) fun v70 => q_rd (q_is v70 12) fun _ => q_ca (F_X9_hasFault κ v70) fun v73 => q_br (¬ v73 = 0) (F_X0_read_84 κ (0 : Int32)) (F_X0_read_84 κ (1 : Int32))
theorem M_X0_read_69 (κ : Nat → Nat) (l0 : Option Nat) : q_mo (F_X0_read_69 κ l0) := (q_mo_rd fun v70 => (q_mo_rd fun _ => q_mo_ca (M_X9_hasFault κ v70) fun v73 => (q_mo_br (M_X0_read_84 κ (0 : Int32)) (M_X0_read_84 κ (1 : Int32)))))
set_option maxRecDepth 100000 in
set_option maxHeartbeats 4000000 in
theorem S_X0_read_69 {E : q_Ev} {Γ : q_Gm} {w : (Int32 ⊕ q_Exn) × q_St} (B : q_Bd E Γ cX0_read yX0_read.cls 2 8 195 (some .boolean) yX0_read.name w) (hT : q_nT Γ) (l0 : Option Nat) (σ : q_St) (h : F_X0_read_69 (q_kap E) l0 σ = some w) : q_W E Γ (q_QF E Γ q_oI w) 2 σ 69 [(0, q_R l0)] [] := by
  have C := B.1
  unfold F_X0_read_69 at h
  refine q_aload_n (pc := 69) C 0 rfl dX0_read_69 rfl ?_
  refine q_getA (pc := 70) C dX0_read_70 ql_X0_15 h (fun v70 h => ?_)
  refine q_callV (pc := 73) (As := []) (st := []) (ps := q_psI) C B.2.1 hT q_hpI qm_X0_55 qv_X9_hasFault dX0_read_73 rfl rfl (Nat.le_of_ble_eq_true rfl) (q_flo B.2.2.1 B.2.2.2.1 (by decide) (by decide)) (K_X9_hasFault v70) (M_X9_hasFault (q_kap E) v70) (by exact fun v73 => (q_mo_br (M_X0_read_84 (q_kap E) (0 : Int32)) (M_X0_read_84 (q_kap E) (1 : Int32)))) h (fun v73 σ h => ?_)
  refine q_W.st (st' := [q_I v73]) rfl ?_
  refine q_if_ne (pc := 76) (tgt := 83) C dX0_read_76 (by decide) h (fun _ h => ?_) (fun _ h => ?_)
  · refine q_iconst (pc := 83) (v := (0 : Int32)) C dX0_read_83 (by decide) ?_
    refine q_W.sub [] rfl ?_
    exact S_X0_read_84 B hT (0 : Int32) _ h
  · refine q_iconst (pc := 79) (v := (1 : Int32)) C dX0_read_79 (by decide) ?_
    refine q_goto (pc := 80) (tgt := 84) C dX0_read_80 (by decide) ?_
    refine q_W.sub [] rfl ?_
    exact S_X0_read_84 B hT (1 : Int32) _ h
def F_X0_read_52 (κ : Nat → Nat) (l0 : Option Nat) : q_X Int32 :=
  q_rd (q_gA l0 3 0) fun v53 => q_rd (q_is v53 12) fun _ => q_ca (F_X9_hasFault κ v53) fun v56 => q_br (v56 = 0) (F_X0_read_69 κ l0) (q_rd (q_gA l0 3 2) fun v63 => q_rd (q_is v63 8) fun _ => q_ca (F_X5_clear κ v63) fun _v66 => F_X0_read_69 κ l0)
theorem M_X0_read_52 (κ : Nat → Nat) (l0 : Option Nat) : q_mo (F_X0_read_52 κ l0) := (q_mo_rd fun v53 => (q_mo_rd fun _ => q_mo_ca (M_X9_hasFault κ v53) fun v56 => (q_mo_br (M_X0_read_69 κ l0) (q_mo_rd fun v63 => (q_mo_rd fun _ => q_mo_ca (M_X5_clear κ v63) fun _v66 => (M_X0_read_69 κ l0))))))
set_option maxRecDepth 100000 in
set_option maxHeartbeats 4000000 in
theorem S_X0_read_52 {E : q_Ev} {Γ : q_Gm} {w : (Int32 ⊕ q_Exn) × q_St} (B : q_Bd E Γ cX0_read yX0_read.cls 2 8 195 (some .boolean) yX0_read.name w) (hT : q_nT Γ) (l0 : Option Nat) (σ : q_St) (h : F_X0_read_52 (q_kap E) l0 σ = some w) : q_W E Γ (q_QF E Γ q_oI w) 2 σ 52 [(0, q_R l0)] [] := by
  have C := B.1
  unfold F_X0_read_52 at h
  refine q_aload_n (pc := 52) C 0 rfl dX0_read_52 rfl ?_
  refine q_getA (pc := 53) C dX0_read_53 ql_X0_15 h (fun v53 h => ?_)
  refine q_callV (pc := 56) (As := []) (st := []) (ps := q_psI) C B.2.1 hT q_hpI qm_X0_55 qv_X9_hasFault dX0_read_56 rfl rfl (Nat.le_of_ble_eq_true rfl) (q_flo B.2.2.1 B.2.2.2.1 (by decide) (by decide)) (K_X9_hasFault v53) (M_X9_hasFault (q_kap E) v53) (by exact fun v56 => (q_mo_br (M_X0_read_69 (q_kap E) l0) (q_mo_rd fun v63 => (q_mo_rd fun _ => q_mo_ca (M_X5_clear (q_kap E) v63) fun _v66 => (M_X0_read_69 (q_kap E) l0))))) h (fun v56 σ h => ?_)
  refine q_W.st (st' := [q_I v56]) rfl ?_
  refine q_if_eq (pc := 59) (tgt := 69) C dX0_read_59 (by decide) h (fun _ h => ?_) (fun _ h => ?_)
  · exact S_X0_read_69 B hT l0 _ h
  · refine q_aload_n (pc := 62) C 0 rfl dX0_read_62 rfl ?_
    refine q_getA (pc := 63) C dX0_read_63 ql_X0_26 h (fun v63 h => ?_)
    refine q_callV (pc := 66) (As := []) (st := []) (ps := q_psV) C B.2.1 hT q_hpV qm_X0_30 qv_X5_clear dX0_read_66 rfl rfl (Nat.le_of_ble_eq_true rfl) (q_flo B.2.2.1 B.2.2.2.1 (by decide) (by decide)) (K_X5_clear v63) (M_X5_clear (q_kap E) v63) (by exact fun _v66 => (M_X0_read_69 (q_kap E) l0)) h (fun _v66 σ h => ?_)
    refine q_W.st (st' := []) rfl ?_
    exact S_X0_read_69 B hT l0 _ h
def F_X0_read_21B (κ : Nat → Nat) (r21 : Option Nat → Int32 → q_X Int32) (l0 : Option Nat) (l1 : Int32) : q_X Int32 :=
  q_rd (q_gA l0 3 1) fun v23 => q_rd (q_gI v23 13 6) fun v26 => q_br (v26 < l1) (F_X0_read_52 κ l0) (q_rd (q_gA l0 3 0) fun v33 => q_rd (q_is v33 12) fun _ => q_ca (F_X9_isDone κ v33) fun v36 => q_br (¬ v36 = 0) (F_X0_read_52 κ l0) (q_rd (q_is l0 3) fun _ => q_ca (F_X0_readStatement κ l0) fun _v43 => r21 l0 (l1 + (1 : Int32))))
theorem M_X0_read_21B (κ : Nat → Nat) (r21 : Option Nat → Int32 → q_X Int32) (mr21 : ∀ (l0 : Option Nat) (l1 : Int32), q_mo (r21 l0 l1)) (l0 : Option Nat) (l1 : Int32) : q_mo (F_X0_read_21B κ r21 l0 l1) := (q_mo_rd fun v23 => (q_mo_rd fun v26 => (q_mo_br (M_X0_read_52 κ l0) (q_mo_rd fun v33 => (q_mo_rd fun _ => q_mo_ca (M_X9_isDone κ v33) fun v36 => (q_mo_br (M_X0_read_52 κ l0) (q_mo_rd fun _ => q_mo_ca (M_X0_readStatement κ l0) fun _v43 => (mr21 l0 (l1 + (1 : Int32))))))))))
set_option maxRecDepth 100000 in
set_option maxHeartbeats 4000000 in
theorem S_X0_read_21B {E : q_Ev} {Γ : q_Gm} {w : (Int32 ⊕ q_Exn) × q_St} (B : q_Bd E Γ cX0_read yX0_read.cls 2 8 195 (some .boolean) yX0_read.name w) (hT : q_nT Γ) (r21 : Option Nat → Int32 → q_X Int32) (hr21 : ∀ (l0 : Option Nat) (l1 : Int32) (σ : q_St), r21 l0 l1 σ = some w → q_W E Γ (q_QF E Γ q_oI w) 2 σ 21 [(0, q_R l0), (1, q_I l1)] []) (mr21 : ∀ (l0 : Option Nat) (l1 : Int32), q_mo (r21 l0 l1)) (l0 : Option Nat) (l1 : Int32) (σ : q_St) (h : F_X0_read_21B (q_kap E) r21 l0 l1 σ = some w) : q_W E Γ (q_QF E Γ q_oI w) 2 σ 21 [(0, q_R l0), (1, q_I l1)] [] := by
  have C := B.1
  unfold F_X0_read_21B at h
  refine q_iload_n (pc := 21) C 1 rfl dX0_read_21 rfl ?_
  refine q_aload_n (pc := 22) C 0 rfl dX0_read_22 rfl ?_
  refine q_getA (pc := 23) C dX0_read_23 ql_X0_25 h (fun v23 h => ?_)
  refine q_getI (pc := 26) C dX0_read_26 ql_X0_42 h (fun v26 h => ?_)
  refine q_icmp_gt (pc := 29) (tgt := 52) C dX0_read_29 (by decide) h (fun _ h => ?_) (fun _ h => ?_)
  · refine q_W.sub [0] rfl ?_
    exact S_X0_read_52 B hT l0 _ h
  · refine q_aload_n (pc := 32) C 0 rfl dX0_read_32 rfl ?_
    refine q_getA (pc := 33) C dX0_read_33 ql_X0_15 h (fun v33 h => ?_)
    refine q_callV (pc := 36) (As := []) (st := []) (ps := q_psI) C B.2.1 hT q_hpI qm_X0_48 qv_X9_isDone dX0_read_36 rfl rfl (Nat.le_of_ble_eq_true rfl) (q_flo B.2.2.1 B.2.2.2.1 (by decide) (by decide)) (K_X9_isDone v33) (M_X9_isDone (q_kap E) v33) (by exact fun v36 => (q_mo_br (M_X0_read_52 (q_kap E) l0) (q_mo_rd fun _ => q_mo_ca (M_X0_readStatement (q_kap E) l0) fun _v43 => (mr21 l0 (l1 + (1 : Int32)))))) h (fun v36 σ h => ?_)
    refine q_W.st (st' := [q_I v36]) rfl ?_
    refine q_if_ne (pc := 39) (tgt := 52) C dX0_read_39 (by decide) h (fun _ h => ?_) (fun _ h => ?_)
    · refine q_W.sub [0] rfl ?_
      exact S_X0_read_52 B hT l0 _ h
    · refine q_aload_n (pc := 42) C 0 rfl dX0_read_42 rfl ?_
      refine q_callV (pc := 43) (As := []) (st := []) (ps := q_psV) C B.2.1 hT q_hpV qm_X0_52 qv_X0_readStatement dX0_read_43 rfl rfl (Nat.le_of_ble_eq_true rfl) (q_flo B.2.2.1 B.2.2.2.1 (by decide) (by decide)) (K_X0_readStatement l0) (M_X0_readStatement (q_kap E) l0) (by exact fun _v43 => (mr21 l0 (l1 + (1 : Int32)))) h (fun _v43 σ h => ?_)
      refine q_W.st (st' := []) rfl ?_
      refine q_iinc (pc := 46) (v := (1 : Int32)) (l' := [(1, q_I (l1 + (1 : Int32))), (0, q_R l0)]) C 1 rfl dX0_read_46 (by decide) (by decide) rfl ?_
      refine q_goto (pc := 49) (tgt := 21) C dX0_read_49 (by decide) ?_
      refine q_W.sub [1, 0] rfl ?_
      exact hr21 l0 (l1 + (1 : Int32)) _ h
def F_X0_read_21 (κ : Nat → Nat) : Nat → Option Nat → Int32 → q_X Int32
  | 0, _, _ => q_no
  | n + 1, l0, l1 => F_X0_read_21B κ (F_X0_read_21 κ n) l0 l1
theorem M_X0_read_21 (κ : Nat → Nat) : ∀ (n : Nat) (l0 : Option Nat) (l1 : Int32), q_mo (F_X0_read_21 κ n l0 l1)
  | 0, _, _ => q_mo_no
  | n + 1, l0, l1 => M_X0_read_21B κ (F_X0_read_21 κ n) (M_X0_read_21 κ n) l0 l1
theorem S_X0_read_21 {E : q_Ev} {Γ : q_Gm} {w : (Int32 ⊕ q_Exn) × q_St} (B : q_Bd E Γ cX0_read yX0_read.cls 2 8 195 (some .boolean) yX0_read.name w) (hT : q_nT Γ) : ∀ (n : Nat) (l0 : Option Nat) (l1 : Int32) (σ : q_St), F_X0_read_21 (q_kap E) n l0 l1 σ = some w → q_W E Γ (q_QF E Γ q_oI w) 2 σ 21 [(0, q_R l0), (1, q_I l1)] []
  | 0, _, _, _, h => by cases h
  | n + 1, l0, l1, σ, h => S_X0_read_21B B hT (F_X0_read_21 (q_kap E) n) (S_X0_read_21 B hT n) (M_X0_read_21 (q_kap E) n) l0 l1 σ h
def F_X0_read (κ : Nat → Nat) (l0 : Option Nat) : q_X Int32 :=
  q_rd (q_gA l0 3 2) fun v1 => q_rd (q_is v1 8) fun _ => q_ca (F_X5_clear κ v1) fun _v4 => q_rd (q_gA l0 3 0) fun v8 => q_rd (q_is v8 12) fun _ => q_ca (F_X9_begin κ v8 (0 : Int32)) fun _v12 => q_rd (q_is l0 3) fun _ => q_ca (F_X0_readWidth κ l0) fun _v16 => F_X0_read_21 κ q_fu l0 (0 : Int32)
theorem M_X0_read (κ : Nat → Nat) (l0 : Option Nat) : q_mo (F_X0_read κ l0) := (q_mo_rd fun v1 => (q_mo_rd fun _ => q_mo_ca (M_X5_clear κ v1) fun _v4 => (q_mo_rd fun v8 => (q_mo_rd fun _ => q_mo_ca (M_X9_begin κ v8 (0 : Int32)) fun _v12 => (q_mo_rd fun _ => q_mo_ca (M_X0_readWidth κ l0) fun _v16 => (M_X0_read_21 κ q_fu l0 (0 : Int32)))))))
set_option maxRecDepth 100000 in
set_option maxHeartbeats 4000000 in
theorem K_X0_read {E : q_Ev} (l0 : Option Nat) : q_Ct E yX0_read (.code yX0_read cX0_read 2 (some .boolean)) 8 195 [q_R l0] q_oI (F_X0_read (q_kap E) l0) := by
  refine q_enter (by decide) (Nat.le_of_ble_eq_true rfl) (fun Γ σ w h B hT => ?_)
  have C := B.1
  unfold F_X0_read at h
  refine q_aload_n (pc := 0) C 0 rfl dX0_read_0 rfl ?_
  refine q_getA (pc := 1) C dX0_read_1 ql_X0_26 h (fun v1 h => ?_)
  refine q_callV (pc := 4) (As := []) (st := []) (ps := q_psV) C B.2.1 hT q_hpV qm_X0_30 qv_X5_clear dX0_read_4 rfl rfl (Nat.le_of_ble_eq_true rfl) (q_flo B.2.2.1 B.2.2.2.1 (by decide) (by decide)) (K_X5_clear v1) (M_X5_clear (q_kap E) v1) (by exact fun _v4 => (q_mo_rd fun v8 => (q_mo_rd fun _ => q_mo_ca (M_X9_begin (q_kap E) v8 (0 : Int32)) fun _v12 => (q_mo_rd fun _ => q_mo_ca (M_X0_readWidth (q_kap E) l0) fun _v16 => (M_X0_read_21 (q_kap E) q_fu l0 (0 : Int32)))))) h (fun _v4 σ h => ?_)
  refine q_W.st (st' := []) rfl ?_
  refine q_aload_n (pc := 7) C 0 rfl dX0_read_7 rfl ?_
  refine q_getA (pc := 8) C dX0_read_8 ql_X0_15 h (fun v8 h => ?_)
  refine q_iconst (pc := 11) (v := (0 : Int32)) C dX0_read_11 (by decide) ?_
  refine q_callV (pc := 12) (As := [q_I (0 : Int32)]) (st := []) (ps := q_psV) C B.2.1 hT q_hpV qm_X0_35 qv_X9_begin dX0_read_12 rfl rfl (Nat.le_of_ble_eq_true rfl) (q_flo B.2.2.1 B.2.2.2.1 (by decide) (by decide)) (K_X9_begin v8 (0 : Int32)) (M_X9_begin (q_kap E) v8 (0 : Int32)) (by exact fun _v12 => (q_mo_rd fun _ => q_mo_ca (M_X0_readWidth (q_kap E) l0) fun _v16 => (M_X0_read_21 (q_kap E) q_fu l0 (0 : Int32)))) h (fun _v12 σ h => ?_)
  refine q_W.st (st' := []) rfl ?_
  refine q_aload_n (pc := 15) C 0 rfl dX0_read_15 rfl ?_
  refine q_callV (pc := 16) (As := []) (st := []) (ps := q_psV) C B.2.1 hT q_hpV qm_X0_39 qv_X0_readWidth dX0_read_16 rfl rfl (Nat.le_of_ble_eq_true rfl) (q_flo B.2.2.1 B.2.2.2.1 (by decide) (by decide)) (K_X0_readWidth l0) (M_X0_readWidth (q_kap E) l0) (by exact fun _v16 => (M_X0_read_21 (q_kap E) q_fu l0 (0 : Int32))) h (fun _v16 σ h => ?_)
  refine q_W.st (st' := []) rfl ?_
  refine q_iconst (pc := 19) (v := (0 : Int32)) C dX0_read_19 (by decide) ?_
  refine q_istore_n (pc := 20) (l' := [(1, q_I (0 : Int32)), (0, q_R l0)]) C dX0_read_20 rfl (by decide) rfl ?_
  refine q_W.sub [1, 0] rfl ?_
  exact S_X0_read_21 B hT q_fu l0 (0 : Int32) _ h
def F_X1_encode_63 (κ : Nat → Nat) (r10 : Option Nat → Int32 → Option Nat → Int64 → Int32 → q_X Int64) (l0 : Option Nat) (l1 : Int32) (l2 : Option Nat) (l3 : Int64) (l5 : Int32) : q_X Int64 :=
  r10 l0 l1 l2 l3 (l5 + (1 : Int32))
theorem M_X1_encode_63 (κ : Nat → Nat) (r10 : Option Nat → Int32 → Option Nat → Int64 → Int32 → q_X Int64) (mr10 : ∀ (l0 : Option Nat) (l1 : Int32) (l2 : Option Nat) (l3 : Int64) (l5 : Int32), q_mo (r10 l0 l1 l2 l3 l5)) (l0 : Option Nat) (l1 : Int32) (l2 : Option Nat) (l3 : Int64) (l5 : Int32) : q_mo (F_X1_encode_63 κ r10 l0 l1 l2 l3 l5) := (mr10 l0 l1 l2 l3 (l5 + (1 : Int32)))
set_option maxRecDepth 100000 in
set_option maxHeartbeats 4000000 in
theorem S_X1_encode_63 {E : q_Ev} {Γ : q_Gm} {w : (Int64 ⊕ q_Exn) × q_St} (B : q_Bd E Γ cX1_encode yX1_encode.cls 9 0 0 (some .long) yX1_encode.name w) (hT : q_nT Γ) (r10 : Option Nat → Int32 → Option Nat → Int64 → Int32 → q_X Int64) (hr10 : ∀ (l0 : Option Nat) (l1 : Int32) (l2 : Option Nat) (l3 : Int64) (l5 : Int32) (σ : q_St), r10 l0 l1 l2 l3 l5 σ = some w → q_W E Γ (q_QF E Γ q_oL w) 9 σ 10 [(0, q_R l0), (1, q_I l1), (2, q_R l2), (3, q_L l3), (5, q_I l5)] []) (mr10 : ∀ (l0 : Option Nat) (l1 : Int32) (l2 : Option Nat) (l3 : Int64) (l5 : Int32), q_mo (r10 l0 l1 l2 l3 l5)) (l0 : Option Nat) (l1 : Int32) (l2 : Option Nat) (l3 : Int64) (l5 : Int32) (σ : q_St) (h : F_X1_encode_63 (q_kap E) r10 l0 l1 l2 l3 l5 σ = some w) : q_W E Γ (q_QF E Γ q_oL w) 9 σ 63 [(0, q_R l0), (1, q_I l1), (2, q_R l2), (3, q_L l3), (5, q_I l5)] [] := by
  have C := B.1
  unfold F_X1_encode_63 at h
  refine q_iinc (pc := 63) (v := (1 : Int32)) (l' := [(5, q_I (l5 + (1 : Int32))), (0, q_R l0), (1, q_I l1), (2, q_R l2), (3, q_L l3)]) C 4 rfl dX1_encode_63 (by decide) (by decide) rfl ?_
  refine q_goto (pc := 66) (tgt := 10) C dX1_encode_66 (by decide) ?_
  refine q_W.sub [1, 2, 3, 4, 0] rfl ?_
  exact hr10 l0 l1 l2 l3 (l5 + (1 : Int32)) _ h
def F_X1_encode_10B (κ : Nat → Nat) (r10 : Option Nat → Int32 → Option Nat → Int64 → Int32 → q_X Int64) (l0 : Option Nat) (l1 : Int32) (l2 : Option Nat) (l3 : Int64) (l5 : Int32) : q_X Int64 :=
  q_br ((32 : Int32) ≤ l5) (q_rt l3) (q_rd (q_gA l0 4 6) fun v18 => q_rd (q_lI 1 v18 ((l1 * (32 : Int32)) + l5)) fun v28 => q_br ((v28 - (1 : Int32)) < 0) (F_X1_encode_63 κ r10 l0 l1 l2 l3 l5) (q_gd (¬ (32 : Int32) = 0) (q_rd (q_lL l2 ((v28 - (1 : Int32)) / (32 : Int32))) fun v44 => q_gd (¬ (32 : Int32) = 0) (F_X1_encode_63 κ r10 l0 l1 l2 (l3 ||| (((v44 >>> (((v28 - (1 : Int32)) - (v28 - (1 : Int32)) / (32 : Int32) * (32 : Int32)).toInt64 &&& 63)) &&& (1 : Int64)) <<< (l5.toInt64 &&& 63))) l5))))
theorem M_X1_encode_10B (κ : Nat → Nat) (r10 : Option Nat → Int32 → Option Nat → Int64 → Int32 → q_X Int64) (mr10 : ∀ (l0 : Option Nat) (l1 : Int32) (l2 : Option Nat) (l3 : Int64) (l5 : Int32), q_mo (r10 l0 l1 l2 l3 l5)) (l0 : Option Nat) (l1 : Int32) (l2 : Option Nat) (l3 : Int64) (l5 : Int32) : q_mo (F_X1_encode_10B κ r10 l0 l1 l2 l3 l5) := (q_mo_br q_mo_rt (q_mo_rd fun v18 => (q_mo_rd fun v28 => (q_mo_br (M_X1_encode_63 κ r10 mr10 l0 l1 l2 l3 l5) (q_mo_gd (q_mo_rd fun v44 => (q_mo_gd (M_X1_encode_63 κ r10 mr10 l0 l1 l2 (l3 ||| (((v44 >>> (((v28 - (1 : Int32)) - (v28 - (1 : Int32)) / (32 : Int32) * (32 : Int32)).toInt64 &&& 63)) &&& (1 : Int64)) <<< (l5.toInt64 &&& 63))) l5))))))))
set_option maxRecDepth 100000 in
set_option maxHeartbeats 4000000 in
theorem S_X1_encode_10B {E : q_Ev} {Γ : q_Gm} {w : (Int64 ⊕ q_Exn) × q_St} (B : q_Bd E Γ cX1_encode yX1_encode.cls 9 0 0 (some .long) yX1_encode.name w) (hT : q_nT Γ) (r10 : Option Nat → Int32 → Option Nat → Int64 → Int32 → q_X Int64) (hr10 : ∀ (l0 : Option Nat) (l1 : Int32) (l2 : Option Nat) (l3 : Int64) (l5 : Int32) (σ : q_St), r10 l0 l1 l2 l3 l5 σ = some w → q_W E Γ (q_QF E Γ q_oL w) 9 σ 10 [(0, q_R l0), (1, q_I l1), (2, q_R l2), (3, q_L l3), (5, q_I l5)] []) (mr10 : ∀ (l0 : Option Nat) (l1 : Int32) (l2 : Option Nat) (l3 : Int64) (l5 : Int32), q_mo (r10 l0 l1 l2 l3 l5)) (l0 : Option Nat) (l1 : Int32) (l2 : Option Nat) (l3 : Int64) (l5 : Int32) (σ : q_St) (h : F_X1_encode_10B (q_kap E) r10 l0 l1 l2 l3 l5 σ = some w) : q_W E Γ (q_QF E Γ q_oL w) 9 σ 10 [(0, q_R l0), (1, q_I l1), (2, q_R l2), (3, q_L l3), (5, q_I l5)] [] := by
  have C := B.1
  unfold F_X1_encode_10B at h
  refine q_iload (pc := 10) C 4 rfl dX1_encode_10 ?_
  refine q_bipush (pc := 12) (v := (32 : Int32)) C dX1_encode_12 (by decide) ?_
  refine q_icmp_ge (pc := 14) (tgt := 69) C dX1_encode_14 (by decide) h (fun _ h => ?_) (fun _ h => ?_)
  · refine q_lload_n (pc := 69) C 3 rfl dX1_encode_69 rfl ?_
    exact q_lret C B.2.2.2.2.1 dX1_encode_70 h
  · refine q_aload_n (pc := 17) C 0 rfl dX1_encode_17 rfl ?_
    refine q_getA (pc := 18) C dX1_encode_18 ql_X1_34 h (fun v18 h => ?_)
    refine q_iload_n (pc := 21) C 1 rfl dX1_encode_21 rfl ?_
    refine q_bipush (pc := 22) (v := (32 : Int32)) C dX1_encode_22 (by decide) ?_
    refine q_imul (pc := 24) C dX1_encode_24 ?_
    refine q_iload (pc := 25) C 4 rfl dX1_encode_25 ?_
    refine q_iadd (pc := 27) C dX1_encode_27 ?_
    refine q_ldI (pc := 28) C dX1_encode_28 (Or.inr (Or.inl ⟨rfl, rfl⟩)) h (fun v28 h => ?_)
    refine q_iconst (pc := 29) (v := (1 : Int32)) C dX1_encode_29 (by decide) ?_
    refine q_isub (pc := 30) C dX1_encode_30 ?_
    refine q_istore (pc := 31) (l' := [(6, q_I (v28 - (1 : Int32))), (0, q_R l0), (1, q_I l1), (2, q_R l2), (3, q_L l3), (5, q_I l5)]) C dX1_encode_31 (by decide) rfl ?_
    refine q_iload (pc := 33) C 0 rfl dX1_encode_33 ?_
    refine q_if_lt (pc := 35) (tgt := 63) C dX1_encode_35 (by decide) h (fun _ h => ?_) (fun _ h => ?_)
    · refine q_W.sub [1, 2, 3, 4, 5] rfl ?_
      exact S_X1_encode_63 B hT r10 hr10 mr10 l0 l1 l2 l3 l5 _ h
    · refine q_aload_n (pc := 38) C 3 rfl dX1_encode_38 rfl ?_
      refine q_iload (pc := 39) C 0 rfl dX1_encode_39 ?_
      refine q_bipush (pc := 41) (v := (32 : Int32)) C dX1_encode_41 (by decide) ?_
      obtain ⟨g43, h⟩ := q_gd_e h
      refine q_idiv (pc := 43) C dX1_encode_43 g43 ?_
      refine q_ldL (pc := 44) C dX1_encode_44 h (fun v44 h => ?_)
      refine q_iload (pc := 45) C 0 rfl dX1_encode_45 ?_
      refine q_bipush (pc := 47) (v := (32 : Int32)) C dX1_encode_47 (by decide) ?_
      obtain ⟨g49, h⟩ := q_gd_e h
      refine q_irem (pc := 49) C dX1_encode_49 g49 ?_
      refine q_lshr (pc := 50) C dX1_encode_50 ?_
      refine q_lstore (pc := 51) (l' := [(7, q_L (v44 >>> (((v28 - (1 : Int32)) - (v28 - (1 : Int32)) / (32 : Int32) * (32 : Int32)).toInt64 &&& 63))), (6, q_I (v28 - (1 : Int32))), (0, q_R l0), (1, q_I l1), (2, q_R l2), (3, q_L l3), (5, q_I l5)]) C dX1_encode_51 (by decide) rfl ?_
      refine q_lload_n (pc := 53) C 5 rfl dX1_encode_53 rfl ?_
      refine q_lload (pc := 54) C 0 rfl dX1_encode_54 ?_
      refine q_lconst (pc := 56) (v := (1 : Int64)) C dX1_encode_56 (by decide) ?_
      refine q_land (pc := 57) C dX1_encode_57 ?_
      refine q_iload (pc := 58) C 6 rfl dX1_encode_58 ?_
      refine q_lshl (pc := 60) C dX1_encode_60 ?_
      refine q_lor (pc := 61) C dX1_encode_61 ?_
      refine q_lstore_n (pc := 62) (l' := [(3, q_L (l3 ||| (((v44 >>> (((v28 - (1 : Int32)) - (v28 - (1 : Int32)) / (32 : Int32) * (32 : Int32)).toInt64 &&& 63)) &&& (1 : Int64)) <<< (l5.toInt64 &&& 63)))), (7, q_L (v44 >>> (((v28 - (1 : Int32)) - (v28 - (1 : Int32)) / (32 : Int32) * (32 : Int32)).toInt64 &&& 63))), (6, q_I (v28 - (1 : Int32))), (0, q_R l0), (1, q_I l1), (2, q_R l2), (5, q_I l5)]) C dX1_encode_62 rfl (by decide) rfl ?_
      refine q_W.sub [3, 4, 5, 0, 6] rfl ?_
      exact S_X1_encode_63 B hT r10 hr10 mr10 l0 l1 l2 (l3 ||| (((v44 >>> (((v28 - (1 : Int32)) - (v28 - (1 : Int32)) / (32 : Int32) * (32 : Int32)).toInt64 &&& 63)) &&& (1 : Int64)) <<< (l5.toInt64 &&& 63))) l5 _ h
def F_X1_encode_10 (κ : Nat → Nat) : Nat → Option Nat → Int32 → Option Nat → Int64 → Int32 → q_X Int64
  | 0, _, _, _, _, _ => q_no
  | n + 1, l0, l1, l2, l3, l5 => F_X1_encode_10B κ (F_X1_encode_10 κ n) l0 l1 l2 l3 l5
theorem M_X1_encode_10 (κ : Nat → Nat) : ∀ (n : Nat) (l0 : Option Nat) (l1 : Int32) (l2 : Option Nat) (l3 : Int64) (l5 : Int32), q_mo (F_X1_encode_10 κ n l0 l1 l2 l3 l5)
  | 0, _, _, _, _, _ => q_mo_no
  | n + 1, l0, l1, l2, l3, l5 => M_X1_encode_10B κ (F_X1_encode_10 κ n) (M_X1_encode_10 κ n) l0 l1 l2 l3 l5
theorem S_X1_encode_10 {E : q_Ev} {Γ : q_Gm} {w : (Int64 ⊕ q_Exn) × q_St} (B : q_Bd E Γ cX1_encode yX1_encode.cls 9 0 0 (some .long) yX1_encode.name w) (hT : q_nT Γ) : ∀ (n : Nat) (l0 : Option Nat) (l1 : Int32) (l2 : Option Nat) (l3 : Int64) (l5 : Int32) (σ : q_St), F_X1_encode_10 (q_kap E) n l0 l1 l2 l3 l5 σ = some w → q_W E Γ (q_QF E Γ q_oL w) 9 σ 10 [(0, q_R l0), (1, q_I l1), (2, q_R l2), (3, q_L l3), (5, q_I l5)] []
  | 0, _, _, _, _, _, _, h => by cases h
  | n + 1, l0, l1, l2, l3, l5, σ, h => S_X1_encode_10B B hT (F_X1_encode_10 (q_kap E) n) (S_X1_encode_10 B hT n) (M_X1_encode_10 (q_kap E) n) l0 l1 l2 l3 l5 σ h
def F_X1_encode (κ : Nat → Nat) (l0 : Option Nat) (l1 : Int32) (l2 : Option Nat) : q_X Int64 :=
  q_rd (q_gA l0 4 5) fun v1 => q_rd (q_lL v1 l1) fun v5 => F_X1_encode_10 κ q_fu l0 l1 l2 v5 (0 : Int32)
theorem M_X1_encode (κ : Nat → Nat) (l0 : Option Nat) (l1 : Int32) (l2 : Option Nat) : q_mo (F_X1_encode κ l0 l1 l2) := (q_mo_rd fun v1 => (q_mo_rd fun v5 => (M_X1_encode_10 κ q_fu l0 l1 l2 v5 (0 : Int32))))
set_option maxRecDepth 100000 in
set_option maxHeartbeats 4000000 in
theorem K_X1_encode {E : q_Ev} (l0 : Option Nat) (l1 : Int32) (l2 : Option Nat) : q_Ct E yX1_encode (.code yX1_encode cX1_encode 9 (some .long)) 0 0 [q_R l0, q_I l1, q_R l2] q_oL (F_X1_encode (q_kap E) l0 l1 l2) := by
  refine q_enter (by decide) (Nat.le_of_ble_eq_true rfl) (fun Γ σ w h B hT => ?_)
  have C := B.1
  unfold F_X1_encode at h
  refine q_aload_n (pc := 0) C 0 rfl dX1_encode_0 rfl ?_
  refine q_getA (pc := 1) C dX1_encode_1 ql_X1_31 h (fun v1 h => ?_)
  refine q_iload_n (pc := 4) C 1 rfl dX1_encode_4 rfl ?_
  refine q_ldL (pc := 5) C dX1_encode_5 h (fun v5 h => ?_)
  refine q_lstore_n (pc := 6) (l' := [(3, q_L v5), (0, q_R l0), (1, q_I l1), (2, q_R l2)]) C dX1_encode_6 rfl (by decide) rfl ?_
  refine q_iconst (pc := 7) (v := (0 : Int32)) C dX1_encode_7 (by decide) ?_
  refine q_istore (pc := 8) (l' := [(5, q_I (0 : Int32)), (3, q_L v5), (0, q_R l0), (1, q_I l1), (2, q_R l2)]) C dX1_encode_8 (by decide) rfl ?_
  refine q_W.sub [2, 3, 4, 1, 0] rfl ?_
  exact S_X1_encode_10 B hT q_fu l0 l1 l2 v5 (0 : Int32) _ h
def F_X1_decode_73 (κ : Nat → Nat) (r8 : Option Nat → Option Nat → Int32 → Option Nat → Int32 → q_X Unit) (l0 : Option Nat) (l1 : Option Nat) (l2 : Int32) (l3 : Option Nat) (l4 : Int32) : q_X Unit :=
  r8 l0 l1 l2 l3 (l4 + (1 : Int32))
theorem M_X1_decode_73 (κ : Nat → Nat) (r8 : Option Nat → Option Nat → Int32 → Option Nat → Int32 → q_X Unit) (mr8 : ∀ (l0 : Option Nat) (l1 : Option Nat) (l2 : Int32) (l3 : Option Nat) (l4 : Int32), q_mo (r8 l0 l1 l2 l3 l4)) (l0 : Option Nat) (l1 : Option Nat) (l2 : Int32) (l3 : Option Nat) (l4 : Int32) : q_mo (F_X1_decode_73 κ r8 l0 l1 l2 l3 l4) := (mr8 l0 l1 l2 l3 (l4 + (1 : Int32)))
set_option maxRecDepth 100000 in
set_option maxHeartbeats 4000000 in
theorem S_X1_decode_73 {E : q_Ev} {Γ : q_Gm} {w : (Unit ⊕ q_Exn) × q_St} (B : q_Bd E Γ cX1_decode yX1_decode.cls 8 1 24 (none) yX1_decode.name w) (hT : q_nT Γ) (r8 : Option Nat → Option Nat → Int32 → Option Nat → Int32 → q_X Unit) (hr8 : ∀ (l0 : Option Nat) (l1 : Option Nat) (l2 : Int32) (l3 : Option Nat) (l4 : Int32) (σ : q_St), r8 l0 l1 l2 l3 l4 σ = some w → q_W E Γ (q_QF E Γ q_oV w) 8 σ 8 [(0, q_R l0), (1, q_R l1), (2, q_I l2), (3, q_R l3), (4, q_I l4)] []) (mr8 : ∀ (l0 : Option Nat) (l1 : Option Nat) (l2 : Int32) (l3 : Option Nat) (l4 : Int32), q_mo (r8 l0 l1 l2 l3 l4)) (l0 : Option Nat) (l1 : Option Nat) (l2 : Int32) (l3 : Option Nat) (l4 : Int32) (σ : q_St) (h : F_X1_decode_73 (q_kap E) r8 l0 l1 l2 l3 l4 σ = some w) : q_W E Γ (q_QF E Γ q_oV w) 8 σ 73 [(0, q_R l0), (1, q_R l1), (2, q_I l2), (3, q_R l3), (4, q_I l4)] [] := by
  have C := B.1
  unfold F_X1_decode_73 at h
  refine q_iinc (pc := 73) (v := (1 : Int32)) (l' := [(4, q_I (l4 + (1 : Int32))), (0, q_R l0), (1, q_R l1), (2, q_I l2), (3, q_R l3)]) C 4 rfl dX1_decode_73 (by decide) (by decide) rfl ?_
  refine q_goto (pc := 76) (tgt := 8) C dX1_decode_76 (by decide) ?_
  refine q_W.sub [1, 2, 3, 4, 0] rfl ?_
  exact hr8 l0 l1 l2 l3 (l4 + (1 : Int32)) _ h
def F_X1_decode_8B (κ : Nat → Nat) (r8 : Option Nat → Option Nat → Int32 → Option Nat → Int32 → q_X Unit) (l0 : Option Nat) (l1 : Option Nat) (l2 : Int32) (l3 : Option Nat) (l4 : Int32) : q_X Unit :=
  q_rd (q_gI l0 4 9) fun v11 => q_br ((v11 * (32 : Int32)) ≤ l4) (q_rt ()) (q_rd (q_gA l0 4 6) fun v21 => q_rd (q_lI 1 v21 l4) fun v26 => q_br ((v26 - (1 : Int32)) < 0) (F_X1_decode_73 κ r8 l0 l1 l2 l3 l4) (q_gd (¬ (32 : Int32) = 0) (q_rd (q_lL l1 (l2 + (l4 / (32 : Int32)))) fun v44 => q_gd (¬ (32 : Int32) = 0) (q_gd (¬ (32 : Int32) = 0) (q_rd (q_lL l3 ((v26 - (1 : Int32)) / (32 : Int32))) fun v62 => q_gd (¬ (32 : Int32) = 0) (q_wr (q_sL l3 ((v26 - (1 : Int32)) / (32 : Int32)) (v62 ||| (((v44 >>> ((l4 - l4 / (32 : Int32) * (32 : Int32)).toInt64 &&& 63)) &&& (1 : Int64)) <<< (((v26 - (1 : Int32)) - (v26 - (1 : Int32)) / (32 : Int32) * (32 : Int32)).toInt64 &&& 63)))) (F_X1_decode_73 κ r8 l0 l1 l2 l3 l4)))))))
theorem M_X1_decode_8B (κ : Nat → Nat) (r8 : Option Nat → Option Nat → Int32 → Option Nat → Int32 → q_X Unit) (mr8 : ∀ (l0 : Option Nat) (l1 : Option Nat) (l2 : Int32) (l3 : Option Nat) (l4 : Int32), q_mo (r8 l0 l1 l2 l3 l4)) (l0 : Option Nat) (l1 : Option Nat) (l2 : Int32) (l3 : Option Nat) (l4 : Int32) : q_mo (F_X1_decode_8B κ r8 l0 l1 l2 l3 l4) := (q_mo_rd fun v11 => (q_mo_br q_mo_rt (q_mo_rd fun v21 => (q_mo_rd fun v26 => (q_mo_br (M_X1_decode_73 κ r8 mr8 l0 l1 l2 l3 l4) (q_mo_gd (q_mo_rd fun v44 => (q_mo_gd (q_mo_gd (q_mo_rd fun v62 => (q_mo_gd (q_mo_wr (M_X1_decode_73 κ r8 mr8 l0 l1 l2 l3 l4)))))))))))))
set_option maxRecDepth 100000 in
set_option maxHeartbeats 4000000 in
theorem S_X1_decode_8B {E : q_Ev} {Γ : q_Gm} {w : (Unit ⊕ q_Exn) × q_St} (B : q_Bd E Γ cX1_decode yX1_decode.cls 8 1 24 (none) yX1_decode.name w) (hT : q_nT Γ) (r8 : Option Nat → Option Nat → Int32 → Option Nat → Int32 → q_X Unit) (hr8 : ∀ (l0 : Option Nat) (l1 : Option Nat) (l2 : Int32) (l3 : Option Nat) (l4 : Int32) (σ : q_St), r8 l0 l1 l2 l3 l4 σ = some w → q_W E Γ (q_QF E Γ q_oV w) 8 σ 8 [(0, q_R l0), (1, q_R l1), (2, q_I l2), (3, q_R l3), (4, q_I l4)] []) (mr8 : ∀ (l0 : Option Nat) (l1 : Option Nat) (l2 : Int32) (l3 : Option Nat) (l4 : Int32), q_mo (r8 l0 l1 l2 l3 l4)) (l0 : Option Nat) (l1 : Option Nat) (l2 : Int32) (l3 : Option Nat) (l4 : Int32) (σ : q_St) (h : F_X1_decode_8B (q_kap E) r8 l0 l1 l2 l3 l4 σ = some w) : q_W E Γ (q_QF E Γ q_oV w) 8 σ 8 [(0, q_R l0), (1, q_R l1), (2, q_I l2), (3, q_R l3), (4, q_I l4)] [] := by
  have C := B.1
  unfold F_X1_decode_8B at h
  refine q_iload (pc := 8) C 4 rfl dX1_decode_8 ?_
  refine q_aload_n (pc := 10) C 0 rfl dX1_decode_10 rfl ?_
  refine q_getI (pc := 11) C dX1_decode_11 ql_X1_56 h (fun v11 h => ?_)
  refine q_bipush (pc := 14) (v := (32 : Int32)) C dX1_decode_14 (by decide) ?_
  refine q_imul (pc := 16) C dX1_decode_16 ?_
  refine q_icmp_ge (pc := 17) (tgt := 79) C dX1_decode_17 (by decide) h (fun _ h => ?_) (fun _ h => ?_)
  · exact q_vret C B.2.2.2.2.1 dX1_decode_79 h
  · refine q_aload_n (pc := 20) C 0 rfl dX1_decode_20 rfl ?_
    refine q_getA (pc := 21) C dX1_decode_21 ql_X1_34 h (fun v21 h => ?_)
    refine q_iload (pc := 24) C 4 rfl dX1_decode_24 ?_
    refine q_ldI (pc := 26) C dX1_decode_26 (Or.inr (Or.inl ⟨rfl, rfl⟩)) h (fun v26 h => ?_)
    refine q_iconst (pc := 27) (v := (1 : Int32)) C dX1_decode_27 (by decide) ?_
    refine q_isub (pc := 28) C dX1_decode_28 ?_
    refine q_istore (pc := 29) (l' := [(5, q_I (v26 - (1 : Int32))), (0, q_R l0), (1, q_R l1), (2, q_I l2), (3, q_R l3), (4, q_I l4)]) C dX1_decode_29 (by decide) rfl ?_
    refine q_iload (pc := 31) C 0 rfl dX1_decode_31 ?_
    refine q_if_lt (pc := 33) (tgt := 73) C dX1_decode_33 (by decide) h (fun _ h => ?_) (fun _ h => ?_)
    · refine q_W.sub [1, 2, 3, 4, 5] rfl ?_
      exact S_X1_decode_73 B hT r8 hr8 mr8 l0 l1 l2 l3 l4 _ h
    · refine q_aload_n (pc := 36) C 2 rfl dX1_decode_36 rfl ?_
      refine q_iload_n (pc := 37) C 3 rfl dX1_decode_37 rfl ?_
      refine q_iload (pc := 38) C 5 rfl dX1_decode_38 ?_
      refine q_bipush (pc := 40) (v := (32 : Int32)) C dX1_decode_40 (by decide) ?_
      obtain ⟨g42, h⟩ := q_gd_e h
      refine q_idiv (pc := 42) C dX1_decode_42 g42 ?_
      refine q_iadd (pc := 43) C dX1_decode_43 ?_
      refine q_ldL (pc := 44) C dX1_decode_44 h (fun v44 h => ?_)
      refine q_iload (pc := 45) C 5 rfl dX1_decode_45 ?_
      refine q_bipush (pc := 47) (v := (32 : Int32)) C dX1_decode_47 (by decide) ?_
      obtain ⟨g49, h⟩ := q_gd_e h
      refine q_irem (pc := 49) C dX1_decode_49 g49 ?_
      refine q_lshr (pc := 50) C dX1_decode_50 ?_
      refine q_lconst (pc := 51) (v := (1 : Int64)) C dX1_decode_51 (by decide) ?_
      refine q_land (pc := 52) C dX1_decode_52 ?_
      refine q_lstore (pc := 53) (l' := [(6, q_L ((v44 >>> ((l4 - l4 / (32 : Int32) * (32 : Int32)).toInt64 &&& 63)) &&& (1 : Int64))), (5, q_I (v26 - (1 : Int32))), (0, q_R l0), (1, q_R l1), (2, q_I l2), (3, q_R l3), (4, q_I l4)]) C dX1_decode_53 (by decide) rfl ?_
      refine q_aload_n (pc := 55) C 5 rfl dX1_decode_55 rfl ?_
      refine q_iload (pc := 56) C 1 rfl dX1_decode_56 ?_
      refine q_bipush (pc := 58) (v := (32 : Int32)) C dX1_decode_58 (by decide) ?_
      obtain ⟨g60, h⟩ := q_gd_e h
      refine q_idiv (pc := 60) C dX1_decode_60 g60 ?_
      refine q_dup2_11 (pc := 61) C dX1_decode_61 rfl rfl ?_
      refine q_ldL (pc := 62) C dX1_decode_62 h (fun v62 h => ?_)
      refine q_lload (pc := 63) C 0 rfl dX1_decode_63 ?_
      refine q_iload (pc := 65) C 1 rfl dX1_decode_65 ?_
      refine q_bipush (pc := 67) (v := (32 : Int32)) C dX1_decode_67 (by decide) ?_
      obtain ⟨g69, h⟩ := q_gd_e h
      refine q_irem (pc := 69) C dX1_decode_69 g69 ?_
      refine q_lshl (pc := 70) C dX1_decode_70 ?_
      refine q_lor (pc := 71) C dX1_decode_71 ?_
      refine q_stL (pc := 72) C dX1_decode_72 h (fun M72 h => ?_)
      refine q_W.sub [2, 3, 4, 5, 6] rfl ?_
      exact S_X1_decode_73 B hT r8 hr8 mr8 l0 l1 l2 l3 l4 _ h
def F_X1_decode_8 (κ : Nat → Nat) : Nat → Option Nat → Option Nat → Int32 → Option Nat → Int32 → q_X Unit
  | 0, _, _, _, _, _ => q_no
  | n + 1, l0, l1, l2, l3, l4 => F_X1_decode_8B κ (F_X1_decode_8 κ n) l0 l1 l2 l3 l4
theorem M_X1_decode_8 (κ : Nat → Nat) : ∀ (n : Nat) (l0 : Option Nat) (l1 : Option Nat) (l2 : Int32) (l3 : Option Nat) (l4 : Int32), q_mo (F_X1_decode_8 κ n l0 l1 l2 l3 l4)
  | 0, _, _, _, _, _ => q_mo_no
  | n + 1, l0, l1, l2, l3, l4 => M_X1_decode_8B κ (F_X1_decode_8 κ n) (M_X1_decode_8 κ n) l0 l1 l2 l3 l4
theorem S_X1_decode_8 {E : q_Ev} {Γ : q_Gm} {w : (Unit ⊕ q_Exn) × q_St} (B : q_Bd E Γ cX1_decode yX1_decode.cls 8 1 24 (none) yX1_decode.name w) (hT : q_nT Γ) : ∀ (n : Nat) (l0 : Option Nat) (l1 : Option Nat) (l2 : Int32) (l3 : Option Nat) (l4 : Int32) (σ : q_St), F_X1_decode_8 (q_kap E) n l0 l1 l2 l3 l4 σ = some w → q_W E Γ (q_QF E Γ q_oV w) 8 σ 8 [(0, q_R l0), (1, q_R l1), (2, q_I l2), (3, q_R l3), (4, q_I l4)] []
  | 0, _, _, _, _, _, _, h => by cases h
  | n + 1, l0, l1, l2, l3, l4, σ, h => S_X1_decode_8B B hT (F_X1_decode_8 (q_kap E) n) (S_X1_decode_8 B hT n) (M_X1_decode_8 (q_kap E) n) l0 l1 l2 l3 l4 σ h
def F_X1_decode (κ : Nat → Nat) (l0 : Option Nat) (l1 : Option Nat) (l2 : Int32) (l3 : Option Nat) : q_X Unit :=
  q_ca (F_J7_fill_d0a16 κ l3 (0 : Int64)) fun _v2 => F_X1_decode_8 κ q_fu l0 l1 l2 l3 (0 : Int32)
theorem M_X1_decode (κ : Nat → Nat) (l0 : Option Nat) (l1 : Option Nat) (l2 : Int32) (l3 : Option Nat) : q_mo (F_X1_decode κ l0 l1 l2 l3) := (q_mo_ca (M_J7_fill_d0a16 κ l3 (0 : Int64)) fun _v2 => (M_X1_decode_8 κ q_fu l0 l1 l2 l3 (0 : Int32)))
set_option maxRecDepth 100000 in
set_option maxHeartbeats 4000000 in
theorem K_X1_decode {E : q_Ev} (l0 : Option Nat) (l1 : Option Nat) (l2 : Int32) (l3 : Option Nat) : q_Ct E yX1_decode (.code yX1_decode cX1_decode 8 (none)) 1 24 [q_R l0, q_R l1, q_I l2, q_R l3] q_oV (F_X1_decode (q_kap E) l0 l1 l2 l3) := by
  refine q_enter (by decide) (Nat.le_of_ble_eq_true rfl) (fun Γ σ w h B hT => ?_)
  have C := B.1
  unfold F_X1_decode at h
  refine q_aload_n (pc := 0) C 3 rfl dX1_decode_0 rfl ?_
  refine q_lconst (pc := 1) (v := (0 : Int64)) C dX1_decode_1 (by decide) ?_
  refine q_callS (pc := 2) (As := [q_R l3, q_L (0 : Int64)]) (st := []) (ps := q_psV) C B.2.1 hT q_hpV qm_X1_62 qs_J7_fill_d0a16 dX1_decode_2 rfl rfl (Nat.le_of_ble_eq_true rfl) (q_flo B.2.2.1 B.2.2.2.1 (by decide) (by decide)) (K_J7_fill_d0a16 l3 (0 : Int64)) (M_J7_fill_d0a16 (q_kap E) l3 (0 : Int64)) (by exact fun _v2 => (M_X1_decode_8 (q_kap E) q_fu l0 l1 l2 l3 (0 : Int32))) h (fun _v2 σ h => ?_)
  refine q_W.st (st' := []) rfl ?_
  refine q_iconst (pc := 5) (v := (0 : Int32)) C dX1_decode_5 (by decide) ?_
  refine q_istore (pc := 6) (l' := [(4, q_I (0 : Int32)), (0, q_R l0), (1, q_R l1), (2, q_I l2), (3, q_R l3)]) C dX1_decode_6 (by decide) rfl ?_
  refine q_W.sub [1, 2, 3, 4, 0] rfl ?_
  exact S_X1_decode_8 B hT q_fu l0 l1 l2 l3 (0 : Int32) _ h
def F_X1_mayBe_58 (κ : Nat → Nat) : q_X Int32 :=
  q_rz (1 : Int32)
theorem M_X1_mayBe_58 (κ : Nat → Nat) : q_mo (F_X1_mayBe_58 κ) := q_mo_rz
set_option maxRecDepth 100000 in
set_option maxHeartbeats 4000000 in
theorem S_X1_mayBe_58 {E : q_Ev} {Γ : q_Gm} {w : (Int32 ⊕ q_Exn) × q_St} (B : q_Bd E Γ cX1_mayBe yX1_mayBe.cls 3 0 0 (some .boolean) yX1_mayBe.name w) (hT : q_nT Γ) (σ : q_St) (h : F_X1_mayBe_58 (q_kap E) σ = some w) : q_W E Γ (q_QF E Γ q_oI w) 3 σ 58 [] [] := by
  have C := B.1
  unfold F_X1_mayBe_58 at h
  refine q_iconst (pc := 58) (v := (1 : Int32)) C dX1_mayBe_58 (by decide) ?_
  exact q_zret C B.2.2.2.2.1 dX1_mayBe_59 h
def F_X1_mayBe_2B (κ : Nat → Nat) (r2 : Option Nat → Option Nat → Int32 → q_X Int32) (l0 : Option Nat) (l1 : Option Nat) (l2 : Int32) : q_X Int32 :=
  q_rd (q_gI l0 4 9) fun v4 => q_br (v4 ≤ l2) (F_X1_mayBe_58 κ) (q_rd (q_gI l1 4 9) fun v12 => q_br (v12 ≤ l2) (F_X1_mayBe_58 κ) (q_rd (q_gA l0 4 4) fun v19 => q_rd (q_lL v19 l2) fun v23 => q_rd (q_gA l1 4 4) fun v25 => q_rd (q_lL v25 l2) fun v29 => q_rd (q_gA l0 4 5) fun v32 => q_rd (q_lL v32 l2) fun v36 => q_rd (q_gA l1 4 5) fun v38 => q_rd (q_lL v38 l2) fun v42 => q_br ((lg_cmp ((v23 &&& v29) &&& (v36 ^^^ v42)) (0 : Int64)) = 0) (r2 l0 l1 (l2 + (1 : Int32))) (q_rz (0 : Int32))))
theorem M_X1_mayBe_2B (κ : Nat → Nat) (r2 : Option Nat → Option Nat → Int32 → q_X Int32) (mr2 : ∀ (l0 : Option Nat) (l1 : Option Nat) (l2 : Int32), q_mo (r2 l0 l1 l2)) (l0 : Option Nat) (l1 : Option Nat) (l2 : Int32) : q_mo (F_X1_mayBe_2B κ r2 l0 l1 l2) := (q_mo_rd fun v4 => (q_mo_br (M_X1_mayBe_58 κ) (q_mo_rd fun v12 => (q_mo_br (M_X1_mayBe_58 κ) (q_mo_rd fun v19 => (q_mo_rd fun v23 => (q_mo_rd fun v25 => (q_mo_rd fun v29 => (q_mo_rd fun v32 => (q_mo_rd fun v36 => (q_mo_rd fun v38 => (q_mo_rd fun v42 => (q_mo_br (mr2 l0 l1 (l2 + (1 : Int32))) q_mo_rz)))))))))))))
set_option maxRecDepth 100000 in
set_option maxHeartbeats 4000000 in
theorem S_X1_mayBe_2B {E : q_Ev} {Γ : q_Gm} {w : (Int32 ⊕ q_Exn) × q_St} (B : q_Bd E Γ cX1_mayBe yX1_mayBe.cls 3 0 0 (some .boolean) yX1_mayBe.name w) (hT : q_nT Γ) (r2 : Option Nat → Option Nat → Int32 → q_X Int32) (hr2 : ∀ (l0 : Option Nat) (l1 : Option Nat) (l2 : Int32) (σ : q_St), r2 l0 l1 l2 σ = some w → q_W E Γ (q_QF E Γ q_oI w) 3 σ 2 [(0, q_R l0), (1, q_R l1), (2, q_I l2)] []) (mr2 : ∀ (l0 : Option Nat) (l1 : Option Nat) (l2 : Int32), q_mo (r2 l0 l1 l2)) (l0 : Option Nat) (l1 : Option Nat) (l2 : Int32) (σ : q_St) (h : F_X1_mayBe_2B (q_kap E) r2 l0 l1 l2 σ = some w) : q_W E Γ (q_QF E Γ q_oI w) 3 σ 2 [(0, q_R l0), (1, q_R l1), (2, q_I l2)] [] := by
  have C := B.1
  unfold F_X1_mayBe_2B at h
  refine q_iload_n (pc := 2) C 2 rfl dX1_mayBe_2 rfl ?_
  refine q_aload_n (pc := 3) C 0 rfl dX1_mayBe_3 rfl ?_
  refine q_getI (pc := 4) C dX1_mayBe_4 ql_X1_56 h (fun v4 h => ?_)
  refine q_icmp_ge (pc := 7) (tgt := 58) C dX1_mayBe_7 (by decide) h (fun _ h => ?_) (fun _ h => ?_)
  · refine q_W.sub [] rfl ?_
    exact S_X1_mayBe_58 B hT _ h
  · refine q_iload_n (pc := 10) C 2 rfl dX1_mayBe_10 rfl ?_
    refine q_aload_n (pc := 11) C 1 rfl dX1_mayBe_11 rfl ?_
    refine q_getI (pc := 12) C dX1_mayBe_12 ql_X1_56 h (fun v12 h => ?_)
    refine q_icmp_ge (pc := 15) (tgt := 58) C dX1_mayBe_15 (by decide) h (fun _ h => ?_) (fun _ h => ?_)
    · refine q_W.sub [] rfl ?_
      exact S_X1_mayBe_58 B hT _ h
    · refine q_aload_n (pc := 18) C 0 rfl dX1_mayBe_18 rfl ?_
      refine q_getA (pc := 19) C dX1_mayBe_19 ql_X1_27 h (fun v19 h => ?_)
      refine q_iload_n (pc := 22) C 2 rfl dX1_mayBe_22 rfl ?_
      refine q_ldL (pc := 23) C dX1_mayBe_23 h (fun v23 h => ?_)
      refine q_aload_n (pc := 24) C 1 rfl dX1_mayBe_24 rfl ?_
      refine q_getA (pc := 25) C dX1_mayBe_25 ql_X1_27 h (fun v25 h => ?_)
      refine q_iload_n (pc := 28) C 2 rfl dX1_mayBe_28 rfl ?_
      refine q_ldL (pc := 29) C dX1_mayBe_29 h (fun v29 h => ?_)
      refine q_land (pc := 30) C dX1_mayBe_30 ?_
      refine q_aload_n (pc := 31) C 0 rfl dX1_mayBe_31 rfl ?_
      refine q_getA (pc := 32) C dX1_mayBe_32 ql_X1_31 h (fun v32 h => ?_)
      refine q_iload_n (pc := 35) C 2 rfl dX1_mayBe_35 rfl ?_
      refine q_ldL (pc := 36) C dX1_mayBe_36 h (fun v36 h => ?_)
      refine q_aload_n (pc := 37) C 1 rfl dX1_mayBe_37 rfl ?_
      refine q_getA (pc := 38) C dX1_mayBe_38 ql_X1_31 h (fun v38 h => ?_)
      refine q_iload_n (pc := 41) C 2 rfl dX1_mayBe_41 rfl ?_
      refine q_ldL (pc := 42) C dX1_mayBe_42 h (fun v42 h => ?_)
      refine q_lxor (pc := 43) C dX1_mayBe_43 ?_
      refine q_land (pc := 44) C dX1_mayBe_44 ?_
      refine q_lconst (pc := 45) (v := (0 : Int64)) C dX1_mayBe_45 (by decide) ?_
      refine q_lcmp (pc := 46) C dX1_mayBe_46 ?_
      refine q_if_eq (pc := 47) (tgt := 52) C dX1_mayBe_47 (by decide) h (fun _ h => ?_) (fun _ h => ?_)
      · refine q_iinc (pc := 52) (v := (1 : Int32)) (l' := [(2, q_I (l2 + (1 : Int32))), (0, q_R l0), (1, q_R l1)]) C 2 rfl dX1_mayBe_52 (by decide) (by decide) rfl ?_
        refine q_goto (pc := 55) (tgt := 2) C dX1_mayBe_55 (by decide) ?_
        refine q_W.sub [1, 2, 0] rfl ?_
        exact hr2 l0 l1 (l2 + (1 : Int32)) _ h
      · refine q_iconst (pc := 50) (v := (0 : Int32)) C dX1_mayBe_50 (by decide) ?_
        exact q_zret C B.2.2.2.2.1 dX1_mayBe_51 h
def F_X1_mayBe_2 (κ : Nat → Nat) : Nat → Option Nat → Option Nat → Int32 → q_X Int32
  | 0, _, _, _ => q_no
  | n + 1, l0, l1, l2 => F_X1_mayBe_2B κ (F_X1_mayBe_2 κ n) l0 l1 l2
theorem M_X1_mayBe_2 (κ : Nat → Nat) : ∀ (n : Nat) (l0 : Option Nat) (l1 : Option Nat) (l2 : Int32), q_mo (F_X1_mayBe_2 κ n l0 l1 l2)
  | 0, _, _, _ => q_mo_no
  | n + 1, l0, l1, l2 => M_X1_mayBe_2B κ (F_X1_mayBe_2 κ n) (M_X1_mayBe_2 κ n) l0 l1 l2
theorem S_X1_mayBe_2 {E : q_Ev} {Γ : q_Gm} {w : (Int32 ⊕ q_Exn) × q_St} (B : q_Bd E Γ cX1_mayBe yX1_mayBe.cls 3 0 0 (some .boolean) yX1_mayBe.name w) (hT : q_nT Γ) : ∀ (n : Nat) (l0 : Option Nat) (l1 : Option Nat) (l2 : Int32) (σ : q_St), F_X1_mayBe_2 (q_kap E) n l0 l1 l2 σ = some w → q_W E Γ (q_QF E Γ q_oI w) 3 σ 2 [(0, q_R l0), (1, q_R l1), (2, q_I l2)] []
  | 0, _, _, _, _, h => by cases h
  | n + 1, l0, l1, l2, σ, h => S_X1_mayBe_2B B hT (F_X1_mayBe_2 (q_kap E) n) (S_X1_mayBe_2 B hT n) (M_X1_mayBe_2 (q_kap E) n) l0 l1 l2 σ h
def F_X1_mayBe (κ : Nat → Nat) (l0 : Option Nat) (l1 : Option Nat) : q_X Int32 :=
  F_X1_mayBe_2 κ q_fu l0 l1 (0 : Int32)
theorem M_X1_mayBe (κ : Nat → Nat) (l0 : Option Nat) (l1 : Option Nat) : q_mo (F_X1_mayBe κ l0 l1) := (M_X1_mayBe_2 κ q_fu l0 l1 (0 : Int32))
set_option maxRecDepth 100000 in
set_option maxHeartbeats 4000000 in
theorem K_X1_mayBe {E : q_Ev} (l0 : Option Nat) (l1 : Option Nat) : q_Ct E yX1_mayBe (.code yX1_mayBe cX1_mayBe 3 (some .boolean)) 0 0 [q_R l0, q_R l1] q_oI (F_X1_mayBe (q_kap E) l0 l1) := by
  refine q_enter (by decide) (Nat.le_of_ble_eq_true rfl) (fun Γ σ w h B hT => ?_)
  have C := B.1
  unfold F_X1_mayBe at h
  refine q_iconst (pc := 0) (v := (0 : Int32)) C dX1_mayBe_0 (by decide) ?_
  refine q_istore_n (pc := 1) (l' := [(2, q_I (0 : Int32)), (0, q_R l0), (1, q_R l1)]) C dX1_mayBe_1 rfl (by decide) rfl ?_
  refine q_W.sub [1, 2, 0] rfl ?_
  exact S_X1_mayBe_2 B hT q_fu l0 l1 (0 : Int32) _ h
def F_X2_isNumber_29 (κ : Nat → Nat) (s0 : Int32) : q_X Int32 :=
  q_rz s0
theorem M_X2_isNumber_29 (κ : Nat → Nat) (s0 : Int32) : q_mo (F_X2_isNumber_29 κ s0) := q_mo_rz
set_option maxRecDepth 100000 in
set_option maxHeartbeats 4000000 in
theorem S_X2_isNumber_29 {E : q_Ev} {Γ : q_Gm} {w : (Int32 ⊕ q_Exn) × q_St} (B : q_Bd E Γ cX2_isNumber yX2_isNumber.cls 1 0 0 (some .boolean) yX2_isNumber.name w) (hT : q_nT Γ) (s0 : Int32) (σ : q_St) (h : F_X2_isNumber_29 (q_kap E) s0 σ = some w) : q_W E Γ (q_QF E Γ q_oI w) 1 σ 29 [] [q_I s0] := by
  have C := B.1
  unfold F_X2_isNumber_29 at h
  exact q_zret C B.2.2.2.2.1 dX2_isNumber_29 h
def F_X2_isNumber_24 (κ : Nat → Nat) : q_X Int32 :=
  F_X2_isNumber_29 κ (1 : Int32)
theorem M_X2_isNumber_24 (κ : Nat → Nat) : q_mo (F_X2_isNumber_24 κ) := (M_X2_isNumber_29 κ (1 : Int32))
set_option maxRecDepth 100000 in
set_option maxHeartbeats 4000000 in
theorem S_X2_isNumber_24 {E : q_Ev} {Γ : q_Gm} {w : (Int32 ⊕ q_Exn) × q_St} (B : q_Bd E Γ cX2_isNumber yX2_isNumber.cls 1 0 0 (some .boolean) yX2_isNumber.name w) (hT : q_nT Γ) (σ : q_St) (h : F_X2_isNumber_24 (q_kap E) σ = some w) : q_W E Γ (q_QF E Γ q_oI w) 1 σ 24 [] [] := by
  have C := B.1
  unfold F_X2_isNumber_24 at h
  refine q_iconst (pc := 24) (v := (1 : Int32)) C dX2_isNumber_24 (by decide) ?_
  refine q_goto (pc := 25) (tgt := 29) C dX2_isNumber_25 (by decide) ?_
  exact S_X2_isNumber_29 B hT (1 : Int32) _ h
def F_X2_isNumber (κ : Nat → Nat) (l0 : Option Nat) : q_X Int32 :=
  q_rd (q_gI l0 5 0) fun v1 => q_br (v1 = (1 : Int32)) (F_X2_isNumber_24 κ) (q_rd (q_gI l0 5 0) fun v9 => q_br (v9 = (2 : Int32)) (F_X2_isNumber_24 κ) (q_rd (q_gI l0 5 0) fun v17 => q_br (¬ v17 = (3 : Int32)) (F_X2_isNumber_29 κ (0 : Int32)) (F_X2_isNumber_24 κ)))
theorem M_X2_isNumber (κ : Nat → Nat) (l0 : Option Nat) : q_mo (F_X2_isNumber κ l0) := (q_mo_rd fun v1 => (q_mo_br (M_X2_isNumber_24 κ) (q_mo_rd fun v9 => (q_mo_br (M_X2_isNumber_24 κ) (q_mo_rd fun v17 => (q_mo_br (M_X2_isNumber_29 κ (0 : Int32)) (M_X2_isNumber_24 κ)))))))
set_option maxRecDepth 100000 in
set_option maxHeartbeats 4000000 in
theorem K_X2_isNumber {E : q_Ev} (l0 : Option Nat) : q_Ct E yX2_isNumber (.code yX2_isNumber cX2_isNumber 1 (some .boolean)) 0 0 [q_R l0] q_oI (F_X2_isNumber (q_kap E) l0) := by
  refine q_enter (by decide) (Nat.le_of_ble_eq_true rfl) (fun Γ σ w h B hT => ?_)
  have C := B.1
  unfold F_X2_isNumber at h
  refine q_aload_n (pc := 0) C 0 rfl dX2_isNumber_0 rfl ?_
  refine q_getI (pc := 1) C dX2_isNumber_1 ql_X2_9 h (fun v1 h => ?_)
  refine q_iconst (pc := 4) (v := (1 : Int32)) C dX2_isNumber_4 (by decide) ?_
  refine q_icmp_eq (pc := 5) (tgt := 24) C dX2_isNumber_5 (by decide) h (fun _ h => ?_) (fun _ h => ?_)
  · refine q_W.sub [] rfl ?_
    exact S_X2_isNumber_24 B hT _ h
  · refine q_aload_n (pc := 8) C 0 rfl dX2_isNumber_8 rfl ?_
    refine q_getI (pc := 9) C dX2_isNumber_9 ql_X2_9 h (fun v9 h => ?_)
    refine q_iconst (pc := 12) (v := (2 : Int32)) C dX2_isNumber_12 (by decide) ?_
    refine q_icmp_eq (pc := 13) (tgt := 24) C dX2_isNumber_13 (by decide) h (fun _ h => ?_) (fun _ h => ?_)
    · refine q_W.sub [] rfl ?_
      exact S_X2_isNumber_24 B hT _ h
    · refine q_aload_n (pc := 16) C 0 rfl dX2_isNumber_16 rfl ?_
      refine q_getI (pc := 17) C dX2_isNumber_17 ql_X2_9 h (fun v17 h => ?_)
      refine q_iconst (pc := 20) (v := (3 : Int32)) C dX2_isNumber_20 (by decide) ?_
      refine q_icmp_ne (pc := 21) (tgt := 28) C dX2_isNumber_21 (by decide) h (fun _ h => ?_) (fun _ h => ?_)
      · refine q_iconst (pc := 28) (v := (0 : Int32)) C dX2_isNumber_28 (by decide) ?_
        refine q_W.sub [] rfl ?_
        exact S_X2_isNumber_29 B hT (0 : Int32) _ h
      · refine q_W.sub [] rfl ?_
        exact S_X2_isNumber_24 B hT _ h
def F_X2_holds_30 (κ : Nat → Nat) (s0 : Int32) : q_X Int32 :=
  q_rz s0
theorem M_X2_holds_30 (κ : Nat → Nat) (s0 : Int32) : q_mo (F_X2_holds_30 κ s0) := q_mo_rz
set_option maxRecDepth 100000 in
set_option maxHeartbeats 4000000 in
theorem S_X2_holds_30 {E : q_Ev} {Γ : q_Gm} {w : (Int32 ⊕ q_Exn) × q_St} (B : q_Bd E Γ cX2_holds yX2_holds.cls 5 0 0 (some .boolean) yX2_holds.name w) (hT : q_nT Γ) (s0 : Int32) (σ : q_St) (h : F_X2_holds_30 (q_kap E) s0 σ = some w) : q_W E Γ (q_QF E Γ q_oI w) 5 σ 30 [] [q_I s0] := by
  have C := B.1
  unfold F_X2_holds_30 at h
  exact q_zret C B.2.2.2.2.1 dX2_holds_30 h
def F_X2_holds_29 (κ : Nat → Nat) : q_X Int32 :=
  F_X2_holds_30 κ (0 : Int32)
theorem M_X2_holds_29 (κ : Nat → Nat) : q_mo (F_X2_holds_29 κ) := (M_X2_holds_30 κ (0 : Int32))
set_option maxRecDepth 100000 in
set_option maxHeartbeats 4000000 in
theorem S_X2_holds_29 {E : q_Ev} {Γ : q_Gm} {w : (Int32 ⊕ q_Exn) × q_St} (B : q_Bd E Γ cX2_holds yX2_holds.cls 5 0 0 (some .boolean) yX2_holds.name w) (hT : q_nT Γ) (σ : q_St) (h : F_X2_holds_29 (q_kap E) σ = some w) : q_W E Γ (q_QF E Γ q_oI w) 5 σ 29 [] [] := by
  have C := B.1
  unfold F_X2_holds_29 at h
  refine q_iconst (pc := 29) (v := (0 : Int32)) C dX2_holds_29 (by decide) ?_
  exact S_X2_holds_30 B hT (0 : Int32) _ h
def F_X2_holds_58 (κ : Nat → Nat) (s0 : Int32) : q_X Int32 :=
  q_rz s0
theorem M_X2_holds_58 (κ : Nat → Nat) (s0 : Int32) : q_mo (F_X2_holds_58 κ s0) := q_mo_rz
set_option maxRecDepth 100000 in
set_option maxHeartbeats 4000000 in
theorem S_X2_holds_58 {E : q_Ev} {Γ : q_Gm} {w : (Int32 ⊕ q_Exn) × q_St} (B : q_Bd E Γ cX2_holds yX2_holds.cls 5 0 0 (some .boolean) yX2_holds.name w) (hT : q_nT Γ) (s0 : Int32) (σ : q_St) (h : F_X2_holds_58 (q_kap E) s0 σ = some w) : q_W E Γ (q_QF E Γ q_oI w) 5 σ 58 [] [q_I s0] := by
  have C := B.1
  unfold F_X2_holds_58 at h
  exact q_zret C B.2.2.2.2.1 dX2_holds_58 h
def F_X2_holds_57 (κ : Nat → Nat) : q_X Int32 :=
  F_X2_holds_58 κ (0 : Int32)
theorem M_X2_holds_57 (κ : Nat → Nat) : q_mo (F_X2_holds_57 κ) := (M_X2_holds_58 κ (0 : Int32))
set_option maxRecDepth 100000 in
set_option maxHeartbeats 4000000 in
theorem S_X2_holds_57 {E : q_Ev} {Γ : q_Gm} {w : (Int32 ⊕ q_Exn) × q_St} (B : q_Bd E Γ cX2_holds yX2_holds.cls 5 0 0 (some .boolean) yX2_holds.name w) (hT : q_nT Γ) (σ : q_St) (h : F_X2_holds_57 (q_kap E) σ = some w) : q_W E Γ (q_QF E Γ q_oI w) 5 σ 57 [] [] := by
  have C := B.1
  unfold F_X2_holds_57 at h
  refine q_iconst (pc := 57) (v := (0 : Int32)) C dX2_holds_57 (by decide) ?_
  exact S_X2_holds_58 B hT (0 : Int32) _ h
def F_X2_holds (κ : Nat → Nat) (l0 : Option Nat) (l1 : Int64) : q_X Int32 :=
  q_rd (q_gI l0 5 0) fun v1 => q_br (¬ v1 = (1 : Int32)) (q_rd (q_gI l0 5 5) fun v33 => q_br ((lg_cmp l1 (-((1 : Int64) <<< ((v33 - (1 : Int32)).toInt64 &&& 63)))) < 0) (F_X2_holds_57 κ) (q_br (0 ≤ (lg_cmp l1 ((1 : Int64) <<< ((v33 - (1 : Int32)).toInt64 &&& 63)))) (F_X2_holds_57 κ) (F_X2_holds_58 κ (1 : Int32)))) (q_br ((lg_cmp l1 (0 : Int64)) < 0) (F_X2_holds_29 κ) (q_rd (q_gI l0 5 5) fun v17 => q_br (0 ≤ (lg_cmp l1 ((1 : Int64) <<< (v17.toInt64 &&& 63)))) (F_X2_holds_29 κ) (F_X2_holds_30 κ (1 : Int32))))
theorem M_X2_holds (κ : Nat → Nat) (l0 : Option Nat) (l1 : Int64) : q_mo (F_X2_holds κ l0 l1) := (q_mo_rd fun v1 => (q_mo_br (q_mo_rd fun v33 => (q_mo_br (M_X2_holds_57 κ) (q_mo_br (M_X2_holds_57 κ) (M_X2_holds_58 κ (1 : Int32))))) (q_mo_br (M_X2_holds_29 κ) (q_mo_rd fun v17 => (q_mo_br (M_X2_holds_29 κ) (M_X2_holds_30 κ (1 : Int32)))))))
set_option maxRecDepth 100000 in
set_option maxHeartbeats 4000000 in
theorem K_X2_holds {E : q_Ev} (l0 : Option Nat) (l1 : Int64) : q_Ct E yX2_holds (.code yX2_holds cX2_holds 5 (some .boolean)) 0 0 [q_R l0, q_L l1] q_oI (F_X2_holds (q_kap E) l0 l1) := by
  refine q_enter (by decide) (Nat.le_of_ble_eq_true rfl) (fun Γ σ w h B hT => ?_)
  have C := B.1
  unfold F_X2_holds at h
  refine q_aload_n (pc := 0) C 0 rfl dX2_holds_0 rfl ?_
  refine q_getI (pc := 1) C dX2_holds_1 ql_X2_9 h (fun v1 h => ?_)
  refine q_iconst (pc := 4) (v := (1 : Int32)) C dX2_holds_4 (by decide) ?_
  refine q_icmp_ne (pc := 5) (tgt := 31) C dX2_holds_5 (by decide) h (fun _ h => ?_) (fun _ h => ?_)
  · refine q_lconst (pc := 31) (v := (1 : Int64)) C dX2_holds_31 (by decide) ?_
    refine q_aload_n (pc := 32) C 0 rfl dX2_holds_32 rfl ?_
    refine q_getI (pc := 33) C dX2_holds_33 ql_X2_28 h (fun v33 h => ?_)
    refine q_iconst (pc := 36) (v := (1 : Int32)) C dX2_holds_36 (by decide) ?_
    refine q_isub (pc := 37) C dX2_holds_37 ?_
    refine q_lshl (pc := 38) C dX2_holds_38 ?_
    refine q_lstore_n (pc := 39) (l' := [(3, q_L ((1 : Int64) <<< ((v33 - (1 : Int32)).toInt64 &&& 63))), (0, q_R l0), (1, q_L l1)]) C dX2_holds_39 rfl (by decide) rfl ?_
    refine q_lload_n (pc := 40) C 2 rfl dX2_holds_40 rfl ?_
    refine q_lload_n (pc := 41) C 0 rfl dX2_holds_41 rfl ?_
    refine q_lneg (pc := 42) C dX2_holds_42 ?_
    refine q_lcmp (pc := 43) C dX2_holds_43 ?_
    refine q_if_lt (pc := 44) (tgt := 57) C dX2_holds_44 (by decide) h (fun _ h => ?_) (fun _ h => ?_)
    · refine q_W.sub [] rfl ?_
      exact S_X2_holds_57 B hT _ h
    · refine q_lload_n (pc := 47) C 2 rfl dX2_holds_47 rfl ?_
      refine q_lload_n (pc := 48) C 0 rfl dX2_holds_48 rfl ?_
      refine q_lcmp (pc := 49) C dX2_holds_49 ?_
      refine q_if_ge (pc := 50) (tgt := 57) C dX2_holds_50 (by decide) h (fun _ h => ?_) (fun _ h => ?_)
      · refine q_W.sub [] rfl ?_
        exact S_X2_holds_57 B hT _ h
      · refine q_iconst (pc := 53) (v := (1 : Int32)) C dX2_holds_53 (by decide) ?_
        refine q_goto (pc := 54) (tgt := 58) C dX2_holds_54 (by decide) ?_
        refine q_W.sub [] rfl ?_
        exact S_X2_holds_58 B hT (1 : Int32) _ h
  · refine q_lload_n (pc := 8) C 1 rfl dX2_holds_8 rfl ?_
    refine q_lconst (pc := 9) (v := (0 : Int64)) C dX2_holds_9 (by decide) ?_
    refine q_lcmp (pc := 10) C dX2_holds_10 ?_
    refine q_if_lt (pc := 11) (tgt := 29) C dX2_holds_11 (by decide) h (fun _ h => ?_) (fun _ h => ?_)
    · refine q_W.sub [] rfl ?_
      exact S_X2_holds_29 B hT _ h
    · refine q_lload_n (pc := 14) C 1 rfl dX2_holds_14 rfl ?_
      refine q_lconst (pc := 15) (v := (1 : Int64)) C dX2_holds_15 (by decide) ?_
      refine q_aload_n (pc := 16) C 0 rfl dX2_holds_16 rfl ?_
      refine q_getI (pc := 17) C dX2_holds_17 ql_X2_28 h (fun v17 h => ?_)
      refine q_lshl (pc := 20) C dX2_holds_20 ?_
      refine q_lcmp (pc := 21) C dX2_holds_21 ?_
      refine q_if_ge (pc := 22) (tgt := 29) C dX2_holds_22 (by decide) h (fun _ h => ?_) (fun _ h => ?_)
      · refine q_W.sub [] rfl ?_
        exact S_X2_holds_29 B hT _ h
      · refine q_iconst (pc := 25) (v := (1 : Int32)) C dX2_holds_25 (by decide) ?_
        refine q_goto (pc := 26) (tgt := 30) C dX2_holds_26 (by decide) ?_
        refine q_W.sub [] rfl ?_
        exact S_X2_holds_30 B hT (1 : Int32) _ h
def F_X2_has_22 (κ : Nat → Nat) (s0 : Int32) : q_X Int32 :=
  q_rz s0
theorem M_X2_has_22 (κ : Nat → Nat) (s0 : Int32) : q_mo (F_X2_has_22 κ s0) := q_mo_rz
set_option maxRecDepth 100000 in
set_option maxHeartbeats 4000000 in
theorem S_X2_has_22 {E : q_Ev} {Γ : q_Gm} {w : (Int32 ⊕ q_Exn) × q_St} (B : q_Bd E Γ cX2_has yX2_has.cls 3 1 20 (some .boolean) yX2_has.name w) (hT : q_nT Γ) (s0 : Int32) (σ : q_St) (h : F_X2_has_22 (q_kap E) s0 σ = some w) : q_W E Γ (q_QF E Γ q_oI w) 3 σ 22 [] [q_I s0] := by
  have C := B.1
  unfold F_X2_has_22 at h
  exact q_zret C B.2.2.2.2.1 dX2_has_22 h
def F_X2_has_17 (κ : Nat → Nat) : q_X Int32 :=
  F_X2_has_22 κ (1 : Int32)
theorem M_X2_has_17 (κ : Nat → Nat) : q_mo (F_X2_has_17 κ) := (M_X2_has_22 κ (1 : Int32))
set_option maxRecDepth 100000 in
set_option maxHeartbeats 4000000 in
theorem S_X2_has_17 {E : q_Ev} {Γ : q_Gm} {w : (Int32 ⊕ q_Exn) × q_St} (B : q_Bd E Γ cX2_has yX2_has.cls 3 1 20 (some .boolean) yX2_has.name w) (hT : q_nT Γ) (σ : q_St) (h : F_X2_has_17 (q_kap E) σ = some w) : q_W E Γ (q_QF E Γ q_oI w) 3 σ 17 [] [] := by
  have C := B.1
  unfold F_X2_has_17 at h
  refine q_iconst (pc := 17) (v := (1 : Int32)) C dX2_has_17 (by decide) ?_
  refine q_goto (pc := 18) (tgt := 22) C dX2_has_18 (by decide) ?_
  exact S_X2_has_22 B hT (1 : Int32) _ h
def F_X2_has (κ : Nat → Nat) (l0 : Option Nat) (l1 : Int64) : q_X Int32 :=
  q_rd (q_is l0 5) fun _ => q_ca (F_X2_isNumber κ l0) fun v1 => q_br (¬ v1 = 0) (F_X2_has_17 κ) (q_rd (q_gI l0 5 4) fun v9 => q_br (0 ≤ (lg_cmp l1 v9.toInt64)) (F_X2_has_22 κ (0 : Int32)) (F_X2_has_17 κ))
theorem M_X2_has (κ : Nat → Nat) (l0 : Option Nat) (l1 : Int64) : q_mo (F_X2_has κ l0 l1) := (q_mo_rd fun _ => q_mo_ca (M_X2_isNumber κ l0) fun v1 => (q_mo_br (M_X2_has_17 κ) (q_mo_rd fun v9 => (q_mo_br (M_X2_has_22 κ (0 : Int32)) (M_X2_has_17 κ)))))
set_option maxRecDepth 100000 in
set_option maxHeartbeats 4000000 in
theorem K_X2_has {E : q_Ev} (l0 : Option Nat) (l1 : Int64) : q_Ct E yX2_has (.code yX2_has cX2_has 3 (some .boolean)) 1 20 [q_R l0, q_L l1] q_oI (F_X2_has (q_kap E) l0 l1) := by
  refine q_enter (by decide) (Nat.le_of_ble_eq_true rfl) (fun Γ σ w h B hT => ?_)
  have C := B.1
  unfold F_X2_has at h
  refine q_aload_n (pc := 0) C 0 rfl dX2_has_0 rfl ?_
  refine q_callV (pc := 1) (As := []) (st := []) (ps := q_psI) C B.2.1 hT q_hpI qm_X2_34 qv_X2_isNumber dX2_has_1 rfl rfl (Nat.le_of_ble_eq_true rfl) (q_flo B.2.2.1 B.2.2.2.1 (by decide) (by decide)) (K_X2_isNumber l0) (M_X2_isNumber (q_kap E) l0) (by exact fun v1 => (q_mo_br (M_X2_has_17 (q_kap E)) (q_mo_rd fun v9 => (q_mo_br (M_X2_has_22 (q_kap E) (0 : Int32)) (M_X2_has_17 (q_kap E)))))) h (fun v1 σ h => ?_)
  refine q_W.st (st' := [q_I v1]) rfl ?_
  refine q_if_ne (pc := 4) (tgt := 17) C dX2_has_4 (by decide) h (fun _ h => ?_) (fun _ h => ?_)
  · refine q_W.sub [] rfl ?_
    exact S_X2_has_17 B hT _ h
  · refine q_lload_n (pc := 7) C 1 rfl dX2_has_7 rfl ?_
    refine q_aload_n (pc := 8) C 0 rfl dX2_has_8 rfl ?_
    refine q_getI (pc := 9) C dX2_has_9 ql_X2_31 h (fun v9 h => ?_)
    refine q_i2l (pc := 12) C dX2_has_12 ?_
    refine q_lcmp (pc := 13) C dX2_has_13 ?_
    refine q_if_ge (pc := 14) (tgt := 21) C dX2_has_14 (by decide) h (fun _ h => ?_) (fun _ h => ?_)
    · refine q_iconst (pc := 21) (v := (0 : Int32)) C dX2_has_21 (by decide) ?_
      refine q_W.sub [] rfl ?_
      exact S_X2_has_22 B hT (0 : Int32) _ h
    · refine q_W.sub [] rfl ?_
      exact S_X2_has_17 B hT _ h
def F_X2_valueOf_51 (κ : Nat → Nat) (s0 : Int64) : q_X Int64 :=
  q_rt s0
theorem M_X2_valueOf_51 (κ : Nat → Nat) (s0 : Int64) : q_mo (F_X2_valueOf_51 κ s0) := q_mo_rt
theorem N_X2_valueOf_51 (κ : Nat → Nat) (s0 : Int64) : q_ni (F_X2_valueOf_51 κ s0) := q_ni_rt
set_option maxRecDepth 100000 in
set_option maxHeartbeats 4000000 in
theorem S_X2_valueOf_51 {E : q_Ev} {Γ : q_Gm} {w : (Int64 ⊕ q_Exn) × q_St} (B : q_Bd E Γ cX2_valueOf yX2_valueOf.cls 4 0 0 (some .long) yX2_valueOf.name w) (hT : q_nT Γ) (s0 : Int64) (σ : q_St) (h : F_X2_valueOf_51 (q_kap E) s0 σ = some w) : q_W E Γ (q_QF E Γ q_oL w) 4 σ 51 [] [q_L s0] := by
  have C := B.1
  unfold F_X2_valueOf_51 at h
  exact q_lret C B.2.2.2.2.1 dX2_valueOf_51 h
def F_X2_valueOf_34 (κ : Nat → Nat) (l0 : Option Nat) (l1 : Int64) (s0 : Int32) : q_X Int64 :=
  q_br (s0 = 0) (F_X2_valueOf_51 κ l1) (q_rd (q_gI l0 5 5) fun v42 => F_X2_valueOf_51 κ (l1 - ((1 : Int64) <<< (v42.toInt64 &&& 63))))
theorem M_X2_valueOf_34 (κ : Nat → Nat) (l0 : Option Nat) (l1 : Int64) (s0 : Int32) : q_mo (F_X2_valueOf_34 κ l0 l1 s0) := (q_mo_br (M_X2_valueOf_51 κ l1) (q_mo_rd fun v42 => (M_X2_valueOf_51 κ (l1 - ((1 : Int64) <<< (v42.toInt64 &&& 63))))))
theorem N_X2_valueOf_34 (κ : Nat → Nat) (l0 : Option Nat) (l1 : Int64) (s0 : Int32) : q_ni (F_X2_valueOf_34 κ l0 l1 s0) := (q_ni_br (N_X2_valueOf_51 κ l1) (q_ni_rd fun v42 => (N_X2_valueOf_51 κ (l1 - ((1 : Int64) <<< (v42.toInt64 &&& 63))))))
set_option maxRecDepth 100000 in
set_option maxHeartbeats 4000000 in
theorem S_X2_valueOf_34 {E : q_Ev} {Γ : q_Gm} {w : (Int64 ⊕ q_Exn) × q_St} (B : q_Bd E Γ cX2_valueOf yX2_valueOf.cls 4 0 0 (some .long) yX2_valueOf.name w) (hT : q_nT Γ) (l0 : Option Nat) (l1 : Int64) (s0 : Int32) (σ : q_St) (h : F_X2_valueOf_34 (q_kap E) l0 l1 s0 σ = some w) : q_W E Γ (q_QF E Γ q_oL w) 4 σ 34 [(0, q_R l0), (1, q_L l1)] [q_I s0] := by
  have C := B.1
  unfold F_X2_valueOf_34 at h
  refine q_istore_n (pc := 34) (l' := [(3, q_I s0), (0, q_R l0), (1, q_L l1)]) C dX2_valueOf_34 rfl (by decide) rfl ?_
  refine q_iload_n (pc := 35) C 0 rfl dX2_valueOf_35 rfl ?_
  refine q_if_eq (pc := 36) (tgt := 50) C dX2_valueOf_36 (by decide) h (fun _ h => ?_) (fun _ h => ?_)
  · refine q_lload_n (pc := 50) C 2 rfl dX2_valueOf_50 rfl ?_
    refine q_W.sub [] rfl ?_
    exact S_X2_valueOf_51 B hT l1 _ h
  · refine q_lload_n (pc := 39) C 2 rfl dX2_valueOf_39 rfl ?_
    refine q_lconst (pc := 40) (v := (1 : Int64)) C dX2_valueOf_40 (by decide) ?_
    refine q_aload_n (pc := 41) C 1 rfl dX2_valueOf_41 rfl ?_
    refine q_getI (pc := 42) C dX2_valueOf_42 ql_X2_28 h (fun v42 h => ?_)
    refine q_lshl (pc := 45) C dX2_valueOf_45 ?_
    refine q_lsub (pc := 46) C dX2_valueOf_46 ?_
    refine q_goto (pc := 47) (tgt := 51) C dX2_valueOf_47 (by decide) ?_
    refine q_W.sub [] rfl ?_
    exact S_X2_valueOf_51 B hT (l1 - ((1 : Int64) <<< (v42.toInt64 &&& 63))) _ h
def F_X2_valueOf_33 (κ : Nat → Nat) (l0 : Option Nat) (l1 : Int64) : q_X Int64 :=
  F_X2_valueOf_34 κ l0 l1 (0 : Int32)
theorem M_X2_valueOf_33 (κ : Nat → Nat) (l0 : Option Nat) (l1 : Int64) : q_mo (F_X2_valueOf_33 κ l0 l1) := (M_X2_valueOf_34 κ l0 l1 (0 : Int32))
theorem N_X2_valueOf_33 (κ : Nat → Nat) (l0 : Option Nat) (l1 : Int64) : q_ni (F_X2_valueOf_33 κ l0 l1) := (N_X2_valueOf_34 κ l0 l1 (0 : Int32))
set_option maxRecDepth 100000 in
set_option maxHeartbeats 4000000 in
theorem S_X2_valueOf_33 {E : q_Ev} {Γ : q_Gm} {w : (Int64 ⊕ q_Exn) × q_St} (B : q_Bd E Γ cX2_valueOf yX2_valueOf.cls 4 0 0 (some .long) yX2_valueOf.name w) (hT : q_nT Γ) (l0 : Option Nat) (l1 : Int64) (σ : q_St) (h : F_X2_valueOf_33 (q_kap E) l0 l1 σ = some w) : q_W E Γ (q_QF E Γ q_oL w) 4 σ 33 [(0, q_R l0), (1, q_L l1)] [] := by
  have C := B.1
  unfold F_X2_valueOf_33 at h
  refine q_iconst (pc := 33) (v := (0 : Int32)) C dX2_valueOf_33 (by decide) ?_
  exact S_X2_valueOf_34 B hT l0 l1 (0 : Int32) _ h
def F_X2_valueOf_16 (κ : Nat → Nat) (l0 : Option Nat) (l1 : Int64) : q_X Int64 :=
  q_rd (q_gI l0 5 5) fun v19 => q_br ((lg_cmp l1 ((1 : Int64) <<< ((v19 - (1 : Int32)).toInt64 &&& 63))) < 0) (F_X2_valueOf_33 κ l0 l1) (F_X2_valueOf_34 κ l0 l1 (1 : Int32))
theorem M_X2_valueOf_16 (κ : Nat → Nat) (l0 : Option Nat) (l1 : Int64) : q_mo (F_X2_valueOf_16 κ l0 l1) := (q_mo_rd fun v19 => (q_mo_br (M_X2_valueOf_33 κ l0 l1) (M_X2_valueOf_34 κ l0 l1 (1 : Int32))))
theorem N_X2_valueOf_16 (κ : Nat → Nat) (l0 : Option Nat) (l1 : Int64) : q_ni (F_X2_valueOf_16 κ l0 l1) := (q_ni_rd fun v19 => (q_ni_br (N_X2_valueOf_33 κ l0 l1) (N_X2_valueOf_34 κ l0 l1 (1 : Int32))))
set_option maxRecDepth 100000 in
set_option maxHeartbeats 4000000 in
theorem S_X2_valueOf_16 {E : q_Ev} {Γ : q_Gm} {w : (Int64 ⊕ q_Exn) × q_St} (B : q_Bd E Γ cX2_valueOf yX2_valueOf.cls 4 0 0 (some .long) yX2_valueOf.name w) (hT : q_nT Γ) (l0 : Option Nat) (l1 : Int64) (σ : q_St) (h : F_X2_valueOf_16 (q_kap E) l0 l1 σ = some w) : q_W E Γ (q_QF E Γ q_oL w) 4 σ 16 [(0, q_R l0), (1, q_L l1)] [] := by
  have C := B.1
  unfold F_X2_valueOf_16 at h
  refine q_lload_n (pc := 16) C 1 rfl dX2_valueOf_16 rfl ?_
  refine q_lconst (pc := 17) (v := (1 : Int64)) C dX2_valueOf_17 (by decide) ?_
  refine q_aload_n (pc := 18) C 0 rfl dX2_valueOf_18 rfl ?_
  refine q_getI (pc := 19) C dX2_valueOf_19 ql_X2_28 h (fun v19 h => ?_)
  refine q_iconst (pc := 22) (v := (1 : Int32)) C dX2_valueOf_22 (by decide) ?_
  refine q_isub (pc := 23) C dX2_valueOf_23 ?_
  refine q_lshl (pc := 24) C dX2_valueOf_24 ?_
  refine q_lcmp (pc := 25) C dX2_valueOf_25 ?_
  refine q_if_lt (pc := 26) (tgt := 33) C dX2_valueOf_26 (by decide) h (fun _ h => ?_) (fun _ h => ?_)
  · exact S_X2_valueOf_33 B hT l0 l1 _ h
  · refine q_iconst (pc := 29) (v := (1 : Int32)) C dX2_valueOf_29 (by decide) ?_
    refine q_goto (pc := 30) (tgt := 34) C dX2_valueOf_30 (by decide) ?_
    exact S_X2_valueOf_34 B hT l0 l1 (1 : Int32) _ h
def F_X2_valueOf (κ : Nat → Nat) (l0 : Option Nat) (l1 : Int64) : q_X Int64 :=
  q_rd (q_gI l0 5 0) fun v1 => q_br (v1 = (2 : Int32)) (F_X2_valueOf_16 κ l0 l1) (q_rd (q_gI l0 5 0) fun v9 => q_br (¬ v9 = (3 : Int32)) (F_X2_valueOf_33 κ l0 l1) (F_X2_valueOf_16 κ l0 l1))
theorem M_X2_valueOf (κ : Nat → Nat) (l0 : Option Nat) (l1 : Int64) : q_mo (F_X2_valueOf κ l0 l1) := (q_mo_rd fun v1 => (q_mo_br (M_X2_valueOf_16 κ l0 l1) (q_mo_rd fun v9 => (q_mo_br (M_X2_valueOf_33 κ l0 l1) (M_X2_valueOf_16 κ l0 l1)))))
theorem N_X2_valueOf (κ : Nat → Nat) (l0 : Option Nat) (l1 : Int64) : q_ni (F_X2_valueOf κ l0 l1) := (q_ni_rd fun v1 => (q_ni_br (N_X2_valueOf_16 κ l0 l1) (q_ni_rd fun v9 => (q_ni_br (N_X2_valueOf_33 κ l0 l1) (N_X2_valueOf_16 κ l0 l1)))))
set_option maxRecDepth 100000 in
set_option maxHeartbeats 4000000 in
theorem K_X2_valueOf {E : q_Ev} (l0 : Option Nat) (l1 : Int64) : q_Ct E yX2_valueOf (.code yX2_valueOf cX2_valueOf 4 (some .long)) 0 0 [q_R l0, q_L l1] q_oL (F_X2_valueOf (q_kap E) l0 l1) := by
  refine q_enter (by decide) (Nat.le_of_ble_eq_true rfl) (fun Γ σ w h B hT => ?_)
  have C := B.1
  unfold F_X2_valueOf at h
  refine q_aload_n (pc := 0) C 0 rfl dX2_valueOf_0 rfl ?_
  refine q_getI (pc := 1) C dX2_valueOf_1 ql_X2_9 h (fun v1 h => ?_)
  refine q_iconst (pc := 4) (v := (2 : Int32)) C dX2_valueOf_4 (by decide) ?_
  refine q_icmp_eq (pc := 5) (tgt := 16) C dX2_valueOf_5 (by decide) h (fun _ h => ?_) (fun _ h => ?_)
  · exact S_X2_valueOf_16 B hT l0 l1 _ h
  · refine q_aload_n (pc := 8) C 0 rfl dX2_valueOf_8 rfl ?_
    refine q_getI (pc := 9) C dX2_valueOf_9 ql_X2_9 h (fun v9 h => ?_)
    refine q_iconst (pc := 12) (v := (3 : Int32)) C dX2_valueOf_12 (by decide) ?_
    refine q_icmp_ne (pc := 13) (tgt := 33) C dX2_valueOf_13 (by decide) h (fun _ h => ?_) (fun _ h => ?_)
    · exact S_X2_valueOf_33 B hT l0 l1 _ h
    · exact S_X2_valueOf_16 B hT l0 l1 _ h
def F_X2_registerAt_20 (κ : Nat → Nat) : q_X Int32 :=
  q_rt (-1 : Int32)
theorem M_X2_registerAt_20 (κ : Nat → Nat) : q_mo (F_X2_registerAt_20 κ) := q_mo_rt
theorem N_X2_registerAt_20 (κ : Nat → Nat) : q_ni (F_X2_registerAt_20 κ) := q_ni_rt
set_option maxRecDepth 100000 in
set_option maxHeartbeats 4000000 in
theorem S_X2_registerAt_20 {E : q_Ev} {Γ : q_Gm} {w : (Int32 ⊕ q_Exn) × q_St} (B : q_Bd E Γ cX2_registerAt yX2_registerAt.cls 8 1 25 (some .int) yX2_registerAt.name w) (hT : q_nT Γ) (σ : q_St) (h : F_X2_registerAt_20 (q_kap E) σ = some w) : q_W E Γ (q_QF E Γ q_oI w) 8 σ 20 [] [] := by
  have C := B.1
  unfold F_X2_registerAt_20 at h
  refine q_iconst (pc := 20) (v := (-1 : Int32)) C dX2_registerAt_20 (by decide) ?_
  exact q_iret C B.2.2.2.2.1 dX2_registerAt_21 h
def F_X2_registerAt_113 (κ : Nat → Nat) : q_X Int32 :=
  q_rt (-1 : Int32)
theorem M_X2_registerAt_113 (κ : Nat → Nat) : q_mo (F_X2_registerAt_113 κ) := q_mo_rt
theorem N_X2_registerAt_113 (κ : Nat → Nat) : q_ni (F_X2_registerAt_113 κ) := q_ni_rt
set_option maxRecDepth 100000 in
set_option maxHeartbeats 4000000 in
theorem S_X2_registerAt_113 {E : q_Ev} {Γ : q_Gm} {w : (Int32 ⊕ q_Exn) × q_St} (B : q_Bd E Γ cX2_registerAt yX2_registerAt.cls 8 1 25 (some .int) yX2_registerAt.name w) (hT : q_nT Γ) (σ : q_St) (h : F_X2_registerAt_113 (q_kap E) σ = some w) : q_W E Γ (q_QF E Γ q_oI w) 8 σ 113 [] [] := by
  have C := B.1
  unfold F_X2_registerAt_113 at h
  refine q_iconst (pc := 113) (v := (-1 : Int32)) C dX2_registerAt_113 (by decide) ?_
  exact q_iret C B.2.2.2.2.1 dX2_registerAt_114 h
def F_X2_registerAt_140 (κ : Nat → Nat) (s0 : Int32) : q_X Int32 :=
  q_rt s0
theorem M_X2_registerAt_140 (κ : Nat → Nat) (s0 : Int32) : q_mo (F_X2_registerAt_140 κ s0) := q_mo_rt
theorem N_X2_registerAt_140 (κ : Nat → Nat) (s0 : Int32) : q_ni (F_X2_registerAt_140 κ s0) := q_ni_rt
set_option maxRecDepth 100000 in
set_option maxHeartbeats 4000000 in
theorem S_X2_registerAt_140 {E : q_Ev} {Γ : q_Gm} {w : (Int32 ⊕ q_Exn) × q_St} (B : q_Bd E Γ cX2_registerAt yX2_registerAt.cls 8 1 25 (some .int) yX2_registerAt.name w) (hT : q_nT Γ) (s0 : Int32) (σ : q_St) (h : F_X2_registerAt_140 (q_kap E) s0 σ = some w) : q_W E Γ (q_QF E Γ q_oI w) 8 σ 140 [] [q_I s0] := by
  have C := B.1
  unfold F_X2_registerAt_140 at h
  exact q_iret C B.2.2.2.2.1 dX2_registerAt_140 h
def F_X2_registerAt_115 (κ : Nat → Nat) (l0 : Option Nat) (l4 : Int32) (l5 : Int32) : q_X Int32 :=
  q_rd (q_gI l0 5 4) fun v128 => q_br (v128 ≤ ((l5 * (10 : Int32)) + l4)) (F_X2_registerAt_140 κ (-1 : Int32)) (F_X2_registerAt_140 κ ((l5 * (10 : Int32)) + l4))
theorem M_X2_registerAt_115 (κ : Nat → Nat) (l0 : Option Nat) (l4 : Int32) (l5 : Int32) : q_mo (F_X2_registerAt_115 κ l0 l4 l5) := (q_mo_rd fun v128 => (q_mo_br (M_X2_registerAt_140 κ (-1 : Int32)) (M_X2_registerAt_140 κ ((l5 * (10 : Int32)) + l4))))
theorem N_X2_registerAt_115 (κ : Nat → Nat) (l0 : Option Nat) (l4 : Int32) (l5 : Int32) : q_ni (F_X2_registerAt_115 κ l0 l4 l5) := (q_ni_rd fun v128 => (q_ni_br (N_X2_registerAt_140 κ (-1 : Int32)) (N_X2_registerAt_140 κ ((l5 * (10 : Int32)) + l4))))
set_option maxRecDepth 100000 in
set_option maxHeartbeats 4000000 in
theorem S_X2_registerAt_115 {E : q_Ev} {Γ : q_Gm} {w : (Int32 ⊕ q_Exn) × q_St} (B : q_Bd E Γ cX2_registerAt yX2_registerAt.cls 8 1 25 (some .int) yX2_registerAt.name w) (hT : q_nT Γ) (l0 : Option Nat) (l4 : Int32) (l5 : Int32) (σ : q_St) (h : F_X2_registerAt_115 (q_kap E) l0 l4 l5 σ = some w) : q_W E Γ (q_QF E Γ q_oI w) 8 σ 115 [(0, q_R l0), (4, q_I l4), (5, q_I l5)] [] := by
  have C := B.1
  unfold F_X2_registerAt_115 at h
  refine q_iload (pc := 115) C 2 rfl dX2_registerAt_115 ?_
  refine q_bipush (pc := 117) (v := (10 : Int32)) C dX2_registerAt_117 (by decide) ?_
  refine q_imul (pc := 119) C dX2_registerAt_119 ?_
  refine q_iload (pc := 120) C 1 rfl dX2_registerAt_120 ?_
  refine q_iadd (pc := 122) C dX2_registerAt_122 ?_
  refine q_istore (pc := 123) (l' := [(7, q_I ((l5 * (10 : Int32)) + l4)), (0, q_R l0), (4, q_I l4), (5, q_I l5)]) C dX2_registerAt_123 (by decide) rfl ?_
  refine q_iload (pc := 125) C 0 rfl dX2_registerAt_125 ?_
  refine q_aload_n (pc := 127) C 1 rfl dX2_registerAt_127 rfl ?_
  refine q_getI (pc := 128) C dX2_registerAt_128 ql_X2_31 h (fun v128 h => ?_)
  refine q_icmp_ge (pc := 131) (tgt := 139) C dX2_registerAt_131 (by decide) h (fun _ h => ?_) (fun _ h => ?_)
  · refine q_iconst (pc := 139) (v := (-1 : Int32)) C dX2_registerAt_139 (by decide) ?_
    refine q_W.sub [] rfl ?_
    exact S_X2_registerAt_140 B hT (-1 : Int32) _ h
  · refine q_iload (pc := 134) C 0 rfl dX2_registerAt_134 ?_
    refine q_goto (pc := 136) (tgt := 140) C dX2_registerAt_136 (by decide) ?_
    refine q_W.sub [] rfl ?_
    exact S_X2_registerAt_140 B hT ((l5 * (10 : Int32)) + l4) _ h
def F_X2_registerAt_96 (κ : Nat → Nat) (l0 : Option Nat) (l3 : Int32) (l4 : Int32) (l5 : Int32) (s0 : Int32) : q_X Int32 :=
  q_br (s0 = 0) (F_X2_registerAt_113 κ) (q_br (¬ l3 = (2 : Int32)) (F_X2_registerAt_115 κ l0 l4 l5) (q_br (¬ l5 = 0) (F_X2_registerAt_115 κ l0 l4 l5) (F_X2_registerAt_113 κ)))
theorem M_X2_registerAt_96 (κ : Nat → Nat) (l0 : Option Nat) (l3 : Int32) (l4 : Int32) (l5 : Int32) (s0 : Int32) : q_mo (F_X2_registerAt_96 κ l0 l3 l4 l5 s0) := (q_mo_br (M_X2_registerAt_113 κ) (q_mo_br (M_X2_registerAt_115 κ l0 l4 l5) (q_mo_br (M_X2_registerAt_115 κ l0 l4 l5) (M_X2_registerAt_113 κ))))
theorem N_X2_registerAt_96 (κ : Nat → Nat) (l0 : Option Nat) (l3 : Int32) (l4 : Int32) (l5 : Int32) (s0 : Int32) : q_ni (F_X2_registerAt_96 κ l0 l3 l4 l5 s0) := (q_ni_br (N_X2_registerAt_113 κ) (q_ni_br (N_X2_registerAt_115 κ l0 l4 l5) (q_ni_br (N_X2_registerAt_115 κ l0 l4 l5) (N_X2_registerAt_113 κ))))
set_option maxRecDepth 100000 in
set_option maxHeartbeats 4000000 in
theorem S_X2_registerAt_96 {E : q_Ev} {Γ : q_Gm} {w : (Int32 ⊕ q_Exn) × q_St} (B : q_Bd E Γ cX2_registerAt yX2_registerAt.cls 8 1 25 (some .int) yX2_registerAt.name w) (hT : q_nT Γ) (l0 : Option Nat) (l3 : Int32) (l4 : Int32) (l5 : Int32) (s0 : Int32) (σ : q_St) (h : F_X2_registerAt_96 (q_kap E) l0 l3 l4 l5 s0 σ = some w) : q_W E Γ (q_QF E Γ q_oI w) 8 σ 96 [(0, q_R l0), (3, q_I l3), (4, q_I l4), (5, q_I l5)] [q_I s0] := by
  have C := B.1
  unfold F_X2_registerAt_96 at h
  refine q_istore (pc := 96) (l' := [(6, q_I s0), (0, q_R l0), (3, q_I l3), (4, q_I l4), (5, q_I l5)]) C dX2_registerAt_96 (by decide) rfl ?_
  refine q_iload (pc := 98) C 0 rfl dX2_registerAt_98 ?_
  refine q_if_eq (pc := 100) (tgt := 113) C dX2_registerAt_100 (by decide) h (fun _ h => ?_) (fun _ h => ?_)
  · refine q_W.sub [] rfl ?_
    exact S_X2_registerAt_113 B hT _ h
  · refine q_iload_n (pc := 103) C 2 rfl dX2_registerAt_103 rfl ?_
    refine q_iconst (pc := 104) (v := (2 : Int32)) C dX2_registerAt_104 (by decide) ?_
    refine q_icmp_ne (pc := 105) (tgt := 115) C dX2_registerAt_105 (by decide) h (fun _ h => ?_) (fun _ h => ?_)
    · refine q_W.sub [1, 3, 4] rfl ?_
      exact S_X2_registerAt_115 B hT l0 l4 l5 _ h
    · refine q_iload (pc := 108) C 4 rfl dX2_registerAt_108 ?_
      refine q_if_ne (pc := 110) (tgt := 115) C dX2_registerAt_110 (by decide) h (fun _ h => ?_) (fun _ h => ?_)
      · refine q_W.sub [1, 3, 4] rfl ?_
        exact S_X2_registerAt_115 B hT l0 l4 l5 _ h
      · refine q_W.sub [] rfl ?_
        exact S_X2_registerAt_113 B hT _ h
def F_X2_registerAt_95 (κ : Nat → Nat) (l0 : Option Nat) (l3 : Int32) (l4 : Int32) (l5 : Int32) : q_X Int32 :=
  F_X2_registerAt_96 κ l0 l3 l4 l5 (0 : Int32)
theorem M_X2_registerAt_95 (κ : Nat → Nat) (l0 : Option Nat) (l3 : Int32) (l4 : Int32) (l5 : Int32) : q_mo (F_X2_registerAt_95 κ l0 l3 l4 l5) := (M_X2_registerAt_96 κ l0 l3 l4 l5 (0 : Int32))
theorem N_X2_registerAt_95 (κ : Nat → Nat) (l0 : Option Nat) (l3 : Int32) (l4 : Int32) (l5 : Int32) : q_ni (F_X2_registerAt_95 κ l0 l3 l4 l5) := (N_X2_registerAt_96 κ l0 l3 l4 l5 (0 : Int32))
set_option maxRecDepth 100000 in
set_option maxHeartbeats 4000000 in
theorem S_X2_registerAt_95 {E : q_Ev} {Γ : q_Gm} {w : (Int32 ⊕ q_Exn) × q_St} (B : q_Bd E Γ cX2_registerAt yX2_registerAt.cls 8 1 25 (some .int) yX2_registerAt.name w) (hT : q_nT Γ) (l0 : Option Nat) (l3 : Int32) (l4 : Int32) (l5 : Int32) (σ : q_St) (h : F_X2_registerAt_95 (q_kap E) l0 l3 l4 l5 σ = some w) : q_W E Γ (q_QF E Γ q_oI w) 8 σ 95 [(0, q_R l0), (3, q_I l3), (4, q_I l4), (5, q_I l5)] [] := by
  have C := B.1
  unfold F_X2_registerAt_95 at h
  refine q_iconst (pc := 95) (v := (0 : Int32)) C dX2_registerAt_95 (by decide) ?_
  exact S_X2_registerAt_96 B hT l0 l3 l4 l5 (0 : Int32) _ h
def F_X2_registerAt_65 (κ : Nat → Nat) (l0 : Option Nat) (l3 : Int32) (l4 : Int32) (s0 : Int32) : q_X Int32 :=
  q_br (l4 < 0) (F_X2_registerAt_95 κ l0 l3 l4 s0) (q_br ((9 : Int32) < l4) (F_X2_registerAt_95 κ l0 l3 l4 s0) (q_br (s0 < 0) (F_X2_registerAt_95 κ l0 l3 l4 s0) (q_br ((9 : Int32) < s0) (F_X2_registerAt_95 κ l0 l3 l4 s0) (F_X2_registerAt_96 κ l0 l3 l4 s0 (1 : Int32)))))
theorem M_X2_registerAt_65 (κ : Nat → Nat) (l0 : Option Nat) (l3 : Int32) (l4 : Int32) (s0 : Int32) : q_mo (F_X2_registerAt_65 κ l0 l3 l4 s0) := (q_mo_br (M_X2_registerAt_95 κ l0 l3 l4 s0) (q_mo_br (M_X2_registerAt_95 κ l0 l3 l4 s0) (q_mo_br (M_X2_registerAt_95 κ l0 l3 l4 s0) (q_mo_br (M_X2_registerAt_95 κ l0 l3 l4 s0) (M_X2_registerAt_96 κ l0 l3 l4 s0 (1 : Int32))))))
theorem N_X2_registerAt_65 (κ : Nat → Nat) (l0 : Option Nat) (l3 : Int32) (l4 : Int32) (s0 : Int32) : q_ni (F_X2_registerAt_65 κ l0 l3 l4 s0) := (q_ni_br (N_X2_registerAt_95 κ l0 l3 l4 s0) (q_ni_br (N_X2_registerAt_95 κ l0 l3 l4 s0) (q_ni_br (N_X2_registerAt_95 κ l0 l3 l4 s0) (q_ni_br (N_X2_registerAt_95 κ l0 l3 l4 s0) (N_X2_registerAt_96 κ l0 l3 l4 s0 (1 : Int32))))))
set_option maxRecDepth 100000 in
set_option maxHeartbeats 4000000 in
theorem S_X2_registerAt_65 {E : q_Ev} {Γ : q_Gm} {w : (Int32 ⊕ q_Exn) × q_St} (B : q_Bd E Γ cX2_registerAt yX2_registerAt.cls 8 1 25 (some .int) yX2_registerAt.name w) (hT : q_nT Γ) (l0 : Option Nat) (l3 : Int32) (l4 : Int32) (s0 : Int32) (σ : q_St) (h : F_X2_registerAt_65 (q_kap E) l0 l3 l4 s0 σ = some w) : q_W E Γ (q_QF E Γ q_oI w) 8 σ 65 [(0, q_R l0), (3, q_I l3), (4, q_I l4)] [q_I s0] := by
  have C := B.1
  unfold F_X2_registerAt_65 at h
  refine q_istore (pc := 65) (l' := [(5, q_I s0), (0, q_R l0), (3, q_I l3), (4, q_I l4)]) C dX2_registerAt_65 (by decide) rfl ?_
  refine q_iload (pc := 67) C 3 rfl dX2_registerAt_67 ?_
  refine q_if_lt (pc := 69) (tgt := 95) C dX2_registerAt_69 (by decide) h (fun _ h => ?_) (fun _ h => ?_)
  · refine q_W.sub [1, 2, 3, 0] rfl ?_
    exact S_X2_registerAt_95 B hT l0 l3 l4 s0 _ h
  · refine q_iload (pc := 72) C 3 rfl dX2_registerAt_72 ?_
    refine q_bipush (pc := 74) (v := (9 : Int32)) C dX2_registerAt_74 (by decide) ?_
    refine q_icmp_gt (pc := 76) (tgt := 95) C dX2_registerAt_76 (by decide) h (fun _ h => ?_) (fun _ h => ?_)
    · refine q_W.sub [1, 2, 3, 0] rfl ?_
      exact S_X2_registerAt_95 B hT l0 l3 l4 s0 _ h
    · refine q_iload (pc := 79) C 0 rfl dX2_registerAt_79 ?_
      refine q_if_lt (pc := 81) (tgt := 95) C dX2_registerAt_81 (by decide) h (fun _ h => ?_) (fun _ h => ?_)
      · refine q_W.sub [1, 2, 3, 0] rfl ?_
        exact S_X2_registerAt_95 B hT l0 l3 l4 s0 _ h
      · refine q_iload (pc := 84) C 0 rfl dX2_registerAt_84 ?_
        refine q_bipush (pc := 86) (v := (9 : Int32)) C dX2_registerAt_86 (by decide) ?_
        refine q_icmp_gt (pc := 88) (tgt := 95) C dX2_registerAt_88 (by decide) h (fun _ h => ?_) (fun _ h => ?_)
        · refine q_W.sub [1, 2, 3, 0] rfl ?_
          exact S_X2_registerAt_95 B hT l0 l3 l4 s0 _ h
        · refine q_iconst (pc := 91) (v := (1 : Int32)) C dX2_registerAt_91 (by decide) ?_
          refine q_goto (pc := 92) (tgt := 96) C dX2_registerAt_92 (by decide) ?_
          refine q_W.sub [1, 2, 3, 0] rfl ?_
          exact S_X2_registerAt_96 B hT l0 l3 l4 s0 (1 : Int32) _ h
def F_X2_registerAt (κ : Nat → Nat) (l0 : Option Nat) (l1 : Option Nat) (l2 : Int32) : q_X Int32 :=
  q_rd (q_gA l0 5 2) fun v1 => q_rd (q_is v1 10) fun _ => q_ca (F_X7_bytesBehind κ v1 l1 l2) fun v6 => q_br (v6 < (1 : Int32)) (F_X2_registerAt_20 κ) (q_br (v6 ≤ (2 : Int32)) (q_rd (q_gA l1 13 0) fun v23 => q_rd (q_gA l1 13 3) fun v27 => q_rd (q_lI 1 v27 l2) fun v31 => q_rd (q_lI 0 v23 (v31 - (1 : Int32))) fun v34 => q_br (¬ v6 = (2 : Int32)) (F_X2_registerAt_65 κ l0 v6 (v34 - (48 : Int32)) (0 : Int32)) (q_rd (q_gA l1 13 0) fun v46 => q_rd (q_gA l1 13 3) fun v50 => q_rd (q_lI 1 v50 l2) fun v54 => q_rd (q_lI 0 v46 (v54 - (2 : Int32))) fun v57 => F_X2_registerAt_65 κ l0 v6 (v34 - (48 : Int32)) (v57 - (48 : Int32)))) (F_X2_registerAt_20 κ))
theorem M_X2_registerAt (κ : Nat → Nat) (l0 : Option Nat) (l1 : Option Nat) (l2 : Int32) : q_mo (F_X2_registerAt κ l0 l1 l2) := (q_mo_rd fun v1 => (q_mo_rd fun _ => q_mo_ca (M_X7_bytesBehind κ v1 l1 l2) fun v6 => (q_mo_br (M_X2_registerAt_20 κ) (q_mo_br (q_mo_rd fun v23 => (q_mo_rd fun v27 => (q_mo_rd fun v31 => (q_mo_rd fun v34 => (q_mo_br (M_X2_registerAt_65 κ l0 v6 (v34 - (48 : Int32)) (0 : Int32)) (q_mo_rd fun v46 => (q_mo_rd fun v50 => (q_mo_rd fun v54 => (q_mo_rd fun v57 => (M_X2_registerAt_65 κ l0 v6 (v34 - (48 : Int32)) (v57 - (48 : Int32)))))))))))) (M_X2_registerAt_20 κ)))))
set_option maxRecDepth 100000 in
set_option maxHeartbeats 4000000 in
theorem K_X2_registerAt {E : q_Ev} (l0 : Option Nat) (l1 : Option Nat) (l2 : Int32) : q_Ct E yX2_registerAt (.code yX2_registerAt cX2_registerAt 8 (some .int)) 1 25 [q_R l0, q_R l1, q_I l2] q_oI (F_X2_registerAt (q_kap E) l0 l1 l2) := by
  refine q_enter (by decide) (Nat.le_of_ble_eq_true rfl) (fun Γ σ w h B hT => ?_)
  have C := B.1
  unfold F_X2_registerAt at h
  refine q_aload_n (pc := 0) C 0 rfl dX2_registerAt_0 rfl ?_
  refine q_getA (pc := 1) C dX2_registerAt_1 ql_X2_19 h (fun v1 h => ?_)
  refine q_aload_n (pc := 4) C 1 rfl dX2_registerAt_4 rfl ?_
  refine q_iload_n (pc := 5) C 2 rfl dX2_registerAt_5 rfl ?_
  refine q_callV (pc := 6) (As := [q_R l1, q_I l2]) (st := []) (ps := q_psI) C B.2.1 hT q_hpI qm_X2_38 qv_X7_bytesBehind dX2_registerAt_6 rfl rfl (Nat.le_of_ble_eq_true rfl) (q_flo B.2.2.1 B.2.2.2.1 (by decide) (by decide)) (K_X7_bytesBehind v1 l1 l2) (M_X7_bytesBehind (q_kap E) v1 l1 l2) (by exact fun v6 => (q_mo_br (M_X2_registerAt_20 (q_kap E)) (q_mo_br (q_mo_rd fun v23 => (q_mo_rd fun v27 => (q_mo_rd fun v31 => (q_mo_rd fun v34 => (q_mo_br (M_X2_registerAt_65 (q_kap E) l0 v6 (v34 - (48 : Int32)) (0 : Int32)) (q_mo_rd fun v46 => (q_mo_rd fun v50 => (q_mo_rd fun v54 => (q_mo_rd fun v57 => (M_X2_registerAt_65 (q_kap E) l0 v6 (v34 - (48 : Int32)) (v57 - (48 : Int32)))))))))))) (M_X2_registerAt_20 (q_kap E))))) h (fun v6 σ h => ?_)
  refine q_W.st (st' := [q_I v6]) rfl ?_
  refine q_istore_n (pc := 9) (l' := [(3, q_I v6), (0, q_R l0), (1, q_R l1), (2, q_I l2)]) C dX2_registerAt_9 rfl (by decide) rfl ?_
  refine q_iload_n (pc := 10) C 0 rfl dX2_registerAt_10 rfl ?_
  refine q_iconst (pc := 11) (v := (1 : Int32)) C dX2_registerAt_11 (by decide) ?_
  refine q_icmp_lt (pc := 12) (tgt := 20) C dX2_registerAt_12 (by decide) h (fun _ h => ?_) (fun _ h => ?_)
  · refine q_W.sub [] rfl ?_
    exact S_X2_registerAt_20 B hT _ h
  · refine q_iload_n (pc := 15) C 0 rfl dX2_registerAt_15 rfl ?_
    refine q_iconst (pc := 16) (v := (2 : Int32)) C dX2_registerAt_16 (by decide) ?_
    refine q_icmp_le (pc := 17) (tgt := 22) C dX2_registerAt_17 (by decide) h (fun _ h => ?_) (fun _ h => ?_)
    · refine q_aload_n (pc := 22) C 2 rfl dX2_registerAt_22 rfl ?_
      refine q_getA (pc := 23) C dX2_registerAt_23 ql_X2_42 h (fun v23 h => ?_)
      refine q_aload_n (pc := 26) C 2 rfl dX2_registerAt_26 rfl ?_
      refine q_getA (pc := 27) C dX2_registerAt_27 ql_X2_48 h (fun v27 h => ?_)
      refine q_iload_n (pc := 30) C 3 rfl dX2_registerAt_30 rfl ?_
      refine q_ldI (pc := 31) C dX2_registerAt_31 (Or.inr (Or.inl ⟨rfl, rfl⟩)) h (fun v31 h => ?_)
      refine q_iconst (pc := 32) (v := (1 : Int32)) C dX2_registerAt_32 (by decide) ?_
      refine q_isub (pc := 33) C dX2_registerAt_33 ?_
      refine q_ldI (pc := 34) C dX2_registerAt_34 (Or.inl ⟨rfl, rfl⟩) h (fun v34 h => ?_)
      refine q_bipush (pc := 35) (v := (48 : Int32)) C dX2_registerAt_35 (by decide) ?_
      refine q_isub (pc := 37) C dX2_registerAt_37 ?_
      refine q_istore (pc := 38) (l' := [(4, q_I (v34 - (48 : Int32))), (3, q_I v6), (0, q_R l0), (1, q_R l1), (2, q_I l2)]) C dX2_registerAt_38 (by decide) rfl ?_
      refine q_iload_n (pc := 40) C 1 rfl dX2_registerAt_40 rfl ?_
      refine q_iconst (pc := 41) (v := (2 : Int32)) C dX2_registerAt_41 (by decide) ?_
      refine q_icmp_ne (pc := 42) (tgt := 64) C dX2_registerAt_42 (by decide) h (fun _ h => ?_) (fun _ h => ?_)
      · refine q_iconst (pc := 64) (v := (0 : Int32)) C dX2_registerAt_64 (by decide) ?_
        refine q_W.sub [2, 1, 0] rfl ?_
        exact S_X2_registerAt_65 B hT l0 v6 (v34 - (48 : Int32)) (0 : Int32) _ h
      · refine q_aload_n (pc := 45) C 3 rfl dX2_registerAt_45 rfl ?_
        refine q_getA (pc := 46) C dX2_registerAt_46 ql_X2_42 h (fun v46 h => ?_)
        refine q_aload_n (pc := 49) C 3 rfl dX2_registerAt_49 rfl ?_
        refine q_getA (pc := 50) C dX2_registerAt_50 ql_X2_48 h (fun v50 h => ?_)
        refine q_iload_n (pc := 53) C 4 rfl dX2_registerAt_53 rfl ?_
        refine q_ldI (pc := 54) C dX2_registerAt_54 (Or.inr (Or.inl ⟨rfl, rfl⟩)) h (fun v54 h => ?_)
        refine q_iconst (pc := 55) (v := (2 : Int32)) C dX2_registerAt_55 (by decide) ?_
        refine q_isub (pc := 56) C dX2_registerAt_56 ?_
        refine q_ldI (pc := 57) C dX2_registerAt_57 (Or.inl ⟨rfl, rfl⟩) h (fun v57 h => ?_)
        refine q_bipush (pc := 58) (v := (48 : Int32)) C dX2_registerAt_58 (by decide) ?_
        refine q_isub (pc := 60) C dX2_registerAt_60 ?_
        refine q_goto (pc := 61) (tgt := 65) C dX2_registerAt_61 (by decide) ?_
        refine q_W.sub [2, 1, 0] rfl ?_
        exact S_X2_registerAt_65 B hT l0 v6 (v34 - (48 : Int32)) (v57 - (48 : Int32)) _ h
    · refine q_W.sub [] rfl ?_
      exact S_X2_registerAt_20 B hT _ h
def F_X3_init_40 (κ : Nat → Nat) (s0 : Option Nat) (s1 : Int32) : q_X Unit :=
  q_gd (¬ s1 < 0 ∧ s1.toNatClampNeg ≤ 65536) (q_mk (q_nI 1 s1) s1.toNatClampNeg fun a40 => q_wr (q_pF s0 6 4 (va_rf (some a40))) (q_rt ()))
theorem M_X3_init_40 (κ : Nat → Nat) (s0 : Option Nat) (s1 : Int32) : q_mo (F_X3_init_40 κ s0 s1) := (q_mo_gd (q_mo_mk fun a40 => (q_mo_wr q_mo_rt)))
theorem N_X3_init_40 (κ : Nat → Nat) (s0 : Option Nat) (s1 : Int32) : q_ni (F_X3_init_40 κ s0 s1) := (q_ni_gd (q_ni_mk fun a40 => (q_ni_wr q_ni_rt)))
set_option maxRecDepth 100000 in
set_option maxHeartbeats 4000000 in
theorem S_X3_init_40 {E : q_Ev} {Γ : q_Gm} {w : (Unit ⊕ q_Exn) × q_St} (B : q_Bd E Γ cX3_init yX3_init.cls 4 1 20 (none) yX3_init.name w) (hT : q_nT Γ) (s0 : Option Nat) (s1 : Int32) (σ : q_St) (h : F_X3_init_40 (q_kap E) s0 s1 σ = some w) : q_W E Γ (q_QF E Γ q_oV w) 4 σ 40 [] [q_I s1, q_R s0] := by
  have C := B.1
  unfold F_X3_init_40 at h
  refine q_newP (pc := 40) (t := 1) (A := (s1.toNatClampNeg, .inl (fun _ => 0))) C dX3_init_40 qa_int rfl (by decide) (fun _ h => h) rfl (fun _ => rfl) (by decide) (by exact fun a40 => (q_mo_wr q_mo_rt)) B.2.1 h (fun a40 σ h => ?_)
  refine q_putV (pc := 42) (v := q_R (some a40)) C dX3_init_42 ql_X3_27 (Or.inr ⟨B.2.2.2.2.2, RX3, TX3, 8, rfl, rfl⟩) q_nfA q_nfA' h (fun M42 h => ?_)
  exact q_vret C B.2.2.2.2.1 dX3_init_45 h
def F_X3_init (κ : Nat → Nat) (l0 : Option Nat) (l1 : Int32) (l2 : Int32) (l3 : Int32) : q_X Unit :=
  q_gd (¬ l0 = none) (q_wr (q_pF l0 6 3 (.int (-1 : Int32))) (q_wr (q_pF l0 6 5 (.int (-1 : Int32))) (q_wr (q_pF l0 6 0 (.int l1)) (q_wr (q_pF l0 6 1 (.int l2)) (q_wr (q_pF l0 6 2 (.int l3)) (q_br (¬ l1 = (1 : Int32)) (F_X3_init_40 κ l0 (0 : Int32)) (F_X3_init_40 κ l0 (5 : Int32))))))))
theorem M_X3_init (κ : Nat → Nat) (l0 : Option Nat) (l1 : Int32) (l2 : Int32) (l3 : Int32) : q_mo (F_X3_init κ l0 l1 l2 l3) := (q_mo_gd (q_mo_wr (q_mo_wr (q_mo_wr (q_mo_wr (q_mo_wr (q_mo_br (M_X3_init_40 κ l0 (0 : Int32)) (M_X3_init_40 κ l0 (5 : Int32)))))))))
theorem N_X3_init (κ : Nat → Nat) (l0 : Option Nat) (l1 : Int32) (l2 : Int32) (l3 : Int32) : q_ni (F_X3_init κ l0 l1 l2 l3) := (q_ni_gd (q_ni_wr (q_ni_wr (q_ni_wr (q_ni_wr (q_ni_wr (q_ni_br (N_X3_init_40 κ l0 (0 : Int32)) (N_X3_init_40 κ l0 (5 : Int32)))))))))
set_option maxRecDepth 100000 in
set_option maxHeartbeats 4000000 in
theorem K_X3_init {E : q_Ev} (l0 : Option Nat) (l1 : Int32) (l2 : Int32) (l3 : Int32) : q_Ct E yX3_init (.code yX3_init cX3_init 4 (none)) 1 20 [q_R l0, q_I l1, q_I l2, q_I l3] q_oV (F_X3_init (q_kap E) l0 l1 l2 l3) := by
  refine q_enter (by decide) (Nat.le_of_ble_eq_true rfl) (fun Γ σ w h B hT => ?_)
  have C := B.1
  unfold F_X3_init at h
  refine q_aload_n (pc := 0) C 0 rfl dX3_init_0 rfl ?_
  refine q_objI (pc := 1) C dX3_init_1 qo_X3_3 (q_flo B.2.2.1 B.2.2.2.1 (by decide) (by decide)) (Nat.le_of_ble_eq_true rfl) h (fun h => ?_)
  refine q_aload_n (pc := 4) C 0 rfl dX3_init_4 rfl ?_
  refine q_iconst (pc := 5) (v := (-1 : Int32)) C dX3_init_5 (by decide) ?_
  refine q_putV (pc := 6) (v := q_I (-1 : Int32)) C dX3_init_6 ql_X3_9 (Or.inl rfl) rfl rfl h (fun M6 h => ?_)
  refine q_aload_n (pc := 9) C 0 rfl dX3_init_9 rfl ?_
  refine q_iconst (pc := 10) (v := (-1 : Int32)) C dX3_init_10 (by decide) ?_
  refine q_putV (pc := 11) (v := q_I (-1 : Int32)) C dX3_init_11 ql_X3_15 (Or.inl rfl) rfl rfl h (fun M11 h => ?_)
  refine q_aload_n (pc := 14) C 0 rfl dX3_init_14 rfl ?_
  refine q_iload_n (pc := 15) C 1 rfl dX3_init_15 rfl ?_
  refine q_putV (pc := 16) (v := q_I l1) C dX3_init_16 ql_X3_18 (Or.inr ⟨B.2.2.2.2.2, RX3, TX3, 8, rfl, rfl⟩) rfl rfl h (fun M16 h => ?_)
  refine q_aload_n (pc := 19) C 0 rfl dX3_init_19 rfl ?_
  refine q_iload_n (pc := 20) C 2 rfl dX3_init_20 rfl ?_
  refine q_putV (pc := 21) (v := q_I l2) C dX3_init_21 ql_X3_21 (Or.inr ⟨B.2.2.2.2.2, RX3, TX3, 8, rfl, rfl⟩) rfl rfl h (fun M21 h => ?_)
  refine q_aload_n (pc := 24) C 0 rfl dX3_init_24 rfl ?_
  refine q_iload_n (pc := 25) C 3 rfl dX3_init_25 rfl ?_
  refine q_putV (pc := 26) (v := q_I l3) C dX3_init_26 ql_X3_24 (Or.inr ⟨B.2.2.2.2.2, RX3, TX3, 8, rfl, rfl⟩) rfl rfl h (fun M26 h => ?_)
  refine q_aload_n (pc := 29) C 0 rfl dX3_init_29 rfl ?_
  refine q_iload_n (pc := 30) C 1 rfl dX3_init_30 rfl ?_
  refine q_iconst (pc := 31) (v := (1 : Int32)) C dX3_init_31 (by decide) ?_
  refine q_icmp_ne (pc := 32) (tgt := 39) C dX3_init_32 (by decide) h (fun _ h => ?_) (fun _ h => ?_)
  · refine q_iconst (pc := 39) (v := (0 : Int32)) C dX3_init_39 (by decide) ?_
    refine q_W.sub [] rfl ?_
    exact S_X3_init_40 B hT l0 (0 : Int32) _ h
  · refine q_iconst (pc := 35) (v := (5 : Int32)) C dX3_init_35 (by decide) ?_
    refine q_goto (pc := 36) (tgt := 40) C dX3_init_36 (by decide) ?_
    refine q_W.sub [] rfl ?_
    exact S_X3_init_40 B hT l0 (5 : Int32) _ h
def F_X4_init (κ : Nat → Nat) (l0 : Option Nat) (l1 : Option Nat) (l2 : Option Nat) : q_X Unit :=
  q_gd (¬ l0 = none) (q_gd (¬ (5 : Int32) < 0 ∧ (5 : Int32).toNatClampNeg ≤ 65536) (q_mk (q_nL (5 : Int32)) (5 : Int32).toNatClampNeg fun a6 => q_wr (q_pF l0 7 2 (va_rf (some a6))) (q_gd (¬ (20 : Int32) < 0 ∧ (20 : Int32).toNatClampNeg ≤ 65536) (q_mk (q_nI 0 (20 : Int32)) (20 : Int32).toNatClampNeg fun a14 => q_wr (q_pF l0 7 3 (va_rf (some a14))) (q_gd (¬ (200 : Int32) < 0 ∧ (200 : Int32).toNatClampNeg ≤ 65536) (q_mk (q_nI 0 (200 : Int32)) (200 : Int32).toNatClampNeg fun a23 => q_wr (q_pF l0 7 4 (va_rf (some a23))) (q_wr (q_pF l0 7 6 (.int (-1 : Int32))) (q_wr (q_pF l0 7 0 (va_rf l1)) (q_wr (q_pF l0 7 1 (va_rf l2)) (q_rt ()))))))))))
theorem M_X4_init (κ : Nat → Nat) (l0 : Option Nat) (l1 : Option Nat) (l2 : Option Nat) : q_mo (F_X4_init κ l0 l1 l2) := (q_mo_gd (q_mo_gd (q_mo_mk fun a6 => (q_mo_wr (q_mo_gd (q_mo_mk fun a14 => (q_mo_wr (q_mo_gd (q_mo_mk fun a23 => (q_mo_wr (q_mo_wr (q_mo_wr (q_mo_wr q_mo_rt)))))))))))))
theorem N_X4_init (κ : Nat → Nat) (l0 : Option Nat) (l1 : Option Nat) (l2 : Option Nat) : q_ni (F_X4_init κ l0 l1 l2) := (q_ni_gd (q_ni_gd (q_ni_mk fun a6 => (q_ni_wr (q_ni_gd (q_ni_mk fun a14 => (q_ni_wr (q_ni_gd (q_ni_mk fun a23 => (q_ni_wr (q_ni_wr (q_ni_wr (q_ni_wr q_ni_rt)))))))))))))
set_option maxRecDepth 100000 in
set_option maxHeartbeats 4000000 in
theorem K_X4_init {E : q_Ev} (l0 : Option Nat) (l1 : Option Nat) (l2 : Option Nat) : q_Ct E yX4_init (.code yX4_init cX4_init 3 (none)) 1 20 [q_R l0, q_R l1, q_R l2] q_oV (F_X4_init (q_kap E) l0 l1 l2) := by
  refine q_enter (by decide) (Nat.le_of_ble_eq_true rfl) (fun Γ σ w h B hT => ?_)
  have C := B.1
  unfold F_X4_init at h
  refine q_aload_n (pc := 0) C 0 rfl dX4_init_0 rfl ?_
  refine q_objI (pc := 1) C dX4_init_1 qo_X4_3 (q_flo B.2.2.1 B.2.2.2.1 (by decide) (by decide)) (Nat.le_of_ble_eq_true rfl) h (fun h => ?_)
  refine q_aload_n (pc := 4) C 0 rfl dX4_init_4 rfl ?_
  refine q_iconst (pc := 5) (v := (5 : Int32)) C dX4_init_5 (by decide) ?_
  refine q_newP (pc := 6) (t := 2) (A := ((5 : Int32).toNatClampNeg, .inr (.inl (fun _ => 0)))) C dX4_init_6 qa_long rfl (by decide) (fun _ h => h) rfl (fun _ => rfl) (by decide) (by exact fun a6 => (q_mo_wr (q_mo_gd (q_mo_mk fun a14 => (q_mo_wr (q_mo_gd (q_mo_mk fun a23 => (q_mo_wr (q_mo_wr (q_mo_wr (q_mo_wr q_mo_rt))))))))))) B.2.1 h (fun a6 σ h => ?_)
  refine q_putV (pc := 8) (v := q_R (some a6)) C dX4_init_8 ql_X4_9 (Or.inr ⟨B.2.2.2.2.2, RX4, TX4, 7, rfl, rfl⟩) q_nfA q_nfA' h (fun M8 h => ?_)
  refine q_aload_n (pc := 11) C 0 rfl dX4_init_11 rfl ?_
  refine q_bipush (pc := 12) (v := (20 : Int32)) C dX4_init_12 (by decide) ?_
  refine q_newP (pc := 14) (t := 0) (A := ((20 : Int32).toNatClampNeg, .inl (fun _ => 0))) C dX4_init_14 qa_byte rfl (by decide) (fun _ h => h) rfl (fun _ => rfl) (by decide) (by exact fun a14 => (q_mo_wr (q_mo_gd (q_mo_mk fun a23 => (q_mo_wr (q_mo_wr (q_mo_wr (q_mo_wr q_mo_rt)))))))) B.2.1 h (fun a14 σ h => ?_)
  refine q_putV (pc := 16) (v := q_R (some a14)) C dX4_init_16 ql_X4_15 (Or.inr ⟨B.2.2.2.2.2, RX4, TX4, 7, rfl, rfl⟩) q_nfA q_nfA' h (fun M16 h => ?_)
  refine q_aload_n (pc := 19) C 0 rfl dX4_init_19 rfl ?_
  refine q_sipush (pc := 20) (v := (200 : Int32)) C dX4_init_20 (by decide) ?_
  refine q_newP (pc := 23) (t := 0) (A := ((200 : Int32).toNatClampNeg, .inl (fun _ => 0))) C dX4_init_23 qa_byte rfl (by decide) (fun _ h => h) rfl (fun _ => rfl) (by decide) (by exact fun a23 => (q_mo_wr (q_mo_wr (q_mo_wr (q_mo_wr q_mo_rt))))) B.2.1 h (fun a23 σ h => ?_)
  refine q_putV (pc := 25) (v := q_R (some a23)) C dX4_init_25 ql_X4_19 (Or.inr ⟨B.2.2.2.2.2, RX4, TX4, 7, rfl, rfl⟩) q_nfA q_nfA' h (fun M25 h => ?_)
  refine q_aload_n (pc := 28) C 0 rfl dX4_init_28 rfl ?_
  refine q_iconst (pc := 29) (v := (-1 : Int32)) C dX4_init_29 (by decide) ?_
  refine q_putV (pc := 30) (v := q_I (-1 : Int32)) C dX4_init_30 ql_X4_22 (Or.inl rfl) rfl rfl h (fun M30 h => ?_)
  refine q_aload_n (pc := 33) C 0 rfl dX4_init_33 rfl ?_
  refine q_aload_n (pc := 34) C 1 rfl dX4_init_34 rfl ?_
  refine q_putV (pc := 35) (v := q_R l1) C dX4_init_35 ql_X4_26 (Or.inr ⟨B.2.2.2.2.2, RX4, TX4, 7, rfl, rfl⟩) q_nfO q_nfO' h (fun M35 h => ?_)
  refine q_aload_n (pc := 38) C 0 rfl dX4_init_38 rfl ?_
  refine q_aload_n (pc := 39) C 2 rfl dX4_init_39 rfl ?_
  refine q_putV (pc := 40) (v := q_R l2) C dX4_init_40 ql_X4_30 (Or.inr ⟨B.2.2.2.2.2, RX4, TX4, 7, rfl, rfl⟩) q_nfO q_nfO' h (fun M40 h => ?_)
  exact q_vret C B.2.2.2.2.1 dX4_init_43 h
def F_X4_addByte_31 (κ : Nat → Nat) : q_X Unit :=
  q_rt ()
theorem M_X4_addByte_31 (κ : Nat → Nat) : q_mo (F_X4_addByte_31 κ) := q_mo_rt
theorem N_X4_addByte_31 (κ : Nat → Nat) : q_ni (F_X4_addByte_31 κ) := q_ni_rt
set_option maxRecDepth 100000 in
set_option maxHeartbeats 4000000 in
theorem S_X4_addByte_31 {E : q_Ev} {Γ : q_Gm} {w : (Unit ⊕ q_Exn) × q_St} (B : q_Bd E Γ cX4_addByte yX4_addByte.cls 2 0 0 (none) yX4_addByte.name w) (hT : q_nT Γ) (σ : q_St) (h : F_X4_addByte_31 (q_kap E) σ = some w) : q_W E Γ (q_QF E Γ q_oV w) 2 σ 31 [] [] := by
  have C := B.1
  unfold F_X4_addByte_31 at h
  exact q_vret C B.2.2.2.2.1 dX4_addByte_31 h
def F_X4_addByte (κ : Nat → Nat) (l0 : Option Nat) (l1 : Int32) : q_X Unit :=
  q_rd (q_gI l0 7 5) fun v1 => q_br ((200 : Int32) ≤ v1) (F_X4_addByte_31 κ) (q_rd (q_gA l0 7 4) fun v11 => q_rd (q_gI l0 7 5) fun v15 => q_wr (q_sI 0 v11 v15 (vp_nar .byte l1.toInt8.toInt32)) (q_rd (q_gI l0 7 5) fun v23 => q_wr (q_pF l0 7 5 (.int (v23 + (1 : Int32)))) (F_X4_addByte_31 κ)))
theorem M_X4_addByte (κ : Nat → Nat) (l0 : Option Nat) (l1 : Int32) : q_mo (F_X4_addByte κ l0 l1) := (q_mo_rd fun v1 => (q_mo_br (M_X4_addByte_31 κ) (q_mo_rd fun v11 => (q_mo_rd fun v15 => (q_mo_wr (q_mo_rd fun v23 => (q_mo_wr (M_X4_addByte_31 κ))))))))
theorem N_X4_addByte (κ : Nat → Nat) (l0 : Option Nat) (l1 : Int32) : q_ni (F_X4_addByte κ l0 l1) := (q_ni_rd fun v1 => (q_ni_br (N_X4_addByte_31 κ) (q_ni_rd fun v11 => (q_ni_rd fun v15 => (q_ni_wr (q_ni_rd fun v23 => (q_ni_wr (N_X4_addByte_31 κ))))))))
set_option maxRecDepth 100000 in
set_option maxHeartbeats 4000000 in
theorem K_X4_addByte {E : q_Ev} (l0 : Option Nat) (l1 : Int32) : q_Ct E yX4_addByte (.code yX4_addByte cX4_addByte 2 (none)) 0 0 [q_R l0, q_I l1] q_oV (F_X4_addByte (q_kap E) l0 l1) := by
  refine q_enter (by decide) (Nat.le_of_ble_eq_true rfl) (fun Γ σ w h B hT => ?_)
  have C := B.1
  unfold F_X4_addByte at h
  refine q_aload_n (pc := 0) C 0 rfl dX4_addByte_0 rfl ?_
  refine q_getI (pc := 1) C dX4_addByte_1 ql_X4_34 h (fun v1 h => ?_)
  refine q_sipush (pc := 4) (v := (200 : Int32)) C dX4_addByte_4 (by decide) ?_
  refine q_icmp_ge (pc := 7) (tgt := 31) C dX4_addByte_7 (by decide) h (fun _ h => ?_) (fun _ h => ?_)
  · refine q_W.sub [] rfl ?_
    exact S_X4_addByte_31 B hT _ h
  · refine q_aload_n (pc := 10) C 0 rfl dX4_addByte_10 rfl ?_
    refine q_getA (pc := 11) C dX4_addByte_11 ql_X4_19 h (fun v11 h => ?_)
    refine q_aload_n (pc := 14) C 0 rfl dX4_addByte_14 rfl ?_
    refine q_getI (pc := 15) C dX4_addByte_15 ql_X4_34 h (fun v15 h => ?_)
    refine q_iload_n (pc := 18) C 1 rfl dX4_addByte_18 rfl ?_
    refine q_i2b (pc := 19) C dX4_addByte_19 ?_
    refine q_stB (pc := 20) C dX4_addByte_20 h (fun M20 h => ?_)
    refine q_aload_n (pc := 21) C 0 rfl dX4_addByte_21 rfl ?_
    refine q_dup (pc := 22) C dX4_addByte_22 rfl ?_
    refine q_getI (pc := 23) C dX4_addByte_23 ql_X4_34 h (fun v23 h => ?_)
    refine q_iconst (pc := 26) (v := (1 : Int32)) C dX4_addByte_26 (by decide) ?_
    refine q_iadd (pc := 27) C dX4_addByte_27 ?_
    refine q_putV (pc := 28) (v := q_I (v23 + (1 : Int32))) C dX4_addByte_28 ql_X4_34 (Or.inl rfl) rfl rfl h (fun M28 h => ?_)
    refine q_W.sub [] rfl ?_
    exact S_X4_addByte_31 B hT _ h
def F_X4_addText_2B (κ : Nat → Nat) (r2 : Option Nat → Option Nat → Int32 → q_X Unit) (l0 : Option Nat) (l1 : Option Nat) (l2 : Int32) : q_X Unit :=
  q_rd (q_sp l1 0) fun _ => q_ca (F_J0_length_8abf5 κ l1) fun v4 => q_br (v4 ≤ l2) (q_rt ()) (q_rd (q_sp l1 0) fun _ => q_ca (F_J0_charAt_5068e κ l1 l2) fun v13 => q_rd (q_is l0 7) fun _ => q_ca (F_X4_addByte κ l0 v13) fun _v16 => r2 l0 l1 (l2 + (1 : Int32)))
theorem M_X4_addText_2B (κ : Nat → Nat) (r2 : Option Nat → Option Nat → Int32 → q_X Unit) (mr2 : ∀ (l0 : Option Nat) (l1 : Option Nat) (l2 : Int32), q_mo (r2 l0 l1 l2)) (l0 : Option Nat) (l1 : Option Nat) (l2 : Int32) : q_mo (F_X4_addText_2B κ r2 l0 l1 l2) := (q_mo_rd fun _ => q_mo_ca (M_J0_length_8abf5 κ l1) fun v4 => (q_mo_br q_mo_rt (q_mo_rd fun _ => q_mo_ca (M_J0_charAt_5068e κ l1 l2) fun v13 => (q_mo_rd fun _ => q_mo_ca (M_X4_addByte κ l0 v13) fun _v16 => (mr2 l0 l1 (l2 + (1 : Int32)))))))
set_option maxRecDepth 100000 in
set_option maxHeartbeats 4000000 in
theorem S_X4_addText_2B {E : q_Ev} {Γ : q_Gm} {w : (Unit ⊕ q_Exn) × q_St} (B : q_Bd E Γ cX4_addText yX4_addText.cls 3 4 85 (none) yX4_addText.name w) (hT : q_nT Γ) (r2 : Option Nat → Option Nat → Int32 → q_X Unit) (hr2 : ∀ (l0 : Option Nat) (l1 : Option Nat) (l2 : Int32) (σ : q_St), r2 l0 l1 l2 σ = some w → q_W E Γ (q_QF E Γ q_oV w) 3 σ 2 [(0, q_R l0), (1, q_R l1), (2, q_I l2)] []) (mr2 : ∀ (l0 : Option Nat) (l1 : Option Nat) (l2 : Int32), q_mo (r2 l0 l1 l2)) (l0 : Option Nat) (l1 : Option Nat) (l2 : Int32) (σ : q_St) (h : F_X4_addText_2B (q_kap E) r2 l0 l1 l2 σ = some w) : q_W E Γ (q_QF E Γ q_oV w) 3 σ 2 [(0, q_R l0), (1, q_R l1), (2, q_I l2)] [] := by
  have C := B.1
  unfold F_X4_addText_2B at h
  refine q_iload_n (pc := 2) C 2 rfl dX4_addText_2 rfl ?_
  refine q_aload_n (pc := 3) C 1 rfl dX4_addText_3 rfl ?_
  refine q_callVS (pc := 4) (As := []) (st := [q_I l2]) (ps := q_psI) C B.2.1 hT q_hpI qm_X4_37 qv_J0_length_8abf5 dX4_addText_4 rfl rfl (Nat.le_of_ble_eq_true rfl) (q_flo B.2.2.1 B.2.2.2.1 (by decide) (by decide)) (K_J0_length_8abf5 l1) (M_J0_length_8abf5 (q_kap E) l1) (by exact fun v4 => (q_mo_br q_mo_rt (q_mo_rd fun _ => q_mo_ca (M_J0_charAt_5068e (q_kap E) l1 l2) fun v13 => (q_mo_rd fun _ => q_mo_ca (M_X4_addByte (q_kap E) l0 v13) fun _v16 => (mr2 l0 l1 (l2 + (1 : Int32))))))) h (fun v4 σ h => ?_)
  refine q_W.st (st' := [q_I v4, q_I l2]) rfl ?_
  refine q_icmp_ge (pc := 7) (tgt := 25) C dX4_addText_7 (by decide) h (fun _ h => ?_) (fun _ h => ?_)
  · exact q_vret C B.2.2.2.2.1 dX4_addText_25 h
  · refine q_aload_n (pc := 10) C 0 rfl dX4_addText_10 rfl ?_
    refine q_aload_n (pc := 11) C 1 rfl dX4_addText_11 rfl ?_
    refine q_iload_n (pc := 12) C 2 rfl dX4_addText_12 rfl ?_
    refine q_callVS (pc := 13) (As := [q_I l2]) (st := [q_R l0]) (ps := q_psI) C B.2.1 hT q_hpI qm_X4_42 qv_J0_charAt_5068e dX4_addText_13 rfl rfl (Nat.le_of_ble_eq_true rfl) (q_flo B.2.2.1 B.2.2.2.1 (by decide) (by decide)) (K_J0_charAt_5068e l1 l2) (M_J0_charAt_5068e (q_kap E) l1 l2) (by exact fun v13 => (q_mo_rd fun _ => q_mo_ca (M_X4_addByte (q_kap E) l0 v13) fun _v16 => (mr2 l0 l1 (l2 + (1 : Int32))))) h (fun v13 σ h => ?_)
    refine q_W.st (st' := [q_I v13, q_R l0]) rfl ?_
    refine q_callV (pc := 16) (As := [q_I v13]) (st := []) (ps := q_psV) C B.2.1 hT q_hpV qm_X4_46 qv_X4_addByte dX4_addText_16 rfl rfl (Nat.le_of_ble_eq_true rfl) (q_flo B.2.2.1 B.2.2.2.1 (by decide) (by decide)) (K_X4_addByte l0 v13) (M_X4_addByte (q_kap E) l0 v13) (by exact fun _v16 => (mr2 l0 l1 (l2 + (1 : Int32)))) h (fun _v16 σ h => ?_)
    refine q_W.st (st' := []) rfl ?_
    refine q_iinc (pc := 19) (v := (1 : Int32)) (l' := [(2, q_I (l2 + (1 : Int32))), (0, q_R l0), (1, q_R l1)]) C 2 rfl dX4_addText_19 (by decide) (by decide) rfl ?_
    refine q_goto (pc := 22) (tgt := 2) C dX4_addText_22 (by decide) ?_
    refine q_W.sub [1, 2, 0] rfl ?_
    exact hr2 l0 l1 (l2 + (1 : Int32)) _ h
def F_X4_addText_2 (κ : Nat → Nat) : Nat → Option Nat → Option Nat → Int32 → q_X Unit
  | 0, _, _, _ => q_no
  | n + 1, l0, l1, l2 => F_X4_addText_2B κ (F_X4_addText_2 κ n) l0 l1 l2
theorem M_X4_addText_2 (κ : Nat → Nat) : ∀ (n : Nat) (l0 : Option Nat) (l1 : Option Nat) (l2 : Int32), q_mo (F_X4_addText_2 κ n l0 l1 l2)
  | 0, _, _, _ => q_mo_no
  | n + 1, l0, l1, l2 => M_X4_addText_2B κ (F_X4_addText_2 κ n) (M_X4_addText_2 κ n) l0 l1 l2
theorem S_X4_addText_2 {E : q_Ev} {Γ : q_Gm} {w : (Unit ⊕ q_Exn) × q_St} (B : q_Bd E Γ cX4_addText yX4_addText.cls 3 4 85 (none) yX4_addText.name w) (hT : q_nT Γ) : ∀ (n : Nat) (l0 : Option Nat) (l1 : Option Nat) (l2 : Int32) (σ : q_St), F_X4_addText_2 (q_kap E) n l0 l1 l2 σ = some w → q_W E Γ (q_QF E Γ q_oV w) 3 σ 2 [(0, q_R l0), (1, q_R l1), (2, q_I l2)] []
  | 0, _, _, _, _, h => by cases h
  | n + 1, l0, l1, l2, σ, h => S_X4_addText_2B B hT (F_X4_addText_2 (q_kap E) n) (S_X4_addText_2 B hT n) (M_X4_addText_2 (q_kap E) n) l0 l1 l2 σ h
def F_X4_addText (κ : Nat → Nat) (l0 : Option Nat) (l1 : Option Nat) : q_X Unit :=
  F_X4_addText_2 κ q_fu l0 l1 (0 : Int32)
theorem M_X4_addText (κ : Nat → Nat) (l0 : Option Nat) (l1 : Option Nat) : q_mo (F_X4_addText κ l0 l1) := (M_X4_addText_2 κ q_fu l0 l1 (0 : Int32))
set_option maxRecDepth 100000 in
set_option maxHeartbeats 4000000 in
theorem K_X4_addText {E : q_Ev} (l0 : Option Nat) (l1 : Option Nat) : q_Ct E yX4_addText (.code yX4_addText cX4_addText 3 (none)) 4 85 [q_R l0, q_R l1] q_oV (F_X4_addText (q_kap E) l0 l1) := by
  refine q_enter (by decide) (Nat.le_of_ble_eq_true rfl) (fun Γ σ w h B hT => ?_)
  have C := B.1
  unfold F_X4_addText at h
  refine q_iconst (pc := 0) (v := (0 : Int32)) C dX4_addText_0 (by decide) ?_
  refine q_istore_n (pc := 1) (l' := [(2, q_I (0 : Int32)), (0, q_R l0), (1, q_R l1)]) C dX4_addText_1 rfl (by decide) rfl ?_
  refine q_W.sub [1, 2, 0] rfl ?_
  exact S_X4_addText_2 B hT q_fu l0 l1 (0 : Int32) _ h
def F_X4_addName_2B (κ : Nat → Nat) (r2 : Option Nat → Option Nat → Int32 → q_X Unit) (l0 : Option Nat) (l1 : Option Nat) (l2 : Int32) : q_X Unit :=
  q_rd (q_gA l1 10 0) fun v4 => q_rd (q_ln v4) fun v7 => q_br (v7 ≤ l2) (q_rt ()) (q_rd (q_gA l1 10 0) fun v13 => q_rd (q_lI 0 v13 l2) fun v17 => q_rd (q_is l0 7) fun _ => q_ca (F_X4_addByte κ l0 v17) fun _v18 => r2 l0 l1 (l2 + (1 : Int32)))
theorem M_X4_addName_2B (κ : Nat → Nat) (r2 : Option Nat → Option Nat → Int32 → q_X Unit) (mr2 : ∀ (l0 : Option Nat) (l1 : Option Nat) (l2 : Int32), q_mo (r2 l0 l1 l2)) (l0 : Option Nat) (l1 : Option Nat) (l2 : Int32) : q_mo (F_X4_addName_2B κ r2 l0 l1 l2) := (q_mo_rd fun v4 => (q_mo_rd fun v7 => (q_mo_br q_mo_rt (q_mo_rd fun v13 => (q_mo_rd fun v17 => (q_mo_rd fun _ => q_mo_ca (M_X4_addByte κ l0 v17) fun _v18 => (mr2 l0 l1 (l2 + (1 : Int32)))))))))
set_option maxRecDepth 100000 in
set_option maxHeartbeats 4000000 in
theorem S_X4_addName_2B {E : q_Ev} {Γ : q_Gm} {w : (Unit ⊕ q_Exn) × q_St} (B : q_Bd E Γ cX4_addName yX4_addName.cls 3 1 21 (none) yX4_addName.name w) (hT : q_nT Γ) (r2 : Option Nat → Option Nat → Int32 → q_X Unit) (hr2 : ∀ (l0 : Option Nat) (l1 : Option Nat) (l2 : Int32) (σ : q_St), r2 l0 l1 l2 σ = some w → q_W E Γ (q_QF E Γ q_oV w) 3 σ 2 [(0, q_R l0), (1, q_R l1), (2, q_I l2)] []) (mr2 : ∀ (l0 : Option Nat) (l1 : Option Nat) (l2 : Int32), q_mo (r2 l0 l1 l2)) (l0 : Option Nat) (l1 : Option Nat) (l2 : Int32) (σ : q_St) (h : F_X4_addName_2B (q_kap E) r2 l0 l1 l2 σ = some w) : q_W E Γ (q_QF E Γ q_oV w) 3 σ 2 [(0, q_R l0), (1, q_R l1), (2, q_I l2)] [] := by
  have C := B.1
  unfold F_X4_addName_2B at h
  refine q_iload_n (pc := 2) C 2 rfl dX4_addName_2 rfl ?_
  refine q_aload_n (pc := 3) C 1 rfl dX4_addName_3 rfl ?_
  refine q_getA (pc := 4) C dX4_addName_4 ql_X4_50 h (fun v4 h => ?_)
  refine q_aln (pc := 7) C dX4_addName_7 h (fun v7 h => ?_)
  refine q_icmp_ge (pc := 8) (tgt := 27) C dX4_addName_8 (by decide) h (fun _ h => ?_) (fun _ h => ?_)
  · exact q_vret C B.2.2.2.2.1 dX4_addName_27 h
  · refine q_aload_n (pc := 11) C 0 rfl dX4_addName_11 rfl ?_
    refine q_aload_n (pc := 12) C 1 rfl dX4_addName_12 rfl ?_
    refine q_getA (pc := 13) C dX4_addName_13 ql_X4_50 h (fun v13 h => ?_)
    refine q_iload_n (pc := 16) C 2 rfl dX4_addName_16 rfl ?_
    refine q_ldI (pc := 17) C dX4_addName_17 (Or.inl ⟨rfl, rfl⟩) h (fun v17 h => ?_)
    refine q_callV (pc := 18) (As := [q_I v17]) (st := []) (ps := q_psV) C B.2.1 hT q_hpV qm_X4_46 qv_X4_addByte dX4_addName_18 rfl rfl (Nat.le_of_ble_eq_true rfl) (q_flo B.2.2.1 B.2.2.2.1 (by decide) (by decide)) (K_X4_addByte l0 v17) (M_X4_addByte (q_kap E) l0 v17) (by exact fun _v18 => (mr2 l0 l1 (l2 + (1 : Int32)))) h (fun _v18 σ h => ?_)
    refine q_W.st (st' := []) rfl ?_
    refine q_iinc (pc := 21) (v := (1 : Int32)) (l' := [(2, q_I (l2 + (1 : Int32))), (0, q_R l0), (1, q_R l1)]) C 2 rfl dX4_addName_21 (by decide) (by decide) rfl ?_
    refine q_goto (pc := 24) (tgt := 2) C dX4_addName_24 (by decide) ?_
    refine q_W.sub [1, 2, 0] rfl ?_
    exact hr2 l0 l1 (l2 + (1 : Int32)) _ h
def F_X4_addName_2 (κ : Nat → Nat) : Nat → Option Nat → Option Nat → Int32 → q_X Unit
  | 0, _, _, _ => q_no
  | n + 1, l0, l1, l2 => F_X4_addName_2B κ (F_X4_addName_2 κ n) l0 l1 l2
theorem M_X4_addName_2 (κ : Nat → Nat) : ∀ (n : Nat) (l0 : Option Nat) (l1 : Option Nat) (l2 : Int32), q_mo (F_X4_addName_2 κ n l0 l1 l2)
  | 0, _, _, _ => q_mo_no
  | n + 1, l0, l1, l2 => M_X4_addName_2B κ (F_X4_addName_2 κ n) (M_X4_addName_2 κ n) l0 l1 l2
theorem S_X4_addName_2 {E : q_Ev} {Γ : q_Gm} {w : (Unit ⊕ q_Exn) × q_St} (B : q_Bd E Γ cX4_addName yX4_addName.cls 3 1 21 (none) yX4_addName.name w) (hT : q_nT Γ) : ∀ (n : Nat) (l0 : Option Nat) (l1 : Option Nat) (l2 : Int32) (σ : q_St), F_X4_addName_2 (q_kap E) n l0 l1 l2 σ = some w → q_W E Γ (q_QF E Γ q_oV w) 3 σ 2 [(0, q_R l0), (1, q_R l1), (2, q_I l2)] []
  | 0, _, _, _, _, h => by cases h
  | n + 1, l0, l1, l2, σ, h => S_X4_addName_2B B hT (F_X4_addName_2 (q_kap E) n) (S_X4_addName_2 B hT n) (M_X4_addName_2 (q_kap E) n) l0 l1 l2 σ h
def F_X4_addName (κ : Nat → Nat) (l0 : Option Nat) (l1 : Option Nat) : q_X Unit :=
  F_X4_addName_2 κ q_fu l0 l1 (0 : Int32)
theorem M_X4_addName (κ : Nat → Nat) (l0 : Option Nat) (l1 : Option Nat) : q_mo (F_X4_addName κ l0 l1) := (M_X4_addName_2 κ q_fu l0 l1 (0 : Int32))
set_option maxRecDepth 100000 in
set_option maxHeartbeats 4000000 in
theorem K_X4_addName {E : q_Ev} (l0 : Option Nat) (l1 : Option Nat) : q_Ct E yX4_addName (.code yX4_addName cX4_addName 3 (none)) 1 21 [q_R l0, q_R l1] q_oV (F_X4_addName (q_kap E) l0 l1) := by
  refine q_enter (by decide) (Nat.le_of_ble_eq_true rfl) (fun Γ σ w h B hT => ?_)
  have C := B.1
  unfold F_X4_addName at h
  refine q_iconst (pc := 0) (v := (0 : Int32)) C dX4_addName_0 (by decide) ?_
  refine q_istore_n (pc := 1) (l' := [(2, q_I (0 : Int32)), (0, q_R l0), (1, q_R l1)]) C dX4_addName_1 rfl (by decide) rfl ?_
  refine q_W.sub [1, 2, 0] rfl ?_
  exact S_X4_addName_2 B hT q_fu l0 l1 (0 : Int32) _ h
def F_X4_addNumber_74B (κ : Nat → Nat) (r74 : Option Nat → Int32 → q_X Unit) (l0 : Option Nat) (l6 : Int32) : q_X Unit :=
  q_br (l6 < 0) (q_rt ()) (q_rd (q_gA l0 7 3) fun v81 => q_rd (q_lI 0 v81 l6) fun v86 => q_rd (q_is l0 7) fun _ => q_ca (F_X4_addByte κ l0 v86) fun _v87 => r74 l0 (l6 + (-1 : Int32)))
theorem M_X4_addNumber_74B (κ : Nat → Nat) (r74 : Option Nat → Int32 → q_X Unit) (mr74 : ∀ (l0 : Option Nat) (l6 : Int32), q_mo (r74 l0 l6)) (l0 : Option Nat) (l6 : Int32) : q_mo (F_X4_addNumber_74B κ r74 l0 l6) := (q_mo_br q_mo_rt (q_mo_rd fun v81 => (q_mo_rd fun v86 => (q_mo_rd fun _ => q_mo_ca (M_X4_addByte κ l0 v86) fun _v87 => (mr74 l0 (l6 + (-1 : Int32)))))))
set_option maxRecDepth 100000 in
set_option maxHeartbeats 4000000 in
theorem S_X4_addNumber_74B {E : q_Ev} {Γ : q_Gm} {w : (Unit ⊕ q_Exn) × q_St} (B : q_Bd E Γ cX4_addNumber yX4_addNumber.cls 7 1 21 (none) yX4_addNumber.name w) (hT : q_nT Γ) (r74 : Option Nat → Int32 → q_X Unit) (hr74 : ∀ (l0 : Option Nat) (l6 : Int32) (σ : q_St), r74 l0 l6 σ = some w → q_W E Γ (q_QF E Γ q_oV w) 7 σ 74 [(0, q_R l0), (6, q_I l6)] []) (mr74 : ∀ (l0 : Option Nat) (l6 : Int32), q_mo (r74 l0 l6)) (l0 : Option Nat) (l6 : Int32) (σ : q_St) (h : F_X4_addNumber_74B (q_kap E) r74 l0 l6 σ = some w) : q_W E Γ (q_QF E Γ q_oV w) 7 σ 74 [(0, q_R l0), (6, q_I l6)] [] := by
  have C := B.1
  unfold F_X4_addNumber_74B at h
  refine q_iload (pc := 74) C 1 rfl dX4_addNumber_74 ?_
  refine q_if_lt (pc := 76) (tgt := 96) C dX4_addNumber_76 (by decide) h (fun _ h => ?_) (fun _ h => ?_)
  · exact q_vret C B.2.2.2.2.1 dX4_addNumber_96 h
  · refine q_aload_n (pc := 79) C 0 rfl dX4_addNumber_79 rfl ?_
    refine q_aload_n (pc := 80) C 0 rfl dX4_addNumber_80 rfl ?_
    refine q_getA (pc := 81) C dX4_addNumber_81 ql_X4_15 h (fun v81 h => ?_)
    refine q_iload (pc := 84) C 1 rfl dX4_addNumber_84 ?_
    refine q_ldI (pc := 86) C dX4_addNumber_86 (Or.inl ⟨rfl, rfl⟩) h (fun v86 h => ?_)
    refine q_callV (pc := 87) (As := [q_I v86]) (st := []) (ps := q_psV) C B.2.1 hT q_hpV qm_X4_46 qv_X4_addByte dX4_addNumber_87 rfl rfl (Nat.le_of_ble_eq_true rfl) (q_flo B.2.2.1 B.2.2.2.1 (by decide) (by decide)) (K_X4_addByte l0 v86) (M_X4_addByte (q_kap E) l0 v86) (by exact fun _v87 => (mr74 l0 (l6 + (-1 : Int32)))) h (fun _v87 σ h => ?_)
    refine q_W.st (st' := []) rfl ?_
    refine q_iinc (pc := 90) (v := (-1 : Int32)) (l' := [(6, q_I (l6 + (-1 : Int32))), (0, q_R l0)]) C 1 rfl dX4_addNumber_90 (by decide) (by decide) rfl ?_
    refine q_goto (pc := 93) (tgt := 74) C dX4_addNumber_93 (by decide) ?_
    refine q_W.sub [1, 0] rfl ?_
    exact hr74 l0 (l6 + (-1 : Int32)) _ h
def F_X4_addNumber_74 (κ : Nat → Nat) : Nat → Option Nat → Int32 → q_X Unit
  | 0, _, _ => q_no
  | n + 1, l0, l6 => F_X4_addNumber_74B κ (F_X4_addNumber_74 κ n) l0 l6
theorem M_X4_addNumber_74 (κ : Nat → Nat) : ∀ (n : Nat) (l0 : Option Nat) (l6 : Int32), q_mo (F_X4_addNumber_74 κ n l0 l6)
  | 0, _, _ => q_mo_no
  | n + 1, l0, l6 => M_X4_addNumber_74B κ (F_X4_addNumber_74 κ n) (M_X4_addNumber_74 κ n) l0 l6
theorem S_X4_addNumber_74 {E : q_Ev} {Γ : q_Gm} {w : (Unit ⊕ q_Exn) × q_St} (B : q_Bd E Γ cX4_addNumber yX4_addNumber.cls 7 1 21 (none) yX4_addNumber.name w) (hT : q_nT Γ) : ∀ (n : Nat) (l0 : Option Nat) (l6 : Int32) (σ : q_St), F_X4_addNumber_74 (q_kap E) n l0 l6 σ = some w → q_W E Γ (q_QF E Γ q_oV w) 7 σ 74 [(0, q_R l0), (6, q_I l6)] []
  | 0, _, _, _, h => by cases h
  | n + 1, l0, l6, σ, h => S_X4_addNumber_74B B hT (F_X4_addNumber_74 (q_kap E) n) (S_X4_addNumber_74 B hT n) (M_X4_addNumber_74 (q_kap E) n) l0 l6 σ h
def F_X4_addNumber_68 (κ : Nat → Nat) (l0 : Option Nat) (l5 : Int32) : q_X Unit :=
  F_X4_addNumber_74 κ q_fu l0 (l5 - (1 : Int32))
theorem M_X4_addNumber_68 (κ : Nat → Nat) (l0 : Option Nat) (l5 : Int32) : q_mo (F_X4_addNumber_68 κ l0 l5) := (M_X4_addNumber_74 κ q_fu l0 (l5 - (1 : Int32)))
set_option maxRecDepth 100000 in
set_option maxHeartbeats 4000000 in
theorem S_X4_addNumber_68 {E : q_Ev} {Γ : q_Gm} {w : (Unit ⊕ q_Exn) × q_St} (B : q_Bd E Γ cX4_addNumber yX4_addNumber.cls 7 1 21 (none) yX4_addNumber.name w) (hT : q_nT Γ) (l0 : Option Nat) (l5 : Int32) (σ : q_St) (h : F_X4_addNumber_68 (q_kap E) l0 l5 σ = some w) : q_W E Γ (q_QF E Γ q_oV w) 7 σ 68 [(0, q_R l0), (5, q_I l5)] [] := by
  have C := B.1
  unfold F_X4_addNumber_68 at h
  refine q_iload (pc := 68) C 1 rfl dX4_addNumber_68 ?_
  refine q_iconst (pc := 70) (v := (1 : Int32)) C dX4_addNumber_70 (by decide) ?_
  refine q_isub (pc := 71) C dX4_addNumber_71 ?_
  refine q_istore (pc := 72) (l' := [(6, q_I (l5 - (1 : Int32))), (0, q_R l0), (5, q_I l5)]) C dX4_addNumber_72 (by decide) rfl ?_
  refine q_W.sub [1, 0] rfl ?_
  exact S_X4_addNumber_74 B hT q_fu l0 (l5 - (1 : Int32)) _ h
def F_X4_addNumber_28B (κ : Nat → Nat) (r28 : Option Nat → Int64 → Int32 → q_X Unit) (l0 : Option Nat) (l3 : Int64) (l5 : Int32) : q_X Unit :=
  q_rd (q_gA l0 7 3) fun v29 => q_gd (¬ (10 : Int64) = 0) (q_wr (q_sI 0 v29 l5 (vp_nar .byte ((((48 : Int64) + (l3 - l3 / (10 : Int64) * (10 : Int64))).toInt32).toInt8.toInt32))) (q_gd (¬ (10 : Int64) = 0) (q_br ((lg_cmp (l3 / (10 : Int64)) (0 : Int64)) ≤ 0) (F_X4_addNumber_68 κ l0 (l5 + (1 : Int32))) (q_br ((l5 + (1 : Int32)) < (20 : Int32)) (r28 l0 (l3 / (10 : Int64)) (l5 + (1 : Int32))) (F_X4_addNumber_68 κ l0 (l5 + (1 : Int32)))))))
theorem M_X4_addNumber_28B (κ : Nat → Nat) (r28 : Option Nat → Int64 → Int32 → q_X Unit) (mr28 : ∀ (l0 : Option Nat) (l3 : Int64) (l5 : Int32), q_mo (r28 l0 l3 l5)) (l0 : Option Nat) (l3 : Int64) (l5 : Int32) : q_mo (F_X4_addNumber_28B κ r28 l0 l3 l5) := (q_mo_rd fun v29 => (q_mo_gd (q_mo_wr (q_mo_gd (q_mo_br (M_X4_addNumber_68 κ l0 (l5 + (1 : Int32))) (q_mo_br (mr28 l0 (l3 / (10 : Int64)) (l5 + (1 : Int32))) (M_X4_addNumber_68 κ l0 (l5 + (1 : Int32)))))))))
set_option maxRecDepth 100000 in
set_option maxHeartbeats 4000000 in
theorem S_X4_addNumber_28B {E : q_Ev} {Γ : q_Gm} {w : (Unit ⊕ q_Exn) × q_St} (B : q_Bd E Γ cX4_addNumber yX4_addNumber.cls 7 1 21 (none) yX4_addNumber.name w) (hT : q_nT Γ) (r28 : Option Nat → Int64 → Int32 → q_X Unit) (hr28 : ∀ (l0 : Option Nat) (l3 : Int64) (l5 : Int32) (σ : q_St), r28 l0 l3 l5 σ = some w → q_W E Γ (q_QF E Γ q_oV w) 7 σ 28 [(0, q_R l0), (3, q_L l3), (5, q_I l5)] []) (mr28 : ∀ (l0 : Option Nat) (l3 : Int64) (l5 : Int32), q_mo (r28 l0 l3 l5)) (l0 : Option Nat) (l3 : Int64) (l5 : Int32) (σ : q_St) (h : F_X4_addNumber_28B (q_kap E) r28 l0 l3 l5 σ = some w) : q_W E Γ (q_QF E Γ q_oV w) 7 σ 28 [(0, q_R l0), (3, q_L l3), (5, q_I l5)] [] := by
  have C := B.1
  unfold F_X4_addNumber_28B at h
  refine q_aload_n (pc := 28) C 0 rfl dX4_addNumber_28 rfl ?_
  refine q_getA (pc := 29) C dX4_addNumber_29 ql_X4_15 h (fun v29 h => ?_)
  refine q_iload (pc := 32) C 2 rfl dX4_addNumber_32 ?_
  refine q_ldc2 (pc := 34) (v := (48 : Int64)) C dX4_addNumber_34 qc_X4_55 ?_
  refine q_lload_n (pc := 37) C 1 rfl dX4_addNumber_37 rfl ?_
  refine q_ldc2 (pc := 38) (v := (10 : Int64)) C dX4_addNumber_38 qc_X4_57 ?_
  obtain ⟨g41, h⟩ := q_gd_e h
  refine q_lrem (pc := 41) C dX4_addNumber_41 g41 ?_
  refine q_ladd (pc := 42) C dX4_addNumber_42 ?_
  refine q_l2i (pc := 43) C dX4_addNumber_43 ?_
  refine q_i2b (pc := 44) C dX4_addNumber_44 ?_
  refine q_stB (pc := 45) C dX4_addNumber_45 h (fun M45 h => ?_)
  refine q_lload_n (pc := 46) C 1 rfl dX4_addNumber_46 rfl ?_
  refine q_ldc2 (pc := 47) (v := (10 : Int64)) C dX4_addNumber_47 qc_X4_57 ?_
  obtain ⟨g50, h⟩ := q_gd_e h
  refine q_ldiv (pc := 50) C dX4_addNumber_50 g50 ?_
  refine q_lstore_n (pc := 51) (l' := [(3, q_L (l3 / (10 : Int64))), (0, q_R l0), (5, q_I l5)]) C dX4_addNumber_51 rfl (by decide) rfl ?_
  refine q_iinc (pc := 52) (v := (1 : Int32)) (l' := [(5, q_I (l5 + (1 : Int32))), (3, q_L (l3 / (10 : Int64))), (0, q_R l0)]) C 2 rfl dX4_addNumber_52 (by decide) (by decide) rfl ?_
  refine q_lload_n (pc := 55) C 1 rfl dX4_addNumber_55 rfl ?_
  refine q_lconst (pc := 56) (v := (0 : Int64)) C dX4_addNumber_56 (by decide) ?_
  refine q_lcmp (pc := 57) C dX4_addNumber_57 ?_
  refine q_if_le (pc := 58) (tgt := 68) C dX4_addNumber_58 (by decide) h (fun _ h => ?_) (fun _ h => ?_)
  · refine q_W.sub [2, 0] rfl ?_
    exact S_X4_addNumber_68 B hT l0 (l5 + (1 : Int32)) _ h
  · refine q_iload (pc := 61) C 0 rfl dX4_addNumber_61 ?_
    refine q_bipush (pc := 63) (v := (20 : Int32)) C dX4_addNumber_63 (by decide) ?_
    refine q_icmp_lt (pc := 65) (tgt := 28) C dX4_addNumber_65 (by decide) h (fun _ h => ?_) (fun _ h => ?_)
    · refine q_W.sub [2, 1, 0] rfl ?_
      exact hr28 l0 (l3 / (10 : Int64)) (l5 + (1 : Int32)) _ h
    · refine q_W.sub [2, 0] rfl ?_
      exact S_X4_addNumber_68 B hT l0 (l5 + (1 : Int32)) _ h
def F_X4_addNumber_28 (κ : Nat → Nat) : Nat → Option Nat → Int64 → Int32 → q_X Unit
  | 0, _, _, _ => q_no
  | n + 1, l0, l3, l5 => F_X4_addNumber_28B κ (F_X4_addNumber_28 κ n) l0 l3 l5
theorem M_X4_addNumber_28 (κ : Nat → Nat) : ∀ (n : Nat) (l0 : Option Nat) (l3 : Int64) (l5 : Int32), q_mo (F_X4_addNumber_28 κ n l0 l3 l5)
  | 0, _, _, _ => q_mo_no
  | n + 1, l0, l3, l5 => M_X4_addNumber_28B κ (F_X4_addNumber_28 κ n) (M_X4_addNumber_28 κ n) l0 l3 l5
theorem S_X4_addNumber_28 {E : q_Ev} {Γ : q_Gm} {w : (Unit ⊕ q_Exn) × q_St} (B : q_Bd E Γ cX4_addNumber yX4_addNumber.cls 7 1 21 (none) yX4_addNumber.name w) (hT : q_nT Γ) : ∀ (n : Nat) (l0 : Option Nat) (l3 : Int64) (l5 : Int32) (σ : q_St), F_X4_addNumber_28 (q_kap E) n l0 l3 l5 σ = some w → q_W E Γ (q_QF E Γ q_oV w) 7 σ 28 [(0, q_R l0), (3, q_L l3), (5, q_I l5)] []
  | 0, _, _, _, _, h => by cases h
  | n + 1, l0, l3, l5, σ, h => S_X4_addNumber_28B B hT (F_X4_addNumber_28 (q_kap E) n) (S_X4_addNumber_28 B hT n) (M_X4_addNumber_28 (q_kap E) n) l0 l3 l5 σ h
def F_X4_addNumber_24 (κ : Nat → Nat) (l0 : Option Nat) (s0 : Int64) : q_X Unit :=
  F_X4_addNumber_28 κ q_fu l0 s0 (0 : Int32)
theorem M_X4_addNumber_24 (κ : Nat → Nat) (l0 : Option Nat) (s0 : Int64) : q_mo (F_X4_addNumber_24 κ l0 s0) := (M_X4_addNumber_28 κ q_fu l0 s0 (0 : Int32))
set_option maxRecDepth 100000 in
set_option maxHeartbeats 4000000 in
theorem S_X4_addNumber_24 {E : q_Ev} {Γ : q_Gm} {w : (Unit ⊕ q_Exn) × q_St} (B : q_Bd E Γ cX4_addNumber yX4_addNumber.cls 7 1 21 (none) yX4_addNumber.name w) (hT : q_nT Γ) (l0 : Option Nat) (s0 : Int64) (σ : q_St) (h : F_X4_addNumber_24 (q_kap E) l0 s0 σ = some w) : q_W E Γ (q_QF E Γ q_oV w) 7 σ 24 [(0, q_R l0)] [q_L s0] := by
  have C := B.1
  unfold F_X4_addNumber_24 at h
  refine q_lstore_n (pc := 24) (l' := [(3, q_L s0), (0, q_R l0)]) C dX4_addNumber_24 rfl (by decide) rfl ?_
  refine q_iconst (pc := 25) (v := (0 : Int32)) C dX4_addNumber_25 (by decide) ?_
  refine q_istore (pc := 26) (l' := [(5, q_I (0 : Int32)), (3, q_L s0), (0, q_R l0)]) C dX4_addNumber_26 (by decide) rfl ?_
  refine q_W.sub [2, 1, 0] rfl ?_
  exact S_X4_addNumber_28 B hT q_fu l0 s0 (0 : Int32) _ h
def F_X4_addNumber_12 (κ : Nat → Nat) (l0 : Option Nat) (l1 : Int64) : q_X Unit :=
  q_br (0 ≤ (lg_cmp l1 (0 : Int64))) (F_X4_addNumber_24 κ l0 l1) (F_X4_addNumber_24 κ l0 (-l1))
theorem M_X4_addNumber_12 (κ : Nat → Nat) (l0 : Option Nat) (l1 : Int64) : q_mo (F_X4_addNumber_12 κ l0 l1) := (q_mo_br (M_X4_addNumber_24 κ l0 l1) (M_X4_addNumber_24 κ l0 (-l1)))
set_option maxRecDepth 100000 in
set_option maxHeartbeats 4000000 in
theorem S_X4_addNumber_12 {E : q_Ev} {Γ : q_Gm} {w : (Unit ⊕ q_Exn) × q_St} (B : q_Bd E Γ cX4_addNumber yX4_addNumber.cls 7 1 21 (none) yX4_addNumber.name w) (hT : q_nT Γ) (l0 : Option Nat) (l1 : Int64) (σ : q_St) (h : F_X4_addNumber_12 (q_kap E) l0 l1 σ = some w) : q_W E Γ (q_QF E Γ q_oV w) 7 σ 12 [(0, q_R l0), (1, q_L l1)] [] := by
  have C := B.1
  unfold F_X4_addNumber_12 at h
  refine q_lload_n (pc := 12) C 1 rfl dX4_addNumber_12 rfl ?_
  refine q_lconst (pc := 13) (v := (0 : Int64)) C dX4_addNumber_13 (by decide) ?_
  refine q_lcmp (pc := 14) C dX4_addNumber_14 ?_
  refine q_if_ge (pc := 15) (tgt := 23) C dX4_addNumber_15 (by decide) h (fun _ h => ?_) (fun _ h => ?_)
  · refine q_lload_n (pc := 23) C 1 rfl dX4_addNumber_23 rfl ?_
    refine q_W.sub [0] rfl ?_
    exact S_X4_addNumber_24 B hT l0 l1 _ h
  · refine q_lload_n (pc := 18) C 1 rfl dX4_addNumber_18 rfl ?_
    refine q_lneg (pc := 19) C dX4_addNumber_19 ?_
    refine q_goto (pc := 20) (tgt := 24) C dX4_addNumber_20 (by decide) ?_
    refine q_W.sub [0] rfl ?_
    exact S_X4_addNumber_24 B hT l0 (-l1) _ h
def F_X4_addNumber (κ : Nat → Nat) (l0 : Option Nat) (l1 : Int64) : q_X Unit :=
  q_br (0 ≤ (lg_cmp l1 (0 : Int64))) (F_X4_addNumber_12 κ l0 l1) (q_rd (q_is l0 7) fun _ => q_ca (F_X4_addByte κ l0 (45 : Int32)) fun _v9 => F_X4_addNumber_12 κ l0 l1)
theorem M_X4_addNumber (κ : Nat → Nat) (l0 : Option Nat) (l1 : Int64) : q_mo (F_X4_addNumber κ l0 l1) := (q_mo_br (M_X4_addNumber_12 κ l0 l1) (q_mo_rd fun _ => q_mo_ca (M_X4_addByte κ l0 (45 : Int32)) fun _v9 => (M_X4_addNumber_12 κ l0 l1)))
set_option maxRecDepth 100000 in
set_option maxHeartbeats 4000000 in
theorem K_X4_addNumber {E : q_Ev} (l0 : Option Nat) (l1 : Int64) : q_Ct E yX4_addNumber (.code yX4_addNumber cX4_addNumber 7 (none)) 1 21 [q_R l0, q_L l1] q_oV (F_X4_addNumber (q_kap E) l0 l1) := by
  refine q_enter (by decide) (Nat.le_of_ble_eq_true rfl) (fun Γ σ w h B hT => ?_)
  have C := B.1
  unfold F_X4_addNumber at h
  refine q_lload_n (pc := 0) C 1 rfl dX4_addNumber_0 rfl ?_
  refine q_lconst (pc := 1) (v := (0 : Int64)) C dX4_addNumber_1 (by decide) ?_
  refine q_lcmp (pc := 2) C dX4_addNumber_2 ?_
  refine q_if_ge (pc := 3) (tgt := 12) C dX4_addNumber_3 (by decide) h (fun _ h => ?_) (fun _ h => ?_)
  · exact S_X4_addNumber_12 B hT l0 l1 _ h
  · refine q_aload_n (pc := 6) C 0 rfl dX4_addNumber_6 rfl ?_
    refine q_bipush (pc := 7) (v := (45 : Int32)) C dX4_addNumber_7 (by decide) ?_
    refine q_callV (pc := 9) (As := [q_I (45 : Int32)]) (st := []) (ps := q_psV) C B.2.1 hT q_hpV qm_X4_46 qv_X4_addByte dX4_addNumber_9 rfl rfl (Nat.le_of_ble_eq_true rfl) (q_flo B.2.2.1 B.2.2.2.1 (by decide) (by decide)) (K_X4_addByte l0 (45 : Int32)) (M_X4_addByte (q_kap E) l0 (45 : Int32)) (by exact fun _v9 => (M_X4_addNumber_12 (q_kap E) l0 l1)) h (fun _v9 σ h => ?_)
    refine q_W.st (st' := []) rfl ?_
    exact S_X4_addNumber_12 B hT l0 l1 _ h
def F_X4_eightFrom_42 (κ : Nat → Nat) (r5 : Option Nat → Int32 → Int64 → Int32 → q_X Int64) (l0 : Option Nat) (l1 : Int32) (l4 : Int32) (s0 : Int64) (s1 : Int32) : q_X Int64 :=
  r5 l0 l1 (s0 ||| s1.toInt64) (l4 + (1 : Int32))
theorem M_X4_eightFrom_42 (κ : Nat → Nat) (r5 : Option Nat → Int32 → Int64 → Int32 → q_X Int64) (mr5 : ∀ (l0 : Option Nat) (l1 : Int32) (l2 : Int64) (l4 : Int32), q_mo (r5 l0 l1 l2 l4)) (l0 : Option Nat) (l1 : Int32) (l4 : Int32) (s0 : Int64) (s1 : Int32) : q_mo (F_X4_eightFrom_42 κ r5 l0 l1 l4 s0 s1) := (mr5 l0 l1 (s0 ||| s1.toInt64) (l4 + (1 : Int32)))
set_option maxRecDepth 100000 in
set_option maxHeartbeats 4000000 in
theorem S_X4_eightFrom_42 {E : q_Ev} {Γ : q_Gm} {w : (Int64 ⊕ q_Exn) × q_St} (B : q_Bd E Γ cX4_eightFrom yX4_eightFrom.cls 5 0 0 (some .long) yX4_eightFrom.name w) (hT : q_nT Γ) (r5 : Option Nat → Int32 → Int64 → Int32 → q_X Int64) (hr5 : ∀ (l0 : Option Nat) (l1 : Int32) (l2 : Int64) (l4 : Int32) (σ : q_St), r5 l0 l1 l2 l4 σ = some w → q_W E Γ (q_QF E Γ q_oL w) 5 σ 5 [(0, q_R l0), (1, q_I l1), (2, q_L l2), (4, q_I l4)] []) (mr5 : ∀ (l0 : Option Nat) (l1 : Int32) (l2 : Int64) (l4 : Int32), q_mo (r5 l0 l1 l2 l4)) (l0 : Option Nat) (l1 : Int32) (l4 : Int32) (s0 : Int64) (s1 : Int32) (σ : q_St) (h : F_X4_eightFrom_42 (q_kap E) r5 l0 l1 l4 s0 s1 σ = some w) : q_W E Γ (q_QF E Γ q_oL w) 5 σ 42 [(0, q_R l0), (1, q_I l1), (4, q_I l4)] [q_I s1, q_L s0] := by
  have C := B.1
  unfold F_X4_eightFrom_42 at h
  refine q_i2l (pc := 42) C dX4_eightFrom_42 ?_
  refine q_lor (pc := 43) C dX4_eightFrom_43 ?_
  refine q_lstore_n (pc := 44) (l' := [(2, q_L (s0 ||| s1.toInt64)), (0, q_R l0), (1, q_I l1), (4, q_I l4)]) C dX4_eightFrom_44 rfl (by decide) rfl ?_
  refine q_iinc (pc := 45) (v := (1 : Int32)) (l' := [(4, q_I (l4 + (1 : Int32))), (2, q_L (s0 ||| s1.toInt64)), (0, q_R l0), (1, q_I l1)]) C 3 rfl dX4_eightFrom_45 (by decide) (by decide) rfl ?_
  refine q_goto (pc := 48) (tgt := 5) C dX4_eightFrom_48 (by decide) ?_
  refine q_W.sub [2, 3, 1, 0] rfl ?_
  exact hr5 l0 l1 (s0 ||| s1.toInt64) (l4 + (1 : Int32)) _ h
def F_X4_eightFrom_5B (κ : Nat → Nat) (r5 : Option Nat → Int32 → Int64 → Int32 → q_X Int64) (l0 : Option Nat) (l1 : Int32) (l2 : Int64) (l4 : Int32) : q_X Int64 :=
  q_br ((l1 + (8 : Int32)) ≤ l4) (q_rt l2) (q_rd (q_gI l0 7 5) fun v21 => q_br (v21 ≤ l4) (F_X4_eightFrom_42 κ r5 l0 l1 l4 (l2 <<< ((8 : Int32).toInt64 &&& 63)) (0 : Int32)) (q_rd (q_gA l0 7 4) fun v28 => q_rd (q_lI 0 v28 l4) fun v33 => F_X4_eightFrom_42 κ r5 l0 l1 l4 (l2 <<< ((8 : Int32).toInt64 &&& 63)) (v33 &&& (255 : Int32))))
theorem M_X4_eightFrom_5B (κ : Nat → Nat) (r5 : Option Nat → Int32 → Int64 → Int32 → q_X Int64) (mr5 : ∀ (l0 : Option Nat) (l1 : Int32) (l2 : Int64) (l4 : Int32), q_mo (r5 l0 l1 l2 l4)) (l0 : Option Nat) (l1 : Int32) (l2 : Int64) (l4 : Int32) : q_mo (F_X4_eightFrom_5B κ r5 l0 l1 l2 l4) := (q_mo_br q_mo_rt (q_mo_rd fun v21 => (q_mo_br (M_X4_eightFrom_42 κ r5 mr5 l0 l1 l4 (l2 <<< ((8 : Int32).toInt64 &&& 63)) (0 : Int32)) (q_mo_rd fun v28 => (q_mo_rd fun v33 => (M_X4_eightFrom_42 κ r5 mr5 l0 l1 l4 (l2 <<< ((8 : Int32).toInt64 &&& 63)) (v33 &&& (255 : Int32))))))))
set_option maxRecDepth 100000 in
set_option maxHeartbeats 4000000 in
theorem S_X4_eightFrom_5B {E : q_Ev} {Γ : q_Gm} {w : (Int64 ⊕ q_Exn) × q_St} (B : q_Bd E Γ cX4_eightFrom yX4_eightFrom.cls 5 0 0 (some .long) yX4_eightFrom.name w) (hT : q_nT Γ) (r5 : Option Nat → Int32 → Int64 → Int32 → q_X Int64) (hr5 : ∀ (l0 : Option Nat) (l1 : Int32) (l2 : Int64) (l4 : Int32) (σ : q_St), r5 l0 l1 l2 l4 σ = some w → q_W E Γ (q_QF E Γ q_oL w) 5 σ 5 [(0, q_R l0), (1, q_I l1), (2, q_L l2), (4, q_I l4)] []) (mr5 : ∀ (l0 : Option Nat) (l1 : Int32) (l2 : Int64) (l4 : Int32), q_mo (r5 l0 l1 l2 l4)) (l0 : Option Nat) (l1 : Int32) (l2 : Int64) (l4 : Int32) (σ : q_St) (h : F_X4_eightFrom_5B (q_kap E) r5 l0 l1 l2 l4 σ = some w) : q_W E Γ (q_QF E Γ q_oL w) 5 σ 5 [(0, q_R l0), (1, q_I l1), (2, q_L l2), (4, q_I l4)] [] := by
  have C := B.1
  unfold F_X4_eightFrom_5B at h
  refine q_iload (pc := 5) C 3 rfl dX4_eightFrom_5 ?_
  refine q_iload_n (pc := 7) C 1 rfl dX4_eightFrom_7 rfl ?_
  refine q_bipush (pc := 8) (v := (8 : Int32)) C dX4_eightFrom_8 (by decide) ?_
  refine q_iadd (pc := 10) C dX4_eightFrom_10 ?_
  refine q_icmp_ge (pc := 11) (tgt := 51) C dX4_eightFrom_11 (by decide) h (fun _ h => ?_) (fun _ h => ?_)
  · refine q_lload_n (pc := 51) C 2 rfl dX4_eightFrom_51 rfl ?_
    exact q_lret C B.2.2.2.2.1 dX4_eightFrom_52 h
  · refine q_lload_n (pc := 14) C 2 rfl dX4_eightFrom_14 rfl ?_
    refine q_bipush (pc := 15) (v := (8 : Int32)) C dX4_eightFrom_15 (by decide) ?_
    refine q_lshl (pc := 17) C dX4_eightFrom_17 ?_
    refine q_iload (pc := 18) C 3 rfl dX4_eightFrom_18 ?_
    refine q_aload_n (pc := 20) C 0 rfl dX4_eightFrom_20 rfl ?_
    refine q_getI (pc := 21) C dX4_eightFrom_21 ql_X4_34 h (fun v21 h => ?_)
    refine q_icmp_ge (pc := 24) (tgt := 41) C dX4_eightFrom_24 (by decide) h (fun _ h => ?_) (fun _ h => ?_)
    · refine q_iconst (pc := 41) (v := (0 : Int32)) C dX4_eightFrom_41 (by decide) ?_
      refine q_W.sub [0, 1, 3] rfl ?_
      exact S_X4_eightFrom_42 B hT r5 hr5 mr5 l0 l1 l4 (l2 <<< ((8 : Int32).toInt64 &&& 63)) (0 : Int32) _ h
    · refine q_aload_n (pc := 27) C 0 rfl dX4_eightFrom_27 rfl ?_
      refine q_getA (pc := 28) C dX4_eightFrom_28 ql_X4_19 h (fun v28 h => ?_)
      refine q_iload (pc := 31) C 3 rfl dX4_eightFrom_31 ?_
      refine q_ldI (pc := 33) C dX4_eightFrom_33 (Or.inl ⟨rfl, rfl⟩) h (fun v33 h => ?_)
      refine q_sipush (pc := 34) (v := (255 : Int32)) C dX4_eightFrom_34 (by decide) ?_
      refine q_iand (pc := 37) C dX4_eightFrom_37 ?_
      refine q_goto (pc := 38) (tgt := 42) C dX4_eightFrom_38 (by decide) ?_
      refine q_W.sub [0, 1, 3] rfl ?_
      exact S_X4_eightFrom_42 B hT r5 hr5 mr5 l0 l1 l4 (l2 <<< ((8 : Int32).toInt64 &&& 63)) (v33 &&& (255 : Int32)) _ h
def F_X4_eightFrom_5 (κ : Nat → Nat) : Nat → Option Nat → Int32 → Int64 → Int32 → q_X Int64
  | 0, _, _, _, _ => q_no
  | n + 1, l0, l1, l2, l4 => F_X4_eightFrom_5B κ (F_X4_eightFrom_5 κ n) l0 l1 l2 l4
theorem M_X4_eightFrom_5 (κ : Nat → Nat) : ∀ (n : Nat) (l0 : Option Nat) (l1 : Int32) (l2 : Int64) (l4 : Int32), q_mo (F_X4_eightFrom_5 κ n l0 l1 l2 l4)
  | 0, _, _, _, _ => q_mo_no
  | n + 1, l0, l1, l2, l4 => M_X4_eightFrom_5B κ (F_X4_eightFrom_5 κ n) (M_X4_eightFrom_5 κ n) l0 l1 l2 l4
theorem S_X4_eightFrom_5 {E : q_Ev} {Γ : q_Gm} {w : (Int64 ⊕ q_Exn) × q_St} (B : q_Bd E Γ cX4_eightFrom yX4_eightFrom.cls 5 0 0 (some .long) yX4_eightFrom.name w) (hT : q_nT Γ) : ∀ (n : Nat) (l0 : Option Nat) (l1 : Int32) (l2 : Int64) (l4 : Int32) (σ : q_St), F_X4_eightFrom_5 (q_kap E) n l0 l1 l2 l4 σ = some w → q_W E Γ (q_QF E Γ q_oL w) 5 σ 5 [(0, q_R l0), (1, q_I l1), (2, q_L l2), (4, q_I l4)] []
  | 0, _, _, _, _, _, h => by cases h
  | n + 1, l0, l1, l2, l4, σ, h => S_X4_eightFrom_5B B hT (F_X4_eightFrom_5 (q_kap E) n) (S_X4_eightFrom_5 B hT n) (M_X4_eightFrom_5 (q_kap E) n) l0 l1 l2 l4 σ h
def F_X4_eightFrom (κ : Nat → Nat) (l0 : Option Nat) (l1 : Int32) : q_X Int64 :=
  F_X4_eightFrom_5 κ q_fu l0 l1 (0 : Int64) l1
theorem M_X4_eightFrom (κ : Nat → Nat) (l0 : Option Nat) (l1 : Int32) : q_mo (F_X4_eightFrom κ l0 l1) := (M_X4_eightFrom_5 κ q_fu l0 l1 (0 : Int64) l1)
set_option maxRecDepth 100000 in
set_option maxHeartbeats 4000000 in
theorem K_X4_eightFrom {E : q_Ev} (l0 : Option Nat) (l1 : Int32) : q_Ct E yX4_eightFrom (.code yX4_eightFrom cX4_eightFrom 5 (some .long)) 0 0 [q_R l0, q_I l1] q_oL (F_X4_eightFrom (q_kap E) l0 l1) := by
  refine q_enter (by decide) (Nat.le_of_ble_eq_true rfl) (fun Γ σ w h B hT => ?_)
  have C := B.1
  unfold F_X4_eightFrom at h
  refine q_lconst (pc := 0) (v := (0 : Int64)) C dX4_eightFrom_0 (by decide) ?_
  refine q_lstore_n (pc := 1) (l' := [(2, q_L (0 : Int64)), (0, q_R l0), (1, q_I l1)]) C dX4_eightFrom_1 rfl (by decide) rfl ?_
  refine q_iload_n (pc := 2) C 2 rfl dX4_eightFrom_2 rfl ?_
  refine q_istore (pc := 3) (l' := [(4, q_I l1), (2, q_L (0 : Int64)), (0, q_R l0), (1, q_I l1)]) C dX4_eightFrom_3 (by decide) rfl ?_
  refine q_W.sub [2, 3, 1, 0] rfl ?_
  exact S_X4_eightFrom_5 B hT q_fu l0 l1 (0 : Int64) l1 _ h
def F_X4_addOperand_61 (κ : Nat → Nat) (s0 : Option Nat) (s1 : Int64) : q_X Unit :=
  q_rd (q_is s0 7) fun _ => q_ca (F_X4_addNumber κ s0 s1) fun _v61 => q_rt ()
theorem M_X4_addOperand_61 (κ : Nat → Nat) (s0 : Option Nat) (s1 : Int64) : q_mo (F_X4_addOperand_61 κ s0 s1) := (q_mo_rd fun _ => q_mo_ca (M_X4_addNumber κ s0 s1) fun _v61 => q_mo_rt)
set_option maxRecDepth 100000 in
set_option maxHeartbeats 4000000 in
theorem S_X4_addOperand_61 {E : q_Ev} {Γ : q_Gm} {w : (Unit ⊕ q_Exn) × q_St} (B : q_Bd E Γ cX4_addOperand yX4_addOperand.cls 5 2 47 (none) yX4_addOperand.name w) (hT : q_nT Γ) (s0 : Option Nat) (s1 : Int64) (σ : q_St) (h : F_X4_addOperand_61 (q_kap E) s0 s1 σ = some w) : q_W E Γ (q_QF E Γ q_oV w) 5 σ 61 [] [q_L s1, q_R s0] := by
  have C := B.1
  unfold F_X4_addOperand_61 at h
  refine q_callV (pc := 61) (As := [q_L s1]) (st := []) (ps := q_psV) C B.2.1 hT q_hpV qm_X4_74 qv_X4_addNumber dX4_addOperand_61 rfl rfl (Nat.le_of_ble_eq_true rfl) (q_flo B.2.2.1 B.2.2.2.1 (by decide) (by decide)) (K_X4_addNumber s0 s1) (M_X4_addNumber (q_kap E) s0 s1) (by exact fun _v61 => q_mo_rt) h (fun _v61 σ h => ?_)
  refine q_W.st (st' := []) rfl ?_
  exact q_vret C B.2.2.2.2.1 dX4_addOperand_64 h
def F_X4_addOperand_35 (κ : Nat → Nat) (l0 : Option Nat) (l1 : Option Nat) (l2 : Int64) (l4 : Int32) : q_X Unit :=
  q_rd (q_gI l1 5 0) fun v37 => q_br (¬ v37 = (3 : Int32)) (q_rd (q_is l1 5) fun _ => q_ca (F_X2_valueOf κ l1 l2) fun v58 => F_X4_addOperand_61 κ l0 v58) (q_rd (q_is l1 5) fun _ => q_ca (F_X2_valueOf κ l1 l2) fun v49 => F_X4_addOperand_61 κ l0 (l4.toInt64 + v49))
theorem M_X4_addOperand_35 (κ : Nat → Nat) (l0 : Option Nat) (l1 : Option Nat) (l2 : Int64) (l4 : Int32) : q_mo (F_X4_addOperand_35 κ l0 l1 l2 l4) := (q_mo_rd fun v37 => (q_mo_br (q_mo_rd fun _ => q_mo_ca (M_X2_valueOf κ l1 l2) fun v58 => (M_X4_addOperand_61 κ l0 v58)) (q_mo_rd fun _ => q_mo_ca (M_X2_valueOf κ l1 l2) fun v49 => (M_X4_addOperand_61 κ l0 (l4.toInt64 + v49)))))
set_option maxRecDepth 100000 in
set_option maxHeartbeats 4000000 in
theorem S_X4_addOperand_35 {E : q_Ev} {Γ : q_Gm} {w : (Unit ⊕ q_Exn) × q_St} (B : q_Bd E Γ cX4_addOperand yX4_addOperand.cls 5 2 47 (none) yX4_addOperand.name w) (hT : q_nT Γ) (l0 : Option Nat) (l1 : Option Nat) (l2 : Int64) (l4 : Int32) (σ : q_St) (h : F_X4_addOperand_35 (q_kap E) l0 l1 l2 l4 σ = some w) : q_W E Γ (q_QF E Γ q_oV w) 5 σ 35 [(0, q_R l0), (1, q_R l1), (2, q_L l2), (4, q_I l4)] [] := by
  have C := B.1
  unfold F_X4_addOperand_35 at h
  refine q_aload_n (pc := 35) C 0 rfl dX4_addOperand_35 rfl ?_
  refine q_aload_n (pc := 36) C 1 rfl dX4_addOperand_36 rfl ?_
  refine q_getI (pc := 37) C dX4_addOperand_37 ql_X4_147 h (fun v37 h => ?_)
  refine q_iconst (pc := 40) (v := (3 : Int32)) C dX4_addOperand_40 (by decide) ?_
  refine q_icmp_ne (pc := 41) (tgt := 56) C dX4_addOperand_41 (by decide) h (fun _ h => ?_) (fun _ h => ?_)
  · refine q_aload_n (pc := 56) C 1 rfl dX4_addOperand_56 rfl ?_
    refine q_lload_n (pc := 57) C 2 rfl dX4_addOperand_57 rfl ?_
    refine q_callV (pc := 58) (As := [q_L l2]) (st := [q_R l0]) (ps := q_psL) C B.2.1 hT q_hpL qm_X4_157 qv_X2_valueOf dX4_addOperand_58 rfl rfl (Nat.le_of_ble_eq_true rfl) (q_flo B.2.2.1 B.2.2.2.1 (by decide) (by decide)) (K_X2_valueOf l1 l2) (M_X2_valueOf (q_kap E) l1 l2) (by exact fun v58 => (M_X4_addOperand_61 (q_kap E) l0 v58)) h (fun v58 σ h => ?_)
    refine q_W.st (st' := [q_L v58, q_R l0]) rfl ?_
    refine q_W.sub [] rfl ?_
    exact S_X4_addOperand_61 B hT l0 v58 _ h
  · refine q_iload (pc := 44) C 3 rfl dX4_addOperand_44 ?_
    refine q_i2l (pc := 46) C dX4_addOperand_46 ?_
    refine q_aload_n (pc := 47) C 1 rfl dX4_addOperand_47 rfl ?_
    refine q_lload_n (pc := 48) C 2 rfl dX4_addOperand_48 rfl ?_
    refine q_callV (pc := 49) (As := [q_L l2]) (st := [q_L l4.toInt64, q_R l0]) (ps := q_psL) C B.2.1 hT q_hpL qm_X4_157 qv_X2_valueOf dX4_addOperand_49 rfl rfl (Nat.le_of_ble_eq_true rfl) (q_flo B.2.2.1 B.2.2.2.1 (by decide) (by decide)) (K_X2_valueOf l1 l2) (M_X2_valueOf (q_kap E) l1 l2) (by exact fun v49 => (M_X4_addOperand_61 (q_kap E) l0 (l4.toInt64 + v49))) h (fun v49 σ h => ?_)
    refine q_W.st (st' := [q_L v49, q_L l4.toInt64, q_R l0]) rfl ?_
    refine q_ladd (pc := 52) C dX4_addOperand_52 ?_
    refine q_goto (pc := 53) (tgt := 61) C dX4_addOperand_53 (by decide) ?_
    refine q_W.sub [] rfl ?_
    exact S_X4_addOperand_61 B hT l0 (l4.toInt64 + v49) _ h
def F_X4_addOperand (κ : Nat → Nat) (l0 : Option Nat) (l1 : Option Nat) (l2 : Int64) (l4 : Int32) : q_X Unit :=
  q_rd (q_gI l1 5 0) fun v1 => q_br (¬ v1 = (4 : Int32)) (q_rd (q_gI l1 5 0) fun v21 => q_br (¬ v21 = 0) (F_X4_addOperand_35 κ l0 l1 l2 l4) (q_rd (q_gA l1 5 2) fun v29 => q_rd (q_is l0 7) fun _ => q_ca (F_X4_addName κ l0 v29) fun _v32 => F_X4_addOperand_35 κ l0 l1 l2 l4)) (q_rd (q_gA l1 5 3) fun v10 => q_rd (q_lA 6 v10 l2.toInt32) fun v15 => q_rd (q_is l0 7) fun _ => q_ca (F_X4_addName κ l0 v15) fun _v16 => q_rt ())
theorem M_X4_addOperand (κ : Nat → Nat) (l0 : Option Nat) (l1 : Option Nat) (l2 : Int64) (l4 : Int32) : q_mo (F_X4_addOperand κ l0 l1 l2 l4) := (q_mo_rd fun v1 => (q_mo_br (q_mo_rd fun v21 => (q_mo_br (M_X4_addOperand_35 κ l0 l1 l2 l4) (q_mo_rd fun v29 => (q_mo_rd fun _ => q_mo_ca (M_X4_addName κ l0 v29) fun _v32 => (M_X4_addOperand_35 κ l0 l1 l2 l4))))) (q_mo_rd fun v10 => (q_mo_rd fun v15 => (q_mo_rd fun _ => q_mo_ca (M_X4_addName κ l0 v15) fun _v16 => q_mo_rt)))))
set_option maxRecDepth 100000 in
set_option maxHeartbeats 4000000 in
theorem K_X4_addOperand {E : q_Ev} (l0 : Option Nat) (l1 : Option Nat) (l2 : Int64) (l4 : Int32) : q_Ct E yX4_addOperand (.code yX4_addOperand cX4_addOperand 5 (none)) 2 47 [q_R l0, q_R l1, q_L l2, q_I l4] q_oV (F_X4_addOperand (q_kap E) l0 l1 l2 l4) := by
  refine q_enter (by decide) (Nat.le_of_ble_eq_true rfl) (fun Γ σ w h B hT => ?_)
  have C := B.1
  unfold F_X4_addOperand at h
  refine q_aload_n (pc := 0) C 1 rfl dX4_addOperand_0 rfl ?_
  refine q_getI (pc := 1) C dX4_addOperand_1 ql_X4_147 h (fun v1 h => ?_)
  refine q_iconst (pc := 4) (v := (4 : Int32)) C dX4_addOperand_4 (by decide) ?_
  refine q_icmp_ne (pc := 5) (tgt := 20) C dX4_addOperand_5 (by decide) h (fun _ h => ?_) (fun _ h => ?_)
  · refine q_aload_n (pc := 20) C 1 rfl dX4_addOperand_20 rfl ?_
    refine q_getI (pc := 21) C dX4_addOperand_21 ql_X4_147 h (fun v21 h => ?_)
    refine q_if_ne (pc := 24) (tgt := 35) C dX4_addOperand_24 (by decide) h (fun _ h => ?_) (fun _ h => ?_)
    · exact S_X4_addOperand_35 B hT l0 l1 l2 l4 _ h
    · refine q_aload_n (pc := 27) C 0 rfl dX4_addOperand_27 rfl ?_
      refine q_aload_n (pc := 28) C 1 rfl dX4_addOperand_28 rfl ?_
      refine q_getA (pc := 29) C dX4_addOperand_29 ql_X4_154 h (fun v29 h => ?_)
      refine q_callV (pc := 32) (As := [q_R v29]) (st := []) (ps := q_psV) C B.2.1 hT q_hpV qm_X4_94 qv_X4_addName dX4_addOperand_32 rfl rfl (Nat.le_of_ble_eq_true rfl) (q_flo B.2.2.1 B.2.2.2.1 (by decide) (by decide)) (K_X4_addName l0 v29) (M_X4_addName (q_kap E) l0 v29) (by exact fun _v32 => (M_X4_addOperand_35 (q_kap E) l0 l1 l2 l4)) h (fun _v32 σ h => ?_)
      refine q_W.st (st' := []) rfl ?_
      exact S_X4_addOperand_35 B hT l0 l1 l2 l4 _ h
  · refine q_aload_n (pc := 8) C 0 rfl dX4_addOperand_8 rfl ?_
    refine q_aload_n (pc := 9) C 1 rfl dX4_addOperand_9 rfl ?_
    refine q_getA (pc := 10) C dX4_addOperand_10 ql_X4_150 h (fun v10 h => ?_)
    refine q_lload_n (pc := 13) C 2 rfl dX4_addOperand_13 rfl ?_
    refine q_l2i (pc := 14) C dX4_addOperand_14 ?_
    refine q_ldA (pc := 15) C dX4_addOperand_15 ⟨_, rfl⟩ h (fun v15 h => ?_)
    refine q_callV (pc := 16) (As := [q_R v15]) (st := []) (ps := q_psV) C B.2.1 hT q_hpV qm_X4_94 qv_X4_addName dX4_addOperand_16 rfl rfl (Nat.le_of_ble_eq_true rfl) (q_flo B.2.2.1 B.2.2.2.1 (by decide) (by decide)) (K_X4_addName l0 v15) (M_X4_addName (q_kap E) l0 v15) (by exact fun _v16 => q_mo_rt) h (fun _v16 σ h => ?_)
    refine q_W.st (st' := []) rfl ?_
    exact q_vret C B.2.2.2.2.1 dX4_addOperand_19 h
def F_X4_addPart_46 (κ : Nat → Nat) : q_X Unit :=
  q_rt ()
theorem M_X4_addPart_46 (κ : Nat → Nat) : q_mo (F_X4_addPart_46 κ) := q_mo_rt
theorem N_X4_addPart_46 (κ : Nat → Nat) : q_ni (F_X4_addPart_46 κ) := q_ni_rt
set_option maxRecDepth 100000 in
set_option maxHeartbeats 4000000 in
theorem S_X4_addPart_46 {E : q_Ev} {Γ : q_Gm} {w : (Unit ⊕ q_Exn) × q_St} (B : q_Bd E Γ cX4_addPart yX4_addPart.cls 5 3 71 (none) yX4_addPart.name w) (hT : q_nT Γ) (σ : q_St) (h : F_X4_addPart_46 (q_kap E) σ = some w) : q_W E Γ (q_QF E Γ q_oV w) 5 σ 46 [] [] := by
  have C := B.1
  unfold F_X4_addPart_46 at h
  exact q_vret C B.2.2.2.2.1 dX4_addPart_46 h
def F_X4_addPart (κ : Nat → Nat) (l0 : Option Nat) (l1 : Option Nat) (l2 : Int32) (l3 : Int32) : q_X Unit :=
  q_br (0 ≤ l2) (q_rd (q_is l0 7) fun _ => q_ca (F_X4_addByte κ l0 l2) fun _v31 => q_br (¬ l2 = (44 : Int32)) (F_X4_addPart_46 κ) (q_rd (q_is l0 7) fun _ => q_ca (F_X4_addByte κ l0 (32 : Int32)) fun _v43 => F_X4_addPart_46 κ)) (q_rd (q_gA l1 4 3) fun v11 => q_rd (q_lA 5 v11 ((-1 : Int32) - l2)) fun v16 => q_rd (q_gA l0 7 2) fun v18 => q_rd (q_lL v18 ((-1 : Int32) - l2)) fun v23 => q_rd (q_is l0 7) fun _ => q_ca (F_X4_addOperand κ l0 v16 v23 l3) fun _v25 => q_rt ())
theorem M_X4_addPart (κ : Nat → Nat) (l0 : Option Nat) (l1 : Option Nat) (l2 : Int32) (l3 : Int32) : q_mo (F_X4_addPart κ l0 l1 l2 l3) := (q_mo_br (q_mo_rd fun _ => q_mo_ca (M_X4_addByte κ l0 l2) fun _v31 => (q_mo_br (M_X4_addPart_46 κ) (q_mo_rd fun _ => q_mo_ca (M_X4_addByte κ l0 (32 : Int32)) fun _v43 => (M_X4_addPart_46 κ)))) (q_mo_rd fun v11 => (q_mo_rd fun v16 => (q_mo_rd fun v18 => (q_mo_rd fun v23 => (q_mo_rd fun _ => q_mo_ca (M_X4_addOperand κ l0 v16 v23 l3) fun _v25 => q_mo_rt))))))
set_option maxRecDepth 100000 in
set_option maxHeartbeats 4000000 in
theorem K_X4_addPart {E : q_Ev} (l0 : Option Nat) (l1 : Option Nat) (l2 : Int32) (l3 : Int32) : q_Ct E yX4_addPart (.code yX4_addPart cX4_addPart 5 (none)) 3 71 [q_R l0, q_R l1, q_I l2, q_I l3] q_oV (F_X4_addPart (q_kap E) l0 l1 l2 l3) := by
  refine q_enter (by decide) (Nat.le_of_ble_eq_true rfl) (fun Γ σ w h B hT => ?_)
  have C := B.1
  unfold F_X4_addPart at h
  refine q_iload_n (pc := 0) C 2 rfl dX4_addPart_0 rfl ?_
  refine q_if_ge (pc := 1) (tgt := 29) C dX4_addPart_1 (by decide) h (fun _ h => ?_) (fun _ h => ?_)
  · refine q_aload_n (pc := 29) C 0 rfl dX4_addPart_29 rfl ?_
    refine q_iload_n (pc := 30) C 2 rfl dX4_addPart_30 rfl ?_
    refine q_callV (pc := 31) (As := [q_I l2]) (st := []) (ps := q_psV) C B.2.1 hT q_hpV qm_X4_46 qv_X4_addByte dX4_addPart_31 rfl rfl (Nat.le_of_ble_eq_true rfl) (q_flo B.2.2.1 B.2.2.2.1 (by decide) (by decide)) (K_X4_addByte l0 l2) (M_X4_addByte (q_kap E) l0 l2) (by exact fun _v31 => (q_mo_br (M_X4_addPart_46 (q_kap E)) (q_mo_rd fun _ => q_mo_ca (M_X4_addByte (q_kap E) l0 (32 : Int32)) fun _v43 => (M_X4_addPart_46 (q_kap E))))) h (fun _v31 σ h => ?_)
    refine q_W.st (st' := []) rfl ?_
    refine q_iload_n (pc := 34) C 2 rfl dX4_addPart_34 rfl ?_
    refine q_bipush (pc := 35) (v := (44 : Int32)) C dX4_addPart_35 (by decide) ?_
    refine q_icmp_ne (pc := 37) (tgt := 46) C dX4_addPart_37 (by decide) h (fun _ h => ?_) (fun _ h => ?_)
    · refine q_W.sub [] rfl ?_
      exact S_X4_addPart_46 B hT _ h
    · refine q_aload_n (pc := 40) C 0 rfl dX4_addPart_40 rfl ?_
      refine q_bipush (pc := 41) (v := (32 : Int32)) C dX4_addPart_41 (by decide) ?_
      refine q_callV (pc := 43) (As := [q_I (32 : Int32)]) (st := []) (ps := q_psV) C B.2.1 hT q_hpV qm_X4_46 qv_X4_addByte dX4_addPart_43 rfl rfl (Nat.le_of_ble_eq_true rfl) (q_flo B.2.2.1 B.2.2.2.1 (by decide) (by decide)) (K_X4_addByte l0 (32 : Int32)) (M_X4_addByte (q_kap E) l0 (32 : Int32)) (by exact fun _v43 => (M_X4_addPart_46 (q_kap E))) h (fun _v43 σ h => ?_)
      refine q_W.st (st' := []) rfl ?_
      refine q_W.sub [] rfl ?_
      exact S_X4_addPart_46 B hT _ h
  · refine q_iconst (pc := 4) (v := (-1 : Int32)) C dX4_addPart_4 (by decide) ?_
    refine q_iload_n (pc := 5) C 2 rfl dX4_addPart_5 rfl ?_
    refine q_isub (pc := 6) C dX4_addPart_6 ?_
    refine q_istore (pc := 7) (l' := [(4, q_I ((-1 : Int32) - l2)), (0, q_R l0), (1, q_R l1), (2, q_I l2), (3, q_I l3)]) C dX4_addPart_7 (by decide) rfl ?_
    refine q_aload_n (pc := 9) C 1 rfl dX4_addPart_9 rfl ?_
    refine q_aload_n (pc := 10) C 2 rfl dX4_addPart_10 rfl ?_
    refine q_getA (pc := 11) C dX4_addPart_11 ql_X4_134 h (fun v11 h => ?_)
    refine q_iload (pc := 14) C 0 rfl dX4_addPart_14 ?_
    refine q_ldA (pc := 16) C dX4_addPart_16 ⟨_, rfl⟩ h (fun v16 h => ?_)
    refine q_aload_n (pc := 17) C 1 rfl dX4_addPart_17 rfl ?_
    refine q_getA (pc := 18) C dX4_addPart_18 ql_X4_9 h (fun v18 h => ?_)
    refine q_iload (pc := 21) C 0 rfl dX4_addPart_21 ?_
    refine q_ldL (pc := 23) C dX4_addPart_23 h (fun v23 h => ?_)
    refine q_iload_n (pc := 24) C 4 rfl dX4_addPart_24 rfl ?_
    refine q_callV (pc := 25) (As := [q_R v16, q_L v23, q_I l3]) (st := []) (ps := q_psV) C B.2.1 hT q_hpV qm_X4_143 qv_X4_addOperand dX4_addPart_25 rfl rfl (Nat.le_of_ble_eq_true rfl) (q_flo B.2.2.1 B.2.2.2.1 (by decide) (by decide)) (K_X4_addOperand l0 v16 v23 l3) (M_X4_addOperand (q_kap E) l0 v16 v23 l3) (by exact fun _v25 => q_mo_rt) h (fun _v25 σ h => ?_)
    refine q_W.st (st' := []) rfl ?_
    exact q_vret C B.2.2.2.2.1 dX4_addPart_28 h
def F_X6_has_25 (κ : Nat → Nat) (s0 : Int32) : q_X Int32 :=
  q_rz s0
theorem M_X6_has_25 (κ : Nat → Nat) (s0 : Int32) : q_mo (F_X6_has_25 κ s0) := q_mo_rz
set_option maxRecDepth 100000 in
set_option maxHeartbeats 4000000 in
theorem S_X6_has_25 {E : q_Ev} {Γ : q_Gm} {w : (Int32 ⊕ q_Exn) × q_St} (B : q_Bd E Γ cX6_has yX6_has.cls 2 0 0 (some .boolean) yX6_has.name w) (hT : q_nT Γ) (s0 : Int32) (σ : q_St) (h : F_X6_has_25 (q_kap E) s0 σ = some w) : q_W E Γ (q_QF E Γ q_oI w) 2 σ 25 [] [q_I s0] := by
  have C := B.1
  unfold F_X6_has_25 at h
  exact q_zret C B.2.2.2.2.1 dX6_has_25 h
def F_X6_has_24 (κ : Nat → Nat) : q_X Int32 :=
  F_X6_has_25 κ (0 : Int32)
theorem M_X6_has_24 (κ : Nat → Nat) : q_mo (F_X6_has_24 κ) := (M_X6_has_25 κ (0 : Int32))
set_option maxRecDepth 100000 in
set_option maxHeartbeats 4000000 in
theorem S_X6_has_24 {E : q_Ev} {Γ : q_Gm} {w : (Int32 ⊕ q_Exn) × q_St} (B : q_Bd E Γ cX6_has yX6_has.cls 2 0 0 (some .boolean) yX6_has.name w) (hT : q_nT Γ) (σ : q_St) (h : F_X6_has_24 (q_kap E) σ = some w) : q_W E Γ (q_QF E Γ q_oI w) 2 σ 24 [] [] := by
  have C := B.1
  unfold F_X6_has_24 at h
  refine q_iconst (pc := 24) (v := (0 : Int32)) C dX6_has_24 (by decide) ?_
  exact S_X6_has_25 B hT (0 : Int32) _ h
def F_X6_has (κ : Nat → Nat) (l0 : Option Nat) (l1 : Int32) : q_X Int32 :=
  q_br (l1 < 0) (F_X6_has_24 κ) (q_br ((4096 : Int32) ≤ l1) (F_X6_has_24 κ) (q_rd (q_gA l0 9 1) fun v12 => q_rd (q_lI 3 v12 l1) fun v16 => q_br (v16 = 0) (F_X6_has_24 κ) (F_X6_has_25 κ (1 : Int32))))
theorem M_X6_has (κ : Nat → Nat) (l0 : Option Nat) (l1 : Int32) : q_mo (F_X6_has κ l0 l1) := (q_mo_br (M_X6_has_24 κ) (q_mo_br (M_X6_has_24 κ) (q_mo_rd fun v12 => (q_mo_rd fun v16 => (q_mo_br (M_X6_has_24 κ) (M_X6_has_25 κ (1 : Int32)))))))
set_option maxRecDepth 100000 in
set_option maxHeartbeats 4000000 in
theorem K_X6_has {E : q_Ev} (l0 : Option Nat) (l1 : Int32) : q_Ct E yX6_has (.code yX6_has cX6_has 2 (some .boolean)) 0 0 [q_R l0, q_I l1] q_oI (F_X6_has (q_kap E) l0 l1) := by
  refine q_enter (by decide) (Nat.le_of_ble_eq_true rfl) (fun Γ σ w h B hT => ?_)
  have C := B.1
  unfold F_X6_has at h
  refine q_iload_n (pc := 0) C 1 rfl dX6_has_0 rfl ?_
  refine q_if_lt (pc := 1) (tgt := 24) C dX6_has_1 (by decide) h (fun _ h => ?_) (fun _ h => ?_)
  · refine q_W.sub [] rfl ?_
    exact S_X6_has_24 B hT _ h
  · refine q_iload_n (pc := 4) C 1 rfl dX6_has_4 rfl ?_
    refine q_sipush (pc := 5) (v := (4096 : Int32)) C dX6_has_5 (by decide) ?_
    refine q_icmp_ge (pc := 8) (tgt := 24) C dX6_has_8 (by decide) h (fun _ h => ?_) (fun _ h => ?_)
    · refine q_W.sub [] rfl ?_
      exact S_X6_has_24 B hT _ h
    · refine q_aload_n (pc := 11) C 0 rfl dX6_has_11 rfl ?_
      refine q_getA (pc := 12) C dX6_has_12 ql_X6_15 h (fun v12 h => ?_)
      refine q_iload_n (pc := 15) C 1 rfl dX6_has_15 rfl ?_
      refine q_ldI (pc := 16) C dX6_has_16 (Or.inr (Or.inr ⟨rfl, rfl⟩)) h (fun v16 h => ?_)
      refine q_if_eq (pc := 17) (tgt := 24) C dX6_has_17 (by decide) h (fun _ h => ?_) (fun _ h => ?_)
      · refine q_W.sub [] rfl ?_
        exact S_X6_has_24 B hT _ h
      · refine q_iconst (pc := 20) (v := (1 : Int32)) C dX6_has_20 (by decide) ?_
        refine q_goto (pc := 21) (tgt := 25) C dX6_has_21 (by decide) ?_
        refine q_W.sub [] rfl ?_
        exact S_X6_has_25 B hT (1 : Int32) _ h
def F_X4_standsAt_51 (κ : Nat → Nat) : q_X Int32 :=
  q_rz (0 : Int32)
theorem M_X4_standsAt_51 (κ : Nat → Nat) : q_mo (F_X4_standsAt_51 κ) := q_mo_rz
set_option maxRecDepth 100000 in
set_option maxHeartbeats 4000000 in
theorem S_X4_standsAt_51 {E : q_Ev} {Γ : q_Gm} {w : (Int32 ⊕ q_Exn) × q_St} (B : q_Bd E Γ cX4_standsAt yX4_standsAt.cls 4 2 51 (some .boolean) yX4_standsAt.name w) (hT : q_nT Γ) (σ : q_St) (h : F_X4_standsAt_51 (q_kap E) σ = some w) : q_W E Γ (q_QF E Γ q_oI w) 4 σ 51 [] [] := by
  have C := B.1
  unfold F_X4_standsAt_51 at h
  refine q_iconst (pc := 51) (v := (0 : Int32)) C dX4_standsAt_51 (by decide) ?_
  exact q_zret C B.2.2.2.2.1 dX4_standsAt_52 h
def F_X4_standsAt_77B (κ : Nat → Nat) (r77 : Option Nat → Option Nat → Int32 → q_X Int32) (l0 : Option Nat) (l1 : Option Nat) (l3 : Int32) : q_X Int32 :=
  q_rd (q_gI l1 4 8) fun v79 => q_br (v79 ≤ l3) (q_rz (1 : Int32)) (q_rd (q_gA l1 4 3) fun v86 => q_rd (q_lA 5 v86 l3) fun v90 => q_rd (q_gA l0 7 2) fun v92 => q_rd (q_lL v92 l3) fun v96 => q_rd (q_is v90 5) fun _ => q_ca (F_X2_has κ v90 v96) fun v97 => q_br (¬ v97 = 0) (r77 l0 l1 (l3 + (1 : Int32))) (q_rz (0 : Int32)))
theorem M_X4_standsAt_77B (κ : Nat → Nat) (r77 : Option Nat → Option Nat → Int32 → q_X Int32) (mr77 : ∀ (l0 : Option Nat) (l1 : Option Nat) (l3 : Int32), q_mo (r77 l0 l1 l3)) (l0 : Option Nat) (l1 : Option Nat) (l3 : Int32) : q_mo (F_X4_standsAt_77B κ r77 l0 l1 l3) := (q_mo_rd fun v79 => (q_mo_br q_mo_rz (q_mo_rd fun v86 => (q_mo_rd fun v90 => (q_mo_rd fun v92 => (q_mo_rd fun v96 => (q_mo_rd fun _ => q_mo_ca (M_X2_has κ v90 v96) fun v97 => (q_mo_br (mr77 l0 l1 (l3 + (1 : Int32))) q_mo_rz))))))))
set_option maxRecDepth 100000 in
set_option maxHeartbeats 4000000 in
theorem S_X4_standsAt_77B {E : q_Ev} {Γ : q_Gm} {w : (Int32 ⊕ q_Exn) × q_St} (B : q_Bd E Γ cX4_standsAt yX4_standsAt.cls 4 2 51 (some .boolean) yX4_standsAt.name w) (hT : q_nT Γ) (r77 : Option Nat → Option Nat → Int32 → q_X Int32) (hr77 : ∀ (l0 : Option Nat) (l1 : Option Nat) (l3 : Int32) (σ : q_St), r77 l0 l1 l3 σ = some w → q_W E Γ (q_QF E Γ q_oI w) 4 σ 77 [(0, q_R l0), (1, q_R l1), (3, q_I l3)] []) (mr77 : ∀ (l0 : Option Nat) (l1 : Option Nat) (l3 : Int32), q_mo (r77 l0 l1 l3)) (l0 : Option Nat) (l1 : Option Nat) (l3 : Int32) (σ : q_St) (h : F_X4_standsAt_77B (q_kap E) r77 l0 l1 l3 σ = some w) : q_W E Γ (q_QF E Γ q_oI w) 4 σ 77 [(0, q_R l0), (1, q_R l1), (3, q_I l3)] [] := by
  have C := B.1
  unfold F_X4_standsAt_77B at h
  refine q_iload_n (pc := 77) C 2 rfl dX4_standsAt_77 rfl ?_
  refine q_aload_n (pc := 78) C 1 rfl dX4_standsAt_78 rfl ?_
  refine q_getI (pc := 79) C dX4_standsAt_79 ql_X4_131 h (fun v79 h => ?_)
  refine q_icmp_ge (pc := 82) (tgt := 111) C dX4_standsAt_82 (by decide) h (fun _ h => ?_) (fun _ h => ?_)
  · refine q_iconst (pc := 111) (v := (1 : Int32)) C dX4_standsAt_111 (by decide) ?_
    exact q_zret C B.2.2.2.2.1 dX4_standsAt_112 h
  · refine q_aload_n (pc := 85) C 1 rfl dX4_standsAt_85 rfl ?_
    refine q_getA (pc := 86) C dX4_standsAt_86 ql_X4_134 h (fun v86 h => ?_)
    refine q_iload_n (pc := 89) C 2 rfl dX4_standsAt_89 rfl ?_
    refine q_ldA (pc := 90) C dX4_standsAt_90 ⟨_, rfl⟩ h (fun v90 h => ?_)
    refine q_aload_n (pc := 91) C 0 rfl dX4_standsAt_91 rfl ?_
    refine q_getA (pc := 92) C dX4_standsAt_92 ql_X4_9 h (fun v92 h => ?_)
    refine q_iload_n (pc := 95) C 2 rfl dX4_standsAt_95 rfl ?_
    refine q_ldL (pc := 96) C dX4_standsAt_96 h (fun v96 h => ?_)
    refine q_callV (pc := 97) (As := [q_L v96]) (st := []) (ps := q_psI) C B.2.1 hT q_hpI qm_X4_138 qv_X2_has dX4_standsAt_97 rfl rfl (Nat.le_of_ble_eq_true rfl) (q_flo B.2.2.1 B.2.2.2.1 (by decide) (by decide)) (K_X2_has v90 v96) (M_X2_has (q_kap E) v90 v96) (by exact fun v97 => (q_mo_br (mr77 l0 l1 (l3 + (1 : Int32))) q_mo_rz)) h (fun v97 σ h => ?_)
    refine q_W.st (st' := [q_I v97]) rfl ?_
    refine q_if_ne (pc := 100) (tgt := 105) C dX4_standsAt_100 (by decide) h (fun _ h => ?_) (fun _ h => ?_)
    · refine q_iinc (pc := 105) (v := (1 : Int32)) (l' := [(3, q_I (l3 + (1 : Int32))), (0, q_R l0), (1, q_R l1)]) C 2 rfl dX4_standsAt_105 (by decide) (by decide) rfl ?_
      refine q_goto (pc := 108) (tgt := 77) C dX4_standsAt_108 (by decide) ?_
      refine q_W.sub [1, 2, 0] rfl ?_
      exact hr77 l0 l1 (l3 + (1 : Int32)) _ h
    · refine q_iconst (pc := 103) (v := (0 : Int32)) C dX4_standsAt_103 (by decide) ?_
      exact q_zret C B.2.2.2.2.1 dX4_standsAt_104 h
def F_X4_standsAt_77 (κ : Nat → Nat) : Nat → Option Nat → Option Nat → Int32 → q_X Int32
  | 0, _, _, _ => q_no
  | n + 1, l0, l1, l3 => F_X4_standsAt_77B κ (F_X4_standsAt_77 κ n) l0 l1 l3
theorem M_X4_standsAt_77 (κ : Nat → Nat) : ∀ (n : Nat) (l0 : Option Nat) (l1 : Option Nat) (l3 : Int32), q_mo (F_X4_standsAt_77 κ n l0 l1 l3)
  | 0, _, _, _ => q_mo_no
  | n + 1, l0, l1, l3 => M_X4_standsAt_77B κ (F_X4_standsAt_77 κ n) (M_X4_standsAt_77 κ n) l0 l1 l3
theorem S_X4_standsAt_77 {E : q_Ev} {Γ : q_Gm} {w : (Int32 ⊕ q_Exn) × q_St} (B : q_Bd E Γ cX4_standsAt yX4_standsAt.cls 4 2 51 (some .boolean) yX4_standsAt.name w) (hT : q_nT Γ) : ∀ (n : Nat) (l0 : Option Nat) (l1 : Option Nat) (l3 : Int32) (σ : q_St), F_X4_standsAt_77 (q_kap E) n l0 l1 l3 σ = some w → q_W E Γ (q_QF E Γ q_oI w) 4 σ 77 [(0, q_R l0), (1, q_R l1), (3, q_I l3)] []
  | 0, _, _, _, _, h => by cases h
  | n + 1, l0, l1, l3, σ, h => S_X4_standsAt_77B B hT (F_X4_standsAt_77 (q_kap E) n) (S_X4_standsAt_77 B hT n) (M_X4_standsAt_77 (q_kap E) n) l0 l1 l3 σ h
def F_X4_standsAt_2B (κ : Nat → Nat) (r2 : Option Nat → Option Nat → Int32 → Int32 → q_X Int32) (l0 : Option Nat) (l1 : Option Nat) (l2 : Int32) (l3 : Int32) : q_X Int32 :=
  q_rd (q_gI l1 4 9) fun v4 => q_br (v4 ≤ l3) (q_rd (q_gA l0 7 1) fun v61 => q_rd (q_gA v61 9 0) fun v64 => q_rd (q_gA l0 7 2) fun v69 => q_rd (q_is l1 4) fun _ => q_ca (F_X1_decode κ l1 v64 l2 v69) fun _v72 => F_X4_standsAt_77 κ q_fu l0 l1 (0 : Int32)) (q_rd (q_gA l0 7 1) fun v11 => q_rd (q_is v11 9) fun _ => q_ca (F_X6_has κ v11 (l2 + l3)) fun v17 => q_br (v17 = 0) (F_X4_standsAt_51 κ) (q_rd (q_gA l0 7 1) fun v24 => q_rd (q_gA v24 9 0) fun v27 => q_rd (q_lL v27 (l2 + l3)) fun v33 => q_rd (q_gA l1 4 4) fun v35 => q_rd (q_lL v35 l3) fun v39 => q_rd (q_gA l1 4 5) fun v42 => q_rd (q_lL v42 l3) fun v46 => q_br ((lg_cmp (v33 &&& v39) v46) = 0) (r2 l0 l1 l2 (l3 + (1 : Int32))) (F_X4_standsAt_51 κ)))
theorem M_X4_standsAt_2B (κ : Nat → Nat) (r2 : Option Nat → Option Nat → Int32 → Int32 → q_X Int32) (mr2 : ∀ (l0 : Option Nat) (l1 : Option Nat) (l2 : Int32) (l3 : Int32), q_mo (r2 l0 l1 l2 l3)) (l0 : Option Nat) (l1 : Option Nat) (l2 : Int32) (l3 : Int32) : q_mo (F_X4_standsAt_2B κ r2 l0 l1 l2 l3) := (q_mo_rd fun v4 => (q_mo_br (q_mo_rd fun v61 => (q_mo_rd fun v64 => (q_mo_rd fun v69 => (q_mo_rd fun _ => q_mo_ca (M_X1_decode κ l1 v64 l2 v69) fun _v72 => (M_X4_standsAt_77 κ q_fu l0 l1 (0 : Int32)))))) (q_mo_rd fun v11 => (q_mo_rd fun _ => q_mo_ca (M_X6_has κ v11 (l2 + l3)) fun v17 => (q_mo_br (M_X4_standsAt_51 κ) (q_mo_rd fun v24 => (q_mo_rd fun v27 => (q_mo_rd fun v33 => (q_mo_rd fun v35 => (q_mo_rd fun v39 => (q_mo_rd fun v42 => (q_mo_rd fun v46 => (q_mo_br (mr2 l0 l1 l2 (l3 + (1 : Int32))) (M_X4_standsAt_51 κ))))))))))))))
set_option maxRecDepth 100000 in
set_option maxHeartbeats 4000000 in
theorem S_X4_standsAt_2B {E : q_Ev} {Γ : q_Gm} {w : (Int32 ⊕ q_Exn) × q_St} (B : q_Bd E Γ cX4_standsAt yX4_standsAt.cls 4 2 51 (some .boolean) yX4_standsAt.name w) (hT : q_nT Γ) (r2 : Option Nat → Option Nat → Int32 → Int32 → q_X Int32) (hr2 : ∀ (l0 : Option Nat) (l1 : Option Nat) (l2 : Int32) (l3 : Int32) (σ : q_St), r2 l0 l1 l2 l3 σ = some w → q_W E Γ (q_QF E Γ q_oI w) 4 σ 2 [(0, q_R l0), (1, q_R l1), (2, q_I l2), (3, q_I l3)] []) (mr2 : ∀ (l0 : Option Nat) (l1 : Option Nat) (l2 : Int32) (l3 : Int32), q_mo (r2 l0 l1 l2 l3)) (l0 : Option Nat) (l1 : Option Nat) (l2 : Int32) (l3 : Int32) (σ : q_St) (h : F_X4_standsAt_2B (q_kap E) r2 l0 l1 l2 l3 σ = some w) : q_W E Γ (q_QF E Γ q_oI w) 4 σ 2 [(0, q_R l0), (1, q_R l1), (2, q_I l2), (3, q_I l3)] [] := by
  have C := B.1
  unfold F_X4_standsAt_2B at h
  refine q_iload_n (pc := 2) C 3 rfl dX4_standsAt_2 rfl ?_
  refine q_aload_n (pc := 3) C 1 rfl dX4_standsAt_3 rfl ?_
  refine q_getI (pc := 4) C dX4_standsAt_4 ql_X4_109 h (fun v4 h => ?_)
  refine q_icmp_ge (pc := 7) (tgt := 59) C dX4_standsAt_7 (by decide) h (fun _ h => ?_) (fun _ h => ?_)
  · refine q_aload_n (pc := 59) C 1 rfl dX4_standsAt_59 rfl ?_
    refine q_aload_n (pc := 60) C 0 rfl dX4_standsAt_60 rfl ?_
    refine q_getA (pc := 61) C dX4_standsAt_61 ql_X4_30 h (fun v61 h => ?_)
    refine q_getA (pc := 64) C dX4_standsAt_64 ql_X4_69 h (fun v64 h => ?_)
    refine q_iload_n (pc := 67) C 2 rfl dX4_standsAt_67 rfl ?_
    refine q_aload_n (pc := 68) C 0 rfl dX4_standsAt_68 rfl ?_
    refine q_getA (pc := 69) C dX4_standsAt_69 ql_X4_9 h (fun v69 h => ?_)
    refine q_callV (pc := 72) (As := [q_R v64, q_I l2, q_R v69]) (st := []) (ps := q_psV) C B.2.1 hT q_hpV qm_X4_84 qv_X1_decode dX4_standsAt_72 rfl rfl (Nat.le_of_ble_eq_true rfl) (q_flo B.2.2.1 B.2.2.2.1 (by decide) (by decide)) (K_X1_decode l1 v64 l2 v69) (M_X1_decode (q_kap E) l1 v64 l2 v69) (by exact fun _v72 => (M_X4_standsAt_77 (q_kap E) q_fu l0 l1 (0 : Int32))) h (fun _v72 σ h => ?_)
    refine q_W.st (st' := []) rfl ?_
    refine q_iconst (pc := 75) (v := (0 : Int32)) C dX4_standsAt_75 (by decide) ?_
    refine q_istore_n (pc := 76) (l' := [(3, q_I (0 : Int32)), (0, q_R l0), (1, q_R l1), (2, q_I l2)]) C dX4_standsAt_76 rfl (by decide) rfl ?_
    refine q_W.sub [1, 2, 0] rfl ?_
    exact S_X4_standsAt_77 B hT q_fu l0 l1 (0 : Int32) _ h
  · refine q_aload_n (pc := 10) C 0 rfl dX4_standsAt_10 rfl ?_
    refine q_getA (pc := 11) C dX4_standsAt_11 ql_X4_30 h (fun v11 h => ?_)
    refine q_iload_n (pc := 14) C 2 rfl dX4_standsAt_14 rfl ?_
    refine q_iload_n (pc := 15) C 3 rfl dX4_standsAt_15 rfl ?_
    refine q_iadd (pc := 16) C dX4_standsAt_16 ?_
    refine q_callV (pc := 17) (As := [q_I (l2 + l3)]) (st := []) (ps := q_psI) C B.2.1 hT q_hpI qm_X4_122 qv_X6_has dX4_standsAt_17 rfl rfl (Nat.le_of_ble_eq_true rfl) (q_flo B.2.2.1 B.2.2.2.1 (by decide) (by decide)) (K_X6_has v11 (l2 + l3)) (M_X6_has (q_kap E) v11 (l2 + l3)) (by exact fun v17 => (q_mo_br (M_X4_standsAt_51 (q_kap E)) (q_mo_rd fun v24 => (q_mo_rd fun v27 => (q_mo_rd fun v33 => (q_mo_rd fun v35 => (q_mo_rd fun v39 => (q_mo_rd fun v42 => (q_mo_rd fun v46 => (q_mo_br (mr2 l0 l1 l2 (l3 + (1 : Int32))) (M_X4_standsAt_51 (q_kap E)))))))))))) h (fun v17 σ h => ?_)
    refine q_W.st (st' := [q_I v17]) rfl ?_
    refine q_if_eq (pc := 20) (tgt := 51) C dX4_standsAt_20 (by decide) h (fun _ h => ?_) (fun _ h => ?_)
    · refine q_W.sub [] rfl ?_
      exact S_X4_standsAt_51 B hT _ h
    · refine q_aload_n (pc := 23) C 0 rfl dX4_standsAt_23 rfl ?_
      refine q_getA (pc := 24) C dX4_standsAt_24 ql_X4_30 h (fun v24 h => ?_)
      refine q_getA (pc := 27) C dX4_standsAt_27 ql_X4_69 h (fun v27 h => ?_)
      refine q_iload_n (pc := 30) C 2 rfl dX4_standsAt_30 rfl ?_
      refine q_iload_n (pc := 31) C 3 rfl dX4_standsAt_31 rfl ?_
      refine q_iadd (pc := 32) C dX4_standsAt_32 ?_
      refine q_ldL (pc := 33) C dX4_standsAt_33 h (fun v33 h => ?_)
      refine q_aload_n (pc := 34) C 1 rfl dX4_standsAt_34 rfl ?_
      refine q_getA (pc := 35) C dX4_standsAt_35 ql_X4_126 h (fun v35 h => ?_)
      refine q_iload_n (pc := 38) C 3 rfl dX4_standsAt_38 rfl ?_
      refine q_ldL (pc := 39) C dX4_standsAt_39 h (fun v39 h => ?_)
      refine q_land (pc := 40) C dX4_standsAt_40 ?_
      refine q_aload_n (pc := 41) C 1 rfl dX4_standsAt_41 rfl ?_
      refine q_getA (pc := 42) C dX4_standsAt_42 ql_X4_129 h (fun v42 h => ?_)
      refine q_iload_n (pc := 45) C 3 rfl dX4_standsAt_45 rfl ?_
      refine q_ldL (pc := 46) C dX4_standsAt_46 h (fun v46 h => ?_)
      refine q_lcmp (pc := 47) C dX4_standsAt_47 ?_
      refine q_if_eq (pc := 48) (tgt := 53) C dX4_standsAt_48 (by decide) h (fun _ h => ?_) (fun _ h => ?_)
      · refine q_iinc (pc := 53) (v := (1 : Int32)) (l' := [(3, q_I (l3 + (1 : Int32))), (0, q_R l0), (1, q_R l1), (2, q_I l2)]) C 3 rfl dX4_standsAt_53 (by decide) (by decide) rfl ?_
        refine q_goto (pc := 56) (tgt := 2) C dX4_standsAt_56 (by decide) ?_
        refine q_W.sub [1, 2, 3, 0] rfl ?_
        exact hr2 l0 l1 l2 (l3 + (1 : Int32)) _ h
      · refine q_W.sub [] rfl ?_
        exact S_X4_standsAt_51 B hT _ h
def F_X4_standsAt_2 (κ : Nat → Nat) : Nat → Option Nat → Option Nat → Int32 → Int32 → q_X Int32
  | 0, _, _, _, _ => q_no
  | n + 1, l0, l1, l2, l3 => F_X4_standsAt_2B κ (F_X4_standsAt_2 κ n) l0 l1 l2 l3
theorem M_X4_standsAt_2 (κ : Nat → Nat) : ∀ (n : Nat) (l0 : Option Nat) (l1 : Option Nat) (l2 : Int32) (l3 : Int32), q_mo (F_X4_standsAt_2 κ n l0 l1 l2 l3)
  | 0, _, _, _, _ => q_mo_no
  | n + 1, l0, l1, l2, l3 => M_X4_standsAt_2B κ (F_X4_standsAt_2 κ n) (M_X4_standsAt_2 κ n) l0 l1 l2 l3
theorem S_X4_standsAt_2 {E : q_Ev} {Γ : q_Gm} {w : (Int32 ⊕ q_Exn) × q_St} (B : q_Bd E Γ cX4_standsAt yX4_standsAt.cls 4 2 51 (some .boolean) yX4_standsAt.name w) (hT : q_nT Γ) : ∀ (n : Nat) (l0 : Option Nat) (l1 : Option Nat) (l2 : Int32) (l3 : Int32) (σ : q_St), F_X4_standsAt_2 (q_kap E) n l0 l1 l2 l3 σ = some w → q_W E Γ (q_QF E Γ q_oI w) 4 σ 2 [(0, q_R l0), (1, q_R l1), (2, q_I l2), (3, q_I l3)] []
  | 0, _, _, _, _, _, h => by cases h
  | n + 1, l0, l1, l2, l3, σ, h => S_X4_standsAt_2B B hT (F_X4_standsAt_2 (q_kap E) n) (S_X4_standsAt_2 B hT n) (M_X4_standsAt_2 (q_kap E) n) l0 l1 l2 l3 σ h
def F_X4_standsAt (κ : Nat → Nat) (l0 : Option Nat) (l1 : Option Nat) (l2 : Int32) : q_X Int32 :=
  F_X4_standsAt_2 κ q_fu l0 l1 l2 (0 : Int32)
theorem M_X4_standsAt (κ : Nat → Nat) (l0 : Option Nat) (l1 : Option Nat) (l2 : Int32) : q_mo (F_X4_standsAt κ l0 l1 l2) := (M_X4_standsAt_2 κ q_fu l0 l1 l2 (0 : Int32))
set_option maxRecDepth 100000 in
set_option maxHeartbeats 4000000 in
theorem K_X4_standsAt {E : q_Ev} (l0 : Option Nat) (l1 : Option Nat) (l2 : Int32) : q_Ct E yX4_standsAt (.code yX4_standsAt cX4_standsAt 4 (some .boolean)) 2 51 [q_R l0, q_R l1, q_I l2] q_oI (F_X4_standsAt (q_kap E) l0 l1 l2) := by
  refine q_enter (by decide) (Nat.le_of_ble_eq_true rfl) (fun Γ σ w h B hT => ?_)
  have C := B.1
  unfold F_X4_standsAt at h
  refine q_iconst (pc := 0) (v := (0 : Int32)) C dX4_standsAt_0 (by decide) ?_
  refine q_istore_n (pc := 1) (l' := [(3, q_I (0 : Int32)), (0, q_R l0), (1, q_R l1), (2, q_I l2)]) C dX4_standsAt_1 rfl (by decide) rfl ?_
  refine q_W.sub [1, 2, 3, 0] rfl ?_
  exact S_X4_standsAt_2 B hT q_fu l0 l1 l2 (0 : Int32) _ h
def F_X4_bestFor_59 (κ : Nat → Nat) (r7 : Option Nat → Int32 → Int32 → Int32 → Int32 → q_X Int32) (l0 : Option Nat) (l1 : Int32) (l2 : Int32) (l3 : Int32) (l4 : Int32) : q_X Int32 :=
  r7 l0 l1 l2 l3 (l4 + (1 : Int32))
theorem M_X4_bestFor_59 (κ : Nat → Nat) (r7 : Option Nat → Int32 → Int32 → Int32 → Int32 → q_X Int32) (mr7 : ∀ (l0 : Option Nat) (l1 : Int32) (l2 : Int32) (l3 : Int32) (l4 : Int32), q_mo (r7 l0 l1 l2 l3 l4)) (l0 : Option Nat) (l1 : Int32) (l2 : Int32) (l3 : Int32) (l4 : Int32) : q_mo (F_X4_bestFor_59 κ r7 l0 l1 l2 l3 l4) := (mr7 l0 l1 l2 l3 (l4 + (1 : Int32)))
set_option maxRecDepth 100000 in
set_option maxHeartbeats 4000000 in
theorem S_X4_bestFor_59 {E : q_Ev} {Γ : q_Gm} {w : (Int32 ⊕ q_Exn) × q_St} (B : q_Bd E Γ cX4_bestFor yX4_bestFor.cls 6 3 74 (some .int) yX4_bestFor.name w) (hT : q_nT Γ) (r7 : Option Nat → Int32 → Int32 → Int32 → Int32 → q_X Int32) (hr7 : ∀ (l0 : Option Nat) (l1 : Int32) (l2 : Int32) (l3 : Int32) (l4 : Int32) (σ : q_St), r7 l0 l1 l2 l3 l4 σ = some w → q_W E Γ (q_QF E Γ q_oI w) 6 σ 7 [(0, q_R l0), (1, q_I l1), (2, q_I l2), (3, q_I l3), (4, q_I l4)] []) (mr7 : ∀ (l0 : Option Nat) (l1 : Int32) (l2 : Int32) (l3 : Int32) (l4 : Int32), q_mo (r7 l0 l1 l2 l3 l4)) (l0 : Option Nat) (l1 : Int32) (l2 : Int32) (l3 : Int32) (l4 : Int32) (σ : q_St) (h : F_X4_bestFor_59 (q_kap E) r7 l0 l1 l2 l3 l4 σ = some w) : q_W E Γ (q_QF E Γ q_oI w) 6 σ 59 [(0, q_R l0), (1, q_I l1), (2, q_I l2), (3, q_I l3), (4, q_I l4)] [] := by
  have C := B.1
  unfold F_X4_bestFor_59 at h
  refine q_iinc (pc := 59) (v := (1 : Int32)) (l' := [(4, q_I (l4 + (1 : Int32))), (0, q_R l0), (1, q_I l1), (2, q_I l2), (3, q_I l3)]) C 4 rfl dX4_bestFor_59 (by decide) (by decide) rfl ?_
  refine q_goto (pc := 62) (tgt := 7) C dX4_bestFor_62 (by decide) ?_
  refine q_W.sub [1, 2, 3, 4, 0] rfl ?_
  exact hr7 l0 l1 l2 l3 (l4 + (1 : Int32)) _ h
def F_X4_bestFor_7B (κ : Nat → Nat) (r7 : Option Nat → Int32 → Int32 → Int32 → Int32 → q_X Int32) (l0 : Option Nat) (l1 : Int32) (l2 : Int32) (l3 : Int32) (l4 : Int32) : q_X Int32 :=
  q_rd (q_gA l0 7 0) fun v10 => q_rd (q_gI v10 8 4) fun v13 => q_br (v13 ≤ l4) (q_rt l2) (q_rd (q_gA l0 7 0) fun v20 => q_rd (q_gA v20 8 1) fun v23 => q_rd (q_lA 4 v23 l4) fun v28 => q_rd (q_gI v28 4 10) fun v33 => q_br (v33 ≤ l3) (F_X4_bestFor_59 κ r7 l0 l1 l2 l3 l4) (q_rd (q_is l0 7) fun _ => q_ca (F_X4_standsAt κ l0 v28 l1) fun v44 => q_br (v44 = 0) (F_X4_bestFor_59 κ r7 l0 l1 l2 l3 l4) (q_rd (q_gI v28 4 10) fun v55 => F_X4_bestFor_59 κ r7 l0 l1 l4 v55 l4)))
theorem M_X4_bestFor_7B (κ : Nat → Nat) (r7 : Option Nat → Int32 → Int32 → Int32 → Int32 → q_X Int32) (mr7 : ∀ (l0 : Option Nat) (l1 : Int32) (l2 : Int32) (l3 : Int32) (l4 : Int32), q_mo (r7 l0 l1 l2 l3 l4)) (l0 : Option Nat) (l1 : Int32) (l2 : Int32) (l3 : Int32) (l4 : Int32) : q_mo (F_X4_bestFor_7B κ r7 l0 l1 l2 l3 l4) := (q_mo_rd fun v10 => (q_mo_rd fun v13 => (q_mo_br q_mo_rt (q_mo_rd fun v20 => (q_mo_rd fun v23 => (q_mo_rd fun v28 => (q_mo_rd fun v33 => (q_mo_br (M_X4_bestFor_59 κ r7 mr7 l0 l1 l2 l3 l4) (q_mo_rd fun _ => q_mo_ca (M_X4_standsAt κ l0 v28 l1) fun v44 => (q_mo_br (M_X4_bestFor_59 κ r7 mr7 l0 l1 l2 l3 l4) (q_mo_rd fun v55 => (M_X4_bestFor_59 κ r7 mr7 l0 l1 l4 v55 l4))))))))))))
set_option maxRecDepth 100000 in
set_option maxHeartbeats 4000000 in
theorem S_X4_bestFor_7B {E : q_Ev} {Γ : q_Gm} {w : (Int32 ⊕ q_Exn) × q_St} (B : q_Bd E Γ cX4_bestFor yX4_bestFor.cls 6 3 74 (some .int) yX4_bestFor.name w) (hT : q_nT Γ) (r7 : Option Nat → Int32 → Int32 → Int32 → Int32 → q_X Int32) (hr7 : ∀ (l0 : Option Nat) (l1 : Int32) (l2 : Int32) (l3 : Int32) (l4 : Int32) (σ : q_St), r7 l0 l1 l2 l3 l4 σ = some w → q_W E Γ (q_QF E Γ q_oI w) 6 σ 7 [(0, q_R l0), (1, q_I l1), (2, q_I l2), (3, q_I l3), (4, q_I l4)] []) (mr7 : ∀ (l0 : Option Nat) (l1 : Int32) (l2 : Int32) (l3 : Int32) (l4 : Int32), q_mo (r7 l0 l1 l2 l3 l4)) (l0 : Option Nat) (l1 : Int32) (l2 : Int32) (l3 : Int32) (l4 : Int32) (σ : q_St) (h : F_X4_bestFor_7B (q_kap E) r7 l0 l1 l2 l3 l4 σ = some w) : q_W E Γ (q_QF E Γ q_oI w) 6 σ 7 [(0, q_R l0), (1, q_I l1), (2, q_I l2), (3, q_I l3), (4, q_I l4)] [] := by
  have C := B.1
  unfold F_X4_bestFor_7B at h
  refine q_iload (pc := 7) C 4 rfl dX4_bestFor_7 ?_
  refine q_aload_n (pc := 9) C 0 rfl dX4_bestFor_9 rfl ?_
  refine q_getA (pc := 10) C dX4_bestFor_10 ql_X4_26 h (fun v10 h => ?_)
  refine q_getI (pc := 13) C dX4_bestFor_13 ql_X4_112 h (fun v13 h => ?_)
  refine q_icmp_ge (pc := 16) (tgt := 65) C dX4_bestFor_16 (by decide) h (fun _ h => ?_) (fun _ h => ?_)
  · refine q_iload_n (pc := 65) C 2 rfl dX4_bestFor_65 rfl ?_
    exact q_iret C B.2.2.2.2.1 dX4_bestFor_66 h
  · refine q_aload_n (pc := 19) C 0 rfl dX4_bestFor_19 rfl ?_
    refine q_getA (pc := 20) C dX4_bestFor_20 ql_X4_26 h (fun v20 h => ?_)
    refine q_getA (pc := 23) C dX4_bestFor_23 ql_X4_78 h (fun v23 h => ?_)
    refine q_iload (pc := 26) C 4 rfl dX4_bestFor_26 ?_
    refine q_ldA (pc := 28) C dX4_bestFor_28 ⟨_, rfl⟩ h (fun v28 h => ?_)
    refine q_astore (pc := 29) (l' := [(5, q_R v28), (0, q_R l0), (1, q_I l1), (2, q_I l2), (3, q_I l3), (4, q_I l4)]) C dX4_bestFor_29 (by decide) rfl ?_
    refine q_aload (pc := 31) C 0 rfl dX4_bestFor_31 ?_
    refine q_getI (pc := 33) C dX4_bestFor_33 ql_X4_115 h (fun v33 h => ?_)
    refine q_iload_n (pc := 36) C 4 rfl dX4_bestFor_36 rfl ?_
    refine q_icmp_le (pc := 37) (tgt := 59) C dX4_bestFor_37 (by decide) h (fun _ h => ?_) (fun _ h => ?_)
    · refine q_W.sub [1, 2, 3, 4, 5] rfl ?_
      exact S_X4_bestFor_59 B hT r7 hr7 mr7 l0 l1 l2 l3 l4 _ h
    · refine q_aload_n (pc := 40) C 1 rfl dX4_bestFor_40 rfl ?_
      refine q_aload (pc := 41) C 0 rfl dX4_bestFor_41 ?_
      refine q_iload_n (pc := 43) C 2 rfl dX4_bestFor_43 rfl ?_
      refine q_callV (pc := 44) (As := [q_R v28, q_I l1]) (st := []) (ps := q_psI) C B.2.1 hT q_hpI qm_X4_118 qv_X4_standsAt dX4_bestFor_44 rfl rfl (Nat.le_of_ble_eq_true rfl) (q_flo B.2.2.1 B.2.2.2.1 (by decide) (by decide)) (K_X4_standsAt l0 v28 l1) (M_X4_standsAt (q_kap E) l0 v28 l1) (by exact fun v44 => (q_mo_br (M_X4_bestFor_59 (q_kap E) r7 mr7 l0 l1 l2 l3 l4) (q_mo_rd fun v55 => (M_X4_bestFor_59 (q_kap E) r7 mr7 l0 l1 l4 v55 l4)))) h (fun v44 σ h => ?_)
      refine q_W.st (st' := [q_I v44]) rfl ?_
      refine q_if_eq (pc := 47) (tgt := 59) C dX4_bestFor_47 (by decide) h (fun _ h => ?_) (fun _ h => ?_)
      · refine q_W.sub [1, 2, 3, 4, 5] rfl ?_
        exact S_X4_bestFor_59 B hT r7 hr7 mr7 l0 l1 l2 l3 l4 _ h
      · refine q_iload (pc := 50) C 5 rfl dX4_bestFor_50 ?_
        refine q_istore_n (pc := 52) (l' := [(2, q_I l4), (5, q_R v28), (0, q_R l0), (1, q_I l1), (3, q_I l3), (4, q_I l4)]) C dX4_bestFor_52 rfl (by decide) rfl ?_
        refine q_aload (pc := 53) C 1 rfl dX4_bestFor_53 ?_
        refine q_getI (pc := 55) C dX4_bestFor_55 ql_X4_115 h (fun v55 h => ?_)
        refine q_istore_n (pc := 58) (l' := [(3, q_I v55), (2, q_I l4), (5, q_R v28), (0, q_R l0), (1, q_I l1), (4, q_I l4)]) C dX4_bestFor_58 rfl (by decide) rfl ?_
        refine q_W.sub [3, 4, 1, 0, 5] rfl ?_
        exact S_X4_bestFor_59 B hT r7 hr7 mr7 l0 l1 l4 v55 l4 _ h
def F_X4_bestFor_7 (κ : Nat → Nat) : Nat → Option Nat → Int32 → Int32 → Int32 → Int32 → q_X Int32
  | 0, _, _, _, _, _ => q_no
  | n + 1, l0, l1, l2, l3, l4 => F_X4_bestFor_7B κ (F_X4_bestFor_7 κ n) l0 l1 l2 l3 l4
theorem M_X4_bestFor_7 (κ : Nat → Nat) : ∀ (n : Nat) (l0 : Option Nat) (l1 : Int32) (l2 : Int32) (l3 : Int32) (l4 : Int32), q_mo (F_X4_bestFor_7 κ n l0 l1 l2 l3 l4)
  | 0, _, _, _, _, _ => q_mo_no
  | n + 1, l0, l1, l2, l3, l4 => M_X4_bestFor_7B κ (F_X4_bestFor_7 κ n) (M_X4_bestFor_7 κ n) l0 l1 l2 l3 l4
theorem S_X4_bestFor_7 {E : q_Ev} {Γ : q_Gm} {w : (Int32 ⊕ q_Exn) × q_St} (B : q_Bd E Γ cX4_bestFor yX4_bestFor.cls 6 3 74 (some .int) yX4_bestFor.name w) (hT : q_nT Γ) : ∀ (n : Nat) (l0 : Option Nat) (l1 : Int32) (l2 : Int32) (l3 : Int32) (l4 : Int32) (σ : q_St), F_X4_bestFor_7 (q_kap E) n l0 l1 l2 l3 l4 σ = some w → q_W E Γ (q_QF E Γ q_oI w) 6 σ 7 [(0, q_R l0), (1, q_I l1), (2, q_I l2), (3, q_I l3), (4, q_I l4)] []
  | 0, _, _, _, _, _, _, h => by cases h
  | n + 1, l0, l1, l2, l3, l4, σ, h => S_X4_bestFor_7B B hT (F_X4_bestFor_7 (q_kap E) n) (S_X4_bestFor_7 B hT n) (M_X4_bestFor_7 (q_kap E) n) l0 l1 l2 l3 l4 σ h
def F_X4_bestFor (κ : Nat → Nat) (l0 : Option Nat) (l1 : Int32) : q_X Int32 :=
  F_X4_bestFor_7 κ q_fu l0 l1 (-1 : Int32) (-1 : Int32) (0 : Int32)
theorem M_X4_bestFor (κ : Nat → Nat) (l0 : Option Nat) (l1 : Int32) : q_mo (F_X4_bestFor κ l0 l1) := (M_X4_bestFor_7 κ q_fu l0 l1 (-1 : Int32) (-1 : Int32) (0 : Int32))
set_option maxRecDepth 100000 in
set_option maxHeartbeats 4000000 in
theorem K_X4_bestFor {E : q_Ev} (l0 : Option Nat) (l1 : Int32) : q_Ct E yX4_bestFor (.code yX4_bestFor cX4_bestFor 6 (some .int)) 3 74 [q_R l0, q_I l1] q_oI (F_X4_bestFor (q_kap E) l0 l1) := by
  refine q_enter (by decide) (Nat.le_of_ble_eq_true rfl) (fun Γ σ w h B hT => ?_)
  have C := B.1
  unfold F_X4_bestFor at h
  refine q_iconst (pc := 0) (v := (-1 : Int32)) C dX4_bestFor_0 (by decide) ?_
  refine q_istore_n (pc := 1) (l' := [(2, q_I (-1 : Int32)), (0, q_R l0), (1, q_I l1)]) C dX4_bestFor_1 rfl (by decide) rfl ?_
  refine q_iconst (pc := 2) (v := (-1 : Int32)) C dX4_bestFor_2 (by decide) ?_
  refine q_istore_n (pc := 3) (l' := [(3, q_I (-1 : Int32)), (2, q_I (-1 : Int32)), (0, q_R l0), (1, q_I l1)]) C dX4_bestFor_3 rfl (by decide) rfl ?_
  refine q_iconst (pc := 4) (v := (0 : Int32)) C dX4_bestFor_4 (by decide) ?_
  refine q_istore (pc := 5) (l' := [(4, q_I (0 : Int32)), (3, q_I (-1 : Int32)), (2, q_I (-1 : Int32)), (0, q_R l0), (1, q_I l1)]) C dX4_bestFor_5 (by decide) rfl ?_
  refine q_W.sub [3, 4, 2, 1, 0] rfl ?_
  exact S_X4_bestFor_7 B hT q_fu l0 l1 (-1 : Int32) (-1 : Int32) (0 : Int32) _ h
