def F_X8_readLine_136 (κ : Nat → Nat) (l0 : Option Nat) : q_X Unit :=
  q_rd (q_gA l0 11 0) fun v137 => q_rd (q_is v137 12) fun _ => q_ca (F_X9_hasFault κ v137) fun v140 => q_br (v140 = 0) (q_rd (q_gA l0 11 1) fun v148 => q_rd (q_gA l0 11 0) fun v152 => q_rd (q_gI v152 12 1) fun v155 => q_rd (q_is v148 13) fun _ => q_ca (F_X10_isLineEnd κ v148 v155) fun v158 => q_br (¬ v158 = 0) (q_rd (q_gA l0 11 0) fun v175 => q_rd (q_gI v175 12 1) fun v179 => q_wr (q_pF v175 12 1 (.int (v179 + (1 : Int32)))) (q_rt ())) (q_rd (q_gA l0 11 0) fun v165 => q_rd (q_is v165 12) fun _ => q_ca (F_X9_fail κ v165 (1 : Int32)) fun v169 => q_rt ())) (q_rt ())
theorem M_X8_readLine_136 (κ : Nat → Nat) (l0 : Option Nat) : q_mo (F_X8_readLine_136 κ l0) := (q_mo_rd fun v137 => (q_mo_rd fun _ => q_mo_ca (M_X9_hasFault κ v137) fun v140 => (q_mo_br (q_mo_rd fun v148 => (q_mo_rd fun v152 => (q_mo_rd fun v155 => (q_mo_rd fun _ => q_mo_ca (M_X10_isLineEnd κ v148 v155) fun v158 => (q_mo_br (q_mo_rd fun v175 => (q_mo_rd fun v179 => (q_mo_wr q_mo_rt))) (q_mo_rd fun v165 => (q_mo_rd fun _ => q_mo_ca (M_X9_fail κ v165 (1 : Int32)) fun v169 => q_mo_rt))))))) q_mo_rt)))
set_option maxRecDepth 100000 in
set_option maxHeartbeats 4000000 in
theorem S_X8_readLine_136 {E : q_Ev} {Γ : q_Gm} {w : (Unit ⊕ q_Exn) × q_St} (B : q_Bd E Γ cX8_readLine yX8_readLine.cls 6 8 193 (none) yX8_readLine.name w) (hT : q_nT Γ) (l0 : Option Nat) (σ : q_St) (h : F_X8_readLine_136 (q_kap E) l0 σ = some w) : q_W E Γ (q_QF E Γ q_oV w) 6 σ 136 [(0, q_R l0)] [] := by
  have C := B.1
  unfold F_X8_readLine_136 at h
  refine q_aload_n (pc := 136) C 0 rfl dX8_readLine_136 rfl ?_
  refine q_getA (pc := 137) C dX8_readLine_137 ql_X8_29 h (fun v137 h => ?_)
  refine q_callV (pc := 140) (As := []) (st := []) (ps := q_psI) C B.2.1 hT q_hpI qm_X8_84 qv_X9_hasFault dX8_readLine_140 rfl rfl (Nat.le_of_ble_eq_true rfl) (q_flo B.2.2.1 B.2.2.2.1 (by decide) (by decide)) (K_X9_hasFault v137) (M_X9_hasFault (q_kap E) v137) (by exact fun v140 => (q_mo_br (q_mo_rd fun v148 => (q_mo_rd fun v152 => (q_mo_rd fun v155 => (q_mo_rd fun _ => q_mo_ca (M_X10_isLineEnd (q_kap E) v148 v155) fun v158 => (q_mo_br (q_mo_rd fun v175 => (q_mo_rd fun v179 => (q_mo_wr q_mo_rt))) (q_mo_rd fun v165 => (q_mo_rd fun _ => q_mo_ca (M_X9_fail (q_kap E) v165 (1 : Int32)) fun v169 => q_mo_rt))))))) q_mo_rt)) h (fun v140 σ h => ?_)
  refine q_W.st (st' := [q_I v140]) rfl ?_
  refine q_if_eq (pc := 143) (tgt := 147) C dX8_readLine_143 (by decide) h (fun _ h => ?_) (fun _ h => ?_)
  · refine q_aload_n (pc := 147) C 0 rfl dX8_readLine_147 rfl ?_
    refine q_getA (pc := 148) C dX8_readLine_148 ql_X8_39 h (fun v148 h => ?_)
    refine q_aload_n (pc := 151) C 0 rfl dX8_readLine_151 rfl ?_
    refine q_getA (pc := 152) C dX8_readLine_152 ql_X8_29 h (fun v152 h => ?_)
    refine q_getI (pc := 155) C dX8_readLine_155 ql_X8_111 h (fun v155 h => ?_)
    refine q_callV (pc := 158) (As := [q_I v155]) (st := []) (ps := q_psI) C B.2.1 hT q_hpI qm_X8_145 qv_X10_isLineEnd dX8_readLine_158 rfl rfl (Nat.le_of_ble_eq_true rfl) (q_flo B.2.2.1 B.2.2.2.1 (by decide) (by decide)) (K_X10_isLineEnd v148 v155) (M_X10_isLineEnd (q_kap E) v148 v155) (by exact fun v158 => (q_mo_br (q_mo_rd fun v175 => (q_mo_rd fun v179 => (q_mo_wr q_mo_rt))) (q_mo_rd fun v165 => (q_mo_rd fun _ => q_mo_ca (M_X9_fail (q_kap E) v165 (1 : Int32)) fun v169 => q_mo_rt)))) h (fun v158 σ h => ?_)
    refine q_W.st (st' := [q_I v158]) rfl ?_
    refine q_if_ne (pc := 161) (tgt := 174) C dX8_readLine_161 (by decide) h (fun _ h => ?_) (fun _ h => ?_)
    · refine q_aload_n (pc := 174) C 0 rfl dX8_readLine_174 rfl ?_
      refine q_getA (pc := 175) C dX8_readLine_175 ql_X8_29 h (fun v175 h => ?_)
      refine q_dup (pc := 178) C dX8_readLine_178 rfl ?_
      refine q_getI (pc := 179) C dX8_readLine_179 ql_X8_111 h (fun v179 h => ?_)
      refine q_iconst (pc := 182) (v := (1 : Int32)) C dX8_readLine_182 (by decide) ?_
      refine q_iadd (pc := 183) C dX8_readLine_183 ?_
      refine q_putV (pc := 184) (v := q_I (v179 + (1 : Int32))) C dX8_readLine_184 ql_X8_111 (Or.inl rfl) rfl rfl h (fun M184 h => ?_)
      exact q_vret C B.2.2.2.2.1 dX8_readLine_187 h
    · refine q_aload_n (pc := 164) C 0 rfl dX8_readLine_164 rfl ?_
      refine q_getA (pc := 165) C dX8_readLine_165 ql_X8_29 h (fun v165 h => ?_)
      refine q_iconst (pc := 168) (v := (1 : Int32)) C dX8_readLine_168 (by decide) ?_
      refine q_callV (pc := 169) (As := [q_I (1 : Int32)]) (st := []) (ps := q_psI) C B.2.1 hT q_hpI qm_X8_125 qv_X9_fail dX8_readLine_169 rfl rfl (Nat.le_of_ble_eq_true rfl) (q_flo B.2.2.1 B.2.2.2.1 (by decide) (by decide)) (K_X9_fail v165 (1 : Int32)) (M_X9_fail (q_kap E) v165 (1 : Int32)) (by exact fun v169 => q_mo_rt) h (fun v169 σ h => ?_)
      refine q_W.st (st' := [q_I v169]) rfl ?_
      refine q_pop (pc := 172) C dX8_readLine_172 rfl ?_
      exact q_vret C B.2.2.2.2.1 dX8_readLine_173 h
  · exact q_vret C B.2.2.2.2.1 dX8_readLine_146 h
def F_X8_readLine_130 (κ : Nat → Nat) (l0 : Option Nat) (l5 : Option Nat) : q_X Unit :=
  q_rd (q_is l0 11) fun _ => q_ca (F_X8_readStatement κ l0 l5) fun _v133 => F_X8_readLine_136 κ l0
theorem M_X8_readLine_130 (κ : Nat → Nat) (l0 : Option Nat) (l5 : Option Nat) : q_mo (F_X8_readLine_130 κ l0 l5) := (q_mo_rd fun _ => q_mo_ca (M_X8_readStatement κ l0 l5) fun _v133 => (M_X8_readLine_136 κ l0))
set_option maxRecDepth 100000 in
set_option maxHeartbeats 4000000 in
theorem S_X8_readLine_130 {E : q_Ev} {Γ : q_Gm} {w : (Unit ⊕ q_Exn) × q_St} (B : q_Bd E Γ cX8_readLine yX8_readLine.cls 6 8 193 (none) yX8_readLine.name w) (hT : q_nT Γ) (l0 : Option Nat) (l5 : Option Nat) (σ : q_St) (h : F_X8_readLine_130 (q_kap E) l0 l5 σ = some w) : q_W E Γ (q_QF E Γ q_oV w) 6 σ 130 [(0, q_R l0), (5, q_R l5)] [] := by
  have C := B.1
  unfold F_X8_readLine_130 at h
  refine q_aload_n (pc := 130) C 0 rfl dX8_readLine_130 rfl ?_
  refine q_aload (pc := 131) C 1 rfl dX8_readLine_131 ?_
  refine q_callV (pc := 133) (As := [q_R l5]) (st := []) (ps := q_psV) C B.2.1 hT q_hpV qm_X8_142 qv_X8_readStatement dX8_readLine_133 rfl rfl (Nat.le_of_ble_eq_true rfl) (q_flo B.2.2.1 B.2.2.2.1 (by decide) (by decide)) (K_X8_readStatement l0 l5) (M_X8_readStatement (q_kap E) l0 l5) (by exact fun _v133 => (M_X8_readLine_136 (q_kap E) l0)) h (fun _v133 σ h => ?_)
  refine q_W.st (st' := []) rfl ?_
  refine q_W.sub [0] rfl ?_
  exact S_X8_readLine_136 B hT l0 _ h
def F_X8_readLine_97 (κ : Nat → Nat) (l0 : Option Nat) (l1 : Int32) (l2 : Int32) (l3 : Int32) (l4 : Int32) : q_X Unit :=
  q_mk (.inr (.inl (6, [.int 0, .int 0, .int 0, .int 0, .null, .int 0, .int 0, .int 0]))) 8 fun a97 => q_gd (¬ (some a97) = none) (q_ca (F_X3_init κ (some a97) l4 l1 l3) fun _v105 => q_rd (q_gA l0 11 4) fun v111 => q_rd (q_is v111 2) fun _ => q_ca (F_Jx4a65c_add_9ea2d κ v111 (some a97)) fun v116 => q_br (l2 = 0) (F_X8_readLine_130 κ l0 (some a97)) (q_rd (q_is l0 11) fun _ => q_ca (F_X8_addLabel κ l0 (some a97)) fun _v127 => F_X8_readLine_130 κ l0 (some a97)))
theorem M_X8_readLine_97 (κ : Nat → Nat) (l0 : Option Nat) (l1 : Int32) (l2 : Int32) (l3 : Int32) (l4 : Int32) : q_mo (F_X8_readLine_97 κ l0 l1 l2 l3 l4) := (q_mo_mk fun a97 => (q_mo_gd (q_mo_ca (M_X3_init κ (some a97) l4 l1 l3) fun _v105 => (q_mo_rd fun v111 => (q_mo_rd fun _ => q_mo_ca (M_Jx4a65c_add_9ea2d κ v111 (some a97)) fun v116 => (q_mo_br (M_X8_readLine_130 κ l0 (some a97)) (q_mo_rd fun _ => q_mo_ca (M_X8_addLabel κ l0 (some a97)) fun _v127 => (M_X8_readLine_130 κ l0 (some a97)))))))))
set_option maxRecDepth 100000 in
set_option maxHeartbeats 4000000 in
theorem S_X8_readLine_97 {E : q_Ev} {Γ : q_Gm} {w : (Unit ⊕ q_Exn) × q_St} (B : q_Bd E Γ cX8_readLine yX8_readLine.cls 6 8 193 (none) yX8_readLine.name w) (hT : q_nT Γ) (l0 : Option Nat) (l1 : Int32) (l2 : Int32) (l3 : Int32) (l4 : Int32) (σ : q_St) (h : F_X8_readLine_97 (q_kap E) l0 l1 l2 l3 l4 σ = some w) : q_W E Γ (q_QF E Γ q_oV w) 6 σ 97 [(0, q_R l0), (1, q_I l1), (2, q_I l2), (3, q_I l3), (4, q_I l4)] [] := by
  have C := B.1
  unfold F_X8_readLine_97 at h
  refine q_new (pc := 97) C dX8_readLine_97 qn_X8_91 (by exact fun a97 => (q_mo_gd (q_mo_ca (M_X3_init (q_kap E) (some a97) l4 l1 l3) fun _v105 => (q_mo_rd fun v111 => (q_mo_rd fun _ => q_mo_ca (M_Jx4a65c_add_9ea2d (q_kap E) v111 (some a97)) fun v116 => (q_mo_br (M_X8_readLine_130 (q_kap E) l0 (some a97)) (q_mo_rd fun _ => q_mo_ca (M_X8_addLabel (q_kap E) l0 (some a97)) fun _v127 => (M_X8_readLine_130 (q_kap E) l0 (some a97))))))))) B.2.1 h (fun a97 σ h => ?_)
  refine q_dup (pc := 100) C dX8_readLine_100 rfl ?_
  refine q_iload (pc := 101) C 4 rfl dX8_readLine_101 ?_
  refine q_iload_n (pc := 103) C 1 rfl dX8_readLine_103 rfl ?_
  refine q_iload_n (pc := 104) C 3 rfl dX8_readLine_104 rfl ?_
  refine q_callI (pc := 105) (As := [q_I l4, q_I l1, q_I l3]) (st := [q_R (some a97)]) C B.2.1 (fun _ => rfl) qm_X8_132 qI_X3_init dX8_readLine_105 rfl rfl (Nat.le_of_ble_eq_true rfl) (q_flo B.2.2.1 B.2.2.2.1 (by decide) (by decide)) (K_X3_init (some a97) l4 l1 l3) (M_X3_init (q_kap E) (some a97) l4 l1 l3) (N_X3_init (q_kap E) (some a97) l4 l1 l3) (by exact fun _v105 => (q_mo_rd fun v111 => (q_mo_rd fun _ => q_mo_ca (M_Jx4a65c_add_9ea2d (q_kap E) v111 (some a97)) fun v116 => (q_mo_br (M_X8_readLine_130 (q_kap E) l0 (some a97)) (q_mo_rd fun _ => q_mo_ca (M_X8_addLabel (q_kap E) l0 (some a97)) fun _v127 => (M_X8_readLine_130 (q_kap E) l0 (some a97))))))) h (fun _v105 σ h => ?_)
  refine q_astore (pc := 108) (l' := [(5, q_R (some a97)), (0, q_R l0), (1, q_I l1), (2, q_I l2), (3, q_I l3), (4, q_I l4)]) C dX8_readLine_108 (by decide) rfl ?_
  refine q_aload_n (pc := 110) C 1 rfl dX8_readLine_110 rfl ?_
  refine q_getA (pc := 111) C dX8_readLine_111 ql_X8_12 h (fun v111 h => ?_)
  refine q_aload (pc := 114) C 0 rfl dX8_readLine_114 ?_
  refine q_callV (pc := 116) (As := [q_R (some a97)]) (st := []) (ps := q_psI) C B.2.1 hT q_hpI qm_X8_135 qv_Jx4a65c_add_9ea2d dX8_readLine_116 rfl rfl (Nat.le_of_ble_eq_true rfl) (q_flo B.2.2.1 B.2.2.2.1 (by decide) (by decide)) (K_Jx4a65c_add_9ea2d v111 (some a97)) (M_Jx4a65c_add_9ea2d (q_kap E) v111 (some a97)) (by exact fun v116 => (q_mo_br (M_X8_readLine_130 (q_kap E) l0 (some a97)) (q_mo_rd fun _ => q_mo_ca (M_X8_addLabel (q_kap E) l0 (some a97)) fun _v127 => (M_X8_readLine_130 (q_kap E) l0 (some a97))))) h (fun v116 σ h => ?_)
  refine q_W.st (st' := [q_I v116]) rfl ?_
  refine q_pop (pc := 119) C dX8_readLine_119 rfl ?_
  refine q_iload_n (pc := 120) C 3 rfl dX8_readLine_120 rfl ?_
  refine q_if_eq (pc := 121) (tgt := 130) C dX8_readLine_121 (by decide) h (fun _ h => ?_) (fun _ h => ?_)
  · refine q_W.sub [1, 0] rfl ?_
    exact S_X8_readLine_130 B hT l0 (some a97) _ h
  · refine q_aload_n (pc := 124) C 1 rfl dX8_readLine_124 rfl ?_
    refine q_aload (pc := 125) C 0 rfl dX8_readLine_125 ?_
    refine q_callV (pc := 127) (As := [q_R (some a97)]) (st := []) (ps := q_psV) C B.2.1 hT q_hpV qm_X8_139 qv_X8_addLabel dX8_readLine_127 rfl rfl (Nat.le_of_ble_eq_true rfl) (q_flo B.2.2.1 B.2.2.2.1 (by decide) (by decide)) (K_X8_addLabel l0 (some a97)) (M_X8_addLabel (q_kap E) l0 (some a97)) (by exact fun _v127 => (M_X8_readLine_130 (q_kap E) l0 (some a97))) h (fun _v127 σ h => ?_)
    refine q_W.st (st' := []) rfl ?_
    refine q_W.sub [1, 0] rfl ?_
    exact S_X8_readLine_130 B hT l0 (some a97) _ h
def F_X8_readLine_72 (κ : Nat → Nat) (l0 : Option Nat) (l1 : Int32) (l2 : Int32) (s0 : Int32) : q_X Unit :=
  q_rd (q_gA l0 11 0) fun v74 => q_wr (q_pF v74 12 1 (.int s0)) (q_rd (q_is l0 11) fun _ => q_ca (F_X8_sortAt κ l0 s0) fun v83 => q_br (¬ l2 = 0) (F_X8_readLine_97 κ l0 l1 l2 s0 v83) (q_br (v83 = 0) (F_X8_readLine_136 κ l0) (F_X8_readLine_97 κ l0 l1 l2 s0 v83)))
theorem M_X8_readLine_72 (κ : Nat → Nat) (l0 : Option Nat) (l1 : Int32) (l2 : Int32) (s0 : Int32) : q_mo (F_X8_readLine_72 κ l0 l1 l2 s0) := (q_mo_rd fun v74 => (q_mo_wr (q_mo_rd fun _ => q_mo_ca (M_X8_sortAt κ l0 s0) fun v83 => (q_mo_br (M_X8_readLine_97 κ l0 l1 l2 s0 v83) (q_mo_br (M_X8_readLine_136 κ l0) (M_X8_readLine_97 κ l0 l1 l2 s0 v83))))))
set_option maxRecDepth 100000 in
set_option maxHeartbeats 4000000 in
theorem S_X8_readLine_72 {E : q_Ev} {Γ : q_Gm} {w : (Unit ⊕ q_Exn) × q_St} (B : q_Bd E Γ cX8_readLine yX8_readLine.cls 6 8 193 (none) yX8_readLine.name w) (hT : q_nT Γ) (l0 : Option Nat) (l1 : Int32) (l2 : Int32) (s0 : Int32) (σ : q_St) (h : F_X8_readLine_72 (q_kap E) l0 l1 l2 s0 σ = some w) : q_W E Γ (q_QF E Γ q_oV w) 6 σ 72 [(0, q_R l0), (1, q_I l1), (2, q_I l2)] [q_I s0] := by
  have C := B.1
  unfold F_X8_readLine_72 at h
  refine q_istore_n (pc := 72) (l' := [(3, q_I s0), (0, q_R l0), (1, q_I l1), (2, q_I l2)]) C dX8_readLine_72 rfl (by decide) rfl ?_
  refine q_aload_n (pc := 73) C 1 rfl dX8_readLine_73 rfl ?_
  refine q_getA (pc := 74) C dX8_readLine_74 ql_X8_29 h (fun v74 h => ?_)
  refine q_iload_n (pc := 77) C 0 rfl dX8_readLine_77 rfl ?_
  refine q_putV (pc := 78) (v := q_I s0) C dX8_readLine_78 ql_X8_111 (Or.inl rfl) rfl rfl h (fun M78 h => ?_)
  refine q_aload_n (pc := 81) C 1 rfl dX8_readLine_81 rfl ?_
  refine q_iload_n (pc := 82) C 0 rfl dX8_readLine_82 rfl ?_
  refine q_callV (pc := 83) (As := [q_I s0]) (st := []) (ps := q_psI) C B.2.1 hT q_hpI qm_X8_129 qv_X8_sortAt dX8_readLine_83 rfl rfl (Nat.le_of_ble_eq_true rfl) (q_flo B.2.2.1 B.2.2.2.1 (by decide) (by decide)) (K_X8_sortAt l0 s0) (M_X8_sortAt (q_kap E) l0 s0) (by exact fun v83 => (q_mo_br (M_X8_readLine_97 (q_kap E) l0 l1 l2 s0 v83) (q_mo_br (M_X8_readLine_136 (q_kap E) l0) (M_X8_readLine_97 (q_kap E) l0 l1 l2 s0 v83)))) h (fun v83 σ h => ?_)
  refine q_W.st (st' := [q_I v83]) rfl ?_
  refine q_istore (pc := 86) (l' := [(4, q_I v83), (3, q_I s0), (0, q_R l0), (1, q_I l1), (2, q_I l2)]) C dX8_readLine_86 (by decide) rfl ?_
  refine q_iload_n (pc := 88) C 4 rfl dX8_readLine_88 rfl ?_
  refine q_if_ne (pc := 89) (tgt := 97) C dX8_readLine_89 (by decide) h (fun _ h => ?_) (fun _ h => ?_)
  · refine q_W.sub [2, 3, 4, 1, 0] rfl ?_
    exact S_X8_readLine_97 B hT l0 l1 l2 s0 v83 _ h
  · refine q_iload (pc := 92) C 0 rfl dX8_readLine_92 ?_
    refine q_if_eq (pc := 94) (tgt := 136) C dX8_readLine_94 (by decide) h (fun _ h => ?_) (fun _ h => ?_)
    · refine q_W.sub [2] rfl ?_
      exact S_X8_readLine_136 B hT l0 _ h
    · refine q_W.sub [2, 3, 4, 1, 0] rfl ?_
      exact S_X8_readLine_97 B hT l0 l1 l2 s0 v83 _ h
def F_X8_readLine_61 (κ : Nat → Nat) (l0 : Option Nat) (l1 : Int32) (l2 : Int32) : q_X Unit :=
  q_br (l2 = 0) (F_X8_readLine_72 κ l0 l1 l2 l1) (F_X8_readLine_72 κ l0 l1 l2 (l1 + (2 : Int32)))
theorem M_X8_readLine_61 (κ : Nat → Nat) (l0 : Option Nat) (l1 : Int32) (l2 : Int32) : q_mo (F_X8_readLine_61 κ l0 l1 l2) := (q_mo_br (M_X8_readLine_72 κ l0 l1 l2 l1) (M_X8_readLine_72 κ l0 l1 l2 (l1 + (2 : Int32))))
set_option maxRecDepth 100000 in
set_option maxHeartbeats 4000000 in
theorem S_X8_readLine_61 {E : q_Ev} {Γ : q_Gm} {w : (Unit ⊕ q_Exn) × q_St} (B : q_Bd E Γ cX8_readLine yX8_readLine.cls 6 8 193 (none) yX8_readLine.name w) (hT : q_nT Γ) (l0 : Option Nat) (l1 : Int32) (l2 : Int32) (σ : q_St) (h : F_X8_readLine_61 (q_kap E) l0 l1 l2 σ = some w) : q_W E Γ (q_QF E Γ q_oV w) 6 σ 61 [(0, q_R l0), (1, q_I l1), (2, q_I l2)] [] := by
  have C := B.1
  unfold F_X8_readLine_61 at h
  refine q_iload_n (pc := 61) C 2 rfl dX8_readLine_61 rfl ?_
  refine q_if_eq (pc := 62) (tgt := 71) C dX8_readLine_62 (by decide) h (fun _ h => ?_) (fun _ h => ?_)
  · refine q_iload_n (pc := 71) C 1 rfl dX8_readLine_71 rfl ?_
    exact S_X8_readLine_72 B hT l0 l1 l2 l1 _ h
  · refine q_iload_n (pc := 65) C 1 rfl dX8_readLine_65 rfl ?_
    refine q_iconst (pc := 66) (v := (2 : Int32)) C dX8_readLine_66 (by decide) ?_
    refine q_iadd (pc := 67) C dX8_readLine_67 ?_
    refine q_goto (pc := 68) (tgt := 72) C dX8_readLine_68 (by decide) ?_
    exact S_X8_readLine_72 B hT l0 l1 l2 (l1 + (2 : Int32)) _ h
def F_X8_readLine_38 (κ : Nat → Nat) (l0 : Option Nat) (l1 : Int32) (s0 : Int32) : q_X Unit :=
  q_br (s0 = 0) (F_X8_readLine_61 κ l0 l1 s0) (q_rd (q_is l0 11) fun _ => q_ca (F_X8_labelAt κ l0 l1) fun v45 => q_br (v45 < 0) (F_X8_readLine_61 κ l0 l1 s0) (q_rd (q_gA l0 11 0) fun v52 => q_rd (q_is v52 12) fun _ => q_ca (F_X9_fail κ v52 (2 : Int32)) fun v56 => q_rt ()))
theorem M_X8_readLine_38 (κ : Nat → Nat) (l0 : Option Nat) (l1 : Int32) (s0 : Int32) : q_mo (F_X8_readLine_38 κ l0 l1 s0) := (q_mo_br (M_X8_readLine_61 κ l0 l1 s0) (q_mo_rd fun _ => q_mo_ca (M_X8_labelAt κ l0 l1) fun v45 => (q_mo_br (M_X8_readLine_61 κ l0 l1 s0) (q_mo_rd fun v52 => (q_mo_rd fun _ => q_mo_ca (M_X9_fail κ v52 (2 : Int32)) fun v56 => q_mo_rt)))))
set_option maxRecDepth 100000 in
set_option maxHeartbeats 4000000 in
theorem S_X8_readLine_38 {E : q_Ev} {Γ : q_Gm} {w : (Unit ⊕ q_Exn) × q_St} (B : q_Bd E Γ cX8_readLine yX8_readLine.cls 6 8 193 (none) yX8_readLine.name w) (hT : q_nT Γ) (l0 : Option Nat) (l1 : Int32) (s0 : Int32) (σ : q_St) (h : F_X8_readLine_38 (q_kap E) l0 l1 s0 σ = some w) : q_W E Γ (q_QF E Γ q_oV w) 6 σ 38 [(0, q_R l0), (1, q_I l1)] [q_I s0] := by
  have C := B.1
  unfold F_X8_readLine_38 at h
  refine q_istore_n (pc := 38) (l' := [(2, q_I s0), (0, q_R l0), (1, q_I l1)]) C dX8_readLine_38 rfl (by decide) rfl ?_
  refine q_iload_n (pc := 39) C 0 rfl dX8_readLine_39 rfl ?_
  refine q_if_eq (pc := 40) (tgt := 61) C dX8_readLine_40 (by decide) h (fun _ h => ?_) (fun _ h => ?_)
  · refine q_W.sub [1, 2, 0] rfl ?_
    exact S_X8_readLine_61 B hT l0 l1 s0 _ h
  · refine q_aload_n (pc := 43) C 1 rfl dX8_readLine_43 rfl ?_
    refine q_iload_n (pc := 44) C 2 rfl dX8_readLine_44 rfl ?_
    refine q_callV (pc := 45) (As := [q_I l1]) (st := []) (ps := q_psI) C B.2.1 hT q_hpI qm_X8_121 qv_X8_labelAt dX8_readLine_45 rfl rfl (Nat.le_of_ble_eq_true rfl) (q_flo B.2.2.1 B.2.2.2.1 (by decide) (by decide)) (K_X8_labelAt l0 l1) (M_X8_labelAt (q_kap E) l0 l1) (by exact fun v45 => (q_mo_br (M_X8_readLine_61 (q_kap E) l0 l1 s0) (q_mo_rd fun v52 => (q_mo_rd fun _ => q_mo_ca (M_X9_fail (q_kap E) v52 (2 : Int32)) fun v56 => q_mo_rt)))) h (fun v45 σ h => ?_)
    refine q_W.st (st' := [q_I v45]) rfl ?_
    refine q_if_lt (pc := 48) (tgt := 61) C dX8_readLine_48 (by decide) h (fun _ h => ?_) (fun _ h => ?_)
    · refine q_W.sub [1, 2, 0] rfl ?_
      exact S_X8_readLine_61 B hT l0 l1 s0 _ h
    · refine q_aload_n (pc := 51) C 1 rfl dX8_readLine_51 rfl ?_
      refine q_getA (pc := 52) C dX8_readLine_52 ql_X8_29 h (fun v52 h => ?_)
      refine q_iconst (pc := 55) (v := (2 : Int32)) C dX8_readLine_55 (by decide) ?_
      refine q_callV (pc := 56) (As := [q_I (2 : Int32)]) (st := []) (ps := q_psI) C B.2.1 hT q_hpI qm_X8_125 qv_X9_fail dX8_readLine_56 rfl rfl (Nat.le_of_ble_eq_true rfl) (q_flo B.2.2.1 B.2.2.2.1 (by decide) (by decide)) (K_X9_fail v52 (2 : Int32)) (M_X9_fail (q_kap E) v52 (2 : Int32)) (by exact fun v56 => q_mo_rt) h (fun v56 σ h => ?_)
      refine q_W.st (st' := [q_I v56]) rfl ?_
      refine q_pop (pc := 59) C dX8_readLine_59 rfl ?_
      exact q_vret C B.2.2.2.2.1 dX8_readLine_60 h
def F_X8_readLine_37 (κ : Nat → Nat) (l0 : Option Nat) (l1 : Int32) : q_X Unit :=
  F_X8_readLine_38 κ l0 l1 (0 : Int32)
theorem M_X8_readLine_37 (κ : Nat → Nat) (l0 : Option Nat) (l1 : Int32) : q_mo (F_X8_readLine_37 κ l0 l1) := (M_X8_readLine_38 κ l0 l1 (0 : Int32))
set_option maxRecDepth 100000 in
set_option maxHeartbeats 4000000 in
theorem S_X8_readLine_37 {E : q_Ev} {Γ : q_Gm} {w : (Unit ⊕ q_Exn) × q_St} (B : q_Bd E Γ cX8_readLine yX8_readLine.cls 6 8 193 (none) yX8_readLine.name w) (hT : q_nT Γ) (l0 : Option Nat) (l1 : Int32) (σ : q_St) (h : F_X8_readLine_37 (q_kap E) l0 l1 σ = some w) : q_W E Γ (q_QF E Γ q_oV w) 6 σ 37 [(0, q_R l0), (1, q_I l1)] [] := by
  have C := B.1
  unfold F_X8_readLine_37 at h
  refine q_iconst (pc := 37) (v := (0 : Int32)) C dX8_readLine_37 (by decide) ?_
  exact S_X8_readLine_38 B hT l0 l1 (0 : Int32) _ h
def F_X8_readLine (κ : Nat → Nat) (l0 : Option Nat) : q_X Unit :=
  q_rd (q_gA l0 11 0) fun v1 => q_rd (q_gI v1 12 1) fun v4 => q_rd (q_gA l0 11 0) fun v9 => q_rd (q_is v9 12) fun _ => q_ca (F_X9_isAtName κ v9) fun v12 => q_br (v12 = 0) (F_X8_readLine_37 κ l0 v4) (q_rd (q_gA l0 11 1) fun v19 => q_rd (q_is v19 13) fun _ => q_ca (F_X10_isSign κ v19 (v4 + (1 : Int32)) (58 : Int32)) fun v27 => q_br (v27 = 0) (F_X8_readLine_37 κ l0 v4) (F_X8_readLine_38 κ l0 v4 (1 : Int32)))
theorem M_X8_readLine (κ : Nat → Nat) (l0 : Option Nat) : q_mo (F_X8_readLine κ l0) := (q_mo_rd fun v1 => (q_mo_rd fun v4 => (q_mo_rd fun v9 => (q_mo_rd fun _ => q_mo_ca (M_X9_isAtName κ v9) fun v12 => (q_mo_br (M_X8_readLine_37 κ l0 v4) (q_mo_rd fun v19 => (q_mo_rd fun _ => q_mo_ca (M_X10_isSign κ v19 (v4 + (1 : Int32)) (58 : Int32)) fun v27 => (q_mo_br (M_X8_readLine_37 κ l0 v4) (M_X8_readLine_38 κ l0 v4 (1 : Int32))))))))))
set_option maxRecDepth 100000 in
set_option maxHeartbeats 4000000 in
theorem K_X8_readLine {E : q_Ev} (l0 : Option Nat) : q_Ct E yX8_readLine (.code yX8_readLine cX8_readLine 6 (none)) 8 193 [q_R l0] q_oV (F_X8_readLine (q_kap E) l0) := by
  refine q_enter (by decide) (Nat.le_of_ble_eq_true rfl) (fun Γ σ w h B hT => ?_)
  have C := B.1
  unfold F_X8_readLine at h
  refine q_aload_n (pc := 0) C 0 rfl dX8_readLine_0 rfl ?_
  refine q_getA (pc := 1) C dX8_readLine_1 ql_X8_29 h (fun v1 h => ?_)
  refine q_getI (pc := 4) C dX8_readLine_4 ql_X8_111 h (fun v4 h => ?_)
  refine q_istore_n (pc := 7) (l' := [(1, q_I v4), (0, q_R l0)]) C dX8_readLine_7 rfl (by decide) rfl ?_
  refine q_aload_n (pc := 8) C 1 rfl dX8_readLine_8 rfl ?_
  refine q_getA (pc := 9) C dX8_readLine_9 ql_X8_29 h (fun v9 h => ?_)
  refine q_callV (pc := 12) (As := []) (st := []) (ps := q_psI) C B.2.1 hT q_hpI qm_X8_114 qv_X9_isAtName dX8_readLine_12 rfl rfl (Nat.le_of_ble_eq_true rfl) (q_flo B.2.2.1 B.2.2.2.1 (by decide) (by decide)) (K_X9_isAtName v9) (M_X9_isAtName (q_kap E) v9) (by exact fun v12 => (q_mo_br (M_X8_readLine_37 (q_kap E) l0 v4) (q_mo_rd fun v19 => (q_mo_rd fun _ => q_mo_ca (M_X10_isSign (q_kap E) v19 (v4 + (1 : Int32)) (58 : Int32)) fun v27 => (q_mo_br (M_X8_readLine_37 (q_kap E) l0 v4) (M_X8_readLine_38 (q_kap E) l0 v4 (1 : Int32))))))) h (fun v12 σ h => ?_)
  refine q_W.st (st' := [q_I v12]) rfl ?_
  refine q_if_eq (pc := 15) (tgt := 37) C dX8_readLine_15 (by decide) h (fun _ h => ?_) (fun _ h => ?_)
  · refine q_W.sub [1, 0] rfl ?_
    exact S_X8_readLine_37 B hT l0 v4 _ h
  · refine q_aload_n (pc := 18) C 1 rfl dX8_readLine_18 rfl ?_
    refine q_getA (pc := 19) C dX8_readLine_19 ql_X8_39 h (fun v19 h => ?_)
    refine q_iload_n (pc := 22) C 0 rfl dX8_readLine_22 rfl ?_
    refine q_iconst (pc := 23) (v := (1 : Int32)) C dX8_readLine_23 (by decide) ?_
    refine q_iadd (pc := 24) C dX8_readLine_24 ?_
    refine q_bipush (pc := 25) (v := (58 : Int32)) C dX8_readLine_25 (by decide) ?_
    refine q_callV (pc := 27) (As := [q_I (v4 + (1 : Int32)), q_I (58 : Int32)]) (st := []) (ps := q_psI) C B.2.1 hT q_hpI qm_X8_117 qv_X10_isSign dX8_readLine_27 rfl rfl (Nat.le_of_ble_eq_true rfl) (q_flo B.2.2.1 B.2.2.2.1 (by decide) (by decide)) (K_X10_isSign v19 (v4 + (1 : Int32)) (58 : Int32)) (M_X10_isSign (q_kap E) v19 (v4 + (1 : Int32)) (58 : Int32)) (by exact fun v27 => (q_mo_br (M_X8_readLine_37 (q_kap E) l0 v4) (M_X8_readLine_38 (q_kap E) l0 v4 (1 : Int32)))) h (fun v27 σ h => ?_)
    refine q_W.st (st' := [q_I v27]) rfl ?_
    refine q_if_eq (pc := 30) (tgt := 37) C dX8_readLine_30 (by decide) h (fun _ h => ?_) (fun _ h => ?_)
    · refine q_W.sub [1, 0] rfl ?_
      exact S_X8_readLine_37 B hT l0 v4 _ h
    · refine q_iconst (pc := 33) (v := (1 : Int32)) C dX8_readLine_33 (by decide) ?_
      refine q_goto (pc := 34) (tgt := 38) C dX8_readLine_34 (by decide) ?_
      refine q_W.sub [1, 0] rfl ?_
      exact S_X8_readLine_38 B hT l0 v4 (1 : Int32) _ h
def F_X8_read_131 (κ : Nat → Nat) (s0 : Int32) : q_X Int32 :=
  q_rz s0
theorem M_X8_read_131 (κ : Nat → Nat) (s0 : Int32) : q_mo (F_X8_read_131 κ s0) := q_mo_rz
set_option maxRecDepth 100000 in
set_option maxHeartbeats 4000000 in
theorem S_X8_read_131 {E : q_Ev} {Γ : q_Gm} {w : (Int32 ⊕ q_Exn) × q_St} (B : q_Bd E Γ cX8_read yX8_read.cls 3 9 218 (some .boolean) yX8_read.name w) (hT : q_nT Γ) (s0 : Int32) (σ : q_St) (h : F_X8_read_131 (q_kap E) s0 σ = some w) : q_W E Γ (q_QF E Γ q_oI w) 3 σ 131 [] [q_I s0] := by
  have C := B.1
  unfold F_X8_read_131 at h
  exact q_zret C B.2.2.2.2.1 dX8_read_131 h
def F_X8_read_116 (κ : Nat → Nat) (l0 : Option Nat) : q_X Int32 :=
  q_rd (q_gA l0 11 0) fun v117 => q_rd (q_is v117 12) fun _ => q_ca (F_X9_hasFault κ v117) fun v120 => q_br (¬ v120 = 0) (F_X8_read_131 κ (0 : Int32)) (F_X8_read_131 κ (1 : Int32))
theorem M_X8_read_116 (κ : Nat → Nat) (l0 : Option Nat) : q_mo (F_X8_read_116 κ l0) := (q_mo_rd fun v117 => (q_mo_rd fun _ => q_mo_ca (M_X9_hasFault κ v117) fun v120 => (q_mo_br (M_X8_read_131 κ (0 : Int32)) (M_X8_read_131 κ (1 : Int32)))))
set_option maxRecDepth 100000 in
set_option maxHeartbeats 4000000 in
theorem S_X8_read_116 {E : q_Ev} {Γ : q_Gm} {w : (Int32 ⊕ q_Exn) × q_St} (B : q_Bd E Γ cX8_read yX8_read.cls 3 9 218 (some .boolean) yX8_read.name w) (hT : q_nT Γ) (l0 : Option Nat) (σ : q_St) (h : F_X8_read_116 (q_kap E) l0 σ = some w) : q_W E Γ (q_QF E Γ q_oI w) 3 σ 116 [(0, q_R l0)] [] := by
  have C := B.1
  unfold F_X8_read_116 at h
  refine q_aload_n (pc := 116) C 0 rfl dX8_read_116 rfl ?_
  refine q_getA (pc := 117) C dX8_read_117 ql_X8_29 h (fun v117 h => ?_)
  refine q_callV (pc := 120) (As := []) (st := []) (ps := q_psI) C B.2.1 hT q_hpI qm_X8_84 qv_X9_hasFault dX8_read_120 rfl rfl (Nat.le_of_ble_eq_true rfl) (q_flo B.2.2.1 B.2.2.2.1 (by decide) (by decide)) (K_X9_hasFault v117) (M_X9_hasFault (q_kap E) v117) (by exact fun v120 => (q_mo_br (M_X8_read_131 (q_kap E) (0 : Int32)) (M_X8_read_131 (q_kap E) (1 : Int32)))) h (fun v120 σ h => ?_)
  refine q_W.st (st' := [q_I v120]) rfl ?_
  refine q_if_ne (pc := 123) (tgt := 130) C dX8_read_123 (by decide) h (fun _ h => ?_) (fun _ h => ?_)
  · refine q_iconst (pc := 130) (v := (0 : Int32)) C dX8_read_130 (by decide) ?_
    refine q_W.sub [] rfl ?_
    exact S_X8_read_131 B hT (0 : Int32) _ h
  · refine q_iconst (pc := 126) (v := (1 : Int32)) C dX8_read_126 (by decide) ?_
    refine q_goto (pc := 127) (tgt := 131) C dX8_read_127 (by decide) ?_
    refine q_W.sub [] rfl ?_
    exact S_X8_read_131 B hT (1 : Int32) _ h
def F_X8_read_110 (κ : Nat → Nat) (r43 : Option Nat → Int32 → q_X Int32) (l0 : Option Nat) (l1 : Int32) : q_X Int32 :=
  r43 l0 (l1 + (1 : Int32))
theorem M_X8_read_110 (κ : Nat → Nat) (r43 : Option Nat → Int32 → q_X Int32) (mr43 : ∀ (l0 : Option Nat) (l1 : Int32), q_mo (r43 l0 l1)) (l0 : Option Nat) (l1 : Int32) : q_mo (F_X8_read_110 κ r43 l0 l1) := (mr43 l0 (l1 + (1 : Int32)))
set_option maxRecDepth 100000 in
set_option maxHeartbeats 4000000 in
theorem S_X8_read_110 {E : q_Ev} {Γ : q_Gm} {w : (Int32 ⊕ q_Exn) × q_St} (B : q_Bd E Γ cX8_read yX8_read.cls 3 9 218 (some .boolean) yX8_read.name w) (hT : q_nT Γ) (r43 : Option Nat → Int32 → q_X Int32) (hr43 : ∀ (l0 : Option Nat) (l1 : Int32) (σ : q_St), r43 l0 l1 σ = some w → q_W E Γ (q_QF E Γ q_oI w) 3 σ 43 [(0, q_R l0), (1, q_I l1)] []) (mr43 : ∀ (l0 : Option Nat) (l1 : Int32), q_mo (r43 l0 l1)) (l0 : Option Nat) (l1 : Int32) (σ : q_St) (h : F_X8_read_110 (q_kap E) r43 l0 l1 σ = some w) : q_W E Γ (q_QF E Γ q_oI w) 3 σ 110 [(0, q_R l0), (1, q_I l1)] [] := by
  have C := B.1
  unfold F_X8_read_110 at h
  refine q_iinc (pc := 110) (v := (1 : Int32)) (l' := [(1, q_I (l1 + (1 : Int32))), (0, q_R l0)]) C 1 rfl dX8_read_110 (by decide) (by decide) rfl ?_
  refine q_goto (pc := 113) (tgt := 43) C dX8_read_113 (by decide) ?_
  refine q_W.sub [1, 0] rfl ?_
  exact hr43 l0 (l1 + (1 : Int32)) _ h
def F_X8_read_43B (κ : Nat → Nat) (r43 : Option Nat → Int32 → q_X Int32) (l0 : Option Nat) (l1 : Int32) : q_X Int32 :=
  q_rd (q_gA l0 11 4) fun v45 => q_rd (q_is v45 2) fun _ => q_ca (F_Jx4a65c_size_8abf5 κ v45) fun v48 => q_br (v48 ≤ l1) (F_X8_read_116 κ l0) (q_rd (q_gA l0 11 0) fun v55 => q_rd (q_is v55 12) fun _ => q_ca (F_X9_hasFault κ v55) fun v58 => q_br (¬ v58 = 0) (F_X8_read_116 κ l0) (q_rd (q_gA l0 11 4) fun v65 => q_rd (q_is v65 2) fun _ => q_ca (F_Jx4a65c_get_915e3 κ v65 l1) fun v69 => q_rd (q_is v69 6) fun _ => q_rd (q_gI v69 6 0) fun v77 => q_br (¬ v77 = (1 : Int32)) (F_X8_read_110 κ r43 l0 l1) (q_rd (q_is l0 11) fun _ => q_ca (F_X8_findLabelsOf κ l0 v69) fun _v86 => q_rd (q_is l0 11) fun _ => q_ca (F_X8_takeNextForm κ l0 v69) fun v91 => q_br (¬ v91 = 0) (F_X8_read_110 κ r43 l0 l1) (q_rd (q_gA l0 11 0) fun v98 => q_rd (q_gI v69 6 2) fun v104 => q_rd (q_is v98 12) fun _ => q_ca (F_X9_failAt κ v98 (6 : Int32) v104) fun _v107 => F_X8_read_110 κ r43 l0 l1))))
theorem M_X8_read_43B (κ : Nat → Nat) (r43 : Option Nat → Int32 → q_X Int32) (mr43 : ∀ (l0 : Option Nat) (l1 : Int32), q_mo (r43 l0 l1)) (l0 : Option Nat) (l1 : Int32) : q_mo (F_X8_read_43B κ r43 l0 l1) := (q_mo_rd fun v45 => (q_mo_rd fun _ => q_mo_ca (M_Jx4a65c_size_8abf5 κ v45) fun v48 => (q_mo_br (M_X8_read_116 κ l0) (q_mo_rd fun v55 => (q_mo_rd fun _ => q_mo_ca (M_X9_hasFault κ v55) fun v58 => (q_mo_br (M_X8_read_116 κ l0) (q_mo_rd fun v65 => (q_mo_rd fun _ => q_mo_ca (M_Jx4a65c_get_915e3 κ v65 l1) fun v69 => (q_mo_rd fun _ => (q_mo_rd fun v77 => (q_mo_br (M_X8_read_110 κ r43 mr43 l0 l1) (q_mo_rd fun _ => q_mo_ca (M_X8_findLabelsOf κ l0 v69) fun _v86 => (q_mo_rd fun _ => q_mo_ca (M_X8_takeNextForm κ l0 v69) fun v91 => (q_mo_br (M_X8_read_110 κ r43 mr43 l0 l1) (q_mo_rd fun v98 => (q_mo_rd fun v104 => (q_mo_rd fun _ => q_mo_ca (M_X9_failAt κ v98 (6 : Int32) v104) fun _v107 => (M_X8_read_110 κ r43 mr43 l0 l1))))))))))))))))))
set_option maxRecDepth 100000 in
set_option maxHeartbeats 4000000 in
theorem S_X8_read_43B {E : q_Ev} {Γ : q_Gm} {w : (Int32 ⊕ q_Exn) × q_St} (B : q_Bd E Γ cX8_read yX8_read.cls 3 9 218 (some .boolean) yX8_read.name w) (hT : q_nT Γ) (r43 : Option Nat → Int32 → q_X Int32) (hr43 : ∀ (l0 : Option Nat) (l1 : Int32) (σ : q_St), r43 l0 l1 σ = some w → q_W E Γ (q_QF E Γ q_oI w) 3 σ 43 [(0, q_R l0), (1, q_I l1)] []) (mr43 : ∀ (l0 : Option Nat) (l1 : Int32), q_mo (r43 l0 l1)) (l0 : Option Nat) (l1 : Int32) (σ : q_St) (h : F_X8_read_43B (q_kap E) r43 l0 l1 σ = some w) : q_W E Γ (q_QF E Γ q_oI w) 3 σ 43 [(0, q_R l0), (1, q_I l1)] [] := by
  have C := B.1
  unfold F_X8_read_43B at h
  refine q_iload_n (pc := 43) C 1 rfl dX8_read_43 rfl ?_
  refine q_aload_n (pc := 44) C 0 rfl dX8_read_44 rfl ?_
  refine q_getA (pc := 45) C dX8_read_45 ql_X8_12 h (fun v45 h => ?_)
  refine q_callV (pc := 48) (As := []) (st := [q_I l1]) (ps := q_psI) C B.2.1 hT q_hpI qm_X8_80 qv_Jx4a65c_size_8abf5 dX8_read_48 rfl rfl (Nat.le_of_ble_eq_true rfl) (q_flo B.2.2.1 B.2.2.2.1 (by decide) (by decide)) (K_Jx4a65c_size_8abf5 v45) (M_Jx4a65c_size_8abf5 (q_kap E) v45) (by exact fun v48 => (q_mo_br (M_X8_read_116 (q_kap E) l0) (q_mo_rd fun v55 => (q_mo_rd fun _ => q_mo_ca (M_X9_hasFault (q_kap E) v55) fun v58 => (q_mo_br (M_X8_read_116 (q_kap E) l0) (q_mo_rd fun v65 => (q_mo_rd fun _ => q_mo_ca (M_Jx4a65c_get_915e3 (q_kap E) v65 l1) fun v69 => (q_mo_rd fun _ => (q_mo_rd fun v77 => (q_mo_br (M_X8_read_110 (q_kap E) r43 mr43 l0 l1) (q_mo_rd fun _ => q_mo_ca (M_X8_findLabelsOf (q_kap E) l0 v69) fun _v86 => (q_mo_rd fun _ => q_mo_ca (M_X8_takeNextForm (q_kap E) l0 v69) fun v91 => (q_mo_br (M_X8_read_110 (q_kap E) r43 mr43 l0 l1) (q_mo_rd fun v98 => (q_mo_rd fun v104 => (q_mo_rd fun _ => q_mo_ca (M_X9_failAt (q_kap E) v98 (6 : Int32) v104) fun _v107 => (M_X8_read_110 (q_kap E) r43 mr43 l0 l1))))))))))))))))) h (fun v48 σ h => ?_)
  refine q_W.st (st' := [q_I v48, q_I l1]) rfl ?_
  refine q_icmp_ge (pc := 51) (tgt := 116) C dX8_read_51 (by decide) h (fun _ h => ?_) (fun _ h => ?_)
  · refine q_W.sub [0] rfl ?_
    exact S_X8_read_116 B hT l0 _ h
  · refine q_aload_n (pc := 54) C 0 rfl dX8_read_54 rfl ?_
    refine q_getA (pc := 55) C dX8_read_55 ql_X8_29 h (fun v55 h => ?_)
    refine q_callV (pc := 58) (As := []) (st := []) (ps := q_psI) C B.2.1 hT q_hpI qm_X8_84 qv_X9_hasFault dX8_read_58 rfl rfl (Nat.le_of_ble_eq_true rfl) (q_flo B.2.2.1 B.2.2.2.1 (by decide) (by decide)) (K_X9_hasFault v55) (M_X9_hasFault (q_kap E) v55) (by exact fun v58 => (q_mo_br (M_X8_read_116 (q_kap E) l0) (q_mo_rd fun v65 => (q_mo_rd fun _ => q_mo_ca (M_Jx4a65c_get_915e3 (q_kap E) v65 l1) fun v69 => (q_mo_rd fun _ => (q_mo_rd fun v77 => (q_mo_br (M_X8_read_110 (q_kap E) r43 mr43 l0 l1) (q_mo_rd fun _ => q_mo_ca (M_X8_findLabelsOf (q_kap E) l0 v69) fun _v86 => (q_mo_rd fun _ => q_mo_ca (M_X8_takeNextForm (q_kap E) l0 v69) fun v91 => (q_mo_br (M_X8_read_110 (q_kap E) r43 mr43 l0 l1) (q_mo_rd fun v98 => (q_mo_rd fun v104 => (q_mo_rd fun _ => q_mo_ca (M_X9_failAt (q_kap E) v98 (6 : Int32) v104) fun _v107 => (M_X8_read_110 (q_kap E) r43 mr43 l0 l1)))))))))))))) h (fun v58 σ h => ?_)
    refine q_W.st (st' := [q_I v58]) rfl ?_
    refine q_if_ne (pc := 61) (tgt := 116) C dX8_read_61 (by decide) h (fun _ h => ?_) (fun _ h => ?_)
    · refine q_W.sub [0] rfl ?_
      exact S_X8_read_116 B hT l0 _ h
    · refine q_aload_n (pc := 64) C 0 rfl dX8_read_64 rfl ?_
      refine q_getA (pc := 65) C dX8_read_65 ql_X8_12 h (fun v65 h => ?_)
      refine q_iload_n (pc := 68) C 1 rfl dX8_read_68 rfl ?_
      refine q_callV (pc := 69) (As := [q_I l1]) (st := []) (ps := q_psR) C B.2.1 hT q_hpR qm_X8_87 qv_Jx4a65c_get_915e3 dX8_read_69 rfl rfl (Nat.le_of_ble_eq_true rfl) (q_flo B.2.2.1 B.2.2.2.1 (by decide) (by decide)) (K_Jx4a65c_get_915e3 v65 l1) (M_Jx4a65c_get_915e3 (q_kap E) v65 l1) (by exact fun v69 => (q_mo_rd fun _ => (q_mo_rd fun v77 => (q_mo_br (M_X8_read_110 (q_kap E) r43 mr43 l0 l1) (q_mo_rd fun _ => q_mo_ca (M_X8_findLabelsOf (q_kap E) l0 v69) fun _v86 => (q_mo_rd fun _ => q_mo_ca (M_X8_takeNextForm (q_kap E) l0 v69) fun v91 => (q_mo_br (M_X8_read_110 (q_kap E) r43 mr43 l0 l1) (q_mo_rd fun v98 => (q_mo_rd fun v104 => (q_mo_rd fun _ => q_mo_ca (M_X9_failAt (q_kap E) v98 (6 : Int32) v104) fun _v107 => (M_X8_read_110 (q_kap E) r43 mr43 l0 l1))))))))))) h (fun v69 σ h => ?_)
      refine q_W.st (st' := [q_R v69]) rfl ?_
      refine q_cast (pc := 72) (ci := 6) C dX8_read_72 rfl qb_X8_91 (by decide +kernel) h (fun h => ?_)
      refine q_astore_n (pc := 75) (l' := [(2, q_R v69), (0, q_R l0), (1, q_I l1)]) C dX8_read_75 rfl (by decide) rfl ?_
      refine q_aload_n (pc := 76) C 0 rfl dX8_read_76 rfl ?_
      refine q_getI (pc := 77) C dX8_read_77 ql_X8_93 h (fun v77 h => ?_)
      refine q_iconst (pc := 80) (v := (1 : Int32)) C dX8_read_80 (by decide) ?_
      refine q_icmp_ne (pc := 81) (tgt := 110) C dX8_read_81 (by decide) h (fun _ h => ?_) (fun _ h => ?_)
      · refine q_W.sub [1, 2] rfl ?_
        exact S_X8_read_110 B hT r43 hr43 mr43 l0 l1 _ h
      · refine q_aload_n (pc := 84) C 1 rfl dX8_read_84 rfl ?_
        refine q_aload_n (pc := 85) C 0 rfl dX8_read_85 rfl ?_
        refine q_callV (pc := 86) (As := [q_R v69]) (st := []) (ps := q_psV) C B.2.1 hT q_hpV qm_X8_96 qv_X8_findLabelsOf dX8_read_86 rfl rfl (Nat.le_of_ble_eq_true rfl) (q_flo B.2.2.1 B.2.2.2.1 (by decide) (by decide)) (K_X8_findLabelsOf l0 v69) (M_X8_findLabelsOf (q_kap E) l0 v69) (by exact fun _v86 => (q_mo_rd fun _ => q_mo_ca (M_X8_takeNextForm (q_kap E) l0 v69) fun v91 => (q_mo_br (M_X8_read_110 (q_kap E) r43 mr43 l0 l1) (q_mo_rd fun v98 => (q_mo_rd fun v104 => (q_mo_rd fun _ => q_mo_ca (M_X9_failAt (q_kap E) v98 (6 : Int32) v104) fun _v107 => (M_X8_read_110 (q_kap E) r43 mr43 l0 l1))))))) h (fun _v86 σ h => ?_)
        refine q_W.st (st' := []) rfl ?_
        refine q_aload_n (pc := 89) C 1 rfl dX8_read_89 rfl ?_
        refine q_aload_n (pc := 90) C 0 rfl dX8_read_90 rfl ?_
        refine q_callV (pc := 91) (As := [q_R v69]) (st := []) (ps := q_psI) C B.2.1 hT q_hpI qm_X8_100 qv_X8_takeNextForm dX8_read_91 rfl rfl (Nat.le_of_ble_eq_true rfl) (q_flo B.2.2.1 B.2.2.2.1 (by decide) (by decide)) (K_X8_takeNextForm l0 v69) (M_X8_takeNextForm (q_kap E) l0 v69) (by exact fun v91 => (q_mo_br (M_X8_read_110 (q_kap E) r43 mr43 l0 l1) (q_mo_rd fun v98 => (q_mo_rd fun v104 => (q_mo_rd fun _ => q_mo_ca (M_X9_failAt (q_kap E) v98 (6 : Int32) v104) fun _v107 => (M_X8_read_110 (q_kap E) r43 mr43 l0 l1)))))) h (fun v91 σ h => ?_)
        refine q_W.st (st' := [q_I v91]) rfl ?_
        refine q_if_ne (pc := 94) (tgt := 110) C dX8_read_94 (by decide) h (fun _ h => ?_) (fun _ h => ?_)
        · refine q_W.sub [1, 2] rfl ?_
          exact S_X8_read_110 B hT r43 hr43 mr43 l0 l1 _ h
        · refine q_aload_n (pc := 97) C 1 rfl dX8_read_97 rfl ?_
          refine q_getA (pc := 98) C dX8_read_98 ql_X8_29 h (fun v98 h => ?_)
          refine q_bipush (pc := 101) (v := (6 : Int32)) C dX8_read_101 (by decide) ?_
          refine q_aload_n (pc := 103) C 0 rfl dX8_read_103 rfl ?_
          refine q_getI (pc := 104) C dX8_read_104 ql_X8_104 h (fun v104 h => ?_)
          refine q_callV (pc := 107) (As := [q_I (6 : Int32), q_I v104]) (st := []) (ps := q_psV) C B.2.1 hT q_hpV qm_X8_107 qv_X9_failAt dX8_read_107 rfl rfl (Nat.le_of_ble_eq_true rfl) (q_flo B.2.2.1 B.2.2.2.1 (by decide) (by decide)) (K_X9_failAt v98 (6 : Int32) v104) (M_X9_failAt (q_kap E) v98 (6 : Int32) v104) (by exact fun _v107 => (M_X8_read_110 (q_kap E) r43 mr43 l0 l1)) h (fun _v107 σ h => ?_)
          refine q_W.st (st' := []) rfl ?_
          refine q_W.sub [1, 2] rfl ?_
          exact S_X8_read_110 B hT r43 hr43 mr43 l0 l1 _ h
def F_X8_read_43 (κ : Nat → Nat) : Nat → Option Nat → Int32 → q_X Int32
  | 0, _, _ => q_no
  | n + 1, l0, l1 => F_X8_read_43B κ (F_X8_read_43 κ n) l0 l1
theorem M_X8_read_43 (κ : Nat → Nat) : ∀ (n : Nat) (l0 : Option Nat) (l1 : Int32), q_mo (F_X8_read_43 κ n l0 l1)
  | 0, _, _ => q_mo_no
  | n + 1, l0, l1 => M_X8_read_43B κ (F_X8_read_43 κ n) (M_X8_read_43 κ n) l0 l1
theorem S_X8_read_43 {E : q_Ev} {Γ : q_Gm} {w : (Int32 ⊕ q_Exn) × q_St} (B : q_Bd E Γ cX8_read yX8_read.cls 3 9 218 (some .boolean) yX8_read.name w) (hT : q_nT Γ) : ∀ (n : Nat) (l0 : Option Nat) (l1 : Int32) (σ : q_St), F_X8_read_43 (q_kap E) n l0 l1 σ = some w → q_W E Γ (q_QF E Γ q_oI w) 3 σ 43 [(0, q_R l0), (1, q_I l1)] []
  | 0, _, _, _, h => by cases h
  | n + 1, l0, l1, σ, h => S_X8_read_43B B hT (F_X8_read_43 (q_kap E) n) (S_X8_read_43 B hT n) (M_X8_read_43 (q_kap E) n) l0 l1 σ h
def F_X8_read_41 (κ : Nat → Nat) (l0 : Option Nat) : q_X Int32 :=
  F_X8_read_43 κ q_fu l0 (0 : Int32)
theorem M_X8_read_41 (κ : Nat → Nat) (l0 : Option Nat) : q_mo (F_X8_read_41 κ l0) := (M_X8_read_43 κ q_fu l0 (0 : Int32))
set_option maxRecDepth 100000 in
set_option maxHeartbeats 4000000 in
theorem S_X8_read_41 {E : q_Ev} {Γ : q_Gm} {w : (Int32 ⊕ q_Exn) × q_St} (B : q_Bd E Γ cX8_read yX8_read.cls 3 9 218 (some .boolean) yX8_read.name w) (hT : q_nT Γ) (l0 : Option Nat) (σ : q_St) (h : F_X8_read_41 (q_kap E) l0 σ = some w) : q_W E Γ (q_QF E Γ q_oI w) 3 σ 41 [(0, q_R l0)] [] := by
  have C := B.1
  unfold F_X8_read_41 at h
  refine q_iconst (pc := 41) (v := (0 : Int32)) C dX8_read_41 (by decide) ?_
  refine q_istore_n (pc := 42) (l' := [(1, q_I (0 : Int32)), (0, q_R l0)]) C dX8_read_42 rfl (by decide) rfl ?_
  refine q_W.sub [1, 0] rfl ?_
  exact S_X8_read_43 B hT q_fu l0 (0 : Int32) _ h
def F_X8_read_10B (κ : Nat → Nat) (r10 : Option Nat → Int32 → q_X Int32) (l0 : Option Nat) (l1 : Int32) : q_X Int32 :=
  q_rd (q_gA l0 11 1) fun v12 => q_rd (q_gI v12 13 6) fun v15 => q_br (v15 < l1) (F_X8_read_41 κ l0) (q_rd (q_gA l0 11 0) fun v22 => q_rd (q_is v22 12) fun _ => q_ca (F_X9_isDone κ v22) fun v25 => q_br (¬ v25 = 0) (F_X8_read_41 κ l0) (q_rd (q_is l0 11) fun _ => q_ca (F_X8_readLine κ l0) fun _v32 => r10 l0 (l1 + (1 : Int32))))
theorem M_X8_read_10B (κ : Nat → Nat) (r10 : Option Nat → Int32 → q_X Int32) (mr10 : ∀ (l0 : Option Nat) (l1 : Int32), q_mo (r10 l0 l1)) (l0 : Option Nat) (l1 : Int32) : q_mo (F_X8_read_10B κ r10 l0 l1) := (q_mo_rd fun v12 => (q_mo_rd fun v15 => (q_mo_br (M_X8_read_41 κ l0) (q_mo_rd fun v22 => (q_mo_rd fun _ => q_mo_ca (M_X9_isDone κ v22) fun v25 => (q_mo_br (M_X8_read_41 κ l0) (q_mo_rd fun _ => q_mo_ca (M_X8_readLine κ l0) fun _v32 => (mr10 l0 (l1 + (1 : Int32))))))))))
set_option maxRecDepth 100000 in
set_option maxHeartbeats 4000000 in
theorem S_X8_read_10B {E : q_Ev} {Γ : q_Gm} {w : (Int32 ⊕ q_Exn) × q_St} (B : q_Bd E Γ cX8_read yX8_read.cls 3 9 218 (some .boolean) yX8_read.name w) (hT : q_nT Γ) (r10 : Option Nat → Int32 → q_X Int32) (hr10 : ∀ (l0 : Option Nat) (l1 : Int32) (σ : q_St), r10 l0 l1 σ = some w → q_W E Γ (q_QF E Γ q_oI w) 3 σ 10 [(0, q_R l0), (1, q_I l1)] []) (mr10 : ∀ (l0 : Option Nat) (l1 : Int32), q_mo (r10 l0 l1)) (l0 : Option Nat) (l1 : Int32) (σ : q_St) (h : F_X8_read_10B (q_kap E) r10 l0 l1 σ = some w) : q_W E Γ (q_QF E Γ q_oI w) 3 σ 10 [(0, q_R l0), (1, q_I l1)] [] := by
  have C := B.1
  unfold F_X8_read_10B at h
  refine q_iload_n (pc := 10) C 1 rfl dX8_read_10 rfl ?_
  refine q_aload_n (pc := 11) C 0 rfl dX8_read_11 rfl ?_
  refine q_getA (pc := 12) C dX8_read_12 ql_X8_39 h (fun v12 h => ?_)
  refine q_getI (pc := 15) C dX8_read_15 ql_X8_68 h (fun v15 h => ?_)
  refine q_icmp_gt (pc := 18) (tgt := 41) C dX8_read_18 (by decide) h (fun _ h => ?_) (fun _ h => ?_)
  · refine q_W.sub [0] rfl ?_
    exact S_X8_read_41 B hT l0 _ h
  · refine q_aload_n (pc := 21) C 0 rfl dX8_read_21 rfl ?_
    refine q_getA (pc := 22) C dX8_read_22 ql_X8_29 h (fun v22 h => ?_)
    refine q_callV (pc := 25) (As := []) (st := []) (ps := q_psI) C B.2.1 hT q_hpI qm_X8_73 qv_X9_isDone dX8_read_25 rfl rfl (Nat.le_of_ble_eq_true rfl) (q_flo B.2.2.1 B.2.2.2.1 (by decide) (by decide)) (K_X9_isDone v22) (M_X9_isDone (q_kap E) v22) (by exact fun v25 => (q_mo_br (M_X8_read_41 (q_kap E) l0) (q_mo_rd fun _ => q_mo_ca (M_X8_readLine (q_kap E) l0) fun _v32 => (mr10 l0 (l1 + (1 : Int32)))))) h (fun v25 σ h => ?_)
    refine q_W.st (st' := [q_I v25]) rfl ?_
    refine q_if_ne (pc := 28) (tgt := 41) C dX8_read_28 (by decide) h (fun _ h => ?_) (fun _ h => ?_)
    · refine q_W.sub [0] rfl ?_
      exact S_X8_read_41 B hT l0 _ h
    · refine q_aload_n (pc := 31) C 0 rfl dX8_read_31 rfl ?_
      refine q_callV (pc := 32) (As := []) (st := []) (ps := q_psV) C B.2.1 hT q_hpV qm_X8_77 qv_X8_readLine dX8_read_32 rfl rfl (Nat.le_of_ble_eq_true rfl) (q_flo B.2.2.1 B.2.2.2.1 (by decide) (by decide)) (K_X8_readLine l0) (M_X8_readLine (q_kap E) l0) (by exact fun _v32 => (mr10 l0 (l1 + (1 : Int32)))) h (fun _v32 σ h => ?_)
      refine q_W.st (st' := []) rfl ?_
      refine q_iinc (pc := 35) (v := (1 : Int32)) (l' := [(1, q_I (l1 + (1 : Int32))), (0, q_R l0)]) C 1 rfl dX8_read_35 (by decide) (by decide) rfl ?_
      refine q_goto (pc := 38) (tgt := 10) C dX8_read_38 (by decide) ?_
      refine q_W.sub [1, 0] rfl ?_
      exact hr10 l0 (l1 + (1 : Int32)) _ h
def F_X8_read_10 (κ : Nat → Nat) : Nat → Option Nat → Int32 → q_X Int32
  | 0, _, _ => q_no
  | n + 1, l0, l1 => F_X8_read_10B κ (F_X8_read_10 κ n) l0 l1
theorem M_X8_read_10 (κ : Nat → Nat) : ∀ (n : Nat) (l0 : Option Nat) (l1 : Int32), q_mo (F_X8_read_10 κ n l0 l1)
  | 0, _, _ => q_mo_no
  | n + 1, l0, l1 => M_X8_read_10B κ (F_X8_read_10 κ n) (M_X8_read_10 κ n) l0 l1
theorem S_X8_read_10 {E : q_Ev} {Γ : q_Gm} {w : (Int32 ⊕ q_Exn) × q_St} (B : q_Bd E Γ cX8_read yX8_read.cls 3 9 218 (some .boolean) yX8_read.name w) (hT : q_nT Γ) : ∀ (n : Nat) (l0 : Option Nat) (l1 : Int32) (σ : q_St), F_X8_read_10 (q_kap E) n l0 l1 σ = some w → q_W E Γ (q_QF E Γ q_oI w) 3 σ 10 [(0, q_R l0), (1, q_I l1)] []
  | 0, _, _, _, h => by cases h
  | n + 1, l0, l1, σ, h => S_X8_read_10B B hT (F_X8_read_10 (q_kap E) n) (S_X8_read_10 B hT n) (M_X8_read_10 (q_kap E) n) l0 l1 σ h
def F_X8_read (κ : Nat → Nat) (l0 : Option Nat) : q_X Int32 :=
  q_rd (q_gA l0 11 0) fun v1 => q_rd (q_is v1 12) fun _ => q_ca (F_X9_begin κ v1 (1 : Int32)) fun _v5 => F_X8_read_10 κ q_fu l0 (0 : Int32)
theorem M_X8_read (κ : Nat → Nat) (l0 : Option Nat) : q_mo (F_X8_read κ l0) := (q_mo_rd fun v1 => (q_mo_rd fun _ => q_mo_ca (M_X9_begin κ v1 (1 : Int32)) fun _v5 => (M_X8_read_10 κ q_fu l0 (0 : Int32))))
set_option maxRecDepth 100000 in
set_option maxHeartbeats 4000000 in
theorem K_X8_read {E : q_Ev} (l0 : Option Nat) : q_Ct E yX8_read (.code yX8_read cX8_read 3 (some .boolean)) 9 218 [q_R l0] q_oI (F_X8_read (q_kap E) l0) := by
  refine q_enter (by decide) (Nat.le_of_ble_eq_true rfl) (fun Γ σ w h B hT => ?_)
  have C := B.1
  unfold F_X8_read at h
  refine q_aload_n (pc := 0) C 0 rfl dX8_read_0 rfl ?_
  refine q_getA (pc := 1) C dX8_read_1 ql_X8_29 h (fun v1 h => ?_)
  refine q_iconst (pc := 4) (v := (1 : Int32)) C dX8_read_4 (by decide) ?_
  refine q_callV (pc := 5) (As := [q_I (1 : Int32)]) (st := []) (ps := q_psV) C B.2.1 hT q_hpV qm_X8_64 qv_X9_begin dX8_read_5 rfl rfl (Nat.le_of_ble_eq_true rfl) (q_flo B.2.2.1 B.2.2.2.1 (by decide) (by decide)) (K_X9_begin v1 (1 : Int32)) (M_X9_begin (q_kap E) v1 (1 : Int32)) (by exact fun _v5 => (M_X8_read_10 (q_kap E) q_fu l0 (0 : Int32))) h (fun _v5 σ h => ?_)
  refine q_W.st (st' := []) rfl ?_
  refine q_iconst (pc := 8) (v := (0 : Int32)) C dX8_read_8 (by decide) ?_
  refine q_istore_n (pc := 9) (l' := [(1, q_I (0 : Int32)), (0, q_R l0)]) C dX8_read_9 rfl (by decide) rfl ?_
  refine q_W.sub [1, 0] rfl ?_
  exact S_X8_read_10 B hT q_fu l0 (0 : Int32) _ h
def F_X8_operandAt_185 (κ : Nat → Nat) (s0 : Int64) : q_X Int64 :=
  q_rt s0
theorem M_X8_operandAt_185 (κ : Nat → Nat) (s0 : Int64) : q_mo (F_X8_operandAt_185 κ s0) := q_mo_rt
theorem N_X8_operandAt_185 (κ : Nat → Nat) (s0 : Int64) : q_ni (F_X8_operandAt_185 κ s0) := q_ni_rt
set_option maxRecDepth 100000 in
set_option maxHeartbeats 4000000 in
theorem S_X8_operandAt_185 {E : q_Ev} {Γ : q_Gm} {w : (Int64 ⊕ q_Exn) × q_St} (B : q_Bd E Γ cX8_operandAt yX8_operandAt.cls 8 3 64 (some .long) yX8_operandAt.name w) (hT : q_nT Γ) (s0 : Int64) (σ : q_St) (h : F_X8_operandAt_185 (q_kap E) s0 σ = some w) : q_W E Γ (q_QF E Γ q_oL w) 8 σ 185 [] [q_L s0] := by
  have C := B.1
  unfold F_X8_operandAt_185 at h
  exact q_lret C B.2.2.2.2.1 dX8_operandAt_185 h
def F_X8_operandAt_131 (κ : Nat → Nat) (l0 : Option Nat) (l2 : Int32) (s0 : Int64) : q_X Int64 :=
  q_rd (q_is l0 11) fun _ => q_ca (F_X8_hasTail κ l0 l2) fun v135 => q_br (¬ v135 = 0) (q_rd (q_gA l0 11 1) fun v145 => q_rd (q_gA v145 13 4) fun v148 => q_rd (q_lL v148 (l2 + (2 : Int32))) fun v154 => q_rd (q_gA l0 11 1) fun v158 => q_rd (q_is v158 13) fun _ => q_ca (F_X10_isSign κ v158 (l2 + (1 : Int32)) (43 : Int32)) fun v166 => q_br (v166 = 0) (F_X8_operandAt_185 κ (s0 - v154)) (F_X8_operandAt_185 κ (s0 + v154))) (q_rt s0)
theorem M_X8_operandAt_131 (κ : Nat → Nat) (l0 : Option Nat) (l2 : Int32) (s0 : Int64) : q_mo (F_X8_operandAt_131 κ l0 l2 s0) := (q_mo_rd fun _ => q_mo_ca (M_X8_hasTail κ l0 l2) fun v135 => (q_mo_br (q_mo_rd fun v145 => (q_mo_rd fun v148 => (q_mo_rd fun v154 => (q_mo_rd fun v158 => (q_mo_rd fun _ => q_mo_ca (M_X10_isSign κ v158 (l2 + (1 : Int32)) (43 : Int32)) fun v166 => (q_mo_br (M_X8_operandAt_185 κ (s0 - v154)) (M_X8_operandAt_185 κ (s0 + v154)))))))) q_mo_rt))
set_option maxRecDepth 100000 in
set_option maxHeartbeats 4000000 in
theorem S_X8_operandAt_131 {E : q_Ev} {Γ : q_Gm} {w : (Int64 ⊕ q_Exn) × q_St} (B : q_Bd E Γ cX8_operandAt yX8_operandAt.cls 8 3 64 (some .long) yX8_operandAt.name w) (hT : q_nT Γ) (l0 : Option Nat) (l2 : Int32) (s0 : Int64) (σ : q_St) (h : F_X8_operandAt_131 (q_kap E) l0 l2 s0 σ = some w) : q_W E Γ (q_QF E Γ q_oL w) 8 σ 131 [(0, q_R l0), (2, q_I l2)] [q_L s0] := by
  have C := B.1
  unfold F_X8_operandAt_131 at h
  refine q_lstore (pc := 131) (l' := [(4, q_L s0), (0, q_R l0), (2, q_I l2)]) C dX8_operandAt_131 (by decide) rfl ?_
  refine q_aload_n (pc := 133) C 1 rfl dX8_operandAt_133 rfl ?_
  refine q_iload_n (pc := 134) C 2 rfl dX8_operandAt_134 rfl ?_
  refine q_callV (pc := 135) (As := [q_I l2]) (st := []) (ps := q_psI) C B.2.1 hT q_hpI qm_X8_260 qv_X8_hasTail dX8_operandAt_135 rfl rfl (Nat.le_of_ble_eq_true rfl) (q_flo B.2.2.1 B.2.2.2.1 (by decide) (by decide)) (K_X8_hasTail l0 l2) (M_X8_hasTail (q_kap E) l0 l2) (by exact fun v135 => (q_mo_br (q_mo_rd fun v145 => (q_mo_rd fun v148 => (q_mo_rd fun v154 => (q_mo_rd fun v158 => (q_mo_rd fun _ => q_mo_ca (M_X10_isSign (q_kap E) v158 (l2 + (1 : Int32)) (43 : Int32)) fun v166 => (q_mo_br (M_X8_operandAt_185 (q_kap E) (s0 - v154)) (M_X8_operandAt_185 (q_kap E) (s0 + v154)))))))) q_mo_rt)) h (fun v135 σ h => ?_)
  refine q_W.st (st' := [q_I v135]) rfl ?_
  refine q_if_ne (pc := 138) (tgt := 144) C dX8_operandAt_138 (by decide) h (fun _ h => ?_) (fun _ h => ?_)
  · refine q_aload_n (pc := 144) C 1 rfl dX8_operandAt_144 rfl ?_
    refine q_getA (pc := 145) C dX8_operandAt_145 ql_X8_39 h (fun v145 h => ?_)
    refine q_getA (pc := 148) C dX8_operandAt_148 ql_X8_202 h (fun v148 h => ?_)
    refine q_iload_n (pc := 151) C 2 rfl dX8_operandAt_151 rfl ?_
    refine q_iconst (pc := 152) (v := (2 : Int32)) C dX8_operandAt_152 (by decide) ?_
    refine q_iadd (pc := 153) C dX8_operandAt_153 ?_
    refine q_ldL (pc := 154) C dX8_operandAt_154 h (fun v154 h => ?_)
    refine q_lstore (pc := 155) (l' := [(6, q_L v154), (4, q_L s0), (0, q_R l0), (2, q_I l2)]) C dX8_operandAt_155 (by decide) rfl ?_
    refine q_aload_n (pc := 157) C 2 rfl dX8_operandAt_157 rfl ?_
    refine q_getA (pc := 158) C dX8_operandAt_158 ql_X8_39 h (fun v158 h => ?_)
    refine q_iload_n (pc := 161) C 3 rfl dX8_operandAt_161 rfl ?_
    refine q_iconst (pc := 162) (v := (1 : Int32)) C dX8_operandAt_162 (by decide) ?_
    refine q_iadd (pc := 163) C dX8_operandAt_163 ?_
    refine q_bipush (pc := 164) (v := (43 : Int32)) C dX8_operandAt_164 (by decide) ?_
    refine q_callV (pc := 166) (As := [q_I (l2 + (1 : Int32)), q_I (43 : Int32)]) (st := []) (ps := q_psI) C B.2.1 hT q_hpI qm_X8_117 qv_X10_isSign dX8_operandAt_166 rfl rfl (Nat.le_of_ble_eq_true rfl) (q_flo B.2.2.1 B.2.2.2.1 (by decide) (by decide)) (K_X10_isSign v158 (l2 + (1 : Int32)) (43 : Int32)) (M_X10_isSign (q_kap E) v158 (l2 + (1 : Int32)) (43 : Int32)) (by exact fun v166 => (q_mo_br (M_X8_operandAt_185 (q_kap E) (s0 - v154)) (M_X8_operandAt_185 (q_kap E) (s0 + v154)))) h (fun v166 σ h => ?_)
    refine q_W.st (st' := [q_I v166]) rfl ?_
    refine q_if_eq (pc := 169) (tgt := 180) C dX8_operandAt_169 (by decide) h (fun _ h => ?_) (fun _ h => ?_)
    · refine q_lload (pc := 180) C 1 rfl dX8_operandAt_180 ?_
      refine q_lload (pc := 182) C 0 rfl dX8_operandAt_182 ?_
      refine q_lsub (pc := 184) C dX8_operandAt_184 ?_
      refine q_W.sub [] rfl ?_
      exact S_X8_operandAt_185 B hT (s0 - v154) _ h
    · refine q_lload (pc := 172) C 1 rfl dX8_operandAt_172 ?_
      refine q_lload (pc := 174) C 0 rfl dX8_operandAt_174 ?_
      refine q_ladd (pc := 176) C dX8_operandAt_176 ?_
      refine q_goto (pc := 177) (tgt := 185) C dX8_operandAt_177 (by decide) ?_
      refine q_W.sub [] rfl ?_
      exact S_X8_operandAt_185 B hT (s0 + v154) _ h
  · refine q_lload (pc := 141) C 0 rfl dX8_operandAt_141 ?_
    exact q_lret C B.2.2.2.2.1 dX8_operandAt_143 h
def F_X8_operandAt_130 (κ : Nat → Nat) (l0 : Option Nat) (l2 : Int32) : q_X Int64 :=
  F_X8_operandAt_131 κ l0 l2 (0 : Int64)
theorem M_X8_operandAt_130 (κ : Nat → Nat) (l0 : Option Nat) (l2 : Int32) : q_mo (F_X8_operandAt_130 κ l0 l2) := (M_X8_operandAt_131 κ l0 l2 (0 : Int64))
set_option maxRecDepth 100000 in
set_option maxHeartbeats 4000000 in
theorem S_X8_operandAt_130 {E : q_Ev} {Γ : q_Gm} {w : (Int64 ⊕ q_Exn) × q_St} (B : q_Bd E Γ cX8_operandAt yX8_operandAt.cls 8 3 64 (some .long) yX8_operandAt.name w) (hT : q_nT Γ) (l0 : Option Nat) (l2 : Int32) (σ : q_St) (h : F_X8_operandAt_130 (q_kap E) l0 l2 σ = some w) : q_W E Γ (q_QF E Γ q_oL w) 8 σ 130 [(0, q_R l0), (2, q_I l2)] [] := by
  have C := B.1
  unfold F_X8_operandAt_130 at h
  refine q_lconst (pc := 130) (v := (0 : Int64)) C dX8_operandAt_130 (by decide) ?_
  exact S_X8_operandAt_131 B hT l0 l2 (0 : Int64) _ h
def F_X8_operandAt (κ : Nat → Nat) (l0 : Option Nat) (l1 : Option Nat) (l2 : Int32) : q_X Int64 :=
  q_rd (q_gI l1 5 0) fun v1 => q_br (¬ v1 = 0) (q_rd (q_gI l1 5 0) fun v19 => q_br (¬ v19 = (4 : Int32)) (q_rd (q_gA l0 11 1) fun v38 => q_rd (q_gA v38 13 1) fun v41 => q_rd (q_lI 0 v41 l2) fun v45 => q_br (¬ v45 = (2 : Int32)) (q_rd (q_gA l0 11 1) fun v61 => q_rd (q_gA v61 13 1) fun v64 => q_rd (q_lI 0 v64 l2) fun v68 => q_br (¬ v68 = (3 : Int32)) (q_rd (q_gA l0 11 1) fun v87 => q_rd (q_gA v87 13 4) fun v90 => q_rd (q_lL v90 l2) fun v94 => q_br (v94.toInt32 < 0) (F_X8_operandAt_130 κ l0 l2) (q_rd (q_gA l0 11 5) fun v103 => q_rd (q_is v103 2) fun _ => q_ca (F_Jx4a65c_size_8abf5 κ v103) fun v106 => q_br (v106 ≤ v94.toInt32) (F_X8_operandAt_130 κ l0 l2) (q_rd (q_gA l0 11 5) fun v113 => q_rd (q_is v113 2) fun _ => q_ca (F_Jx4a65c_get_915e3 κ v113 v94.toInt32) fun v117 => q_rd (q_is v117 6) fun _ => q_rd (q_gI v117 6 7) fun v123 => F_X8_operandAt_131 κ l0 l2 v123.toInt64))) (q_rd (q_gA l0 11 1) fun v74 => q_rd (q_gA v74 13 4) fun v77 => q_rd (q_lL v77 (l2 + (1 : Int32))) fun v83 => q_rt (-v83))) (q_rd (q_gA l0 11 1) fun v51 => q_rd (q_gA v51 13 4) fun v54 => q_rd (q_lL v54 l2) fun v58 => q_rt v58)) (q_rd (q_gA l0 11 1) fun v28 => q_rd (q_is l1 5) fun _ => q_ca (F_X2_memberAt κ l1 v28 l2) fun v32 => q_rt v32.toInt64)) (q_rd (q_gA l0 11 1) fun v9 => q_rd (q_is l1 5) fun _ => q_ca (F_X2_registerAt κ l1 v9 l2) fun v13 => q_rt v13.toInt64)
theorem M_X8_operandAt (κ : Nat → Nat) (l0 : Option Nat) (l1 : Option Nat) (l2 : Int32) : q_mo (F_X8_operandAt κ l0 l1 l2) := (q_mo_rd fun v1 => (q_mo_br (q_mo_rd fun v19 => (q_mo_br (q_mo_rd fun v38 => (q_mo_rd fun v41 => (q_mo_rd fun v45 => (q_mo_br (q_mo_rd fun v61 => (q_mo_rd fun v64 => (q_mo_rd fun v68 => (q_mo_br (q_mo_rd fun v87 => (q_mo_rd fun v90 => (q_mo_rd fun v94 => (q_mo_br (M_X8_operandAt_130 κ l0 l2) (q_mo_rd fun v103 => (q_mo_rd fun _ => q_mo_ca (M_Jx4a65c_size_8abf5 κ v103) fun v106 => (q_mo_br (M_X8_operandAt_130 κ l0 l2) (q_mo_rd fun v113 => (q_mo_rd fun _ => q_mo_ca (M_Jx4a65c_get_915e3 κ v113 v94.toInt32) fun v117 => (q_mo_rd fun _ => (q_mo_rd fun v123 => (M_X8_operandAt_131 κ l0 l2 v123.toInt64)))))))))))) (q_mo_rd fun v74 => (q_mo_rd fun v77 => (q_mo_rd fun v83 => q_mo_rt))))))) (q_mo_rd fun v51 => (q_mo_rd fun v54 => (q_mo_rd fun v58 => q_mo_rt))))))) (q_mo_rd fun v28 => (q_mo_rd fun _ => q_mo_ca (M_X2_memberAt κ l1 v28 l2) fun v32 => q_mo_rt)))) (q_mo_rd fun v9 => (q_mo_rd fun _ => q_mo_ca (M_X2_registerAt κ l1 v9 l2) fun v13 => q_mo_rt))))
set_option maxRecDepth 100000 in
set_option maxHeartbeats 4000000 in
theorem K_X8_operandAt {E : q_Ev} (l0 : Option Nat) (l1 : Option Nat) (l2 : Int32) : q_Ct E yX8_operandAt (.code yX8_operandAt cX8_operandAt 8 (some .long)) 3 64 [q_R l0, q_R l1, q_I l2] q_oL (F_X8_operandAt (q_kap E) l0 l1 l2) := by
  refine q_enter (by decide) (Nat.le_of_ble_eq_true rfl) (fun Γ σ w h B hT => ?_)
  have C := B.1
  unfold F_X8_operandAt at h
  refine q_aload_n (pc := 0) C 1 rfl dX8_operandAt_0 rfl ?_
  refine q_getI (pc := 1) C dX8_operandAt_1 ql_X8_251 h (fun v1 h => ?_)
  refine q_if_ne (pc := 4) (tgt := 18) C dX8_operandAt_4 (by decide) h (fun _ h => ?_) (fun _ h => ?_)
  · refine q_aload_n (pc := 18) C 1 rfl dX8_operandAt_18 rfl ?_
    refine q_getI (pc := 19) C dX8_operandAt_19 ql_X8_251 h (fun v19 h => ?_)
    refine q_iconst (pc := 22) (v := (4 : Int32)) C dX8_operandAt_22 (by decide) ?_
    refine q_icmp_ne (pc := 23) (tgt := 37) C dX8_operandAt_23 (by decide) h (fun _ h => ?_) (fun _ h => ?_)
    · refine q_aload_n (pc := 37) C 0 rfl dX8_operandAt_37 rfl ?_
      refine q_getA (pc := 38) C dX8_operandAt_38 ql_X8_39 h (fun v38 h => ?_)
      refine q_getA (pc := 41) C dX8_operandAt_41 ql_X8_148 h (fun v41 h => ?_)
      refine q_iload_n (pc := 44) C 2 rfl dX8_operandAt_44 rfl ?_
      refine q_ldI (pc := 45) C dX8_operandAt_45 (Or.inl ⟨rfl, rfl⟩) h (fun v45 h => ?_)
      refine q_iconst (pc := 46) (v := (2 : Int32)) C dX8_operandAt_46 (by decide) ?_
      refine q_icmp_ne (pc := 47) (tgt := 60) C dX8_operandAt_47 (by decide) h (fun _ h => ?_) (fun _ h => ?_)
      · refine q_aload_n (pc := 60) C 0 rfl dX8_operandAt_60 rfl ?_
        refine q_getA (pc := 61) C dX8_operandAt_61 ql_X8_39 h (fun v61 h => ?_)
        refine q_getA (pc := 64) C dX8_operandAt_64 ql_X8_148 h (fun v64 h => ?_)
        refine q_iload_n (pc := 67) C 2 rfl dX8_operandAt_67 rfl ?_
        refine q_ldI (pc := 68) C dX8_operandAt_68 (Or.inl ⟨rfl, rfl⟩) h (fun v68 h => ?_)
        refine q_iconst (pc := 69) (v := (3 : Int32)) C dX8_operandAt_69 (by decide) ?_
        refine q_icmp_ne (pc := 70) (tgt := 86) C dX8_operandAt_70 (by decide) h (fun _ h => ?_) (fun _ h => ?_)
        · refine q_aload_n (pc := 86) C 0 rfl dX8_operandAt_86 rfl ?_
          refine q_getA (pc := 87) C dX8_operandAt_87 ql_X8_39 h (fun v87 h => ?_)
          refine q_getA (pc := 90) C dX8_operandAt_90 ql_X8_202 h (fun v90 h => ?_)
          refine q_iload_n (pc := 93) C 2 rfl dX8_operandAt_93 rfl ?_
          refine q_ldL (pc := 94) C dX8_operandAt_94 h (fun v94 h => ?_)
          refine q_l2i (pc := 95) C dX8_operandAt_95 ?_
          refine q_istore_n (pc := 96) (l' := [(3, q_I v94.toInt32), (0, q_R l0), (1, q_R l1), (2, q_I l2)]) C dX8_operandAt_96 rfl (by decide) rfl ?_
          refine q_iload_n (pc := 97) C 0 rfl dX8_operandAt_97 rfl ?_
          refine q_if_lt (pc := 98) (tgt := 130) C dX8_operandAt_98 (by decide) h (fun _ h => ?_) (fun _ h => ?_)
          · refine q_W.sub [1, 3] rfl ?_
            exact S_X8_operandAt_130 B hT l0 l2 _ h
          · refine q_iload_n (pc := 101) C 0 rfl dX8_operandAt_101 rfl ?_
            refine q_aload_n (pc := 102) C 1 rfl dX8_operandAt_102 rfl ?_
            refine q_getA (pc := 103) C dX8_operandAt_103 ql_X8_18 h (fun v103 h => ?_)
            refine q_callV (pc := 106) (As := []) (st := [q_I v94.toInt32]) (ps := q_psI) C B.2.1 hT q_hpI qm_X8_80 qv_Jx4a65c_size_8abf5 dX8_operandAt_106 rfl rfl (Nat.le_of_ble_eq_true rfl) (q_flo B.2.2.1 B.2.2.2.1 (by decide) (by decide)) (K_Jx4a65c_size_8abf5 v103) (M_Jx4a65c_size_8abf5 (q_kap E) v103) (by exact fun v106 => (q_mo_br (M_X8_operandAt_130 (q_kap E) l0 l2) (q_mo_rd fun v113 => (q_mo_rd fun _ => q_mo_ca (M_Jx4a65c_get_915e3 (q_kap E) v113 v94.toInt32) fun v117 => (q_mo_rd fun _ => (q_mo_rd fun v123 => (M_X8_operandAt_131 (q_kap E) l0 l2 v123.toInt64))))))) h (fun v106 σ h => ?_)
            refine q_W.st (st' := [q_I v106, q_I v94.toInt32]) rfl ?_
            refine q_icmp_ge (pc := 109) (tgt := 130) C dX8_operandAt_109 (by decide) h (fun _ h => ?_) (fun _ h => ?_)
            · refine q_W.sub [1, 3] rfl ?_
              exact S_X8_operandAt_130 B hT l0 l2 _ h
            · refine q_aload_n (pc := 112) C 1 rfl dX8_operandAt_112 rfl ?_
              refine q_getA (pc := 113) C dX8_operandAt_113 ql_X8_18 h (fun v113 h => ?_)
              refine q_iload_n (pc := 116) C 0 rfl dX8_operandAt_116 rfl ?_
              refine q_callV (pc := 117) (As := [q_I v94.toInt32]) (st := []) (ps := q_psR) C B.2.1 hT q_hpR qm_X8_87 qv_Jx4a65c_get_915e3 dX8_operandAt_117 rfl rfl (Nat.le_of_ble_eq_true rfl) (q_flo B.2.2.1 B.2.2.2.1 (by decide) (by decide)) (K_Jx4a65c_get_915e3 v113 v94.toInt32) (M_Jx4a65c_get_915e3 (q_kap E) v113 v94.toInt32) (by exact fun v117 => (q_mo_rd fun _ => (q_mo_rd fun v123 => (M_X8_operandAt_131 (q_kap E) l0 l2 v123.toInt64)))) h (fun v117 σ h => ?_)
              refine q_W.st (st' := [q_R v117]) rfl ?_
              refine q_cast (pc := 120) (ci := 6) C dX8_operandAt_120 rfl qb_X8_91 (by decide +kernel) h (fun h => ?_)
              refine q_getI (pc := 123) C dX8_operandAt_123 ql_X8_263 h (fun v123 h => ?_)
              refine q_i2l (pc := 126) C dX8_operandAt_126 ?_
              refine q_goto (pc := 127) (tgt := 131) C dX8_operandAt_127 (by decide) ?_
              refine q_W.sub [1, 3] rfl ?_
              exact S_X8_operandAt_131 B hT l0 l2 v123.toInt64 _ h
        · refine q_aload_n (pc := 73) C 0 rfl dX8_operandAt_73 rfl ?_
          refine q_getA (pc := 74) C dX8_operandAt_74 ql_X8_39 h (fun v74 h => ?_)
          refine q_getA (pc := 77) C dX8_operandAt_77 ql_X8_202 h (fun v77 h => ?_)
          refine q_iload_n (pc := 80) C 2 rfl dX8_operandAt_80 rfl ?_
          refine q_iconst (pc := 81) (v := (1 : Int32)) C dX8_operandAt_81 (by decide) ?_
          refine q_iadd (pc := 82) C dX8_operandAt_82 ?_
          refine q_ldL (pc := 83) C dX8_operandAt_83 h (fun v83 h => ?_)
          refine q_lneg (pc := 84) C dX8_operandAt_84 ?_
          exact q_lret C B.2.2.2.2.1 dX8_operandAt_85 h
      · refine q_aload_n (pc := 50) C 0 rfl dX8_operandAt_50 rfl ?_
        refine q_getA (pc := 51) C dX8_operandAt_51 ql_X8_39 h (fun v51 h => ?_)
        refine q_getA (pc := 54) C dX8_operandAt_54 ql_X8_202 h (fun v54 h => ?_)
        refine q_iload_n (pc := 57) C 2 rfl dX8_operandAt_57 rfl ?_
        refine q_ldL (pc := 58) C dX8_operandAt_58 h (fun v58 h => ?_)
        exact q_lret C B.2.2.2.2.1 dX8_operandAt_59 h
    · refine q_aload_n (pc := 26) C 1 rfl dX8_operandAt_26 rfl ?_
      refine q_aload_n (pc := 27) C 0 rfl dX8_operandAt_27 rfl ?_
      refine q_getA (pc := 28) C dX8_operandAt_28 ql_X8_39 h (fun v28 h => ?_)
      refine q_iload_n (pc := 31) C 2 rfl dX8_operandAt_31 rfl ?_
      refine q_callV (pc := 32) (As := [q_R v28, q_I l2]) (st := []) (ps := q_psI) C B.2.1 hT q_hpI qm_X8_257 qv_X2_memberAt dX8_operandAt_32 rfl rfl (Nat.le_of_ble_eq_true rfl) (q_flo B.2.2.1 B.2.2.2.1 (by decide) (by decide)) (K_X2_memberAt l1 v28 l2) (M_X2_memberAt (q_kap E) l1 v28 l2) (by exact fun v32 => q_mo_rt) h (fun v32 σ h => ?_)
      refine q_W.st (st' := [q_I v32]) rfl ?_
      refine q_i2l (pc := 35) C dX8_operandAt_35 ?_
      exact q_lret C B.2.2.2.2.1 dX8_operandAt_36 h
  · refine q_aload_n (pc := 7) C 1 rfl dX8_operandAt_7 rfl ?_
    refine q_aload_n (pc := 8) C 0 rfl dX8_operandAt_8 rfl ?_
    refine q_getA (pc := 9) C dX8_operandAt_9 ql_X8_39 h (fun v9 h => ?_)
    refine q_iload_n (pc := 12) C 2 rfl dX8_operandAt_12 rfl ?_
    refine q_callV (pc := 13) (As := [q_R v9, q_I l2]) (st := []) (ps := q_psI) C B.2.1 hT q_hpI qm_X8_254 qv_X2_registerAt dX8_operandAt_13 rfl rfl (Nat.le_of_ble_eq_true rfl) (q_flo B.2.2.1 B.2.2.2.1 (by decide) (by decide)) (K_X2_registerAt l1 v9 l2) (M_X2_registerAt (q_kap E) l1 v9 l2) (by exact fun v13 => q_mo_rt) h (fun v13 σ h => ?_)
    refine q_W.st (st' := [q_I v13]) rfl ?_
    refine q_i2l (pc := 16) C dX8_operandAt_16 ?_
    exact q_lret C B.2.2.2.2.1 dX8_operandAt_17 h
def F_X8_giveAddresses_90 (κ : Nat → Nat) (r4 : Option Nat → Int32 → Int32 → q_X Unit) (l0 : Option Nat) (l1 : Int32) (l2 : Int32) : q_X Unit :=
  r4 l0 l1 (l2 + (1 : Int32))
theorem M_X8_giveAddresses_90 (κ : Nat → Nat) (r4 : Option Nat → Int32 → Int32 → q_X Unit) (mr4 : ∀ (l0 : Option Nat) (l1 : Int32) (l2 : Int32), q_mo (r4 l0 l1 l2)) (l0 : Option Nat) (l1 : Int32) (l2 : Int32) : q_mo (F_X8_giveAddresses_90 κ r4 l0 l1 l2) := (mr4 l0 l1 (l2 + (1 : Int32)))
set_option maxRecDepth 100000 in
set_option maxHeartbeats 4000000 in
theorem S_X8_giveAddresses_90 {E : q_Ev} {Γ : q_Gm} {w : (Unit ⊕ q_Exn) × q_St} (B : q_Bd E Γ cX8_giveAddresses yX8_giveAddresses.cls 4 3 64 (none) yX8_giveAddresses.name w) (hT : q_nT Γ) (r4 : Option Nat → Int32 → Int32 → q_X Unit) (hr4 : ∀ (l0 : Option Nat) (l1 : Int32) (l2 : Int32) (σ : q_St), r4 l0 l1 l2 σ = some w → q_W E Γ (q_QF E Γ q_oV w) 4 σ 4 [(0, q_R l0), (1, q_I l1), (2, q_I l2)] []) (mr4 : ∀ (l0 : Option Nat) (l1 : Int32) (l2 : Int32), q_mo (r4 l0 l1 l2)) (l0 : Option Nat) (l1 : Int32) (l2 : Int32) (σ : q_St) (h : F_X8_giveAddresses_90 (q_kap E) r4 l0 l1 l2 σ = some w) : q_W E Γ (q_QF E Γ q_oV w) 4 σ 90 [(0, q_R l0), (1, q_I l1), (2, q_I l2)] [] := by
  have C := B.1
  unfold F_X8_giveAddresses_90 at h
  refine q_iinc (pc := 90) (v := (1 : Int32)) (l' := [(2, q_I (l2 + (1 : Int32))), (0, q_R l0), (1, q_I l1)]) C 2 rfl dX8_giveAddresses_90 (by decide) (by decide) rfl ?_
  refine q_goto (pc := 93) (tgt := 4) C dX8_giveAddresses_93 (by decide) ?_
  refine q_W.sub [1, 2, 0] rfl ?_
  exact hr4 l0 l1 (l2 + (1 : Int32)) _ h
def F_X8_giveAddresses_56 (κ : Nat → Nat) (r4 : Option Nat → Int32 → Int32 → q_X Unit) (l0 : Option Nat) (l1 : Int32) (l2 : Int32) (l3 : Option Nat) : q_X Unit :=
  q_rd (q_gI l3 6 6) fun v58 => q_rd (q_gI l3 6 6) fun v64 => q_br (v64 ≤ 0) (F_X8_giveAddresses_90 κ r4 l0 (l1 + v58) l2) (q_br ((l1 + v58) ≤ (4096 : Int32)) (F_X8_giveAddresses_90 κ r4 l0 (l1 + v58) l2) (q_rd (q_gA l0 11 0) fun v78 => q_rd (q_gI l3 6 2) fun v83 => q_rd (q_is v78 12) fun _ => q_ca (F_X9_failAt κ v78 (3 : Int32) v83) fun _v86 => q_rt ()))
theorem M_X8_giveAddresses_56 (κ : Nat → Nat) (r4 : Option Nat → Int32 → Int32 → q_X Unit) (mr4 : ∀ (l0 : Option Nat) (l1 : Int32) (l2 : Int32), q_mo (r4 l0 l1 l2)) (l0 : Option Nat) (l1 : Int32) (l2 : Int32) (l3 : Option Nat) : q_mo (F_X8_giveAddresses_56 κ r4 l0 l1 l2 l3) := (q_mo_rd fun v58 => (q_mo_rd fun v64 => (q_mo_br (M_X8_giveAddresses_90 κ r4 mr4 l0 (l1 + v58) l2) (q_mo_br (M_X8_giveAddresses_90 κ r4 mr4 l0 (l1 + v58) l2) (q_mo_rd fun v78 => (q_mo_rd fun v83 => (q_mo_rd fun _ => q_mo_ca (M_X9_failAt κ v78 (3 : Int32) v83) fun _v86 => q_mo_rt)))))))
set_option maxRecDepth 100000 in
set_option maxHeartbeats 4000000 in
theorem S_X8_giveAddresses_56 {E : q_Ev} {Γ : q_Gm} {w : (Unit ⊕ q_Exn) × q_St} (B : q_Bd E Γ cX8_giveAddresses yX8_giveAddresses.cls 4 3 64 (none) yX8_giveAddresses.name w) (hT : q_nT Γ) (r4 : Option Nat → Int32 → Int32 → q_X Unit) (hr4 : ∀ (l0 : Option Nat) (l1 : Int32) (l2 : Int32) (σ : q_St), r4 l0 l1 l2 σ = some w → q_W E Γ (q_QF E Γ q_oV w) 4 σ 4 [(0, q_R l0), (1, q_I l1), (2, q_I l2)] []) (mr4 : ∀ (l0 : Option Nat) (l1 : Int32) (l2 : Int32), q_mo (r4 l0 l1 l2)) (l0 : Option Nat) (l1 : Int32) (l2 : Int32) (l3 : Option Nat) (σ : q_St) (h : F_X8_giveAddresses_56 (q_kap E) r4 l0 l1 l2 l3 σ = some w) : q_W E Γ (q_QF E Γ q_oV w) 4 σ 56 [(0, q_R l0), (1, q_I l1), (2, q_I l2), (3, q_R l3)] [] := by
  have C := B.1
  unfold F_X8_giveAddresses_56 at h
  refine q_iload_n (pc := 56) C 1 rfl dX8_giveAddresses_56 rfl ?_
  refine q_aload_n (pc := 57) C 3 rfl dX8_giveAddresses_57 rfl ?_
  refine q_getI (pc := 58) C dX8_giveAddresses_58 ql_X8_177 h (fun v58 h => ?_)
  refine q_iadd (pc := 61) C dX8_giveAddresses_61 ?_
  refine q_istore_n (pc := 62) (l' := [(1, q_I (l1 + v58)), (0, q_R l0), (2, q_I l2), (3, q_R l3)]) C dX8_giveAddresses_62 rfl (by decide) rfl ?_
  refine q_aload_n (pc := 63) C 3 rfl dX8_giveAddresses_63 rfl ?_
  refine q_getI (pc := 64) C dX8_giveAddresses_64 ql_X8_177 h (fun v64 h => ?_)
  refine q_if_le (pc := 67) (tgt := 90) C dX8_giveAddresses_67 (by decide) h (fun _ h => ?_) (fun _ h => ?_)
  · refine q_W.sub [1, 0, 2] rfl ?_
    exact S_X8_giveAddresses_90 B hT r4 hr4 mr4 l0 (l1 + v58) l2 _ h
  · refine q_iload_n (pc := 70) C 0 rfl dX8_giveAddresses_70 rfl ?_
    refine q_sipush (pc := 71) (v := (4096 : Int32)) C dX8_giveAddresses_71 (by decide) ?_
    refine q_icmp_le (pc := 74) (tgt := 90) C dX8_giveAddresses_74 (by decide) h (fun _ h => ?_) (fun _ h => ?_)
    · refine q_W.sub [1, 0, 2] rfl ?_
      exact S_X8_giveAddresses_90 B hT r4 hr4 mr4 l0 (l1 + v58) l2 _ h
    · refine q_aload_n (pc := 77) C 1 rfl dX8_giveAddresses_77 rfl ?_
      refine q_getA (pc := 78) C dX8_giveAddresses_78 ql_X8_29 h (fun v78 h => ?_)
      refine q_iconst (pc := 81) (v := (3 : Int32)) C dX8_giveAddresses_81 (by decide) ?_
      refine q_aload_n (pc := 82) C 3 rfl dX8_giveAddresses_82 rfl ?_
      refine q_getI (pc := 83) C dX8_giveAddresses_83 ql_X8_104 h (fun v83 h => ?_)
      refine q_callV (pc := 86) (As := [q_I (3 : Int32), q_I v83]) (st := []) (ps := q_psV) C B.2.1 hT q_hpV qm_X8_107 qv_X9_failAt dX8_giveAddresses_86 rfl rfl (Nat.le_of_ble_eq_true rfl) (q_flo B.2.2.1 B.2.2.2.1 (by decide) (by decide)) (K_X9_failAt v78 (3 : Int32) v83) (M_X9_failAt (q_kap E) v78 (3 : Int32) v83) (by exact fun _v86 => q_mo_rt) h (fun _v86 σ h => ?_)
      refine q_W.st (st' := []) rfl ?_
      exact q_vret C B.2.2.2.2.1 dX8_giveAddresses_89 h
def F_X8_giveAddresses_4B (κ : Nat → Nat) (r4 : Option Nat → Int32 → Int32 → q_X Unit) (l0 : Option Nat) (l1 : Int32) (l2 : Int32) : q_X Unit :=
  q_rd (q_gA l0 11 4) fun v6 => q_rd (q_is v6 2) fun _ => q_ca (F_Jx4a65c_size_8abf5 κ v6) fun v9 => q_br (v9 ≤ l2) (q_rt ()) (q_rd (q_gA l0 11 4) fun v16 => q_rd (q_is v16 2) fun _ => q_ca (F_Jx4a65c_get_915e3 κ v16 l2) fun v20 => q_rd (q_is v20 6) fun _ => q_wr (q_pF v20 6 7 (.int l1)) (q_rd (q_gI v20 6 0) fun v33 => q_br (¬ v33 = (3 : Int32)) (F_X8_giveAddresses_56 κ r4 l0 l1 l2 v20) (q_rd (q_gA l0 11 1) fun v41 => q_rd (q_gA v41 13 4) fun v44 => q_rd (q_gI v20 6 2) fun v48 => q_rd (q_lL v44 (v48 + (2 : Int32))) fun v53 => F_X8_giveAddresses_56 κ r4 l0 v53.toInt32 l2 v20)))
theorem M_X8_giveAddresses_4B (κ : Nat → Nat) (r4 : Option Nat → Int32 → Int32 → q_X Unit) (mr4 : ∀ (l0 : Option Nat) (l1 : Int32) (l2 : Int32), q_mo (r4 l0 l1 l2)) (l0 : Option Nat) (l1 : Int32) (l2 : Int32) : q_mo (F_X8_giveAddresses_4B κ r4 l0 l1 l2) := (q_mo_rd fun v6 => (q_mo_rd fun _ => q_mo_ca (M_Jx4a65c_size_8abf5 κ v6) fun v9 => (q_mo_br q_mo_rt (q_mo_rd fun v16 => (q_mo_rd fun _ => q_mo_ca (M_Jx4a65c_get_915e3 κ v16 l2) fun v20 => (q_mo_rd fun _ => (q_mo_wr (q_mo_rd fun v33 => (q_mo_br (M_X8_giveAddresses_56 κ r4 mr4 l0 l1 l2 v20) (q_mo_rd fun v41 => (q_mo_rd fun v44 => (q_mo_rd fun v48 => (q_mo_rd fun v53 => (M_X8_giveAddresses_56 κ r4 mr4 l0 v53.toInt32 l2 v20))))))))))))))
set_option maxRecDepth 100000 in
set_option maxHeartbeats 4000000 in
theorem S_X8_giveAddresses_4B {E : q_Ev} {Γ : q_Gm} {w : (Unit ⊕ q_Exn) × q_St} (B : q_Bd E Γ cX8_giveAddresses yX8_giveAddresses.cls 4 3 64 (none) yX8_giveAddresses.name w) (hT : q_nT Γ) (r4 : Option Nat → Int32 → Int32 → q_X Unit) (hr4 : ∀ (l0 : Option Nat) (l1 : Int32) (l2 : Int32) (σ : q_St), r4 l0 l1 l2 σ = some w → q_W E Γ (q_QF E Γ q_oV w) 4 σ 4 [(0, q_R l0), (1, q_I l1), (2, q_I l2)] []) (mr4 : ∀ (l0 : Option Nat) (l1 : Int32) (l2 : Int32), q_mo (r4 l0 l1 l2)) (l0 : Option Nat) (l1 : Int32) (l2 : Int32) (σ : q_St) (h : F_X8_giveAddresses_4B (q_kap E) r4 l0 l1 l2 σ = some w) : q_W E Γ (q_QF E Γ q_oV w) 4 σ 4 [(0, q_R l0), (1, q_I l1), (2, q_I l2)] [] := by
  have C := B.1
  unfold F_X8_giveAddresses_4B at h
  refine q_iload_n (pc := 4) C 2 rfl dX8_giveAddresses_4 rfl ?_
  refine q_aload_n (pc := 5) C 0 rfl dX8_giveAddresses_5 rfl ?_
  refine q_getA (pc := 6) C dX8_giveAddresses_6 ql_X8_12 h (fun v6 h => ?_)
  refine q_callV (pc := 9) (As := []) (st := [q_I l2]) (ps := q_psI) C B.2.1 hT q_hpI qm_X8_80 qv_Jx4a65c_size_8abf5 dX8_giveAddresses_9 rfl rfl (Nat.le_of_ble_eq_true rfl) (q_flo B.2.2.1 B.2.2.2.1 (by decide) (by decide)) (K_Jx4a65c_size_8abf5 v6) (M_Jx4a65c_size_8abf5 (q_kap E) v6) (by exact fun v9 => (q_mo_br q_mo_rt (q_mo_rd fun v16 => (q_mo_rd fun _ => q_mo_ca (M_Jx4a65c_get_915e3 (q_kap E) v16 l2) fun v20 => (q_mo_rd fun _ => (q_mo_wr (q_mo_rd fun v33 => (q_mo_br (M_X8_giveAddresses_56 (q_kap E) r4 mr4 l0 l1 l2 v20) (q_mo_rd fun v41 => (q_mo_rd fun v44 => (q_mo_rd fun v48 => (q_mo_rd fun v53 => (M_X8_giveAddresses_56 (q_kap E) r4 mr4 l0 v53.toInt32 l2 v20))))))))))))) h (fun v9 σ h => ?_)
  refine q_W.st (st' := [q_I v9, q_I l2]) rfl ?_
  refine q_icmp_ge (pc := 12) (tgt := 96) C dX8_giveAddresses_12 (by decide) h (fun _ h => ?_) (fun _ h => ?_)
  · exact q_vret C B.2.2.2.2.1 dX8_giveAddresses_96 h
  · refine q_aload_n (pc := 15) C 0 rfl dX8_giveAddresses_15 rfl ?_
    refine q_getA (pc := 16) C dX8_giveAddresses_16 ql_X8_12 h (fun v16 h => ?_)
    refine q_iload_n (pc := 19) C 2 rfl dX8_giveAddresses_19 rfl ?_
    refine q_callV (pc := 20) (As := [q_I l2]) (st := []) (ps := q_psR) C B.2.1 hT q_hpR qm_X8_87 qv_Jx4a65c_get_915e3 dX8_giveAddresses_20 rfl rfl (Nat.le_of_ble_eq_true rfl) (q_flo B.2.2.1 B.2.2.2.1 (by decide) (by decide)) (K_Jx4a65c_get_915e3 v16 l2) (M_Jx4a65c_get_915e3 (q_kap E) v16 l2) (by exact fun v20 => (q_mo_rd fun _ => (q_mo_wr (q_mo_rd fun v33 => (q_mo_br (M_X8_giveAddresses_56 (q_kap E) r4 mr4 l0 l1 l2 v20) (q_mo_rd fun v41 => (q_mo_rd fun v44 => (q_mo_rd fun v48 => (q_mo_rd fun v53 => (M_X8_giveAddresses_56 (q_kap E) r4 mr4 l0 v53.toInt32 l2 v20)))))))))) h (fun v20 σ h => ?_)
    refine q_W.st (st' := [q_R v20]) rfl ?_
    refine q_cast (pc := 23) (ci := 6) C dX8_giveAddresses_23 rfl qb_X8_91 (by decide +kernel) h (fun h => ?_)
    refine q_astore_n (pc := 26) (l' := [(3, q_R v20), (0, q_R l0), (1, q_I l1), (2, q_I l2)]) C dX8_giveAddresses_26 rfl (by decide) rfl ?_
    refine q_aload_n (pc := 27) C 0 rfl dX8_giveAddresses_27 rfl ?_
    refine q_iload_n (pc := 28) C 2 rfl dX8_giveAddresses_28 rfl ?_
    refine q_putV (pc := 29) (v := q_I l1) C dX8_giveAddresses_29 ql_X8_263 (Or.inl rfl) rfl rfl h (fun M29 h => ?_)
    refine q_aload_n (pc := 32) C 0 rfl dX8_giveAddresses_32 rfl ?_
    refine q_getI (pc := 33) C dX8_giveAddresses_33 ql_X8_93 h (fun v33 h => ?_)
    refine q_iconst (pc := 36) (v := (3 : Int32)) C dX8_giveAddresses_36 (by decide) ?_
    refine q_icmp_ne (pc := 37) (tgt := 56) C dX8_giveAddresses_37 (by decide) h (fun _ h => ?_) (fun _ h => ?_)
    · refine q_W.sub [1, 2, 3, 0] rfl ?_
      exact S_X8_giveAddresses_56 B hT r4 hr4 mr4 l0 l1 l2 v20 _ h
    · refine q_aload_n (pc := 40) C 1 rfl dX8_giveAddresses_40 rfl ?_
      refine q_getA (pc := 41) C dX8_giveAddresses_41 ql_X8_39 h (fun v41 h => ?_)
      refine q_getA (pc := 44) C dX8_giveAddresses_44 ql_X8_202 h (fun v44 h => ?_)
      refine q_aload_n (pc := 47) C 0 rfl dX8_giveAddresses_47 rfl ?_
      refine q_getI (pc := 48) C dX8_giveAddresses_48 ql_X8_104 h (fun v48 h => ?_)
      refine q_iconst (pc := 51) (v := (2 : Int32)) C dX8_giveAddresses_51 (by decide) ?_
      refine q_iadd (pc := 52) C dX8_giveAddresses_52 ?_
      refine q_ldL (pc := 53) C dX8_giveAddresses_53 h (fun v53 h => ?_)
      refine q_l2i (pc := 54) C dX8_giveAddresses_54 ?_
      refine q_istore_n (pc := 55) (l' := [(1, q_I v53.toInt32), (3, q_R v20), (0, q_R l0), (2, q_I l2)]) C dX8_giveAddresses_55 rfl (by decide) rfl ?_
      refine q_W.sub [2, 0, 3, 1] rfl ?_
      exact S_X8_giveAddresses_56 B hT r4 hr4 mr4 l0 v53.toInt32 l2 v20 _ h
def F_X8_giveAddresses_4 (κ : Nat → Nat) : Nat → Option Nat → Int32 → Int32 → q_X Unit
  | 0, _, _, _ => q_no
  | n + 1, l0, l1, l2 => F_X8_giveAddresses_4B κ (F_X8_giveAddresses_4 κ n) l0 l1 l2
theorem M_X8_giveAddresses_4 (κ : Nat → Nat) : ∀ (n : Nat) (l0 : Option Nat) (l1 : Int32) (l2 : Int32), q_mo (F_X8_giveAddresses_4 κ n l0 l1 l2)
  | 0, _, _, _ => q_mo_no
  | n + 1, l0, l1, l2 => M_X8_giveAddresses_4B κ (F_X8_giveAddresses_4 κ n) (M_X8_giveAddresses_4 κ n) l0 l1 l2
theorem S_X8_giveAddresses_4 {E : q_Ev} {Γ : q_Gm} {w : (Unit ⊕ q_Exn) × q_St} (B : q_Bd E Γ cX8_giveAddresses yX8_giveAddresses.cls 4 3 64 (none) yX8_giveAddresses.name w) (hT : q_nT Γ) : ∀ (n : Nat) (l0 : Option Nat) (l1 : Int32) (l2 : Int32) (σ : q_St), F_X8_giveAddresses_4 (q_kap E) n l0 l1 l2 σ = some w → q_W E Γ (q_QF E Γ q_oV w) 4 σ 4 [(0, q_R l0), (1, q_I l1), (2, q_I l2)] []
  | 0, _, _, _, _, h => by cases h
  | n + 1, l0, l1, l2, σ, h => S_X8_giveAddresses_4B B hT (F_X8_giveAddresses_4 (q_kap E) n) (S_X8_giveAddresses_4 B hT n) (M_X8_giveAddresses_4 (q_kap E) n) l0 l1 l2 σ h
def F_X8_giveAddresses (κ : Nat → Nat) (l0 : Option Nat) : q_X Unit :=
  F_X8_giveAddresses_4 κ q_fu l0 (0 : Int32) (0 : Int32)
theorem M_X8_giveAddresses (κ : Nat → Nat) (l0 : Option Nat) : q_mo (F_X8_giveAddresses κ l0) := (M_X8_giveAddresses_4 κ q_fu l0 (0 : Int32) (0 : Int32))
set_option maxRecDepth 100000 in
set_option maxHeartbeats 4000000 in
theorem K_X8_giveAddresses {E : q_Ev} (l0 : Option Nat) : q_Ct E yX8_giveAddresses (.code yX8_giveAddresses cX8_giveAddresses 4 (none)) 3 64 [q_R l0] q_oV (F_X8_giveAddresses (q_kap E) l0) := by
  refine q_enter (by decide) (Nat.le_of_ble_eq_true rfl) (fun Γ σ w h B hT => ?_)
  have C := B.1
  unfold F_X8_giveAddresses at h
  refine q_iconst (pc := 0) (v := (0 : Int32)) C dX8_giveAddresses_0 (by decide) ?_
  refine q_istore_n (pc := 1) (l' := [(1, q_I (0 : Int32)), (0, q_R l0)]) C dX8_giveAddresses_1 rfl (by decide) rfl ?_
  refine q_iconst (pc := 2) (v := (0 : Int32)) C dX8_giveAddresses_2 (by decide) ?_
  refine q_istore_n (pc := 3) (l' := [(2, q_I (0 : Int32)), (1, q_I (0 : Int32)), (0, q_R l0)]) C dX8_giveAddresses_3 rfl (by decide) rfl ?_
  refine q_W.sub [2, 1, 0] rfl ?_
  exact S_X8_giveAddresses_4 B hT q_fu l0 (0 : Int32) (0 : Int32) _ h
def F_X8_heldValue_34 (κ : Nat → Nat) (s0 : Int64) : q_X Int64 :=
  q_rt s0
theorem M_X8_heldValue_34 (κ : Nat → Nat) (s0 : Int64) : q_mo (F_X8_heldValue_34 κ s0) := q_mo_rt
theorem N_X8_heldValue_34 (κ : Nat → Nat) (s0 : Int64) : q_ni (F_X8_heldValue_34 κ s0) := q_ni_rt
set_option maxRecDepth 100000 in
set_option maxHeartbeats 4000000 in
theorem S_X8_heldValue_34 {E : q_Ev} {Γ : q_Gm} {w : (Int64 ⊕ q_Exn) × q_St} (B : q_Bd E Γ cX8_heldValue yX8_heldValue.cls 6 4 91 (some .long) yX8_heldValue.name w) (hT : q_nT Γ) (s0 : Int64) (σ : q_St) (h : F_X8_heldValue_34 (q_kap E) s0 σ = some w) : q_W E Γ (q_QF E Γ q_oL w) 6 σ 34 [] [q_L s0] := by
  have C := B.1
  unfold F_X8_heldValue_34 at h
  exact q_lret C B.2.2.2.2.1 dX8_heldValue_34 h
def F_X8_heldValue (κ : Nat → Nat) (l0 : Option Nat) (l1 : Option Nat) (l2 : Option Nat) (l3 : Int32) : q_X Int64 :=
  q_rd (q_gA l1 6 4) fun v3 => q_rd (q_lI 1 v3 l3) fun v7 => q_rd (q_is l0 11) fun _ => q_ca (F_X8_operandAt κ l0 l2 v7) fun v8 => q_rd (q_gI l2 5 0) fun v14 => q_br (¬ v14 = (3 : Int32)) (F_X8_heldValue_34 κ v8) (q_rd (q_gI l1 6 7) fun v24 => F_X8_heldValue_34 κ (v8 - v24.toInt64))
theorem M_X8_heldValue (κ : Nat → Nat) (l0 : Option Nat) (l1 : Option Nat) (l2 : Option Nat) (l3 : Int32) : q_mo (F_X8_heldValue κ l0 l1 l2 l3) := (q_mo_rd fun v3 => (q_mo_rd fun v7 => (q_mo_rd fun _ => q_mo_ca (M_X8_operandAt κ l0 l2 v7) fun v8 => (q_mo_rd fun v14 => (q_mo_br (M_X8_heldValue_34 κ v8) (q_mo_rd fun v24 => (M_X8_heldValue_34 κ (v8 - v24.toInt64))))))))
set_option maxRecDepth 100000 in
set_option maxHeartbeats 4000000 in
theorem K_X8_heldValue {E : q_Ev} (l0 : Option Nat) (l1 : Option Nat) (l2 : Option Nat) (l3 : Int32) : q_Ct E yX8_heldValue (.code yX8_heldValue cX8_heldValue 6 (some .long)) 4 91 [q_R l0, q_R l1, q_R l2, q_I l3] q_oL (F_X8_heldValue (q_kap E) l0 l1 l2 l3) := by
  refine q_enter (by decide) (Nat.le_of_ble_eq_true rfl) (fun Γ σ w h B hT => ?_)
  have C := B.1
  unfold F_X8_heldValue at h
  refine q_aload_n (pc := 0) C 0 rfl dX8_heldValue_0 rfl ?_
  refine q_aload_n (pc := 1) C 2 rfl dX8_heldValue_1 rfl ?_
  refine q_aload_n (pc := 2) C 1 rfl dX8_heldValue_2 rfl ?_
  refine q_getA (pc := 3) C dX8_heldValue_3 ql_X8_248 h (fun v3 h => ?_)
  refine q_iload_n (pc := 6) C 3 rfl dX8_heldValue_6 rfl ?_
  refine q_ldI (pc := 7) C dX8_heldValue_7 (Or.inr (Or.inl ⟨rfl, rfl⟩)) h (fun v7 h => ?_)
  refine q_callV (pc := 8) (As := [q_R l2, q_I v7]) (st := []) (ps := q_psL) C B.2.1 hT q_hpL qm_X8_290 qv_X8_operandAt dX8_heldValue_8 rfl rfl (Nat.le_of_ble_eq_true rfl) (q_flo B.2.2.1 B.2.2.2.1 (by decide) (by decide)) (K_X8_operandAt l0 l2 v7) (M_X8_operandAt (q_kap E) l0 l2 v7) (by exact fun v8 => (q_mo_rd fun v14 => (q_mo_br (M_X8_heldValue_34 (q_kap E) v8) (q_mo_rd fun v24 => (M_X8_heldValue_34 (q_kap E) (v8 - v24.toInt64)))))) h (fun v8 σ h => ?_)
  refine q_W.st (st' := [q_L v8]) rfl ?_
  refine q_lstore (pc := 11) (l' := [(4, q_L v8), (0, q_R l0), (1, q_R l1), (2, q_R l2), (3, q_I l3)]) C dX8_heldValue_11 (by decide) rfl ?_
  refine q_aload_n (pc := 13) C 3 rfl dX8_heldValue_13 rfl ?_
  refine q_getI (pc := 14) C dX8_heldValue_14 ql_X8_251 h (fun v14 h => ?_)
  refine q_iconst (pc := 17) (v := (3 : Int32)) C dX8_heldValue_17 (by decide) ?_
  refine q_icmp_ne (pc := 18) (tgt := 32) C dX8_heldValue_18 (by decide) h (fun _ h => ?_) (fun _ h => ?_)
  · refine q_lload (pc := 32) C 0 rfl dX8_heldValue_32 ?_
    refine q_W.sub [] rfl ?_
    exact S_X8_heldValue_34 B hT v8 _ h
  · refine q_lload (pc := 21) C 0 rfl dX8_heldValue_21 ?_
    refine q_aload_n (pc := 23) C 2 rfl dX8_heldValue_23 rfl ?_
    refine q_getI (pc := 24) C dX8_heldValue_24 ql_X8_263 h (fun v24 h => ?_)
    refine q_i2l (pc := 27) C dX8_heldValue_27 ?_
    refine q_lsub (pc := 28) C dX8_heldValue_28 ?_
    refine q_goto (pc := 29) (tgt := 34) C dX8_heldValue_29 (by decide) ?_
    refine q_W.sub [] rfl ?_
    exact S_X8_heldValue_34 B hT (v8 - v24.toInt64) _ h
def F_X8_fits_57 (κ : Nat → Nat) (r15 : Option Nat → Option Nat → Option Nat → Int32 → q_X Int32) (l0 : Option Nat) (l1 : Option Nat) (l2 : Option Nat) (l3 : Int32) : q_X Int32 :=
  r15 l0 l1 l2 (l3 + (1 : Int32))
theorem M_X8_fits_57 (κ : Nat → Nat) (r15 : Option Nat → Option Nat → Option Nat → Int32 → q_X Int32) (mr15 : ∀ (l0 : Option Nat) (l1 : Option Nat) (l2 : Option Nat) (l3 : Int32), q_mo (r15 l0 l1 l2 l3)) (l0 : Option Nat) (l1 : Option Nat) (l2 : Option Nat) (l3 : Int32) : q_mo (F_X8_fits_57 κ r15 l0 l1 l2 l3) := (mr15 l0 l1 l2 (l3 + (1 : Int32)))
set_option maxRecDepth 100000 in
set_option maxHeartbeats 4000000 in
theorem S_X8_fits_57 {E : q_Ev} {Γ : q_Gm} {w : (Int32 ⊕ q_Exn) × q_St} (B : q_Bd E Γ cX8_fits yX8_fits.cls 5 5 116 (some .boolean) yX8_fits.name w) (hT : q_nT Γ) (r15 : Option Nat → Option Nat → Option Nat → Int32 → q_X Int32) (hr15 : ∀ (l0 : Option Nat) (l1 : Option Nat) (l2 : Option Nat) (l3 : Int32) (σ : q_St), r15 l0 l1 l2 l3 σ = some w → q_W E Γ (q_QF E Γ q_oI w) 5 σ 15 [(0, q_R l0), (1, q_R l1), (2, q_R l2), (3, q_I l3)] []) (mr15 : ∀ (l0 : Option Nat) (l1 : Option Nat) (l2 : Option Nat) (l3 : Int32), q_mo (r15 l0 l1 l2 l3)) (l0 : Option Nat) (l1 : Option Nat) (l2 : Option Nat) (l3 : Int32) (σ : q_St) (h : F_X8_fits_57 (q_kap E) r15 l0 l1 l2 l3 σ = some w) : q_W E Γ (q_QF E Γ q_oI w) 5 σ 57 [(0, q_R l0), (1, q_R l1), (2, q_R l2), (3, q_I l3)] [] := by
  have C := B.1
  unfold F_X8_fits_57 at h
  refine q_iinc (pc := 57) (v := (1 : Int32)) (l' := [(3, q_I (l3 + (1 : Int32))), (0, q_R l0), (1, q_R l1), (2, q_R l2)]) C 3 rfl dX8_fits_57 (by decide) (by decide) rfl ?_
  refine q_goto (pc := 60) (tgt := 15) C dX8_fits_60 (by decide) ?_
  refine q_W.sub [1, 2, 3, 0] rfl ?_
  exact hr15 l0 l1 l2 (l3 + (1 : Int32)) _ h
def F_X8_fits_15B (κ : Nat → Nat) (r15 : Option Nat → Option Nat → Option Nat → Int32 → q_X Int32) (l0 : Option Nat) (l1 : Option Nat) (l2 : Option Nat) (l3 : Int32) : q_X Int32 :=
  q_rd (q_gI l2 4 8) fun v17 => q_br (v17 ≤ l3) (q_rz (1 : Int32)) (q_rd (q_gA l2 4 3) fun v24 => q_rd (q_lA 5 v24 l3) fun v28 => q_rd (q_is v28 5) fun _ => q_ca (F_X2_isNumber κ v28) fun v33 => q_br (v33 = 0) (F_X8_fits_57 κ r15 l0 l1 l2 l3) (q_rd (q_is l0 11) fun _ => q_ca (F_X8_heldValue κ l0 l1 v28 l3) fun v46 => q_rd (q_is v28 5) fun _ => q_ca (F_X2_holds κ v28 v46) fun v49 => q_br (¬ v49 = 0) (F_X8_fits_57 κ r15 l0 l1 l2 l3) (q_rz (0 : Int32))))
theorem M_X8_fits_15B (κ : Nat → Nat) (r15 : Option Nat → Option Nat → Option Nat → Int32 → q_X Int32) (mr15 : ∀ (l0 : Option Nat) (l1 : Option Nat) (l2 : Option Nat) (l3 : Int32), q_mo (r15 l0 l1 l2 l3)) (l0 : Option Nat) (l1 : Option Nat) (l2 : Option Nat) (l3 : Int32) : q_mo (F_X8_fits_15B κ r15 l0 l1 l2 l3) := (q_mo_rd fun v17 => (q_mo_br q_mo_rz (q_mo_rd fun v24 => (q_mo_rd fun v28 => (q_mo_rd fun _ => q_mo_ca (M_X2_isNumber κ v28) fun v33 => (q_mo_br (M_X8_fits_57 κ r15 mr15 l0 l1 l2 l3) (q_mo_rd fun _ => q_mo_ca (M_X8_heldValue κ l0 l1 v28 l3) fun v46 => (q_mo_rd fun _ => q_mo_ca (M_X2_holds κ v28 v46) fun v49 => (q_mo_br (M_X8_fits_57 κ r15 mr15 l0 l1 l2 l3) q_mo_rz)))))))))
set_option maxRecDepth 100000 in
set_option maxHeartbeats 4000000 in
theorem S_X8_fits_15B {E : q_Ev} {Γ : q_Gm} {w : (Int32 ⊕ q_Exn) × q_St} (B : q_Bd E Γ cX8_fits yX8_fits.cls 5 5 116 (some .boolean) yX8_fits.name w) (hT : q_nT Γ) (r15 : Option Nat → Option Nat → Option Nat → Int32 → q_X Int32) (hr15 : ∀ (l0 : Option Nat) (l1 : Option Nat) (l2 : Option Nat) (l3 : Int32) (σ : q_St), r15 l0 l1 l2 l3 σ = some w → q_W E Γ (q_QF E Γ q_oI w) 5 σ 15 [(0, q_R l0), (1, q_R l1), (2, q_R l2), (3, q_I l3)] []) (mr15 : ∀ (l0 : Option Nat) (l1 : Option Nat) (l2 : Option Nat) (l3 : Int32), q_mo (r15 l0 l1 l2 l3)) (l0 : Option Nat) (l1 : Option Nat) (l2 : Option Nat) (l3 : Int32) (σ : q_St) (h : F_X8_fits_15B (q_kap E) r15 l0 l1 l2 l3 σ = some w) : q_W E Γ (q_QF E Γ q_oI w) 5 σ 15 [(0, q_R l0), (1, q_R l1), (2, q_R l2), (3, q_I l3)] [] := by
  have C := B.1
  unfold F_X8_fits_15B at h
  refine q_iload_n (pc := 15) C 3 rfl dX8_fits_15 rfl ?_
  refine q_aload_n (pc := 16) C 2 rfl dX8_fits_16 rfl ?_
  refine q_getI (pc := 17) C dX8_fits_17 ql_X8_276 h (fun v17 h => ?_)
  refine q_icmp_ge (pc := 20) (tgt := 63) C dX8_fits_20 (by decide) h (fun _ h => ?_) (fun _ h => ?_)
  · refine q_iconst (pc := 63) (v := (1 : Int32)) C dX8_fits_63 (by decide) ?_
    exact q_zret C B.2.2.2.2.1 dX8_fits_64 h
  · refine q_aload_n (pc := 23) C 2 rfl dX8_fits_23 rfl ?_
    refine q_getA (pc := 24) C dX8_fits_24 ql_X8_240 h (fun v24 h => ?_)
    refine q_iload_n (pc := 27) C 3 rfl dX8_fits_27 rfl ?_
    refine q_ldA (pc := 28) C dX8_fits_28 ⟨_, rfl⟩ h (fun v28 h => ?_)
    refine q_astore (pc := 29) (l' := [(4, q_R v28), (0, q_R l0), (1, q_R l1), (2, q_R l2), (3, q_I l3)]) C dX8_fits_29 (by decide) rfl ?_
    refine q_aload (pc := 31) C 0 rfl dX8_fits_31 ?_
    refine q_callV (pc := 33) (As := []) (st := []) (ps := q_psI) C B.2.1 hT q_hpI qm_X8_279 qv_X2_isNumber dX8_fits_33 rfl rfl (Nat.le_of_ble_eq_true rfl) (q_flo B.2.2.1 B.2.2.2.1 (by decide) (by decide)) (K_X2_isNumber v28) (M_X2_isNumber (q_kap E) v28) (by exact fun v33 => (q_mo_br (M_X8_fits_57 (q_kap E) r15 mr15 l0 l1 l2 l3) (q_mo_rd fun _ => q_mo_ca (M_X8_heldValue (q_kap E) l0 l1 v28 l3) fun v46 => (q_mo_rd fun _ => q_mo_ca (M_X2_holds (q_kap E) v28 v46) fun v49 => (q_mo_br (M_X8_fits_57 (q_kap E) r15 mr15 l0 l1 l2 l3) q_mo_rz))))) h (fun v33 σ h => ?_)
    refine q_W.st (st' := [q_I v33]) rfl ?_
    refine q_if_eq (pc := 36) (tgt := 57) C dX8_fits_36 (by decide) h (fun _ h => ?_) (fun _ h => ?_)
    · refine q_W.sub [1, 2, 3, 4] rfl ?_
      exact S_X8_fits_57 B hT r15 hr15 mr15 l0 l1 l2 l3 _ h
    · refine q_aload (pc := 39) C 0 rfl dX8_fits_39 ?_
      refine q_aload_n (pc := 41) C 1 rfl dX8_fits_41 rfl ?_
      refine q_aload_n (pc := 42) C 2 rfl dX8_fits_42 rfl ?_
      refine q_aload (pc := 43) C 0 rfl dX8_fits_43 ?_
      refine q_iload_n (pc := 45) C 4 rfl dX8_fits_45 rfl ?_
      refine q_callV (pc := 46) (As := [q_R l1, q_R v28, q_I l3]) (st := [q_R v28]) (ps := q_psL) C B.2.1 hT q_hpL qm_X8_282 qv_X8_heldValue dX8_fits_46 rfl rfl (Nat.le_of_ble_eq_true rfl) (q_flo B.2.2.1 B.2.2.2.1 (by decide) (by decide)) (K_X8_heldValue l0 l1 v28 l3) (M_X8_heldValue (q_kap E) l0 l1 v28 l3) (by exact fun v46 => (q_mo_rd fun _ => q_mo_ca (M_X2_holds (q_kap E) v28 v46) fun v49 => (q_mo_br (M_X8_fits_57 (q_kap E) r15 mr15 l0 l1 l2 l3) q_mo_rz))) h (fun v46 σ h => ?_)
      refine q_W.st (st' := [q_L v46, q_R v28]) rfl ?_
      refine q_callV (pc := 49) (As := [q_L v46]) (st := []) (ps := q_psI) C B.2.1 hT q_hpI qm_X8_286 qv_X2_holds dX8_fits_49 rfl rfl (Nat.le_of_ble_eq_true rfl) (q_flo B.2.2.1 B.2.2.2.1 (by decide) (by decide)) (K_X2_holds v28 v46) (M_X2_holds (q_kap E) v28 v46) (by exact fun v49 => (q_mo_br (M_X8_fits_57 (q_kap E) r15 mr15 l0 l1 l2 l3) q_mo_rz)) h (fun v49 σ h => ?_)
      refine q_W.st (st' := [q_I v49]) rfl ?_
      refine q_if_ne (pc := 52) (tgt := 57) C dX8_fits_52 (by decide) h (fun _ h => ?_) (fun _ h => ?_)
      · refine q_W.sub [1, 2, 3, 4] rfl ?_
        exact S_X8_fits_57 B hT r15 hr15 mr15 l0 l1 l2 l3 _ h
      · refine q_iconst (pc := 55) (v := (0 : Int32)) C dX8_fits_55 (by decide) ?_
        exact q_zret C B.2.2.2.2.1 dX8_fits_56 h
def F_X8_fits_15 (κ : Nat → Nat) : Nat → Option Nat → Option Nat → Option Nat → Int32 → q_X Int32
  | 0, _, _, _, _ => q_no
  | n + 1, l0, l1, l2, l3 => F_X8_fits_15B κ (F_X8_fits_15 κ n) l0 l1 l2 l3
theorem M_X8_fits_15 (κ : Nat → Nat) : ∀ (n : Nat) (l0 : Option Nat) (l1 : Option Nat) (l2 : Option Nat) (l3 : Int32), q_mo (F_X8_fits_15 κ n l0 l1 l2 l3)
  | 0, _, _, _, _ => q_mo_no
  | n + 1, l0, l1, l2, l3 => M_X8_fits_15B κ (F_X8_fits_15 κ n) (M_X8_fits_15 κ n) l0 l1 l2 l3
theorem S_X8_fits_15 {E : q_Ev} {Γ : q_Gm} {w : (Int32 ⊕ q_Exn) × q_St} (B : q_Bd E Γ cX8_fits yX8_fits.cls 5 5 116 (some .boolean) yX8_fits.name w) (hT : q_nT Γ) : ∀ (n : Nat) (l0 : Option Nat) (l1 : Option Nat) (l2 : Option Nat) (l3 : Int32) (σ : q_St), F_X8_fits_15 (q_kap E) n l0 l1 l2 l3 σ = some w → q_W E Γ (q_QF E Γ q_oI w) 5 σ 15 [(0, q_R l0), (1, q_R l1), (2, q_R l2), (3, q_I l3)] []
  | 0, _, _, _, _, _, h => by cases h
  | n + 1, l0, l1, l2, l3, σ, h => S_X8_fits_15B B hT (F_X8_fits_15 (q_kap E) n) (S_X8_fits_15 B hT n) (M_X8_fits_15 (q_kap E) n) l0 l1 l2 l3 σ h
def F_X8_fits (κ : Nat → Nat) (l0 : Option Nat) (l1 : Option Nat) : q_X Int32 :=
  q_rd (q_gA l0 11 2) fun v1 => q_rd (q_gA v1 8 1) fun v4 => q_rd (q_gI l1 6 5) fun v8 => q_rd (q_lA 4 v4 v8) fun v11 => F_X8_fits_15 κ q_fu l0 l1 v11 (0 : Int32)
theorem M_X8_fits (κ : Nat → Nat) (l0 : Option Nat) (l1 : Option Nat) : q_mo (F_X8_fits κ l0 l1) := (q_mo_rd fun v1 => (q_mo_rd fun v4 => (q_mo_rd fun v8 => (q_mo_rd fun v11 => (M_X8_fits_15 κ q_fu l0 l1 v11 (0 : Int32))))))
set_option maxRecDepth 100000 in
set_option maxHeartbeats 4000000 in
theorem K_X8_fits {E : q_Ev} (l0 : Option Nat) (l1 : Option Nat) : q_Ct E yX8_fits (.code yX8_fits cX8_fits 5 (some .boolean)) 5 116 [q_R l0, q_R l1] q_oI (F_X8_fits (q_kap E) l0 l1) := by
  refine q_enter (by decide) (Nat.le_of_ble_eq_true rfl) (fun Γ σ w h B hT => ?_)
  have C := B.1
  unfold F_X8_fits at h
  refine q_aload_n (pc := 0) C 0 rfl dX8_fits_0 rfl ?_
  refine q_getA (pc := 1) C dX8_fits_1 ql_X8_40 h (fun v1 h => ?_)
  refine q_getA (pc := 4) C dX8_fits_4 ql_X8_211 h (fun v4 h => ?_)
  refine q_aload_n (pc := 7) C 1 rfl dX8_fits_7 rfl ?_
  refine q_getI (pc := 8) C dX8_fits_8 ql_X8_205 h (fun v8 h => ?_)
  refine q_ldA (pc := 11) C dX8_fits_11 ⟨_, rfl⟩ h (fun v11 h => ?_)
  refine q_astore_n (pc := 12) (l' := [(2, q_R v11), (0, q_R l0), (1, q_R l1)]) C dX8_fits_12 rfl (by decide) rfl ?_
  refine q_iconst (pc := 13) (v := (0 : Int32)) C dX8_fits_13 (by decide) ?_
  refine q_istore_n (pc := 14) (l' := [(3, q_I (0 : Int32)), (2, q_R v11), (0, q_R l0), (1, q_R l1)]) C dX8_fits_14 rfl (by decide) rfl ?_
  refine q_W.sub [2, 3, 1, 0] rfl ?_
  exact S_X8_fits_15 B hT q_fu l0 l1 v11 (0 : Int32) _ h
def F_X8_moveMisfits_68 (κ : Nat → Nat) (r4 : Option Nat → Int32 → Int32 → q_X Int32) (l0 : Option Nat) (l1 : Int32) (l2 : Int32) : q_X Int32 :=
  r4 l0 l1 (l2 + (1 : Int32))
theorem M_X8_moveMisfits_68 (κ : Nat → Nat) (r4 : Option Nat → Int32 → Int32 → q_X Int32) (mr4 : ∀ (l0 : Option Nat) (l1 : Int32) (l2 : Int32), q_mo (r4 l0 l1 l2)) (l0 : Option Nat) (l1 : Int32) (l2 : Int32) : q_mo (F_X8_moveMisfits_68 κ r4 l0 l1 l2) := (mr4 l0 l1 (l2 + (1 : Int32)))
set_option maxRecDepth 100000 in
set_option maxHeartbeats 4000000 in
theorem S_X8_moveMisfits_68 {E : q_Ev} {Γ : q_Gm} {w : (Int32 ⊕ q_Exn) × q_St} (B : q_Bd E Γ cX8_moveMisfits yX8_moveMisfits.cls 4 6 140 (some .boolean) yX8_moveMisfits.name w) (hT : q_nT Γ) (r4 : Option Nat → Int32 → Int32 → q_X Int32) (hr4 : ∀ (l0 : Option Nat) (l1 : Int32) (l2 : Int32) (σ : q_St), r4 l0 l1 l2 σ = some w → q_W E Γ (q_QF E Γ q_oI w) 4 σ 4 [(0, q_R l0), (1, q_I l1), (2, q_I l2)] []) (mr4 : ∀ (l0 : Option Nat) (l1 : Int32) (l2 : Int32), q_mo (r4 l0 l1 l2)) (l0 : Option Nat) (l1 : Int32) (l2 : Int32) (σ : q_St) (h : F_X8_moveMisfits_68 (q_kap E) r4 l0 l1 l2 σ = some w) : q_W E Γ (q_QF E Γ q_oI w) 4 σ 68 [(0, q_R l0), (1, q_I l1), (2, q_I l2)] [] := by
  have C := B.1
  unfold F_X8_moveMisfits_68 at h
  refine q_iinc (pc := 68) (v := (1 : Int32)) (l' := [(2, q_I (l2 + (1 : Int32))), (0, q_R l0), (1, q_I l1)]) C 2 rfl dX8_moveMisfits_68 (by decide) (by decide) rfl ?_
  refine q_goto (pc := 71) (tgt := 4) C dX8_moveMisfits_71 (by decide) ?_
  refine q_W.sub [1, 2, 0] rfl ?_
  exact hr4 l0 l1 (l2 + (1 : Int32)) _ h
def F_X8_moveMisfits_4B (κ : Nat → Nat) (r4 : Option Nat → Int32 → Int32 → q_X Int32) (l0 : Option Nat) (l1 : Int32) (l2 : Int32) : q_X Int32 :=
  q_rd (q_gA l0 11 4) fun v6 => q_rd (q_is v6 2) fun _ => q_ca (F_Jx4a65c_size_8abf5 κ v6) fun v9 => q_br (v9 ≤ l2) (q_rz l1) (q_rd (q_gA l0 11 4) fun v16 => q_rd (q_is v16 2) fun _ => q_ca (F_Jx4a65c_get_915e3 κ v16 l2) fun v20 => q_rd (q_is v20 6) fun _ => q_rd (q_gI v20 6 0) fun v28 => q_br (¬ v28 = (1 : Int32)) (F_X8_moveMisfits_68 κ r4 l0 l1 l2) (q_rd (q_is l0 11) fun _ => q_ca (F_X8_fits κ l0 v20) fun v37 => q_br (¬ v37 = 0) (F_X8_moveMisfits_68 κ r4 l0 l1 l2) (q_rd (q_is l0 11) fun _ => q_ca (F_X8_takeNextForm κ l0 v20) fun v47 => q_br (¬ v47 = 0) (F_X8_moveMisfits_68 κ r4 l0 (1 : Int32) l2) (q_rd (q_gA l0 11 0) fun v54 => q_rd (q_gI v20 6 2) fun v60 => q_rd (q_is v54 12) fun _ => q_ca (F_X9_failAt κ v54 (7 : Int32) v60) fun _v63 => q_rz (1 : Int32)))))
theorem M_X8_moveMisfits_4B (κ : Nat → Nat) (r4 : Option Nat → Int32 → Int32 → q_X Int32) (mr4 : ∀ (l0 : Option Nat) (l1 : Int32) (l2 : Int32), q_mo (r4 l0 l1 l2)) (l0 : Option Nat) (l1 : Int32) (l2 : Int32) : q_mo (F_X8_moveMisfits_4B κ r4 l0 l1 l2) := (q_mo_rd fun v6 => (q_mo_rd fun _ => q_mo_ca (M_Jx4a65c_size_8abf5 κ v6) fun v9 => (q_mo_br q_mo_rz (q_mo_rd fun v16 => (q_mo_rd fun _ => q_mo_ca (M_Jx4a65c_get_915e3 κ v16 l2) fun v20 => (q_mo_rd fun _ => (q_mo_rd fun v28 => (q_mo_br (M_X8_moveMisfits_68 κ r4 mr4 l0 l1 l2) (q_mo_rd fun _ => q_mo_ca (M_X8_fits κ l0 v20) fun v37 => (q_mo_br (M_X8_moveMisfits_68 κ r4 mr4 l0 l1 l2) (q_mo_rd fun _ => q_mo_ca (M_X8_takeNextForm κ l0 v20) fun v47 => (q_mo_br (M_X8_moveMisfits_68 κ r4 mr4 l0 (1 : Int32) l2) (q_mo_rd fun v54 => (q_mo_rd fun v60 => (q_mo_rd fun _ => q_mo_ca (M_X9_failAt κ v54 (7 : Int32) v60) fun _v63 => q_mo_rz)))))))))))))))
set_option maxRecDepth 100000 in
set_option maxHeartbeats 4000000 in
theorem S_X8_moveMisfits_4B {E : q_Ev} {Γ : q_Gm} {w : (Int32 ⊕ q_Exn) × q_St} (B : q_Bd E Γ cX8_moveMisfits yX8_moveMisfits.cls 4 6 140 (some .boolean) yX8_moveMisfits.name w) (hT : q_nT Γ) (r4 : Option Nat → Int32 → Int32 → q_X Int32) (hr4 : ∀ (l0 : Option Nat) (l1 : Int32) (l2 : Int32) (σ : q_St), r4 l0 l1 l2 σ = some w → q_W E Γ (q_QF E Γ q_oI w) 4 σ 4 [(0, q_R l0), (1, q_I l1), (2, q_I l2)] []) (mr4 : ∀ (l0 : Option Nat) (l1 : Int32) (l2 : Int32), q_mo (r4 l0 l1 l2)) (l0 : Option Nat) (l1 : Int32) (l2 : Int32) (σ : q_St) (h : F_X8_moveMisfits_4B (q_kap E) r4 l0 l1 l2 σ = some w) : q_W E Γ (q_QF E Γ q_oI w) 4 σ 4 [(0, q_R l0), (1, q_I l1), (2, q_I l2)] [] := by
  have C := B.1
  unfold F_X8_moveMisfits_4B at h
  refine q_iload_n (pc := 4) C 2 rfl dX8_moveMisfits_4 rfl ?_
  refine q_aload_n (pc := 5) C 0 rfl dX8_moveMisfits_5 rfl ?_
  refine q_getA (pc := 6) C dX8_moveMisfits_6 ql_X8_12 h (fun v6 h => ?_)
  refine q_callV (pc := 9) (As := []) (st := [q_I l2]) (ps := q_psI) C B.2.1 hT q_hpI qm_X8_80 qv_Jx4a65c_size_8abf5 dX8_moveMisfits_9 rfl rfl (Nat.le_of_ble_eq_true rfl) (q_flo B.2.2.1 B.2.2.2.1 (by decide) (by decide)) (K_Jx4a65c_size_8abf5 v6) (M_Jx4a65c_size_8abf5 (q_kap E) v6) (by exact fun v9 => (q_mo_br q_mo_rz (q_mo_rd fun v16 => (q_mo_rd fun _ => q_mo_ca (M_Jx4a65c_get_915e3 (q_kap E) v16 l2) fun v20 => (q_mo_rd fun _ => (q_mo_rd fun v28 => (q_mo_br (M_X8_moveMisfits_68 (q_kap E) r4 mr4 l0 l1 l2) (q_mo_rd fun _ => q_mo_ca (M_X8_fits (q_kap E) l0 v20) fun v37 => (q_mo_br (M_X8_moveMisfits_68 (q_kap E) r4 mr4 l0 l1 l2) (q_mo_rd fun _ => q_mo_ca (M_X8_takeNextForm (q_kap E) l0 v20) fun v47 => (q_mo_br (M_X8_moveMisfits_68 (q_kap E) r4 mr4 l0 (1 : Int32) l2) (q_mo_rd fun v54 => (q_mo_rd fun v60 => (q_mo_rd fun _ => q_mo_ca (M_X9_failAt (q_kap E) v54 (7 : Int32) v60) fun _v63 => q_mo_rz)))))))))))))) h (fun v9 σ h => ?_)
  refine q_W.st (st' := [q_I v9, q_I l2]) rfl ?_
  refine q_icmp_ge (pc := 12) (tgt := 74) C dX8_moveMisfits_12 (by decide) h (fun _ h => ?_) (fun _ h => ?_)
  · refine q_iload_n (pc := 74) C 1 rfl dX8_moveMisfits_74 rfl ?_
    exact q_zret C B.2.2.2.2.1 dX8_moveMisfits_75 h
  · refine q_aload_n (pc := 15) C 0 rfl dX8_moveMisfits_15 rfl ?_
    refine q_getA (pc := 16) C dX8_moveMisfits_16 ql_X8_12 h (fun v16 h => ?_)
    refine q_iload_n (pc := 19) C 2 rfl dX8_moveMisfits_19 rfl ?_
    refine q_callV (pc := 20) (As := [q_I l2]) (st := []) (ps := q_psR) C B.2.1 hT q_hpR qm_X8_87 qv_Jx4a65c_get_915e3 dX8_moveMisfits_20 rfl rfl (Nat.le_of_ble_eq_true rfl) (q_flo B.2.2.1 B.2.2.2.1 (by decide) (by decide)) (K_Jx4a65c_get_915e3 v16 l2) (M_Jx4a65c_get_915e3 (q_kap E) v16 l2) (by exact fun v20 => (q_mo_rd fun _ => (q_mo_rd fun v28 => (q_mo_br (M_X8_moveMisfits_68 (q_kap E) r4 mr4 l0 l1 l2) (q_mo_rd fun _ => q_mo_ca (M_X8_fits (q_kap E) l0 v20) fun v37 => (q_mo_br (M_X8_moveMisfits_68 (q_kap E) r4 mr4 l0 l1 l2) (q_mo_rd fun _ => q_mo_ca (M_X8_takeNextForm (q_kap E) l0 v20) fun v47 => (q_mo_br (M_X8_moveMisfits_68 (q_kap E) r4 mr4 l0 (1 : Int32) l2) (q_mo_rd fun v54 => (q_mo_rd fun v60 => (q_mo_rd fun _ => q_mo_ca (M_X9_failAt (q_kap E) v54 (7 : Int32) v60) fun _v63 => q_mo_rz))))))))))) h (fun v20 σ h => ?_)
    refine q_W.st (st' := [q_R v20]) rfl ?_
    refine q_cast (pc := 23) (ci := 6) C dX8_moveMisfits_23 rfl qb_X8_91 (by decide +kernel) h (fun h => ?_)
    refine q_astore_n (pc := 26) (l' := [(3, q_R v20), (0, q_R l0), (1, q_I l1), (2, q_I l2)]) C dX8_moveMisfits_26 rfl (by decide) rfl ?_
    refine q_aload_n (pc := 27) C 0 rfl dX8_moveMisfits_27 rfl ?_
    refine q_getI (pc := 28) C dX8_moveMisfits_28 ql_X8_93 h (fun v28 h => ?_)
    refine q_iconst (pc := 31) (v := (1 : Int32)) C dX8_moveMisfits_31 (by decide) ?_
    refine q_icmp_ne (pc := 32) (tgt := 68) C dX8_moveMisfits_32 (by decide) h (fun _ h => ?_) (fun _ h => ?_)
    · refine q_W.sub [1, 2, 3] rfl ?_
      exact S_X8_moveMisfits_68 B hT r4 hr4 mr4 l0 l1 l2 _ h
    · refine q_aload_n (pc := 35) C 1 rfl dX8_moveMisfits_35 rfl ?_
      refine q_aload_n (pc := 36) C 0 rfl dX8_moveMisfits_36 rfl ?_
      refine q_callV (pc := 37) (As := [q_R v20]) (st := []) (ps := q_psI) C B.2.1 hT q_hpI qm_X8_273 qv_X8_fits dX8_moveMisfits_37 rfl rfl (Nat.le_of_ble_eq_true rfl) (q_flo B.2.2.1 B.2.2.2.1 (by decide) (by decide)) (K_X8_fits l0 v20) (M_X8_fits (q_kap E) l0 v20) (by exact fun v37 => (q_mo_br (M_X8_moveMisfits_68 (q_kap E) r4 mr4 l0 l1 l2) (q_mo_rd fun _ => q_mo_ca (M_X8_takeNextForm (q_kap E) l0 v20) fun v47 => (q_mo_br (M_X8_moveMisfits_68 (q_kap E) r4 mr4 l0 (1 : Int32) l2) (q_mo_rd fun v54 => (q_mo_rd fun v60 => (q_mo_rd fun _ => q_mo_ca (M_X9_failAt (q_kap E) v54 (7 : Int32) v60) fun _v63 => q_mo_rz))))))) h (fun v37 σ h => ?_)
      refine q_W.st (st' := [q_I v37]) rfl ?_
      refine q_if_ne (pc := 40) (tgt := 68) C dX8_moveMisfits_40 (by decide) h (fun _ h => ?_) (fun _ h => ?_)
      · refine q_W.sub [1, 2, 3] rfl ?_
        exact S_X8_moveMisfits_68 B hT r4 hr4 mr4 l0 l1 l2 _ h
      · refine q_iconst (pc := 43) (v := (1 : Int32)) C dX8_moveMisfits_43 (by decide) ?_
        refine q_istore_n (pc := 44) (l' := [(1, q_I (1 : Int32)), (3, q_R v20), (0, q_R l0), (2, q_I l2)]) C dX8_moveMisfits_44 rfl (by decide) rfl ?_
        refine q_aload_n (pc := 45) C 2 rfl dX8_moveMisfits_45 rfl ?_
        refine q_aload_n (pc := 46) C 1 rfl dX8_moveMisfits_46 rfl ?_
        refine q_callV (pc := 47) (As := [q_R v20]) (st := []) (ps := q_psI) C B.2.1 hT q_hpI qm_X8_100 qv_X8_takeNextForm dX8_moveMisfits_47 rfl rfl (Nat.le_of_ble_eq_true rfl) (q_flo B.2.2.1 B.2.2.2.1 (by decide) (by decide)) (K_X8_takeNextForm l0 v20) (M_X8_takeNextForm (q_kap E) l0 v20) (by exact fun v47 => (q_mo_br (M_X8_moveMisfits_68 (q_kap E) r4 mr4 l0 (1 : Int32) l2) (q_mo_rd fun v54 => (q_mo_rd fun v60 => (q_mo_rd fun _ => q_mo_ca (M_X9_failAt (q_kap E) v54 (7 : Int32) v60) fun _v63 => q_mo_rz))))) h (fun v47 σ h => ?_)
        refine q_W.st (st' := [q_I v47]) rfl ?_
        refine q_if_ne (pc := 50) (tgt := 68) C dX8_moveMisfits_50 (by decide) h (fun _ h => ?_) (fun _ h => ?_)
        · refine q_W.sub [2, 0, 3] rfl ?_
          exact S_X8_moveMisfits_68 B hT r4 hr4 mr4 l0 (1 : Int32) l2 _ h
        · refine q_aload_n (pc := 53) C 2 rfl dX8_moveMisfits_53 rfl ?_
          refine q_getA (pc := 54) C dX8_moveMisfits_54 ql_X8_29 h (fun v54 h => ?_)
          refine q_bipush (pc := 57) (v := (7 : Int32)) C dX8_moveMisfits_57 (by decide) ?_
          refine q_aload_n (pc := 59) C 1 rfl dX8_moveMisfits_59 rfl ?_
          refine q_getI (pc := 60) C dX8_moveMisfits_60 ql_X8_104 h (fun v60 h => ?_)
          refine q_callV (pc := 63) (As := [q_I (7 : Int32), q_I v60]) (st := []) (ps := q_psV) C B.2.1 hT q_hpV qm_X8_107 qv_X9_failAt dX8_moveMisfits_63 rfl rfl (Nat.le_of_ble_eq_true rfl) (q_flo B.2.2.1 B.2.2.2.1 (by decide) (by decide)) (K_X9_failAt v54 (7 : Int32) v60) (M_X9_failAt (q_kap E) v54 (7 : Int32) v60) (by exact fun _v63 => q_mo_rz) h (fun _v63 σ h => ?_)
          refine q_W.st (st' := []) rfl ?_
          refine q_iconst (pc := 66) (v := (1 : Int32)) C dX8_moveMisfits_66 (by decide) ?_
          exact q_zret C B.2.2.2.2.1 dX8_moveMisfits_67 h
def F_X8_moveMisfits_4 (κ : Nat → Nat) : Nat → Option Nat → Int32 → Int32 → q_X Int32
  | 0, _, _, _ => q_no
  | n + 1, l0, l1, l2 => F_X8_moveMisfits_4B κ (F_X8_moveMisfits_4 κ n) l0 l1 l2
theorem M_X8_moveMisfits_4 (κ : Nat → Nat) : ∀ (n : Nat) (l0 : Option Nat) (l1 : Int32) (l2 : Int32), q_mo (F_X8_moveMisfits_4 κ n l0 l1 l2)
  | 0, _, _, _ => q_mo_no
  | n + 1, l0, l1, l2 => M_X8_moveMisfits_4B κ (F_X8_moveMisfits_4 κ n) (M_X8_moveMisfits_4 κ n) l0 l1 l2
theorem S_X8_moveMisfits_4 {E : q_Ev} {Γ : q_Gm} {w : (Int32 ⊕ q_Exn) × q_St} (B : q_Bd E Γ cX8_moveMisfits yX8_moveMisfits.cls 4 6 140 (some .boolean) yX8_moveMisfits.name w) (hT : q_nT Γ) : ∀ (n : Nat) (l0 : Option Nat) (l1 : Int32) (l2 : Int32) (σ : q_St), F_X8_moveMisfits_4 (q_kap E) n l0 l1 l2 σ = some w → q_W E Γ (q_QF E Γ q_oI w) 4 σ 4 [(0, q_R l0), (1, q_I l1), (2, q_I l2)] []
  | 0, _, _, _, _, h => by cases h
  | n + 1, l0, l1, l2, σ, h => S_X8_moveMisfits_4B B hT (F_X8_moveMisfits_4 (q_kap E) n) (S_X8_moveMisfits_4 B hT n) (M_X8_moveMisfits_4 (q_kap E) n) l0 l1 l2 σ h
def F_X8_moveMisfits (κ : Nat → Nat) (l0 : Option Nat) : q_X Int32 :=
  F_X8_moveMisfits_4 κ q_fu l0 (0 : Int32) (0 : Int32)
theorem M_X8_moveMisfits (κ : Nat → Nat) (l0 : Option Nat) : q_mo (F_X8_moveMisfits κ l0) := (M_X8_moveMisfits_4 κ q_fu l0 (0 : Int32) (0 : Int32))
set_option maxRecDepth 100000 in
set_option maxHeartbeats 4000000 in
theorem K_X8_moveMisfits {E : q_Ev} (l0 : Option Nat) : q_Ct E yX8_moveMisfits (.code yX8_moveMisfits cX8_moveMisfits 4 (some .boolean)) 6 140 [q_R l0] q_oI (F_X8_moveMisfits (q_kap E) l0) := by
  refine q_enter (by decide) (Nat.le_of_ble_eq_true rfl) (fun Γ σ w h B hT => ?_)
  have C := B.1
  unfold F_X8_moveMisfits at h
  refine q_iconst (pc := 0) (v := (0 : Int32)) C dX8_moveMisfits_0 (by decide) ?_
  refine q_istore_n (pc := 1) (l' := [(1, q_I (0 : Int32)), (0, q_R l0)]) C dX8_moveMisfits_1 rfl (by decide) rfl ?_
  refine q_iconst (pc := 2) (v := (0 : Int32)) C dX8_moveMisfits_2 (by decide) ?_
  refine q_istore_n (pc := 3) (l' := [(2, q_I (0 : Int32)), (1, q_I (0 : Int32)), (0, q_R l0)]) C dX8_moveMisfits_3 rfl (by decide) rfl ?_
  refine q_W.sub [2, 1, 0] rfl ?_
  exact S_X8_moveMisfits_4 B hT q_fu l0 (0 : Int32) (0 : Int32) _ h
def F_X8_settle_67 (κ : Nat → Nat) : q_X Int32 :=
  q_rz (0 : Int32)
theorem M_X8_settle_67 (κ : Nat → Nat) : q_mo (F_X8_settle_67 κ) := q_mo_rz
set_option maxRecDepth 100000 in
set_option maxHeartbeats 4000000 in
theorem S_X8_settle_67 {E : q_Ev} {Γ : q_Gm} {w : (Int32 ⊕ q_Exn) × q_St} (B : q_Bd E Γ cX8_settle yX8_settle.cls 2 7 163 (some .boolean) yX8_settle.name w) (hT : q_nT Γ) (σ : q_St) (h : F_X8_settle_67 (q_kap E) σ = some w) : q_W E Γ (q_QF E Γ q_oI w) 2 σ 67 [] [] := by
  have C := B.1
  unfold F_X8_settle_67 at h
  refine q_iconst (pc := 67) (v := (0 : Int32)) C dX8_settle_67 (by decide) ?_
  exact q_zret C B.2.2.2.2.1 dX8_settle_68 h
def F_X8_settle_61 (κ : Nat → Nat) (r2 : Option Nat → Int32 → q_X Int32) (l0 : Option Nat) (l1 : Int32) : q_X Int32 :=
  r2 l0 (l1 + (1 : Int32))
theorem M_X8_settle_61 (κ : Nat → Nat) (r2 : Option Nat → Int32 → q_X Int32) (mr2 : ∀ (l0 : Option Nat) (l1 : Int32), q_mo (r2 l0 l1)) (l0 : Option Nat) (l1 : Int32) : q_mo (F_X8_settle_61 κ r2 l0 l1) := (mr2 l0 (l1 + (1 : Int32)))
set_option maxRecDepth 100000 in
set_option maxHeartbeats 4000000 in
theorem S_X8_settle_61 {E : q_Ev} {Γ : q_Gm} {w : (Int32 ⊕ q_Exn) × q_St} (B : q_Bd E Γ cX8_settle yX8_settle.cls 2 7 163 (some .boolean) yX8_settle.name w) (hT : q_nT Γ) (r2 : Option Nat → Int32 → q_X Int32) (hr2 : ∀ (l0 : Option Nat) (l1 : Int32) (σ : q_St), r2 l0 l1 σ = some w → q_W E Γ (q_QF E Γ q_oI w) 2 σ 2 [(0, q_R l0), (1, q_I l1)] []) (mr2 : ∀ (l0 : Option Nat) (l1 : Int32), q_mo (r2 l0 l1)) (l0 : Option Nat) (l1 : Int32) (σ : q_St) (h : F_X8_settle_61 (q_kap E) r2 l0 l1 σ = some w) : q_W E Γ (q_QF E Γ q_oI w) 2 σ 61 [(0, q_R l0), (1, q_I l1)] [] := by
  have C := B.1
  unfold F_X8_settle_61 at h
  refine q_iinc (pc := 61) (v := (1 : Int32)) (l' := [(1, q_I (l1 + (1 : Int32))), (0, q_R l0)]) C 1 rfl dX8_settle_61 (by decide) (by decide) rfl ?_
  refine q_goto (pc := 64) (tgt := 2) C dX8_settle_64 (by decide) ?_
  refine q_W.sub [1, 0] rfl ?_
  exact hr2 l0 (l1 + (1 : Int32)) _ h
def F_X8_settle_60 (κ : Nat → Nat) (s0 : Int32) : q_X Int32 :=
  q_rz s0
theorem M_X8_settle_60 (κ : Nat → Nat) (s0 : Int32) : q_mo (F_X8_settle_60 κ s0) := q_mo_rz
set_option maxRecDepth 100000 in
set_option maxHeartbeats 4000000 in
theorem S_X8_settle_60 {E : q_Ev} {Γ : q_Gm} {w : (Int32 ⊕ q_Exn) × q_St} (B : q_Bd E Γ cX8_settle yX8_settle.cls 2 7 163 (some .boolean) yX8_settle.name w) (hT : q_nT Γ) (s0 : Int32) (σ : q_St) (h : F_X8_settle_60 (q_kap E) s0 σ = some w) : q_W E Γ (q_QF E Γ q_oI w) 2 σ 60 [] [q_I s0] := by
  have C := B.1
  unfold F_X8_settle_60 at h
  exact q_zret C B.2.2.2.2.1 dX8_settle_60 h
def F_X8_settle_2B (κ : Nat → Nat) (r2 : Option Nat → Int32 → q_X Int32) (l0 : Option Nat) (l1 : Int32) : q_X Int32 :=
  q_br ((1000000 : Int32) < l1) (F_X8_settle_67 κ) (q_rd (q_gA l0 11 0) fun v10 => q_rd (q_is v10 12) fun _ => q_ca (F_X9_hasFault κ v10) fun v13 => q_br (¬ v13 = 0) (F_X8_settle_67 κ) (q_rd (q_is l0 11) fun _ => q_ca (F_X8_giveAddresses κ l0) fun _v20 => q_rd (q_gA l0 11 0) fun v24 => q_rd (q_is v24 12) fun _ => q_ca (F_X9_hasFault κ v24) fun v27 => q_br (¬ v27 = 0) (F_X8_settle_61 κ r2 l0 l1) (q_rd (q_is l0 11) fun _ => q_ca (F_X8_moveMisfits κ l0) fun v34 => q_br (¬ v34 = 0) (F_X8_settle_61 κ r2 l0 l1) (q_wr (q_pF l0 11 8 (.int l1)) (q_rd (q_gA l0 11 0) fun v46 => q_rd (q_is v46 12) fun _ => q_ca (F_X9_hasFault κ v46) fun v49 => q_br (¬ v49 = 0) (F_X8_settle_60 κ (0 : Int32)) (F_X8_settle_60 κ (1 : Int32)))))))
theorem M_X8_settle_2B (κ : Nat → Nat) (r2 : Option Nat → Int32 → q_X Int32) (mr2 : ∀ (l0 : Option Nat) (l1 : Int32), q_mo (r2 l0 l1)) (l0 : Option Nat) (l1 : Int32) : q_mo (F_X8_settle_2B κ r2 l0 l1) := (q_mo_br (M_X8_settle_67 κ) (q_mo_rd fun v10 => (q_mo_rd fun _ => q_mo_ca (M_X9_hasFault κ v10) fun v13 => (q_mo_br (M_X8_settle_67 κ) (q_mo_rd fun _ => q_mo_ca (M_X8_giveAddresses κ l0) fun _v20 => (q_mo_rd fun v24 => (q_mo_rd fun _ => q_mo_ca (M_X9_hasFault κ v24) fun v27 => (q_mo_br (M_X8_settle_61 κ r2 mr2 l0 l1) (q_mo_rd fun _ => q_mo_ca (M_X8_moveMisfits κ l0) fun v34 => (q_mo_br (M_X8_settle_61 κ r2 mr2 l0 l1) (q_mo_wr (q_mo_rd fun v46 => (q_mo_rd fun _ => q_mo_ca (M_X9_hasFault κ v46) fun v49 => (q_mo_br (M_X8_settle_60 κ (0 : Int32)) (M_X8_settle_60 κ (1 : Int32))))))))))))))))
set_option maxRecDepth 100000 in
set_option maxHeartbeats 4000000 in
theorem S_X8_settle_2B {E : q_Ev} {Γ : q_Gm} {w : (Int32 ⊕ q_Exn) × q_St} (B : q_Bd E Γ cX8_settle yX8_settle.cls 2 7 163 (some .boolean) yX8_settle.name w) (hT : q_nT Γ) (r2 : Option Nat → Int32 → q_X Int32) (hr2 : ∀ (l0 : Option Nat) (l1 : Int32) (σ : q_St), r2 l0 l1 σ = some w → q_W E Γ (q_QF E Γ q_oI w) 2 σ 2 [(0, q_R l0), (1, q_I l1)] []) (mr2 : ∀ (l0 : Option Nat) (l1 : Int32), q_mo (r2 l0 l1)) (l0 : Option Nat) (l1 : Int32) (σ : q_St) (h : F_X8_settle_2B (q_kap E) r2 l0 l1 σ = some w) : q_W E Γ (q_QF E Γ q_oI w) 2 σ 2 [(0, q_R l0), (1, q_I l1)] [] := by
  have C := B.1
  unfold F_X8_settle_2B at h
  refine q_iload_n (pc := 2) C 1 rfl dX8_settle_2 rfl ?_
  refine q_ldcwI (pc := 3) (v := (1000000 : Int32)) C dX8_settle_3 qc_X8_266 ?_
  refine q_icmp_gt (pc := 6) (tgt := 67) C dX8_settle_6 (by decide) h (fun _ h => ?_) (fun _ h => ?_)
  · refine q_W.sub [] rfl ?_
    exact S_X8_settle_67 B hT _ h
  · refine q_aload_n (pc := 9) C 0 rfl dX8_settle_9 rfl ?_
    refine q_getA (pc := 10) C dX8_settle_10 ql_X8_29 h (fun v10 h => ?_)
    refine q_callV (pc := 13) (As := []) (st := []) (ps := q_psI) C B.2.1 hT q_hpI qm_X8_84 qv_X9_hasFault dX8_settle_13 rfl rfl (Nat.le_of_ble_eq_true rfl) (q_flo B.2.2.1 B.2.2.2.1 (by decide) (by decide)) (K_X9_hasFault v10) (M_X9_hasFault (q_kap E) v10) (by exact fun v13 => (q_mo_br (M_X8_settle_67 (q_kap E)) (q_mo_rd fun _ => q_mo_ca (M_X8_giveAddresses (q_kap E) l0) fun _v20 => (q_mo_rd fun v24 => (q_mo_rd fun _ => q_mo_ca (M_X9_hasFault (q_kap E) v24) fun v27 => (q_mo_br (M_X8_settle_61 (q_kap E) r2 mr2 l0 l1) (q_mo_rd fun _ => q_mo_ca (M_X8_moveMisfits (q_kap E) l0) fun v34 => (q_mo_br (M_X8_settle_61 (q_kap E) r2 mr2 l0 l1) (q_mo_wr (q_mo_rd fun v46 => (q_mo_rd fun _ => q_mo_ca (M_X9_hasFault (q_kap E) v46) fun v49 => (q_mo_br (M_X8_settle_60 (q_kap E) (0 : Int32)) (M_X8_settle_60 (q_kap E) (1 : Int32)))))))))))))) h (fun v13 σ h => ?_)
    refine q_W.st (st' := [q_I v13]) rfl ?_
    refine q_if_ne (pc := 16) (tgt := 67) C dX8_settle_16 (by decide) h (fun _ h => ?_) (fun _ h => ?_)
    · refine q_W.sub [] rfl ?_
      exact S_X8_settle_67 B hT _ h
    · refine q_aload_n (pc := 19) C 0 rfl dX8_settle_19 rfl ?_
      refine q_callV (pc := 20) (As := []) (st := []) (ps := q_psV) C B.2.1 hT q_hpV qm_X8_267 qv_X8_giveAddresses dX8_settle_20 rfl rfl (Nat.le_of_ble_eq_true rfl) (q_flo B.2.2.1 B.2.2.2.1 (by decide) (by decide)) (K_X8_giveAddresses l0) (M_X8_giveAddresses (q_kap E) l0) (by exact fun _v20 => (q_mo_rd fun v24 => (q_mo_rd fun _ => q_mo_ca (M_X9_hasFault (q_kap E) v24) fun v27 => (q_mo_br (M_X8_settle_61 (q_kap E) r2 mr2 l0 l1) (q_mo_rd fun _ => q_mo_ca (M_X8_moveMisfits (q_kap E) l0) fun v34 => (q_mo_br (M_X8_settle_61 (q_kap E) r2 mr2 l0 l1) (q_mo_wr (q_mo_rd fun v46 => (q_mo_rd fun _ => q_mo_ca (M_X9_hasFault (q_kap E) v46) fun v49 => (q_mo_br (M_X8_settle_60 (q_kap E) (0 : Int32)) (M_X8_settle_60 (q_kap E) (1 : Int32)))))))))))) h (fun _v20 σ h => ?_)
      refine q_W.st (st' := []) rfl ?_
      refine q_aload_n (pc := 23) C 0 rfl dX8_settle_23 rfl ?_
      refine q_getA (pc := 24) C dX8_settle_24 ql_X8_29 h (fun v24 h => ?_)
      refine q_callV (pc := 27) (As := []) (st := []) (ps := q_psI) C B.2.1 hT q_hpI qm_X8_84 qv_X9_hasFault dX8_settle_27 rfl rfl (Nat.le_of_ble_eq_true rfl) (q_flo B.2.2.1 B.2.2.2.1 (by decide) (by decide)) (K_X9_hasFault v24) (M_X9_hasFault (q_kap E) v24) (by exact fun v27 => (q_mo_br (M_X8_settle_61 (q_kap E) r2 mr2 l0 l1) (q_mo_rd fun _ => q_mo_ca (M_X8_moveMisfits (q_kap E) l0) fun v34 => (q_mo_br (M_X8_settle_61 (q_kap E) r2 mr2 l0 l1) (q_mo_wr (q_mo_rd fun v46 => (q_mo_rd fun _ => q_mo_ca (M_X9_hasFault (q_kap E) v46) fun v49 => (q_mo_br (M_X8_settle_60 (q_kap E) (0 : Int32)) (M_X8_settle_60 (q_kap E) (1 : Int32)))))))))) h (fun v27 σ h => ?_)
      refine q_W.st (st' := [q_I v27]) rfl ?_
      refine q_if_ne (pc := 30) (tgt := 61) C dX8_settle_30 (by decide) h (fun _ h => ?_) (fun _ h => ?_)
      · exact S_X8_settle_61 B hT r2 hr2 mr2 l0 l1 _ h
      · refine q_aload_n (pc := 33) C 0 rfl dX8_settle_33 rfl ?_
        refine q_callV (pc := 34) (As := []) (st := []) (ps := q_psI) C B.2.1 hT q_hpI qm_X8_270 qv_X8_moveMisfits dX8_settle_34 rfl rfl (Nat.le_of_ble_eq_true rfl) (q_flo B.2.2.1 B.2.2.2.1 (by decide) (by decide)) (K_X8_moveMisfits l0) (M_X8_moveMisfits (q_kap E) l0) (by exact fun v34 => (q_mo_br (M_X8_settle_61 (q_kap E) r2 mr2 l0 l1) (q_mo_wr (q_mo_rd fun v46 => (q_mo_rd fun _ => q_mo_ca (M_X9_hasFault (q_kap E) v46) fun v49 => (q_mo_br (M_X8_settle_60 (q_kap E) (0 : Int32)) (M_X8_settle_60 (q_kap E) (1 : Int32)))))))) h (fun v34 σ h => ?_)
        refine q_W.st (st' := [q_I v34]) rfl ?_
        refine q_if_ne (pc := 37) (tgt := 61) C dX8_settle_37 (by decide) h (fun _ h => ?_) (fun _ h => ?_)
        · exact S_X8_settle_61 B hT r2 hr2 mr2 l0 l1 _ h
        · refine q_aload_n (pc := 40) C 0 rfl dX8_settle_40 rfl ?_
          refine q_iload_n (pc := 41) C 1 rfl dX8_settle_41 rfl ?_
          refine q_putV (pc := 42) (v := q_I l1) C dX8_settle_42 ql_X8_60 (Or.inl rfl) rfl rfl h (fun M42 h => ?_)
          refine q_aload_n (pc := 45) C 0 rfl dX8_settle_45 rfl ?_
          refine q_getA (pc := 46) C dX8_settle_46 ql_X8_29 h (fun v46 h => ?_)
          refine q_callV (pc := 49) (As := []) (st := []) (ps := q_psI) C B.2.1 hT q_hpI qm_X8_84 qv_X9_hasFault dX8_settle_49 rfl rfl (Nat.le_of_ble_eq_true rfl) (q_flo B.2.2.1 B.2.2.2.1 (by decide) (by decide)) (K_X9_hasFault v46) (M_X9_hasFault (q_kap E) v46) (by exact fun v49 => (q_mo_br (M_X8_settle_60 (q_kap E) (0 : Int32)) (M_X8_settle_60 (q_kap E) (1 : Int32)))) h (fun v49 σ h => ?_)
          refine q_W.st (st' := [q_I v49]) rfl ?_
          refine q_if_ne (pc := 52) (tgt := 59) C dX8_settle_52 (by decide) h (fun _ h => ?_) (fun _ h => ?_)
          · refine q_iconst (pc := 59) (v := (0 : Int32)) C dX8_settle_59 (by decide) ?_
            refine q_W.sub [] rfl ?_
            exact S_X8_settle_60 B hT (0 : Int32) _ h
          · refine q_iconst (pc := 55) (v := (1 : Int32)) C dX8_settle_55 (by decide) ?_
            refine q_goto (pc := 56) (tgt := 60) C dX8_settle_56 (by decide) ?_
            refine q_W.sub [] rfl ?_
            exact S_X8_settle_60 B hT (1 : Int32) _ h
def F_X8_settle_2 (κ : Nat → Nat) : Nat → Option Nat → Int32 → q_X Int32
  | 0, _, _ => q_no
  | n + 1, l0, l1 => F_X8_settle_2B κ (F_X8_settle_2 κ n) l0 l1
theorem M_X8_settle_2 (κ : Nat → Nat) : ∀ (n : Nat) (l0 : Option Nat) (l1 : Int32), q_mo (F_X8_settle_2 κ n l0 l1)
  | 0, _, _ => q_mo_no
  | n + 1, l0, l1 => M_X8_settle_2B κ (F_X8_settle_2 κ n) (M_X8_settle_2 κ n) l0 l1
theorem S_X8_settle_2 {E : q_Ev} {Γ : q_Gm} {w : (Int32 ⊕ q_Exn) × q_St} (B : q_Bd E Γ cX8_settle yX8_settle.cls 2 7 163 (some .boolean) yX8_settle.name w) (hT : q_nT Γ) : ∀ (n : Nat) (l0 : Option Nat) (l1 : Int32) (σ : q_St), F_X8_settle_2 (q_kap E) n l0 l1 σ = some w → q_W E Γ (q_QF E Γ q_oI w) 2 σ 2 [(0, q_R l0), (1, q_I l1)] []
  | 0, _, _, _, h => by cases h
  | n + 1, l0, l1, σ, h => S_X8_settle_2B B hT (F_X8_settle_2 (q_kap E) n) (S_X8_settle_2 B hT n) (M_X8_settle_2 (q_kap E) n) l0 l1 σ h
def F_X8_settle (κ : Nat → Nat) (l0 : Option Nat) : q_X Int32 :=
  F_X8_settle_2 κ q_fu l0 (1 : Int32)
theorem M_X8_settle (κ : Nat → Nat) (l0 : Option Nat) : q_mo (F_X8_settle κ l0) := (M_X8_settle_2 κ q_fu l0 (1 : Int32))
set_option maxRecDepth 100000 in
set_option maxHeartbeats 4000000 in
theorem K_X8_settle {E : q_Ev} (l0 : Option Nat) : q_Ct E yX8_settle (.code yX8_settle cX8_settle 2 (some .boolean)) 7 163 [q_R l0] q_oI (F_X8_settle (q_kap E) l0) := by
  refine q_enter (by decide) (Nat.le_of_ble_eq_true rfl) (fun Γ σ w h B hT => ?_)
  have C := B.1
  unfold F_X8_settle at h
  refine q_iconst (pc := 0) (v := (1 : Int32)) C dX8_settle_0 (by decide) ?_
  refine q_istore_n (pc := 1) (l' := [(1, q_I (1 : Int32)), (0, q_R l0)]) C dX8_settle_1 rfl (by decide) rfl ?_
  refine q_W.sub [1, 0] rfl ?_
  exact S_X8_settle_2 B hT q_fu l0 (1 : Int32) _ h
def F_X8_isFree_2B (κ : Nat → Nat) (r2 : Option Nat → Option Nat → Int32 → q_X Int32) (l0 : Option Nat) (l1 : Option Nat) (l2 : Int32) : q_X Int32 :=
  q_rd (q_gI l1 6 6) fun v4 => q_br (v4 ≤ l2) (q_rz (1 : Int32)) (q_rd (q_gA l0 11 3) fun v11 => q_rd (q_gA v11 9 1) fun v14 => q_rd (q_gI l1 6 7) fun v18 => q_rd (q_lI 3 v14 (v18 + l2)) fun v23 => q_br (v23 = 0) (r2 l0 l1 (l2 + (1 : Int32))) (q_rz (0 : Int32)))
theorem M_X8_isFree_2B (κ : Nat → Nat) (r2 : Option Nat → Option Nat → Int32 → q_X Int32) (mr2 : ∀ (l0 : Option Nat) (l1 : Option Nat) (l2 : Int32), q_mo (r2 l0 l1 l2)) (l0 : Option Nat) (l1 : Option Nat) (l2 : Int32) : q_mo (F_X8_isFree_2B κ r2 l0 l1 l2) := (q_mo_rd fun v4 => (q_mo_br q_mo_rz (q_mo_rd fun v11 => (q_mo_rd fun v14 => (q_mo_rd fun v18 => (q_mo_rd fun v23 => (q_mo_br (mr2 l0 l1 (l2 + (1 : Int32))) q_mo_rz)))))))
set_option maxRecDepth 100000 in
set_option maxHeartbeats 4000000 in
theorem S_X8_isFree_2B {E : q_Ev} {Γ : q_Gm} {w : (Int32 ⊕ q_Exn) × q_St} (B : q_Bd E Γ cX8_isFree yX8_isFree.cls 3 0 0 (some .boolean) yX8_isFree.name w) (hT : q_nT Γ) (r2 : Option Nat → Option Nat → Int32 → q_X Int32) (hr2 : ∀ (l0 : Option Nat) (l1 : Option Nat) (l2 : Int32) (σ : q_St), r2 l0 l1 l2 σ = some w → q_W E Γ (q_QF E Γ q_oI w) 3 σ 2 [(0, q_R l0), (1, q_R l1), (2, q_I l2)] []) (mr2 : ∀ (l0 : Option Nat) (l1 : Option Nat) (l2 : Int32), q_mo (r2 l0 l1 l2)) (l0 : Option Nat) (l1 : Option Nat) (l2 : Int32) (σ : q_St) (h : F_X8_isFree_2B (q_kap E) r2 l0 l1 l2 σ = some w) : q_W E Γ (q_QF E Γ q_oI w) 3 σ 2 [(0, q_R l0), (1, q_R l1), (2, q_I l2)] [] := by
  have C := B.1
  unfold F_X8_isFree_2B at h
  refine q_iload_n (pc := 2) C 2 rfl dX8_isFree_2 rfl ?_
  refine q_aload_n (pc := 3) C 1 rfl dX8_isFree_3 rfl ?_
  refine q_getI (pc := 4) C dX8_isFree_4 ql_X8_177 h (fun v4 h => ?_)
  refine q_icmp_ge (pc := 7) (tgt := 35) C dX8_isFree_7 (by decide) h (fun _ h => ?_) (fun _ h => ?_)
  · refine q_iconst (pc := 35) (v := (1 : Int32)) C dX8_isFree_35 (by decide) ?_
    exact q_zret C B.2.2.2.2.1 dX8_isFree_36 h
  · refine q_aload_n (pc := 10) C 0 rfl dX8_isFree_10 rfl ?_
    refine q_getA (pc := 11) C dX8_isFree_11 ql_X8_44 h (fun v11 h => ?_)
    refine q_getA (pc := 14) C dX8_isFree_14 ql_X8_303 h (fun v14 h => ?_)
    refine q_aload_n (pc := 17) C 1 rfl dX8_isFree_17 rfl ?_
    refine q_getI (pc := 18) C dX8_isFree_18 ql_X8_263 h (fun v18 h => ?_)
    refine q_iload_n (pc := 21) C 2 rfl dX8_isFree_21 rfl ?_
    refine q_iadd (pc := 22) C dX8_isFree_22 ?_
    refine q_ldI (pc := 23) C dX8_isFree_23 (Or.inr (Or.inr ⟨rfl, rfl⟩)) h (fun v23 h => ?_)
    refine q_if_eq (pc := 24) (tgt := 29) C dX8_isFree_24 (by decide) h (fun _ h => ?_) (fun _ h => ?_)
    · refine q_iinc (pc := 29) (v := (1 : Int32)) (l' := [(2, q_I (l2 + (1 : Int32))), (0, q_R l0), (1, q_R l1)]) C 2 rfl dX8_isFree_29 (by decide) (by decide) rfl ?_
      refine q_goto (pc := 32) (tgt := 2) C dX8_isFree_32 (by decide) ?_
      refine q_W.sub [1, 2, 0] rfl ?_
      exact hr2 l0 l1 (l2 + (1 : Int32)) _ h
    · refine q_iconst (pc := 27) (v := (0 : Int32)) C dX8_isFree_27 (by decide) ?_
      exact q_zret C B.2.2.2.2.1 dX8_isFree_28 h
def F_X8_isFree_2 (κ : Nat → Nat) : Nat → Option Nat → Option Nat → Int32 → q_X Int32
  | 0, _, _, _ => q_no
  | n + 1, l0, l1, l2 => F_X8_isFree_2B κ (F_X8_isFree_2 κ n) l0 l1 l2
theorem M_X8_isFree_2 (κ : Nat → Nat) : ∀ (n : Nat) (l0 : Option Nat) (l1 : Option Nat) (l2 : Int32), q_mo (F_X8_isFree_2 κ n l0 l1 l2)
  | 0, _, _, _ => q_mo_no
  | n + 1, l0, l1, l2 => M_X8_isFree_2B κ (F_X8_isFree_2 κ n) (M_X8_isFree_2 κ n) l0 l1 l2
theorem S_X8_isFree_2 {E : q_Ev} {Γ : q_Gm} {w : (Int32 ⊕ q_Exn) × q_St} (B : q_Bd E Γ cX8_isFree yX8_isFree.cls 3 0 0 (some .boolean) yX8_isFree.name w) (hT : q_nT Γ) : ∀ (n : Nat) (l0 : Option Nat) (l1 : Option Nat) (l2 : Int32) (σ : q_St), F_X8_isFree_2 (q_kap E) n l0 l1 l2 σ = some w → q_W E Γ (q_QF E Γ q_oI w) 3 σ 2 [(0, q_R l0), (1, q_R l1), (2, q_I l2)] []
  | 0, _, _, _, _, h => by cases h
  | n + 1, l0, l1, l2, σ, h => S_X8_isFree_2B B hT (F_X8_isFree_2 (q_kap E) n) (S_X8_isFree_2 B hT n) (M_X8_isFree_2 (q_kap E) n) l0 l1 l2 σ h
def F_X8_isFree (κ : Nat → Nat) (l0 : Option Nat) (l1 : Option Nat) : q_X Int32 :=
  F_X8_isFree_2 κ q_fu l0 l1 (0 : Int32)
theorem M_X8_isFree (κ : Nat → Nat) (l0 : Option Nat) (l1 : Option Nat) : q_mo (F_X8_isFree κ l0 l1) := (M_X8_isFree_2 κ q_fu l0 l1 (0 : Int32))
set_option maxRecDepth 100000 in
set_option maxHeartbeats 4000000 in
theorem K_X8_isFree {E : q_Ev} (l0 : Option Nat) (l1 : Option Nat) : q_Ct E yX8_isFree (.code yX8_isFree cX8_isFree 3 (some .boolean)) 0 0 [q_R l0, q_R l1] q_oI (F_X8_isFree (q_kap E) l0 l1) := by
  refine q_enter (by decide) (Nat.le_of_ble_eq_true rfl) (fun Γ σ w h B hT => ?_)
  have C := B.1
  unfold F_X8_isFree at h
  refine q_iconst (pc := 0) (v := (0 : Int32)) C dX8_isFree_0 (by decide) ?_
  refine q_istore_n (pc := 1) (l' := [(2, q_I (0 : Int32)), (0, q_R l0), (1, q_R l1)]) C dX8_isFree_1 rfl (by decide) rfl ?_
  refine q_W.sub [1, 2, 0] rfl ?_
  exact S_X8_isFree_2 B hT q_fu l0 l1 (0 : Int32) _ h
def F_X8_layNumbers_9B (κ : Nat → Nat) (r9 : Option Nat → Option Nat → Int32 → Int32 → q_X Unit) (l0 : Option Nat) (l1 : Option Nat) (l2 : Int32) (l3 : Int32) : q_X Unit :=
  q_rd (q_gI l1 6 6) fun v11 => q_br (v11 ≤ l3) (q_rt ()) (q_rd (q_gA l0 11 3) fun v18 => q_rd (q_gI l1 6 7) fun v22 => q_rd (q_gA l0 11 1) fun v28 => q_rd (q_gA v28 13 4) fun v31 => q_rd (q_lL v31 (l2 + ((2 : Int32) * l3))) fun v39 => q_rd (q_is v18 9) fun _ => q_ca (F_X6_put κ v18 (v22 + l3) v39) fun _v40 => r9 l0 l1 l2 (l3 + (1 : Int32)))
theorem M_X8_layNumbers_9B (κ : Nat → Nat) (r9 : Option Nat → Option Nat → Int32 → Int32 → q_X Unit) (mr9 : ∀ (l0 : Option Nat) (l1 : Option Nat) (l2 : Int32) (l3 : Int32), q_mo (r9 l0 l1 l2 l3)) (l0 : Option Nat) (l1 : Option Nat) (l2 : Int32) (l3 : Int32) : q_mo (F_X8_layNumbers_9B κ r9 l0 l1 l2 l3) := (q_mo_rd fun v11 => (q_mo_br q_mo_rt (q_mo_rd fun v18 => (q_mo_rd fun v22 => (q_mo_rd fun v28 => (q_mo_rd fun v31 => (q_mo_rd fun v39 => (q_mo_rd fun _ => q_mo_ca (M_X6_put κ v18 (v22 + l3) v39) fun _v40 => (mr9 l0 l1 l2 (l3 + (1 : Int32)))))))))))
set_option maxRecDepth 100000 in
set_option maxHeartbeats 4000000 in
theorem S_X8_layNumbers_9B {E : q_Ev} {Γ : q_Gm} {w : (Unit ⊕ q_Exn) × q_St} (B : q_Bd E Γ cX8_layNumbers yX8_layNumbers.cls 4 1 23 (none) yX8_layNumbers.name w) (hT : q_nT Γ) (r9 : Option Nat → Option Nat → Int32 → Int32 → q_X Unit) (hr9 : ∀ (l0 : Option Nat) (l1 : Option Nat) (l2 : Int32) (l3 : Int32) (σ : q_St), r9 l0 l1 l2 l3 σ = some w → q_W E Γ (q_QF E Γ q_oV w) 4 σ 9 [(0, q_R l0), (1, q_R l1), (2, q_I l2), (3, q_I l3)] []) (mr9 : ∀ (l0 : Option Nat) (l1 : Option Nat) (l2 : Int32) (l3 : Int32), q_mo (r9 l0 l1 l2 l3)) (l0 : Option Nat) (l1 : Option Nat) (l2 : Int32) (l3 : Int32) (σ : q_St) (h : F_X8_layNumbers_9B (q_kap E) r9 l0 l1 l2 l3 σ = some w) : q_W E Γ (q_QF E Γ q_oV w) 4 σ 9 [(0, q_R l0), (1, q_R l1), (2, q_I l2), (3, q_I l3)] [] := by
  have C := B.1
  unfold F_X8_layNumbers_9B at h
  refine q_iload_n (pc := 9) C 3 rfl dX8_layNumbers_9 rfl ?_
  refine q_aload_n (pc := 10) C 1 rfl dX8_layNumbers_10 rfl ?_
  refine q_getI (pc := 11) C dX8_layNumbers_11 ql_X8_177 h (fun v11 h => ?_)
  refine q_icmp_ge (pc := 14) (tgt := 49) C dX8_layNumbers_14 (by decide) h (fun _ h => ?_) (fun _ h => ?_)
  · exact q_vret C B.2.2.2.2.1 dX8_layNumbers_49 h
  · refine q_aload_n (pc := 17) C 0 rfl dX8_layNumbers_17 rfl ?_
    refine q_getA (pc := 18) C dX8_layNumbers_18 ql_X8_44 h (fun v18 h => ?_)
    refine q_aload_n (pc := 21) C 1 rfl dX8_layNumbers_21 rfl ?_
    refine q_getI (pc := 22) C dX8_layNumbers_22 ql_X8_263 h (fun v22 h => ?_)
    refine q_iload_n (pc := 25) C 3 rfl dX8_layNumbers_25 rfl ?_
    refine q_iadd (pc := 26) C dX8_layNumbers_26 ?_
    refine q_aload_n (pc := 27) C 0 rfl dX8_layNumbers_27 rfl ?_
    refine q_getA (pc := 28) C dX8_layNumbers_28 ql_X8_39 h (fun v28 h => ?_)
    refine q_getA (pc := 31) C dX8_layNumbers_31 ql_X8_202 h (fun v31 h => ?_)
    refine q_iload_n (pc := 34) C 2 rfl dX8_layNumbers_34 rfl ?_
    refine q_iconst (pc := 35) (v := (2 : Int32)) C dX8_layNumbers_35 (by decide) ?_
    refine q_iload_n (pc := 36) C 3 rfl dX8_layNumbers_36 rfl ?_
    refine q_imul (pc := 37) C dX8_layNumbers_37 ?_
    refine q_iadd (pc := 38) C dX8_layNumbers_38 ?_
    refine q_ldL (pc := 39) C dX8_layNumbers_39 h (fun v39 h => ?_)
    refine q_callV (pc := 40) (As := [q_I (v22 + l3), q_L v39]) (st := []) (ps := q_psV) C B.2.1 hT q_hpV qm_X8_311 qv_X6_put dX8_layNumbers_40 rfl rfl (Nat.le_of_ble_eq_true rfl) (q_flo B.2.2.1 B.2.2.2.1 (by decide) (by decide)) (K_X6_put v18 (v22 + l3) v39) (M_X6_put (q_kap E) v18 (v22 + l3) v39) (by exact fun _v40 => (mr9 l0 l1 l2 (l3 + (1 : Int32)))) h (fun _v40 σ h => ?_)
    refine q_W.st (st' := []) rfl ?_
    refine q_iinc (pc := 43) (v := (1 : Int32)) (l' := [(3, q_I (l3 + (1 : Int32))), (0, q_R l0), (1, q_R l1), (2, q_I l2)]) C 3 rfl dX8_layNumbers_43 (by decide) (by decide) rfl ?_
    refine q_goto (pc := 46) (tgt := 9) C dX8_layNumbers_46 (by decide) ?_
    refine q_W.sub [1, 2, 3, 0] rfl ?_
    exact hr9 l0 l1 l2 (l3 + (1 : Int32)) _ h
def F_X8_layNumbers_9 (κ : Nat → Nat) : Nat → Option Nat → Option Nat → Int32 → Int32 → q_X Unit
  | 0, _, _, _, _ => q_no
  | n + 1, l0, l1, l2, l3 => F_X8_layNumbers_9B κ (F_X8_layNumbers_9 κ n) l0 l1 l2 l3
theorem M_X8_layNumbers_9 (κ : Nat → Nat) : ∀ (n : Nat) (l0 : Option Nat) (l1 : Option Nat) (l2 : Int32) (l3 : Int32), q_mo (F_X8_layNumbers_9 κ n l0 l1 l2 l3)
  | 0, _, _, _, _ => q_mo_no
  | n + 1, l0, l1, l2, l3 => M_X8_layNumbers_9B κ (F_X8_layNumbers_9 κ n) (M_X8_layNumbers_9 κ n) l0 l1 l2 l3
theorem S_X8_layNumbers_9 {E : q_Ev} {Γ : q_Gm} {w : (Unit ⊕ q_Exn) × q_St} (B : q_Bd E Γ cX8_layNumbers yX8_layNumbers.cls 4 1 23 (none) yX8_layNumbers.name w) (hT : q_nT Γ) : ∀ (n : Nat) (l0 : Option Nat) (l1 : Option Nat) (l2 : Int32) (l3 : Int32) (σ : q_St), F_X8_layNumbers_9 (q_kap E) n l0 l1 l2 l3 σ = some w → q_W E Γ (q_QF E Γ q_oV w) 4 σ 9 [(0, q_R l0), (1, q_R l1), (2, q_I l2), (3, q_I l3)] []
  | 0, _, _, _, _, _, h => by cases h
  | n + 1, l0, l1, l2, l3, σ, h => S_X8_layNumbers_9B B hT (F_X8_layNumbers_9 (q_kap E) n) (S_X8_layNumbers_9 B hT n) (M_X8_layNumbers_9 (q_kap E) n) l0 l1 l2 l3 σ h
def F_X8_layNumbers (κ : Nat → Nat) (l0 : Option Nat) (l1 : Option Nat) : q_X Unit :=
  q_rd (q_gI l1 6 2) fun v1 => F_X8_layNumbers_9 κ q_fu l0 l1 (v1 + (2 : Int32)) (0 : Int32)
theorem M_X8_layNumbers (κ : Nat → Nat) (l0 : Option Nat) (l1 : Option Nat) : q_mo (F_X8_layNumbers κ l0 l1) := (q_mo_rd fun v1 => (M_X8_layNumbers_9 κ q_fu l0 l1 (v1 + (2 : Int32)) (0 : Int32)))
set_option maxRecDepth 100000 in
set_option maxHeartbeats 4000000 in
theorem K_X8_layNumbers {E : q_Ev} (l0 : Option Nat) (l1 : Option Nat) : q_Ct E yX8_layNumbers (.code yX8_layNumbers cX8_layNumbers 4 (none)) 1 23 [q_R l0, q_R l1] q_oV (F_X8_layNumbers (q_kap E) l0 l1) := by
  refine q_enter (by decide) (Nat.le_of_ble_eq_true rfl) (fun Γ σ w h B hT => ?_)
  have C := B.1
  unfold F_X8_layNumbers at h
  refine q_aload_n (pc := 0) C 1 rfl dX8_layNumbers_0 rfl ?_
  refine q_getI (pc := 1) C dX8_layNumbers_1 ql_X8_104 h (fun v1 h => ?_)
  refine q_iconst (pc := 4) (v := (2 : Int32)) C dX8_layNumbers_4 (by decide) ?_
  refine q_iadd (pc := 5) C dX8_layNumbers_5 ?_
  refine q_istore_n (pc := 6) (l' := [(2, q_I (v1 + (2 : Int32))), (0, q_R l0), (1, q_R l1)]) C dX8_layNumbers_6 rfl (by decide) rfl ?_
  refine q_iconst (pc := 7) (v := (0 : Int32)) C dX8_layNumbers_7 (by decide) ?_
  refine q_istore_n (pc := 8) (l' := [(3, q_I (0 : Int32)), (2, q_I (v1 + (2 : Int32))), (0, q_R l0), (1, q_R l1)]) C dX8_layNumbers_8 rfl (by decide) rfl ?_
  refine q_W.sub [2, 3, 1, 0] rfl ?_
  exact S_X8_layNumbers_9 B hT q_fu l0 l1 (v1 + (2 : Int32)) (0 : Int32) _ h
def F_X8_layInstruction_49B (κ : Nat → Nat) (r49 : Option Nat → Option Nat → Option Nat → Int32 → q_X Unit) (l0 : Option Nat) (l1 : Option Nat) (l2 : Option Nat) (l3 : Int32) : q_X Unit :=
  q_rd (q_gI l2 4 9) fun v51 => q_br (v51 ≤ l3) (q_rt ()) (q_rd (q_gA l0 11 3) fun v58 => q_rd (q_gI l1 6 7) fun v62 => q_rd (q_gA l0 11 7) fun v70 => q_rd (q_is l2 4) fun _ => q_ca (F_X1_encode κ l2 l3 v70) fun v73 => q_rd (q_is v58 9) fun _ => q_ca (F_X6_put κ v58 (v62 + l3) v73) fun _v76 => r49 l0 l1 l2 (l3 + (1 : Int32)))
theorem M_X8_layInstruction_49B (κ : Nat → Nat) (r49 : Option Nat → Option Nat → Option Nat → Int32 → q_X Unit) (mr49 : ∀ (l0 : Option Nat) (l1 : Option Nat) (l2 : Option Nat) (l3 : Int32), q_mo (r49 l0 l1 l2 l3)) (l0 : Option Nat) (l1 : Option Nat) (l2 : Option Nat) (l3 : Int32) : q_mo (F_X8_layInstruction_49B κ r49 l0 l1 l2 l3) := (q_mo_rd fun v51 => (q_mo_br q_mo_rt (q_mo_rd fun v58 => (q_mo_rd fun v62 => (q_mo_rd fun v70 => (q_mo_rd fun _ => q_mo_ca (M_X1_encode κ l2 l3 v70) fun v73 => (q_mo_rd fun _ => q_mo_ca (M_X6_put κ v58 (v62 + l3) v73) fun _v76 => (mr49 l0 l1 l2 (l3 + (1 : Int32))))))))))
set_option maxRecDepth 100000 in
set_option maxHeartbeats 4000000 in
theorem S_X8_layInstruction_49B {E : q_Ev} {Γ : q_Gm} {w : (Unit ⊕ q_Exn) × q_St} (B : q_Bd E Γ cX8_layInstruction yX8_layInstruction.cls 4 5 116 (none) yX8_layInstruction.name w) (hT : q_nT Γ) (r49 : Option Nat → Option Nat → Option Nat → Int32 → q_X Unit) (hr49 : ∀ (l0 : Option Nat) (l1 : Option Nat) (l2 : Option Nat) (l3 : Int32) (σ : q_St), r49 l0 l1 l2 l3 σ = some w → q_W E Γ (q_QF E Γ q_oV w) 4 σ 49 [(0, q_R l0), (1, q_R l1), (2, q_R l2), (3, q_I l3)] []) (mr49 : ∀ (l0 : Option Nat) (l1 : Option Nat) (l2 : Option Nat) (l3 : Int32), q_mo (r49 l0 l1 l2 l3)) (l0 : Option Nat) (l1 : Option Nat) (l2 : Option Nat) (l3 : Int32) (σ : q_St) (h : F_X8_layInstruction_49B (q_kap E) r49 l0 l1 l2 l3 σ = some w) : q_W E Γ (q_QF E Γ q_oV w) 4 σ 49 [(0, q_R l0), (1, q_R l1), (2, q_R l2), (3, q_I l3)] [] := by
  have C := B.1
  unfold F_X8_layInstruction_49B at h
  refine q_iload_n (pc := 49) C 3 rfl dX8_layInstruction_49 rfl ?_
  refine q_aload_n (pc := 50) C 2 rfl dX8_layInstruction_50 rfl ?_
  refine q_getI (pc := 51) C dX8_layInstruction_51 ql_X8_231 h (fun v51 h => ?_)
  refine q_icmp_ge (pc := 54) (tgt := 85) C dX8_layInstruction_54 (by decide) h (fun _ h => ?_) (fun _ h => ?_)
  · exact q_vret C B.2.2.2.2.1 dX8_layInstruction_85 h
  · refine q_aload_n (pc := 57) C 0 rfl dX8_layInstruction_57 rfl ?_
    refine q_getA (pc := 58) C dX8_layInstruction_58 ql_X8_44 h (fun v58 h => ?_)
    refine q_aload_n (pc := 61) C 1 rfl dX8_layInstruction_61 rfl ?_
    refine q_getI (pc := 62) C dX8_layInstruction_62 ql_X8_263 h (fun v62 h => ?_)
    refine q_iload_n (pc := 65) C 3 rfl dX8_layInstruction_65 rfl ?_
    refine q_iadd (pc := 66) C dX8_layInstruction_66 ?_
    refine q_aload_n (pc := 67) C 2 rfl dX8_layInstruction_67 rfl ?_
    refine q_iload_n (pc := 68) C 3 rfl dX8_layInstruction_68 rfl ?_
    refine q_aload_n (pc := 69) C 0 rfl dX8_layInstruction_69 rfl ?_
    refine q_getA (pc := 70) C dX8_layInstruction_70 ql_X8_25 h (fun v70 h => ?_)
    refine q_callV (pc := 73) (As := [q_I l3, q_R v70]) (st := [q_I (v62 + l3), q_R v58]) (ps := q_psL) C B.2.1 hT q_hpL qm_X8_307 qv_X1_encode dX8_layInstruction_73 rfl rfl (Nat.le_of_ble_eq_true rfl) (q_flo B.2.2.1 B.2.2.2.1 (by decide) (by decide)) (K_X1_encode l2 l3 v70) (M_X1_encode (q_kap E) l2 l3 v70) (by exact fun v73 => (q_mo_rd fun _ => q_mo_ca (M_X6_put (q_kap E) v58 (v62 + l3) v73) fun _v76 => (mr49 l0 l1 l2 (l3 + (1 : Int32))))) h (fun v73 σ h => ?_)
    refine q_W.st (st' := [q_L v73, q_I (v62 + l3), q_R v58]) rfl ?_
    refine q_callV (pc := 76) (As := [q_I (v62 + l3), q_L v73]) (st := []) (ps := q_psV) C B.2.1 hT q_hpV qm_X8_311 qv_X6_put dX8_layInstruction_76 rfl rfl (Nat.le_of_ble_eq_true rfl) (q_flo B.2.2.1 B.2.2.2.1 (by decide) (by decide)) (K_X6_put v58 (v62 + l3) v73) (M_X6_put (q_kap E) v58 (v62 + l3) v73) (by exact fun _v76 => (mr49 l0 l1 l2 (l3 + (1 : Int32)))) h (fun _v76 σ h => ?_)
    refine q_W.st (st' := []) rfl ?_
    refine q_iinc (pc := 79) (v := (1 : Int32)) (l' := [(3, q_I (l3 + (1 : Int32))), (0, q_R l0), (1, q_R l1), (2, q_R l2)]) C 3 rfl dX8_layInstruction_79 (by decide) (by decide) rfl ?_
    refine q_goto (pc := 82) (tgt := 49) C dX8_layInstruction_82 (by decide) ?_
    refine q_W.sub [1, 2, 3, 0] rfl ?_
    exact hr49 l0 l1 l2 (l3 + (1 : Int32)) _ h
def F_X8_layInstruction_49 (κ : Nat → Nat) : Nat → Option Nat → Option Nat → Option Nat → Int32 → q_X Unit
  | 0, _, _, _, _ => q_no
  | n + 1, l0, l1, l2, l3 => F_X8_layInstruction_49B κ (F_X8_layInstruction_49 κ n) l0 l1 l2 l3
theorem M_X8_layInstruction_49 (κ : Nat → Nat) : ∀ (n : Nat) (l0 : Option Nat) (l1 : Option Nat) (l2 : Option Nat) (l3 : Int32), q_mo (F_X8_layInstruction_49 κ n l0 l1 l2 l3)
  | 0, _, _, _, _ => q_mo_no
  | n + 1, l0, l1, l2, l3 => M_X8_layInstruction_49B κ (F_X8_layInstruction_49 κ n) (M_X8_layInstruction_49 κ n) l0 l1 l2 l3
theorem S_X8_layInstruction_49 {E : q_Ev} {Γ : q_Gm} {w : (Unit ⊕ q_Exn) × q_St} (B : q_Bd E Γ cX8_layInstruction yX8_layInstruction.cls 4 5 116 (none) yX8_layInstruction.name w) (hT : q_nT Γ) : ∀ (n : Nat) (l0 : Option Nat) (l1 : Option Nat) (l2 : Option Nat) (l3 : Int32) (σ : q_St), F_X8_layInstruction_49 (q_kap E) n l0 l1 l2 l3 σ = some w → q_W E Γ (q_QF E Γ q_oV w) 4 σ 49 [(0, q_R l0), (1, q_R l1), (2, q_R l2), (3, q_I l3)] []
  | 0, _, _, _, _, _, h => by cases h
  | n + 1, l0, l1, l2, l3, σ, h => S_X8_layInstruction_49B B hT (F_X8_layInstruction_49 (q_kap E) n) (S_X8_layInstruction_49 B hT n) (M_X8_layInstruction_49 (q_kap E) n) l0 l1 l2 l3 σ h
def F_X8_layInstruction_15B (κ : Nat → Nat) (r15 : Option Nat → Option Nat → Option Nat → Int32 → q_X Unit) (l0 : Option Nat) (l1 : Option Nat) (l2 : Option Nat) (l3 : Int32) : q_X Unit :=
  q_rd (q_gI l2 4 8) fun v17 => q_br (v17 ≤ l3) (F_X8_layInstruction_49 κ q_fu l0 l1 l2 (0 : Int32)) (q_rd (q_gA l0 11 7) fun v24 => q_rd (q_gA l2 4 3) fun v31 => q_rd (q_lA 5 v31 l3) fun v35 => q_rd (q_is l0 11) fun _ => q_ca (F_X8_heldValue κ l0 l1 v35 l3) fun v37 => q_wr (q_sL v24 l3 v37) (r15 l0 l1 l2 (l3 + (1 : Int32))))
theorem M_X8_layInstruction_15B (κ : Nat → Nat) (r15 : Option Nat → Option Nat → Option Nat → Int32 → q_X Unit) (mr15 : ∀ (l0 : Option Nat) (l1 : Option Nat) (l2 : Option Nat) (l3 : Int32), q_mo (r15 l0 l1 l2 l3)) (l0 : Option Nat) (l1 : Option Nat) (l2 : Option Nat) (l3 : Int32) : q_mo (F_X8_layInstruction_15B κ r15 l0 l1 l2 l3) := (q_mo_rd fun v17 => (q_mo_br (M_X8_layInstruction_49 κ q_fu l0 l1 l2 (0 : Int32)) (q_mo_rd fun v24 => (q_mo_rd fun v31 => (q_mo_rd fun v35 => (q_mo_rd fun _ => q_mo_ca (M_X8_heldValue κ l0 l1 v35 l3) fun v37 => (q_mo_wr (mr15 l0 l1 l2 (l3 + (1 : Int32))))))))))
set_option maxRecDepth 100000 in
set_option maxHeartbeats 4000000 in
theorem S_X8_layInstruction_15B {E : q_Ev} {Γ : q_Gm} {w : (Unit ⊕ q_Exn) × q_St} (B : q_Bd E Γ cX8_layInstruction yX8_layInstruction.cls 4 5 116 (none) yX8_layInstruction.name w) (hT : q_nT Γ) (r15 : Option Nat → Option Nat → Option Nat → Int32 → q_X Unit) (hr15 : ∀ (l0 : Option Nat) (l1 : Option Nat) (l2 : Option Nat) (l3 : Int32) (σ : q_St), r15 l0 l1 l2 l3 σ = some w → q_W E Γ (q_QF E Γ q_oV w) 4 σ 15 [(0, q_R l0), (1, q_R l1), (2, q_R l2), (3, q_I l3)] []) (mr15 : ∀ (l0 : Option Nat) (l1 : Option Nat) (l2 : Option Nat) (l3 : Int32), q_mo (r15 l0 l1 l2 l3)) (l0 : Option Nat) (l1 : Option Nat) (l2 : Option Nat) (l3 : Int32) (σ : q_St) (h : F_X8_layInstruction_15B (q_kap E) r15 l0 l1 l2 l3 σ = some w) : q_W E Γ (q_QF E Γ q_oV w) 4 σ 15 [(0, q_R l0), (1, q_R l1), (2, q_R l2), (3, q_I l3)] [] := by
  have C := B.1
  unfold F_X8_layInstruction_15B at h
  refine q_iload_n (pc := 15) C 3 rfl dX8_layInstruction_15 rfl ?_
  refine q_aload_n (pc := 16) C 2 rfl dX8_layInstruction_16 rfl ?_
  refine q_getI (pc := 17) C dX8_layInstruction_17 ql_X8_276 h (fun v17 h => ?_)
  refine q_icmp_ge (pc := 20) (tgt := 47) C dX8_layInstruction_20 (by decide) h (fun _ h => ?_) (fun _ h => ?_)
  · refine q_iconst (pc := 47) (v := (0 : Int32)) C dX8_layInstruction_47 (by decide) ?_
    refine q_istore_n (pc := 48) (l' := [(3, q_I (0 : Int32)), (0, q_R l0), (1, q_R l1), (2, q_R l2)]) C dX8_layInstruction_48 rfl (by decide) rfl ?_
    refine q_W.sub [1, 2, 3, 0] rfl ?_
    exact S_X8_layInstruction_49 B hT q_fu l0 l1 l2 (0 : Int32) _ h
  · refine q_aload_n (pc := 23) C 0 rfl dX8_layInstruction_23 rfl ?_
    refine q_getA (pc := 24) C dX8_layInstruction_24 ql_X8_25 h (fun v24 h => ?_)
    refine q_iload_n (pc := 27) C 3 rfl dX8_layInstruction_27 rfl ?_
    refine q_aload_n (pc := 28) C 0 rfl dX8_layInstruction_28 rfl ?_
    refine q_aload_n (pc := 29) C 1 rfl dX8_layInstruction_29 rfl ?_
    refine q_aload_n (pc := 30) C 2 rfl dX8_layInstruction_30 rfl ?_
    refine q_getA (pc := 31) C dX8_layInstruction_31 ql_X8_240 h (fun v31 h => ?_)
    refine q_iload_n (pc := 34) C 3 rfl dX8_layInstruction_34 rfl ?_
    refine q_ldA (pc := 35) C dX8_layInstruction_35 ⟨_, rfl⟩ h (fun v35 h => ?_)
    refine q_iload_n (pc := 36) C 3 rfl dX8_layInstruction_36 rfl ?_
    refine q_callV (pc := 37) (As := [q_R l1, q_R v35, q_I l3]) (st := [q_I l3, q_R v24]) (ps := q_psL) C B.2.1 hT q_hpL qm_X8_282 qv_X8_heldValue dX8_layInstruction_37 rfl rfl (Nat.le_of_ble_eq_true rfl) (q_flo B.2.2.1 B.2.2.2.1 (by decide) (by decide)) (K_X8_heldValue l0 l1 v35 l3) (M_X8_heldValue (q_kap E) l0 l1 v35 l3) (by exact fun v37 => (q_mo_wr (mr15 l0 l1 l2 (l3 + (1 : Int32))))) h (fun v37 σ h => ?_)
    refine q_W.st (st' := [q_L v37, q_I l3, q_R v24]) rfl ?_
    refine q_stL (pc := 40) C dX8_layInstruction_40 h (fun M40 h => ?_)
    refine q_iinc (pc := 41) (v := (1 : Int32)) (l' := [(3, q_I (l3 + (1 : Int32))), (0, q_R l0), (1, q_R l1), (2, q_R l2)]) C 3 rfl dX8_layInstruction_41 (by decide) (by decide) rfl ?_
    refine q_goto (pc := 44) (tgt := 15) C dX8_layInstruction_44 (by decide) ?_
    refine q_W.sub [1, 2, 3, 0] rfl ?_
    exact hr15 l0 l1 l2 (l3 + (1 : Int32)) _ h
def F_X8_layInstruction_15 (κ : Nat → Nat) : Nat → Option Nat → Option Nat → Option Nat → Int32 → q_X Unit
  | 0, _, _, _, _ => q_no
  | n + 1, l0, l1, l2, l3 => F_X8_layInstruction_15B κ (F_X8_layInstruction_15 κ n) l0 l1 l2 l3
theorem M_X8_layInstruction_15 (κ : Nat → Nat) : ∀ (n : Nat) (l0 : Option Nat) (l1 : Option Nat) (l2 : Option Nat) (l3 : Int32), q_mo (F_X8_layInstruction_15 κ n l0 l1 l2 l3)
  | 0, _, _, _, _ => q_mo_no
  | n + 1, l0, l1, l2, l3 => M_X8_layInstruction_15B κ (F_X8_layInstruction_15 κ n) (M_X8_layInstruction_15 κ n) l0 l1 l2 l3
theorem S_X8_layInstruction_15 {E : q_Ev} {Γ : q_Gm} {w : (Unit ⊕ q_Exn) × q_St} (B : q_Bd E Γ cX8_layInstruction yX8_layInstruction.cls 4 5 116 (none) yX8_layInstruction.name w) (hT : q_nT Γ) : ∀ (n : Nat) (l0 : Option Nat) (l1 : Option Nat) (l2 : Option Nat) (l3 : Int32) (σ : q_St), F_X8_layInstruction_15 (q_kap E) n l0 l1 l2 l3 σ = some w → q_W E Γ (q_QF E Γ q_oV w) 4 σ 15 [(0, q_R l0), (1, q_R l1), (2, q_R l2), (3, q_I l3)] []
  | 0, _, _, _, _, _, h => by cases h
  | n + 1, l0, l1, l2, l3, σ, h => S_X8_layInstruction_15B B hT (F_X8_layInstruction_15 (q_kap E) n) (S_X8_layInstruction_15 B hT n) (M_X8_layInstruction_15 (q_kap E) n) l0 l1 l2 l3 σ h
def F_X8_layInstruction (κ : Nat → Nat) (l0 : Option Nat) (l1 : Option Nat) : q_X Unit :=
  q_rd (q_gA l0 11 2) fun v1 => q_rd (q_gA v1 8 1) fun v4 => q_rd (q_gI l1 6 5) fun v8 => q_rd (q_lA 4 v4 v8) fun v11 => F_X8_layInstruction_15 κ q_fu l0 l1 v11 (0 : Int32)
theorem M_X8_layInstruction (κ : Nat → Nat) (l0 : Option Nat) (l1 : Option Nat) : q_mo (F_X8_layInstruction κ l0 l1) := (q_mo_rd fun v1 => (q_mo_rd fun v4 => (q_mo_rd fun v8 => (q_mo_rd fun v11 => (M_X8_layInstruction_15 κ q_fu l0 l1 v11 (0 : Int32))))))
set_option maxRecDepth 100000 in
set_option maxHeartbeats 4000000 in
theorem K_X8_layInstruction {E : q_Ev} (l0 : Option Nat) (l1 : Option Nat) : q_Ct E yX8_layInstruction (.code yX8_layInstruction cX8_layInstruction 4 (none)) 5 116 [q_R l0, q_R l1] q_oV (F_X8_layInstruction (q_kap E) l0 l1) := by
  refine q_enter (by decide) (Nat.le_of_ble_eq_true rfl) (fun Γ σ w h B hT => ?_)
  have C := B.1
  unfold F_X8_layInstruction at h
  refine q_aload_n (pc := 0) C 0 rfl dX8_layInstruction_0 rfl ?_
  refine q_getA (pc := 1) C dX8_layInstruction_1 ql_X8_40 h (fun v1 h => ?_)
  refine q_getA (pc := 4) C dX8_layInstruction_4 ql_X8_211 h (fun v4 h => ?_)
  refine q_aload_n (pc := 7) C 1 rfl dX8_layInstruction_7 rfl ?_
  refine q_getI (pc := 8) C dX8_layInstruction_8 ql_X8_205 h (fun v8 h => ?_)
  refine q_ldA (pc := 11) C dX8_layInstruction_11 ⟨_, rfl⟩ h (fun v11 h => ?_)
  refine q_astore_n (pc := 12) (l' := [(2, q_R v11), (0, q_R l0), (1, q_R l1)]) C dX8_layInstruction_12 rfl (by decide) rfl ?_
  refine q_iconst (pc := 13) (v := (0 : Int32)) C dX8_layInstruction_13 (by decide) ?_
  refine q_istore_n (pc := 14) (l' := [(3, q_I (0 : Int32)), (2, q_R v11), (0, q_R l0), (1, q_R l1)]) C dX8_layInstruction_14 rfl (by decide) rfl ?_
  refine q_W.sub [2, 3, 1, 0] rfl ?_
  exact S_X8_layInstruction_15 B hT q_fu l0 l1 v11 (0 : Int32) _ h
def F_X8_layDown_77 (κ : Nat → Nat) (r2 : Option Nat → Int32 → q_X Int32) (l0 : Option Nat) (l1 : Int32) : q_X Int32 :=
  r2 l0 (l1 + (1 : Int32))
theorem M_X8_layDown_77 (κ : Nat → Nat) (r2 : Option Nat → Int32 → q_X Int32) (mr2 : ∀ (l0 : Option Nat) (l1 : Int32), q_mo (r2 l0 l1)) (l0 : Option Nat) (l1 : Int32) : q_mo (F_X8_layDown_77 κ r2 l0 l1) := (mr2 l0 (l1 + (1 : Int32)))
set_option maxRecDepth 100000 in
set_option maxHeartbeats 4000000 in
theorem S_X8_layDown_77 {E : q_Ev} {Γ : q_Gm} {w : (Int32 ⊕ q_Exn) × q_St} (B : q_Bd E Γ cX8_layDown yX8_layDown.cls 3 6 139 (some .boolean) yX8_layDown.name w) (hT : q_nT Γ) (r2 : Option Nat → Int32 → q_X Int32) (hr2 : ∀ (l0 : Option Nat) (l1 : Int32) (σ : q_St), r2 l0 l1 σ = some w → q_W E Γ (q_QF E Γ q_oI w) 3 σ 2 [(0, q_R l0), (1, q_I l1)] []) (mr2 : ∀ (l0 : Option Nat) (l1 : Int32), q_mo (r2 l0 l1)) (l0 : Option Nat) (l1 : Int32) (σ : q_St) (h : F_X8_layDown_77 (q_kap E) r2 l0 l1 σ = some w) : q_W E Γ (q_QF E Γ q_oI w) 3 σ 77 [(0, q_R l0), (1, q_I l1)] [] := by
  have C := B.1
  unfold F_X8_layDown_77 at h
  refine q_iinc (pc := 77) (v := (1 : Int32)) (l' := [(1, q_I (l1 + (1 : Int32))), (0, q_R l0)]) C 1 rfl dX8_layDown_77 (by decide) (by decide) rfl ?_
  refine q_goto (pc := 80) (tgt := 2) C dX8_layDown_80 (by decide) ?_
  refine q_W.sub [1, 0] rfl ?_
  exact hr2 l0 (l1 + (1 : Int32)) _ h
def F_X8_layDown_2B (κ : Nat → Nat) (r2 : Option Nat → Int32 → q_X Int32) (l0 : Option Nat) (l1 : Int32) : q_X Int32 :=
  q_rd (q_gA l0 11 4) fun v4 => q_rd (q_is v4 2) fun _ => q_ca (F_Jx4a65c_size_8abf5 κ v4) fun v7 => q_br (v7 ≤ l1) (q_rz (1 : Int32)) (q_rd (q_gA l0 11 4) fun v14 => q_rd (q_is v14 2) fun _ => q_ca (F_Jx4a65c_get_915e3 κ v14 l1) fun v18 => q_rd (q_is v18 6) fun _ => q_rd (q_is l0 11) fun _ => q_ca (F_X8_isFree κ l0 v18) fun v27 => q_br (¬ v27 = 0) (q_rd (q_gI v18 6 0) fun v49 => q_br (¬ v49 = (1 : Int32)) (q_rd (q_gI v18 6 0) fun v65 => q_br (¬ v65 = (2 : Int32)) (F_X8_layDown_77 κ r2 l0 l1) (q_rd (q_is l0 11) fun _ => q_ca (F_X8_layNumbers κ l0 v18) fun _v74 => F_X8_layDown_77 κ r2 l0 l1)) (q_rd (q_is l0 11) fun _ => q_ca (F_X8_layInstruction κ l0 v18) fun _v58 => F_X8_layDown_77 κ r2 l0 l1)) (q_rd (q_gA l0 11 0) fun v34 => q_rd (q_gI v18 6 1) fun v40 => q_rd (q_is v34 12) fun _ => q_ca (F_X9_failAt κ v34 (8 : Int32) v40) fun _v43 => q_rz (0 : Int32)))
theorem M_X8_layDown_2B (κ : Nat → Nat) (r2 : Option Nat → Int32 → q_X Int32) (mr2 : ∀ (l0 : Option Nat) (l1 : Int32), q_mo (r2 l0 l1)) (l0 : Option Nat) (l1 : Int32) : q_mo (F_X8_layDown_2B κ r2 l0 l1) := (q_mo_rd fun v4 => (q_mo_rd fun _ => q_mo_ca (M_Jx4a65c_size_8abf5 κ v4) fun v7 => (q_mo_br q_mo_rz (q_mo_rd fun v14 => (q_mo_rd fun _ => q_mo_ca (M_Jx4a65c_get_915e3 κ v14 l1) fun v18 => (q_mo_rd fun _ => (q_mo_rd fun _ => q_mo_ca (M_X8_isFree κ l0 v18) fun v27 => (q_mo_br (q_mo_rd fun v49 => (q_mo_br (q_mo_rd fun v65 => (q_mo_br (M_X8_layDown_77 κ r2 mr2 l0 l1) (q_mo_rd fun _ => q_mo_ca (M_X8_layNumbers κ l0 v18) fun _v74 => (M_X8_layDown_77 κ r2 mr2 l0 l1)))) (q_mo_rd fun _ => q_mo_ca (M_X8_layInstruction κ l0 v18) fun _v58 => (M_X8_layDown_77 κ r2 mr2 l0 l1)))) (q_mo_rd fun v34 => (q_mo_rd fun v40 => (q_mo_rd fun _ => q_mo_ca (M_X9_failAt κ v34 (8 : Int32) v40) fun _v43 => q_mo_rz)))))))))))
set_option maxRecDepth 100000 in
set_option maxHeartbeats 4000000 in
theorem S_X8_layDown_2B {E : q_Ev} {Γ : q_Gm} {w : (Int32 ⊕ q_Exn) × q_St} (B : q_Bd E Γ cX8_layDown yX8_layDown.cls 3 6 139 (some .boolean) yX8_layDown.name w) (hT : q_nT Γ) (r2 : Option Nat → Int32 → q_X Int32) (hr2 : ∀ (l0 : Option Nat) (l1 : Int32) (σ : q_St), r2 l0 l1 σ = some w → q_W E Γ (q_QF E Γ q_oI w) 3 σ 2 [(0, q_R l0), (1, q_I l1)] []) (mr2 : ∀ (l0 : Option Nat) (l1 : Int32), q_mo (r2 l0 l1)) (l0 : Option Nat) (l1 : Int32) (σ : q_St) (h : F_X8_layDown_2B (q_kap E) r2 l0 l1 σ = some w) : q_W E Γ (q_QF E Γ q_oI w) 3 σ 2 [(0, q_R l0), (1, q_I l1)] [] := by
  have C := B.1
  unfold F_X8_layDown_2B at h
  refine q_iload_n (pc := 2) C 1 rfl dX8_layDown_2 rfl ?_
  refine q_aload_n (pc := 3) C 0 rfl dX8_layDown_3 rfl ?_
  refine q_getA (pc := 4) C dX8_layDown_4 ql_X8_12 h (fun v4 h => ?_)
  refine q_callV (pc := 7) (As := []) (st := [q_I l1]) (ps := q_psI) C B.2.1 hT q_hpI qm_X8_80 qv_Jx4a65c_size_8abf5 dX8_layDown_7 rfl rfl (Nat.le_of_ble_eq_true rfl) (q_flo B.2.2.1 B.2.2.2.1 (by decide) (by decide)) (K_Jx4a65c_size_8abf5 v4) (M_Jx4a65c_size_8abf5 (q_kap E) v4) (by exact fun v7 => (q_mo_br q_mo_rz (q_mo_rd fun v14 => (q_mo_rd fun _ => q_mo_ca (M_Jx4a65c_get_915e3 (q_kap E) v14 l1) fun v18 => (q_mo_rd fun _ => (q_mo_rd fun _ => q_mo_ca (M_X8_isFree (q_kap E) l0 v18) fun v27 => (q_mo_br (q_mo_rd fun v49 => (q_mo_br (q_mo_rd fun v65 => (q_mo_br (M_X8_layDown_77 (q_kap E) r2 mr2 l0 l1) (q_mo_rd fun _ => q_mo_ca (M_X8_layNumbers (q_kap E) l0 v18) fun _v74 => (M_X8_layDown_77 (q_kap E) r2 mr2 l0 l1)))) (q_mo_rd fun _ => q_mo_ca (M_X8_layInstruction (q_kap E) l0 v18) fun _v58 => (M_X8_layDown_77 (q_kap E) r2 mr2 l0 l1)))) (q_mo_rd fun v34 => (q_mo_rd fun v40 => (q_mo_rd fun _ => q_mo_ca (M_X9_failAt (q_kap E) v34 (8 : Int32) v40) fun _v43 => q_mo_rz)))))))))) h (fun v7 σ h => ?_)
  refine q_W.st (st' := [q_I v7, q_I l1]) rfl ?_
  refine q_icmp_ge (pc := 10) (tgt := 83) C dX8_layDown_10 (by decide) h (fun _ h => ?_) (fun _ h => ?_)
  · refine q_iconst (pc := 83) (v := (1 : Int32)) C dX8_layDown_83 (by decide) ?_
    exact q_zret C B.2.2.2.2.1 dX8_layDown_84 h
  · refine q_aload_n (pc := 13) C 0 rfl dX8_layDown_13 rfl ?_
    refine q_getA (pc := 14) C dX8_layDown_14 ql_X8_12 h (fun v14 h => ?_)
    refine q_iload_n (pc := 17) C 1 rfl dX8_layDown_17 rfl ?_
    refine q_callV (pc := 18) (As := [q_I l1]) (st := []) (ps := q_psR) C B.2.1 hT q_hpR qm_X8_87 qv_Jx4a65c_get_915e3 dX8_layDown_18 rfl rfl (Nat.le_of_ble_eq_true rfl) (q_flo B.2.2.1 B.2.2.2.1 (by decide) (by decide)) (K_Jx4a65c_get_915e3 v14 l1) (M_Jx4a65c_get_915e3 (q_kap E) v14 l1) (by exact fun v18 => (q_mo_rd fun _ => (q_mo_rd fun _ => q_mo_ca (M_X8_isFree (q_kap E) l0 v18) fun v27 => (q_mo_br (q_mo_rd fun v49 => (q_mo_br (q_mo_rd fun v65 => (q_mo_br (M_X8_layDown_77 (q_kap E) r2 mr2 l0 l1) (q_mo_rd fun _ => q_mo_ca (M_X8_layNumbers (q_kap E) l0 v18) fun _v74 => (M_X8_layDown_77 (q_kap E) r2 mr2 l0 l1)))) (q_mo_rd fun _ => q_mo_ca (M_X8_layInstruction (q_kap E) l0 v18) fun _v58 => (M_X8_layDown_77 (q_kap E) r2 mr2 l0 l1)))) (q_mo_rd fun v34 => (q_mo_rd fun v40 => (q_mo_rd fun _ => q_mo_ca (M_X9_failAt (q_kap E) v34 (8 : Int32) v40) fun _v43 => q_mo_rz))))))) h (fun v18 σ h => ?_)
    refine q_W.st (st' := [q_R v18]) rfl ?_
    refine q_cast (pc := 21) (ci := 6) C dX8_layDown_21 rfl qb_X8_91 (by decide +kernel) h (fun h => ?_)
    refine q_astore_n (pc := 24) (l' := [(2, q_R v18), (0, q_R l0), (1, q_I l1)]) C dX8_layDown_24 rfl (by decide) rfl ?_
    refine q_aload_n (pc := 25) C 1 rfl dX8_layDown_25 rfl ?_
    refine q_aload_n (pc := 26) C 0 rfl dX8_layDown_26 rfl ?_
    refine q_callV (pc := 27) (As := [q_R v18]) (st := []) (ps := q_psI) C B.2.1 hT q_hpI qm_X8_294 qv_X8_isFree dX8_layDown_27 rfl rfl (Nat.le_of_ble_eq_true rfl) (q_flo B.2.2.1 B.2.2.2.1 (by decide) (by decide)) (K_X8_isFree l0 v18) (M_X8_isFree (q_kap E) l0 v18) (by exact fun v27 => (q_mo_br (q_mo_rd fun v49 => (q_mo_br (q_mo_rd fun v65 => (q_mo_br (M_X8_layDown_77 (q_kap E) r2 mr2 l0 l1) (q_mo_rd fun _ => q_mo_ca (M_X8_layNumbers (q_kap E) l0 v18) fun _v74 => (M_X8_layDown_77 (q_kap E) r2 mr2 l0 l1)))) (q_mo_rd fun _ => q_mo_ca (M_X8_layInstruction (q_kap E) l0 v18) fun _v58 => (M_X8_layDown_77 (q_kap E) r2 mr2 l0 l1)))) (q_mo_rd fun v34 => (q_mo_rd fun v40 => (q_mo_rd fun _ => q_mo_ca (M_X9_failAt (q_kap E) v34 (8 : Int32) v40) fun _v43 => q_mo_rz))))) h (fun v27 σ h => ?_)
    refine q_W.st (st' := [q_I v27]) rfl ?_
    refine q_if_ne (pc := 30) (tgt := 48) C dX8_layDown_30 (by decide) h (fun _ h => ?_) (fun _ h => ?_)
    · refine q_aload_n (pc := 48) C 0 rfl dX8_layDown_48 rfl ?_
      refine q_getI (pc := 49) C dX8_layDown_49 ql_X8_93 h (fun v49 h => ?_)
      refine q_iconst (pc := 52) (v := (1 : Int32)) C dX8_layDown_52 (by decide) ?_
      refine q_icmp_ne (pc := 53) (tgt := 64) C dX8_layDown_53 (by decide) h (fun _ h => ?_) (fun _ h => ?_)
      · refine q_aload_n (pc := 64) C 0 rfl dX8_layDown_64 rfl ?_
        refine q_getI (pc := 65) C dX8_layDown_65 ql_X8_93 h (fun v65 h => ?_)
        refine q_iconst (pc := 68) (v := (2 : Int32)) C dX8_layDown_68 (by decide) ?_
        refine q_icmp_ne (pc := 69) (tgt := 77) C dX8_layDown_69 (by decide) h (fun _ h => ?_) (fun _ h => ?_)
        · refine q_W.sub [1, 2] rfl ?_
          exact S_X8_layDown_77 B hT r2 hr2 mr2 l0 l1 _ h
        · refine q_aload_n (pc := 72) C 1 rfl dX8_layDown_72 rfl ?_
          refine q_aload_n (pc := 73) C 0 rfl dX8_layDown_73 rfl ?_
          refine q_callV (pc := 74) (As := [q_R v18]) (st := []) (ps := q_psV) C B.2.1 hT q_hpV qm_X8_300 qv_X8_layNumbers dX8_layDown_74 rfl rfl (Nat.le_of_ble_eq_true rfl) (q_flo B.2.2.1 B.2.2.2.1 (by decide) (by decide)) (K_X8_layNumbers l0 v18) (M_X8_layNumbers (q_kap E) l0 v18) (by exact fun _v74 => (M_X8_layDown_77 (q_kap E) r2 mr2 l0 l1)) h (fun _v74 σ h => ?_)
          refine q_W.st (st' := []) rfl ?_
          refine q_W.sub [1, 2] rfl ?_
          exact S_X8_layDown_77 B hT r2 hr2 mr2 l0 l1 _ h
      · refine q_aload_n (pc := 56) C 1 rfl dX8_layDown_56 rfl ?_
        refine q_aload_n (pc := 57) C 0 rfl dX8_layDown_57 rfl ?_
        refine q_callV (pc := 58) (As := [q_R v18]) (st := []) (ps := q_psV) C B.2.1 hT q_hpV qm_X8_297 qv_X8_layInstruction dX8_layDown_58 rfl rfl (Nat.le_of_ble_eq_true rfl) (q_flo B.2.2.1 B.2.2.2.1 (by decide) (by decide)) (K_X8_layInstruction l0 v18) (M_X8_layInstruction (q_kap E) l0 v18) (by exact fun _v58 => (M_X8_layDown_77 (q_kap E) r2 mr2 l0 l1)) h (fun _v58 σ h => ?_)
        refine q_W.st (st' := []) rfl ?_
        refine q_goto (pc := 61) (tgt := 77) C dX8_layDown_61 (by decide) ?_
        refine q_W.sub [1, 2] rfl ?_
        exact S_X8_layDown_77 B hT r2 hr2 mr2 l0 l1 _ h
    · refine q_aload_n (pc := 33) C 1 rfl dX8_layDown_33 rfl ?_
      refine q_getA (pc := 34) C dX8_layDown_34 ql_X8_29 h (fun v34 h => ?_)
      refine q_bipush (pc := 37) (v := (8 : Int32)) C dX8_layDown_37 (by decide) ?_
      refine q_aload_n (pc := 39) C 0 rfl dX8_layDown_39 rfl ?_
      refine q_getI (pc := 40) C dX8_layDown_40 ql_X8_184 h (fun v40 h => ?_)
      refine q_callV (pc := 43) (As := [q_I (8 : Int32), q_I v40]) (st := []) (ps := q_psV) C B.2.1 hT q_hpV qm_X8_107 qv_X9_failAt dX8_layDown_43 rfl rfl (Nat.le_of_ble_eq_true rfl) (q_flo B.2.2.1 B.2.2.2.1 (by decide) (by decide)) (K_X9_failAt v34 (8 : Int32) v40) (M_X9_failAt (q_kap E) v34 (8 : Int32) v40) (by exact fun _v43 => q_mo_rz) h (fun _v43 σ h => ?_)
      refine q_W.st (st' := []) rfl ?_
      refine q_iconst (pc := 46) (v := (0 : Int32)) C dX8_layDown_46 (by decide) ?_
      exact q_zret C B.2.2.2.2.1 dX8_layDown_47 h
def F_X8_layDown_2 (κ : Nat → Nat) : Nat → Option Nat → Int32 → q_X Int32
  | 0, _, _ => q_no
  | n + 1, l0, l1 => F_X8_layDown_2B κ (F_X8_layDown_2 κ n) l0 l1
theorem M_X8_layDown_2 (κ : Nat → Nat) : ∀ (n : Nat) (l0 : Option Nat) (l1 : Int32), q_mo (F_X8_layDown_2 κ n l0 l1)
  | 0, _, _ => q_mo_no
  | n + 1, l0, l1 => M_X8_layDown_2B κ (F_X8_layDown_2 κ n) (M_X8_layDown_2 κ n) l0 l1
theorem S_X8_layDown_2 {E : q_Ev} {Γ : q_Gm} {w : (Int32 ⊕ q_Exn) × q_St} (B : q_Bd E Γ cX8_layDown yX8_layDown.cls 3 6 139 (some .boolean) yX8_layDown.name w) (hT : q_nT Γ) : ∀ (n : Nat) (l0 : Option Nat) (l1 : Int32) (σ : q_St), F_X8_layDown_2 (q_kap E) n l0 l1 σ = some w → q_W E Γ (q_QF E Γ q_oI w) 3 σ 2 [(0, q_R l0), (1, q_I l1)] []
  | 0, _, _, _, h => by cases h
  | n + 1, l0, l1, σ, h => S_X8_layDown_2B B hT (F_X8_layDown_2 (q_kap E) n) (S_X8_layDown_2 B hT n) (M_X8_layDown_2 (q_kap E) n) l0 l1 σ h
def F_X8_layDown (κ : Nat → Nat) (l0 : Option Nat) : q_X Int32 :=
  F_X8_layDown_2 κ q_fu l0 (0 : Int32)
theorem M_X8_layDown (κ : Nat → Nat) (l0 : Option Nat) : q_mo (F_X8_layDown κ l0) := (M_X8_layDown_2 κ q_fu l0 (0 : Int32))
set_option maxRecDepth 100000 in
set_option maxHeartbeats 4000000 in
theorem K_X8_layDown {E : q_Ev} (l0 : Option Nat) : q_Ct E yX8_layDown (.code yX8_layDown cX8_layDown 3 (some .boolean)) 6 139 [q_R l0] q_oI (F_X8_layDown (q_kap E) l0) := by
  refine q_enter (by decide) (Nat.le_of_ble_eq_true rfl) (fun Γ σ w h B hT => ?_)
  have C := B.1
  unfold F_X8_layDown at h
  refine q_iconst (pc := 0) (v := (0 : Int32)) C dX8_layDown_0 (by decide) ?_
  refine q_istore_n (pc := 1) (l' := [(1, q_I (0 : Int32)), (0, q_R l0)]) C dX8_layDown_1 rfl (by decide) rfl ?_
  refine q_W.sub [1, 0] rfl ?_
  exact S_X8_layDown_2 B hT q_fu l0 (0 : Int32) _ h
def F_X9_init (κ : Nat → Nat) (l0 : Option Nat) (l1 : Option Nat) : q_X Unit :=
  q_gd (¬ l0 = none) (q_wr (q_pF l0 12 2 (.int (0 : Int32))) (q_wr (q_pF l0 12 3 (.int (-1 : Int32))) (q_wr (q_pF l0 12 0 (va_rf l1)) (q_rt ()))))
theorem M_X9_init (κ : Nat → Nat) (l0 : Option Nat) (l1 : Option Nat) : q_mo (F_X9_init κ l0 l1) := (q_mo_gd (q_mo_wr (q_mo_wr (q_mo_wr q_mo_rt))))
theorem N_X9_init (κ : Nat → Nat) (l0 : Option Nat) (l1 : Option Nat) : q_ni (F_X9_init κ l0 l1) := (q_ni_gd (q_ni_wr (q_ni_wr (q_ni_wr q_ni_rt))))
set_option maxRecDepth 100000 in
set_option maxHeartbeats 4000000 in
theorem K_X9_init {E : q_Ev} (l0 : Option Nat) (l1 : Option Nat) : q_Ct E yX9_init (.code yX9_init cX9_init 2 (none)) 1 20 [q_R l0, q_R l1] q_oV (F_X9_init (q_kap E) l0 l1) := by
  refine q_enter (by decide) (Nat.le_of_ble_eq_true rfl) (fun Γ σ w h B hT => ?_)
  have C := B.1
  unfold F_X9_init at h
  refine q_aload_n (pc := 0) C 0 rfl dX9_init_0 rfl ?_
  refine q_objI (pc := 1) C dX9_init_1 qo_X9_3 (q_flo B.2.2.1 B.2.2.2.1 (by decide) (by decide)) (Nat.le_of_ble_eq_true rfl) h (fun h => ?_)
  refine q_aload_n (pc := 4) C 0 rfl dX9_init_4 rfl ?_
  refine q_iconst (pc := 5) (v := (0 : Int32)) C dX9_init_5 (by decide) ?_
  refine q_putV (pc := 6) (v := q_I (0 : Int32)) C dX9_init_6 ql_X9_9 (Or.inl rfl) rfl rfl h (fun M6 h => ?_)
  refine q_aload_n (pc := 9) C 0 rfl dX9_init_9 rfl ?_
  refine q_iconst (pc := 10) (v := (-1 : Int32)) C dX9_init_10 (by decide) ?_
  refine q_putV (pc := 11) (v := q_I (-1 : Int32)) C dX9_init_11 ql_X9_15 (Or.inl rfl) rfl rfl h (fun M11 h => ?_)
  refine q_aload_n (pc := 14) C 0 rfl dX9_init_14 rfl ?_
  refine q_aload_n (pc := 15) C 1 rfl dX9_init_15 rfl ?_
  refine q_putV (pc := 16) (v := q_R l1) C dX9_init_16 ql_X9_18 (Or.inr ⟨B.2.2.2.2.2, RX9, TX9, 4, rfl, rfl⟩) q_nfO q_nfO' h (fun M16 h => ?_)
  exact q_vret C B.2.2.2.2.1 dX9_init_19 h
def F_X10_init (κ : Nat → Nat) (l0 : Option Nat) : q_X Unit :=
  q_gd (¬ l0 = none) (q_gd (¬ (6000 : Int32) < 0 ∧ (6000 : Int32).toNatClampNeg ≤ 65536) (q_mk (q_nI 0 (6000 : Int32)) (6000 : Int32).toNatClampNeg fun a8 => q_wr (q_pF l0 13 0 (va_rf (some a8))) (q_gd (¬ (6003 : Int32) < 0 ∧ (6003 : Int32).toNatClampNeg ≤ 65536) (q_mk (q_nI 0 (6003 : Int32)) (6003 : Int32).toNatClampNeg fun a17 => q_wr (q_pF l0 13 1 (va_rf (some a17))) (q_gd (¬ (6003 : Int32) < 0 ∧ (6003 : Int32).toNatClampNeg ≤ 65536) (q_mk (q_nI 1 (6003 : Int32)) (6003 : Int32).toNatClampNeg fun a26 => q_wr (q_pF l0 13 2 (va_rf (some a26))) (q_gd (¬ (6003 : Int32) < 0 ∧ (6003 : Int32).toNatClampNeg ≤ 65536) (q_mk (q_nI 1 (6003 : Int32)) (6003 : Int32).toNatClampNeg fun a35 => q_wr (q_pF l0 13 3 (va_rf (some a35))) (q_gd (¬ (6003 : Int32) < 0 ∧ (6003 : Int32).toNatClampNeg ≤ 65536) (q_mk (q_nL (6003 : Int32)) (6003 : Int32).toNatClampNeg fun a44 => q_wr (q_pF l0 13 4 (va_rf (some a44))) (q_rt ())))))))))))
theorem M_X10_init (κ : Nat → Nat) (l0 : Option Nat) : q_mo (F_X10_init κ l0) := (q_mo_gd (q_mo_gd (q_mo_mk fun a8 => (q_mo_wr (q_mo_gd (q_mo_mk fun a17 => (q_mo_wr (q_mo_gd (q_mo_mk fun a26 => (q_mo_wr (q_mo_gd (q_mo_mk fun a35 => (q_mo_wr (q_mo_gd (q_mo_mk fun a44 => (q_mo_wr q_mo_rt))))))))))))))))
theorem N_X10_init (κ : Nat → Nat) (l0 : Option Nat) : q_ni (F_X10_init κ l0) := (q_ni_gd (q_ni_gd (q_ni_mk fun a8 => (q_ni_wr (q_ni_gd (q_ni_mk fun a17 => (q_ni_wr (q_ni_gd (q_ni_mk fun a26 => (q_ni_wr (q_ni_gd (q_ni_mk fun a35 => (q_ni_wr (q_ni_gd (q_ni_mk fun a44 => (q_ni_wr q_ni_rt))))))))))))))))
set_option maxRecDepth 100000 in
set_option maxHeartbeats 4000000 in
theorem K_X10_init {E : q_Ev} (l0 : Option Nat) : q_Ct E yX10_init (.code yX10_init cX10_init 1 (none)) 1 20 [q_R l0] q_oV (F_X10_init (q_kap E) l0) := by
  refine q_enter (by decide) (Nat.le_of_ble_eq_true rfl) (fun Γ σ w h B hT => ?_)
  have C := B.1
  unfold F_X10_init at h
  refine q_aload_n (pc := 0) C 0 rfl dX10_init_0 rfl ?_
  refine q_objI (pc := 1) C dX10_init_1 qo_X10_3 (q_flo B.2.2.1 B.2.2.2.1 (by decide) (by decide)) (Nat.le_of_ble_eq_true rfl) h (fun h => ?_)
  refine q_aload_n (pc := 4) C 0 rfl dX10_init_4 rfl ?_
  refine q_sipush (pc := 5) (v := (6000 : Int32)) C dX10_init_5 (by decide) ?_
  refine q_newP (pc := 8) (t := 0) (A := ((6000 : Int32).toNatClampNeg, .inl (fun _ => 0))) C dX10_init_8 qa_byte rfl (by decide) (fun _ h => h) rfl (fun _ => rfl) (by decide) (by exact fun a8 => (q_mo_wr (q_mo_gd (q_mo_mk fun a17 => (q_mo_wr (q_mo_gd (q_mo_mk fun a26 => (q_mo_wr (q_mo_gd (q_mo_mk fun a35 => (q_mo_wr (q_mo_gd (q_mo_mk fun a44 => (q_mo_wr q_mo_rt)))))))))))))) B.2.1 h (fun a8 σ h => ?_)
  refine q_putV (pc := 10) (v := q_R (some a8)) C dX10_init_10 ql_X10_9 (Or.inr ⟨B.2.2.2.2.2, RX10, TX10, 7, rfl, rfl⟩) q_nfA q_nfA' h (fun M10 h => ?_)
  refine q_aload_n (pc := 13) C 0 rfl dX10_init_13 rfl ?_
  refine q_sipush (pc := 14) (v := (6003 : Int32)) C dX10_init_14 (by decide) ?_
  refine q_newP (pc := 17) (t := 0) (A := ((6003 : Int32).toNatClampNeg, .inl (fun _ => 0))) C dX10_init_17 qa_byte rfl (by decide) (fun _ h => h) rfl (fun _ => rfl) (by decide) (by exact fun a17 => (q_mo_wr (q_mo_gd (q_mo_mk fun a26 => (q_mo_wr (q_mo_gd (q_mo_mk fun a35 => (q_mo_wr (q_mo_gd (q_mo_mk fun a44 => (q_mo_wr q_mo_rt))))))))))) B.2.1 h (fun a17 σ h => ?_)
  refine q_putV (pc := 19) (v := q_R (some a17)) C dX10_init_19 ql_X10_15 (Or.inr ⟨B.2.2.2.2.2, RX10, TX10, 7, rfl, rfl⟩) q_nfA q_nfA' h (fun M19 h => ?_)
  refine q_aload_n (pc := 22) C 0 rfl dX10_init_22 rfl ?_
  refine q_sipush (pc := 23) (v := (6003 : Int32)) C dX10_init_23 (by decide) ?_
  refine q_newP (pc := 26) (t := 1) (A := ((6003 : Int32).toNatClampNeg, .inl (fun _ => 0))) C dX10_init_26 qa_int rfl (by decide) (fun _ h => h) rfl (fun _ => rfl) (by decide) (by exact fun a26 => (q_mo_wr (q_mo_gd (q_mo_mk fun a35 => (q_mo_wr (q_mo_gd (q_mo_mk fun a44 => (q_mo_wr q_mo_rt)))))))) B.2.1 h (fun a26 σ h => ?_)
  refine q_putV (pc := 28) (v := q_R (some a26)) C dX10_init_28 ql_X10_18 (Or.inr ⟨B.2.2.2.2.2, RX10, TX10, 7, rfl, rfl⟩) q_nfA q_nfA' h (fun M28 h => ?_)
  refine q_aload_n (pc := 31) C 0 rfl dX10_init_31 rfl ?_
  refine q_sipush (pc := 32) (v := (6003 : Int32)) C dX10_init_32 (by decide) ?_
  refine q_newP (pc := 35) (t := 1) (A := ((6003 : Int32).toNatClampNeg, .inl (fun _ => 0))) C dX10_init_35 qa_int rfl (by decide) (fun _ h => h) rfl (fun _ => rfl) (by decide) (by exact fun a35 => (q_mo_wr (q_mo_gd (q_mo_mk fun a44 => (q_mo_wr q_mo_rt))))) B.2.1 h (fun a35 σ h => ?_)
  refine q_putV (pc := 37) (v := q_R (some a35)) C dX10_init_37 ql_X10_22 (Or.inr ⟨B.2.2.2.2.2, RX10, TX10, 7, rfl, rfl⟩) q_nfA q_nfA' h (fun M37 h => ?_)
  refine q_aload_n (pc := 40) C 0 rfl dX10_init_40 rfl ?_
  refine q_sipush (pc := 41) (v := (6003 : Int32)) C dX10_init_41 (by decide) ?_
  refine q_newP (pc := 44) (t := 2) (A := ((6003 : Int32).toNatClampNeg, .inr (.inl (fun _ => 0)))) C dX10_init_44 qa_long rfl (by decide) (fun _ h => h) rfl (fun _ => rfl) (by decide) (by exact fun a44 => (q_mo_wr q_mo_rt)) B.2.1 h (fun a44 σ h => ?_)
  refine q_putV (pc := 46) (v := q_R (some a44)) C dX10_init_46 ql_X10_25 (Or.inr ⟨B.2.2.2.2.2, RX10, TX10, 7, rfl, rfl⟩) q_nfA q_nfA' h (fun M46 h => ?_)
  exact q_vret C B.2.2.2.2.1 dX10_init_49 h
def F_X10_hasRoomFor_17 (κ : Nat → Nat) (s0 : Int32) : q_X Int32 :=
  q_rz s0
theorem M_X10_hasRoomFor_17 (κ : Nat → Nat) (s0 : Int32) : q_mo (F_X10_hasRoomFor_17 κ s0) := q_mo_rz
set_option maxRecDepth 100000 in
set_option maxHeartbeats 4000000 in
theorem S_X10_hasRoomFor_17 {E : q_Ev} {Γ : q_Gm} {w : (Int32 ⊕ q_Exn) × q_St} (B : q_Bd E Γ cX10_hasRoomFor yX10_hasRoomFor.cls 2 0 0 (some .boolean) yX10_hasRoomFor.name w) (hT : q_nT Γ) (s0 : Int32) (σ : q_St) (h : F_X10_hasRoomFor_17 (q_kap E) s0 σ = some w) : q_W E Γ (q_QF E Γ q_oI w) 2 σ 17 [] [q_I s0] := by
  have C := B.1
  unfold F_X10_hasRoomFor_17 at h
  exact q_zret C B.2.2.2.2.1 dX10_hasRoomFor_17 h
def F_X10_hasRoomFor (κ : Nat → Nat) (l0 : Option Nat) (l1 : Int32) : q_X Int32 :=
  q_rd (q_gI l0 13 5) fun v1 => q_br ((6000 : Int32) < (v1 + l1)) (F_X10_hasRoomFor_17 κ (0 : Int32)) (F_X10_hasRoomFor_17 κ (1 : Int32))
theorem M_X10_hasRoomFor (κ : Nat → Nat) (l0 : Option Nat) (l1 : Int32) : q_mo (F_X10_hasRoomFor κ l0 l1) := (q_mo_rd fun v1 => (q_mo_br (M_X10_hasRoomFor_17 κ (0 : Int32)) (M_X10_hasRoomFor_17 κ (1 : Int32))))
set_option maxRecDepth 100000 in
set_option maxHeartbeats 4000000 in
theorem K_X10_hasRoomFor {E : q_Ev} (l0 : Option Nat) (l1 : Int32) : q_Ct E yX10_hasRoomFor (.code yX10_hasRoomFor cX10_hasRoomFor 2 (some .boolean)) 0 0 [q_R l0, q_I l1] q_oI (F_X10_hasRoomFor (q_kap E) l0 l1) := by
  refine q_enter (by decide) (Nat.le_of_ble_eq_true rfl) (fun Γ σ w h B hT => ?_)
  have C := B.1
  unfold F_X10_hasRoomFor at h
  refine q_aload_n (pc := 0) C 0 rfl dX10_hasRoomFor_0 rfl ?_
  refine q_getI (pc := 1) C dX10_hasRoomFor_1 ql_X10_29 h (fun v1 h => ?_)
  refine q_iload_n (pc := 4) C 1 rfl dX10_hasRoomFor_4 rfl ?_
  refine q_iadd (pc := 5) C dX10_hasRoomFor_5 ?_
  refine q_sipush (pc := 6) (v := (6000 : Int32)) C dX10_hasRoomFor_6 (by decide) ?_
  refine q_icmp_gt (pc := 9) (tgt := 16) C dX10_hasRoomFor_9 (by decide) h (fun _ h => ?_) (fun _ h => ?_)
  · refine q_iconst (pc := 16) (v := (0 : Int32)) C dX10_hasRoomFor_16 (by decide) ?_
    refine q_W.sub [] rfl ?_
    exact S_X10_hasRoomFor_17 B hT (0 : Int32) _ h
  · refine q_iconst (pc := 12) (v := (1 : Int32)) C dX10_hasRoomFor_12 (by decide) ?_
    refine q_goto (pc := 13) (tgt := 17) C dX10_hasRoomFor_13 (by decide) ?_
    refine q_W.sub [] rfl ?_
    exact S_X10_hasRoomFor_17 B hT (1 : Int32) _ h
def F_X10_addByte (κ : Nat → Nat) (l0 : Option Nat) (l1 : Int32) : q_X Unit :=
  q_rd (q_gA l0 13 0) fun v1 => q_rd (q_gI l0 13 5) fun v5 => q_wr (q_sI 0 v1 v5 (vp_nar .byte l1.toInt8.toInt32)) (q_rd (q_gI l0 13 5) fun v13 => q_wr (q_pF l0 13 5 (.int (v13 + (1 : Int32)))) (q_rt ()))
theorem M_X10_addByte (κ : Nat → Nat) (l0 : Option Nat) (l1 : Int32) : q_mo (F_X10_addByte κ l0 l1) := (q_mo_rd fun v1 => (q_mo_rd fun v5 => (q_mo_wr (q_mo_rd fun v13 => (q_mo_wr q_mo_rt)))))
theorem N_X10_addByte (κ : Nat → Nat) (l0 : Option Nat) (l1 : Int32) : q_ni (F_X10_addByte κ l0 l1) := (q_ni_rd fun v1 => (q_ni_rd fun v5 => (q_ni_wr (q_ni_rd fun v13 => (q_ni_wr q_ni_rt)))))
set_option maxRecDepth 100000 in
set_option maxHeartbeats 4000000 in
theorem K_X10_addByte {E : q_Ev} (l0 : Option Nat) (l1 : Int32) : q_Ct E yX10_addByte (.code yX10_addByte cX10_addByte 2 (none)) 0 0 [q_R l0, q_I l1] q_oV (F_X10_addByte (q_kap E) l0 l1) := by
  refine q_enter (by decide) (Nat.le_of_ble_eq_true rfl) (fun Γ σ w h B hT => ?_)
  have C := B.1
  unfold F_X10_addByte at h
  refine q_aload_n (pc := 0) C 0 rfl dX10_addByte_0 rfl ?_
  refine q_getA (pc := 1) C dX10_addByte_1 ql_X10_9 h (fun v1 h => ?_)
  refine q_aload_n (pc := 4) C 0 rfl dX10_addByte_4 rfl ?_
  refine q_getI (pc := 5) C dX10_addByte_5 ql_X10_29 h (fun v5 h => ?_)
  refine q_iload_n (pc := 8) C 1 rfl dX10_addByte_8 rfl ?_
  refine q_i2b (pc := 9) C dX10_addByte_9 ?_
  refine q_stB (pc := 10) C dX10_addByte_10 h (fun M10 h => ?_)
  refine q_aload_n (pc := 11) C 0 rfl dX10_addByte_11 rfl ?_
  refine q_dup (pc := 12) C dX10_addByte_12 rfl ?_
  refine q_getI (pc := 13) C dX10_addByte_13 ql_X10_29 h (fun v13 h => ?_)
  refine q_iconst (pc := 16) (v := (1 : Int32)) C dX10_addByte_16 (by decide) ?_
  refine q_iadd (pc := 17) C dX10_addByte_17 ?_
  refine q_putV (pc := 18) (v := q_I (v13 + (1 : Int32))) C dX10_addByte_18 ql_X10_29 (Or.inl rfl) rfl rfl h (fun M18 h => ?_)
  exact q_vret C B.2.2.2.2.1 dX10_addByte_21 h
def F_X10_addFour (κ : Nat → Nat) (l0 : Option Nat) (l1 : Int32) : q_X Unit :=
  q_rd (q_is l0 13) fun _ => q_ca (F_X10_addByte κ l0 (q_ius l1 (24 : Int32))) fun _v5 => q_rd (q_is l0 13) fun _ => q_ca (F_X10_addByte κ l0 (q_ius l1 (16 : Int32))) fun _v13 => q_rd (q_is l0 13) fun _ => q_ca (F_X10_addByte κ l0 (q_ius l1 (8 : Int32))) fun _v21 => q_rd (q_is l0 13) fun _ => q_ca (F_X10_addByte κ l0 l1) fun _v26 => q_rt ()
theorem M_X10_addFour (κ : Nat → Nat) (l0 : Option Nat) (l1 : Int32) : q_mo (F_X10_addFour κ l0 l1) := (q_mo_rd fun _ => q_mo_ca (M_X10_addByte κ l0 (q_ius l1 (24 : Int32))) fun _v5 => (q_mo_rd fun _ => q_mo_ca (M_X10_addByte κ l0 (q_ius l1 (16 : Int32))) fun _v13 => (q_mo_rd fun _ => q_mo_ca (M_X10_addByte κ l0 (q_ius l1 (8 : Int32))) fun _v21 => (q_mo_rd fun _ => q_mo_ca (M_X10_addByte κ l0 l1) fun _v26 => q_mo_rt))))
theorem N_X10_addFour (κ : Nat → Nat) (l0 : Option Nat) (l1 : Int32) : q_ni (F_X10_addFour κ l0 l1) := (q_ni_rd fun _ => q_ni_ca (N_X10_addByte κ l0 (q_ius l1 (24 : Int32))) fun _v5 => (q_ni_rd fun _ => q_ni_ca (N_X10_addByte κ l0 (q_ius l1 (16 : Int32))) fun _v13 => (q_ni_rd fun _ => q_ni_ca (N_X10_addByte κ l0 (q_ius l1 (8 : Int32))) fun _v21 => (q_ni_rd fun _ => q_ni_ca (N_X10_addByte κ l0 l1) fun _v26 => q_ni_rt))))
set_option maxRecDepth 100000 in
set_option maxHeartbeats 4000000 in
theorem K_X10_addFour {E : q_Ev} (l0 : Option Nat) (l1 : Int32) : q_Ct E yX10_addFour (.code yX10_addFour cX10_addFour 2 (none)) 1 21 [q_R l0, q_I l1] q_oV (F_X10_addFour (q_kap E) l0 l1) := by
  refine q_enter (by decide) (Nat.le_of_ble_eq_true rfl) (fun Γ σ w h B hT => ?_)
  have C := B.1
  unfold F_X10_addFour at h
  refine q_aload_n (pc := 0) C 0 rfl dX10_addFour_0 rfl ?_
  refine q_iload_n (pc := 1) C 1 rfl dX10_addFour_1 rfl ?_
  refine q_bipush (pc := 2) (v := (24 : Int32)) C dX10_addFour_2 (by decide) ?_
  refine q_iushr (pc := 4) C dX10_addFour_4 ?_
  refine q_callV (pc := 5) (As := [q_I (q_ius l1 (24 : Int32))]) (st := []) (ps := q_psV) C B.2.1 hT q_hpV qm_X10_33 qv_X10_addByte dX10_addFour_5 rfl rfl (Nat.le_of_ble_eq_true rfl) (q_flo B.2.2.1 B.2.2.2.1 (by decide) (by decide)) (K_X10_addByte l0 (q_ius l1 (24 : Int32))) (M_X10_addByte (q_kap E) l0 (q_ius l1 (24 : Int32))) (by exact fun _v5 => (q_mo_rd fun _ => q_mo_ca (M_X10_addByte (q_kap E) l0 (q_ius l1 (16 : Int32))) fun _v13 => (q_mo_rd fun _ => q_mo_ca (M_X10_addByte (q_kap E) l0 (q_ius l1 (8 : Int32))) fun _v21 => (q_mo_rd fun _ => q_mo_ca (M_X10_addByte (q_kap E) l0 l1) fun _v26 => q_mo_rt)))) h (fun _v5 σ h => ?_)
  refine q_W.st (st' := []) rfl ?_
  refine q_aload_n (pc := 8) C 0 rfl dX10_addFour_8 rfl ?_
  refine q_iload_n (pc := 9) C 1 rfl dX10_addFour_9 rfl ?_
  refine q_bipush (pc := 10) (v := (16 : Int32)) C dX10_addFour_10 (by decide) ?_
  refine q_iushr (pc := 12) C dX10_addFour_12 ?_
  refine q_callV (pc := 13) (As := [q_I (q_ius l1 (16 : Int32))]) (st := []) (ps := q_psV) C B.2.1 hT q_hpV qm_X10_33 qv_X10_addByte dX10_addFour_13 rfl rfl (Nat.le_of_ble_eq_true rfl) (q_flo B.2.2.1 B.2.2.2.1 (by decide) (by decide)) (K_X10_addByte l0 (q_ius l1 (16 : Int32))) (M_X10_addByte (q_kap E) l0 (q_ius l1 (16 : Int32))) (by exact fun _v13 => (q_mo_rd fun _ => q_mo_ca (M_X10_addByte (q_kap E) l0 (q_ius l1 (8 : Int32))) fun _v21 => (q_mo_rd fun _ => q_mo_ca (M_X10_addByte (q_kap E) l0 l1) fun _v26 => q_mo_rt))) h (fun _v13 σ h => ?_)
  refine q_W.st (st' := []) rfl ?_
  refine q_aload_n (pc := 16) C 0 rfl dX10_addFour_16 rfl ?_
  refine q_iload_n (pc := 17) C 1 rfl dX10_addFour_17 rfl ?_
  refine q_bipush (pc := 18) (v := (8 : Int32)) C dX10_addFour_18 (by decide) ?_
  refine q_iushr (pc := 20) C dX10_addFour_20 ?_
  refine q_callV (pc := 21) (As := [q_I (q_ius l1 (8 : Int32))]) (st := []) (ps := q_psV) C B.2.1 hT q_hpV qm_X10_33 qv_X10_addByte dX10_addFour_21 rfl rfl (Nat.le_of_ble_eq_true rfl) (q_flo B.2.2.1 B.2.2.2.1 (by decide) (by decide)) (K_X10_addByte l0 (q_ius l1 (8 : Int32))) (M_X10_addByte (q_kap E) l0 (q_ius l1 (8 : Int32))) (by exact fun _v21 => (q_mo_rd fun _ => q_mo_ca (M_X10_addByte (q_kap E) l0 l1) fun _v26 => q_mo_rt)) h (fun _v21 σ h => ?_)
  refine q_W.st (st' := []) rfl ?_
  refine q_aload_n (pc := 24) C 0 rfl dX10_addFour_24 rfl ?_
  refine q_iload_n (pc := 25) C 1 rfl dX10_addFour_25 rfl ?_
  refine q_callV (pc := 26) (As := [q_I l1]) (st := []) (ps := q_psV) C B.2.1 hT q_hpV qm_X10_33 qv_X10_addByte dX10_addFour_26 rfl rfl (Nat.le_of_ble_eq_true rfl) (q_flo B.2.2.1 B.2.2.2.1 (by decide) (by decide)) (K_X10_addByte l0 l1) (M_X10_addByte (q_kap E) l0 l1) (by exact fun _v26 => q_mo_rt) h (fun _v26 σ h => ?_)
  refine q_W.st (st' := []) rfl ?_
  exact q_vret C B.2.2.2.2.1 dX10_addFour_29 h
def F_X11_init (κ : Nat → Nat) (l0 : Option Nat) : q_X Unit :=
  q_gd (¬ l0 = none) (q_mk (.inr (.inl (13, [.null, .null, .null, .null, .null, .int 0, .int 0]))) 7 fun a4 => q_gd (¬ (some a4) = none) (q_ca (F_X10_init κ (some a4)) fun _v8 => q_mk (.inr (.inl (8, [.null, .null, .int 0, .int 0, .int 0]))) 5 fun a12 => q_gd (¬ (some a12) = none) (q_ca (F_X5_init κ (some a12)) fun _v16 => q_mk (.inr (.inl (9, [.null, .null, .int 0]))) 3 fun a20 => q_gd (¬ (some a20) = none) (q_ca (F_X6_init κ (some a20)) fun _v24 => q_mk (.inr (.inl (12, [.null, .int 0, .int 0, .int 0]))) 4 fun a28 => q_gd (¬ (some a28) = none) (q_ca (F_X9_init κ (some a28) (some a4)) fun _v33 => q_wr (q_pF l0 14 0 (va_rf (some a4))) (q_wr (q_pF l0 14 1 (va_rf (some a28))) (q_wr (q_pF l0 14 2 (va_rf (some a12))) (q_wr (q_pF l0 14 3 (va_rf (some a20))) (q_mk (.inr (.inl (7, [.null, .null, .null, .null, .null, .int 0, .int 0]))) 7 fun a60 => q_gd (¬ (some a60) = none) (q_ca (F_X4_init κ (some a60) (some a12) (some a20)) fun _v66 => q_wr (q_pF l0 14 6 (va_rf (some a60))) (q_mk (.inr (.inl (3, [.null, .null, .null, .null, .int 0, .null, .int 0]))) 7 fun a73 => q_gd (¬ (some a73) = none) (q_ca (F_X0_init κ (some a73) (some a28) (some a12)) fun _v80 => q_wr (q_pF l0 14 4 (va_rf (some a73))) (q_mk (.inr (.inl (11, [.null, .null, .null, .null, .null, .null, .null, .null, .int 0]))) 9 fun a87 => q_gd (¬ (some a87) = none) (q_ca (F_X8_init κ (some a87) (some a28) (some a12) (some a20)) fun _v95 => q_wr (q_pF l0 14 5 (va_rf (some a87))) (q_rt ())))))))))))))))
theorem M_X11_init (κ : Nat → Nat) (l0 : Option Nat) : q_mo (F_X11_init κ l0) := (q_mo_gd (q_mo_mk fun a4 => (q_mo_gd (q_mo_ca (M_X10_init κ (some a4)) fun _v8 => (q_mo_mk fun a12 => (q_mo_gd (q_mo_ca (M_X5_init κ (some a12)) fun _v16 => (q_mo_mk fun a20 => (q_mo_gd (q_mo_ca (M_X6_init κ (some a20)) fun _v24 => (q_mo_mk fun a28 => (q_mo_gd (q_mo_ca (M_X9_init κ (some a28) (some a4)) fun _v33 => (q_mo_wr (q_mo_wr (q_mo_wr (q_mo_wr (q_mo_mk fun a60 => (q_mo_gd (q_mo_ca (M_X4_init κ (some a60) (some a12) (some a20)) fun _v66 => (q_mo_wr (q_mo_mk fun a73 => (q_mo_gd (q_mo_ca (M_X0_init κ (some a73) (some a28) (some a12)) fun _v80 => (q_mo_wr (q_mo_mk fun a87 => (q_mo_gd (q_mo_ca (M_X8_init κ (some a87) (some a28) (some a12) (some a20)) fun _v95 => (q_mo_wr q_mo_rt)))))))))))))))))))))))))))))
theorem N_X11_init (κ : Nat → Nat) (l0 : Option Nat) : q_ni (F_X11_init κ l0) := (q_ni_gd (q_ni_mk fun a4 => (q_ni_gd (q_ni_ca (N_X10_init κ (some a4)) fun _v8 => (q_ni_mk fun a12 => (q_ni_gd (q_ni_ca (N_X5_init κ (some a12)) fun _v16 => (q_ni_mk fun a20 => (q_ni_gd (q_ni_ca (N_X6_init κ (some a20)) fun _v24 => (q_ni_mk fun a28 => (q_ni_gd (q_ni_ca (N_X9_init κ (some a28) (some a4)) fun _v33 => (q_ni_wr (q_ni_wr (q_ni_wr (q_ni_wr (q_ni_mk fun a60 => (q_ni_gd (q_ni_ca (N_X4_init κ (some a60) (some a12) (some a20)) fun _v66 => (q_ni_wr (q_ni_mk fun a73 => (q_ni_gd (q_ni_ca (N_X0_init κ (some a73) (some a28) (some a12)) fun _v80 => (q_ni_wr (q_ni_mk fun a87 => (q_ni_gd (q_ni_ca (N_X8_init κ (some a87) (some a28) (some a12) (some a20)) fun _v95 => (q_ni_wr q_ni_rt)))))))))))))))))))))))))))))
set_option maxRecDepth 100000 in
set_option maxHeartbeats 4000000 in
theorem K_X11_init {E : q_Ev} (l0 : Option Nat) : q_Ct E yX11_init (.code yX11_init cX11_init 5 (none)) 5 103 [q_R l0] q_oV (F_X11_init (q_kap E) l0) := by
  refine q_enter (by decide) (Nat.le_of_ble_eq_true rfl) (fun Γ σ w h B hT => ?_)
  have C := B.1
  unfold F_X11_init at h
  refine q_aload_n (pc := 0) C 0 rfl dX11_init_0 rfl ?_
  refine q_objI (pc := 1) C dX11_init_1 qo_X11_1 (q_flo B.2.2.1 B.2.2.2.1 (by decide) (by decide)) (Nat.le_of_ble_eq_true rfl) h (fun h => ?_)
  refine q_new (pc := 4) C dX11_init_4 qn_X11_7 (by exact fun a4 => (q_mo_gd (q_mo_ca (M_X10_init (q_kap E) (some a4)) fun _v8 => (q_mo_mk fun a12 => (q_mo_gd (q_mo_ca (M_X5_init (q_kap E) (some a12)) fun _v16 => (q_mo_mk fun a20 => (q_mo_gd (q_mo_ca (M_X6_init (q_kap E) (some a20)) fun _v24 => (q_mo_mk fun a28 => (q_mo_gd (q_mo_ca (M_X9_init (q_kap E) (some a28) (some a4)) fun _v33 => (q_mo_wr (q_mo_wr (q_mo_wr (q_mo_wr (q_mo_mk fun a60 => (q_mo_gd (q_mo_ca (M_X4_init (q_kap E) (some a60) (some a12) (some a20)) fun _v66 => (q_mo_wr (q_mo_mk fun a73 => (q_mo_gd (q_mo_ca (M_X0_init (q_kap E) (some a73) (some a28) (some a12)) fun _v80 => (q_mo_wr (q_mo_mk fun a87 => (q_mo_gd (q_mo_ca (M_X8_init (q_kap E) (some a87) (some a28) (some a12) (some a20)) fun _v95 => (q_mo_wr q_mo_rt)))))))))))))))))))))))))))) B.2.1 h (fun a4 σ h => ?_)
  refine q_dup (pc := 7) C dX11_init_7 rfl ?_
  refine q_callIN (pc := 8) (As := []) (st := [q_R (some a4)]) C B.2.1 (fun _ => rfl) qm_X11_9 qI_X10_init dX11_init_8 rfl rfl (Nat.le_of_ble_eq_true rfl) (q_flo B.2.2.1 B.2.2.2.1 (by decide) (by decide)) (K_X10_init (some a4)) (M_X10_init (q_kap E) (some a4)) (N_X10_init (q_kap E) (some a4)) (by exact fun _v8 => (q_mo_mk fun a12 => (q_mo_gd (q_mo_ca (M_X5_init (q_kap E) (some a12)) fun _v16 => (q_mo_mk fun a20 => (q_mo_gd (q_mo_ca (M_X6_init (q_kap E) (some a20)) fun _v24 => (q_mo_mk fun a28 => (q_mo_gd (q_mo_ca (M_X9_init (q_kap E) (some a28) (some a4)) fun _v33 => (q_mo_wr (q_mo_wr (q_mo_wr (q_mo_wr (q_mo_mk fun a60 => (q_mo_gd (q_mo_ca (M_X4_init (q_kap E) (some a60) (some a12) (some a20)) fun _v66 => (q_mo_wr (q_mo_mk fun a73 => (q_mo_gd (q_mo_ca (M_X0_init (q_kap E) (some a73) (some a28) (some a12)) fun _v80 => (q_mo_wr (q_mo_mk fun a87 => (q_mo_gd (q_mo_ca (M_X8_init (q_kap E) (some a87) (some a28) (some a12) (some a20)) fun _v95 => (q_mo_wr q_mo_rt)))))))))))))))))))))))))) h (fun _v8 σ h => ?_)
  refine q_astore_n (pc := 11) (l' := [(1, q_R (some a4)), (0, q_R l0)]) C dX11_init_11 rfl (by decide) rfl ?_
  refine q_new (pc := 12) C dX11_init_12 qn_X11_10 (by exact fun a12 => (q_mo_gd (q_mo_ca (M_X5_init (q_kap E) (some a12)) fun _v16 => (q_mo_mk fun a20 => (q_mo_gd (q_mo_ca (M_X6_init (q_kap E) (some a20)) fun _v24 => (q_mo_mk fun a28 => (q_mo_gd (q_mo_ca (M_X9_init (q_kap E) (some a28) (some a4)) fun _v33 => (q_mo_wr (q_mo_wr (q_mo_wr (q_mo_wr (q_mo_mk fun a60 => (q_mo_gd (q_mo_ca (M_X4_init (q_kap E) (some a60) (some a12) (some a20)) fun _v66 => (q_mo_wr (q_mo_mk fun a73 => (q_mo_gd (q_mo_ca (M_X0_init (q_kap E) (some a73) (some a28) (some a12)) fun _v80 => (q_mo_wr (q_mo_mk fun a87 => (q_mo_gd (q_mo_ca (M_X8_init (q_kap E) (some a87) (some a28) (some a12) (some a20)) fun _v95 => (q_mo_wr q_mo_rt))))))))))))))))))))))))) B.2.1 h (fun a12 σ h => ?_)
  refine q_dup (pc := 15) C dX11_init_15 rfl ?_
  refine q_callIN (pc := 16) (As := []) (st := [q_R (some a12)]) C B.2.1 (fun _ => rfl) qm_X11_12 qI_X5_init dX11_init_16 rfl rfl (Nat.le_of_ble_eq_true rfl) (q_flo B.2.2.1 B.2.2.2.1 (by decide) (by decide)) (K_X5_init (some a12)) (M_X5_init (q_kap E) (some a12)) (N_X5_init (q_kap E) (some a12)) (by exact fun _v16 => (q_mo_mk fun a20 => (q_mo_gd (q_mo_ca (M_X6_init (q_kap E) (some a20)) fun _v24 => (q_mo_mk fun a28 => (q_mo_gd (q_mo_ca (M_X9_init (q_kap E) (some a28) (some a4)) fun _v33 => (q_mo_wr (q_mo_wr (q_mo_wr (q_mo_wr (q_mo_mk fun a60 => (q_mo_gd (q_mo_ca (M_X4_init (q_kap E) (some a60) (some a12) (some a20)) fun _v66 => (q_mo_wr (q_mo_mk fun a73 => (q_mo_gd (q_mo_ca (M_X0_init (q_kap E) (some a73) (some a28) (some a12)) fun _v80 => (q_mo_wr (q_mo_mk fun a87 => (q_mo_gd (q_mo_ca (M_X8_init (q_kap E) (some a87) (some a28) (some a12) (some a20)) fun _v95 => (q_mo_wr q_mo_rt))))))))))))))))))))))) h (fun _v16 σ h => ?_)
  refine q_astore_n (pc := 19) (l' := [(2, q_R (some a12)), (1, q_R (some a4)), (0, q_R l0)]) C dX11_init_19 rfl (by decide) rfl ?_
  refine q_new (pc := 20) C dX11_init_20 qn_X11_13 (by exact fun a20 => (q_mo_gd (q_mo_ca (M_X6_init (q_kap E) (some a20)) fun _v24 => (q_mo_mk fun a28 => (q_mo_gd (q_mo_ca (M_X9_init (q_kap E) (some a28) (some a4)) fun _v33 => (q_mo_wr (q_mo_wr (q_mo_wr (q_mo_wr (q_mo_mk fun a60 => (q_mo_gd (q_mo_ca (M_X4_init (q_kap E) (some a60) (some a12) (some a20)) fun _v66 => (q_mo_wr (q_mo_mk fun a73 => (q_mo_gd (q_mo_ca (M_X0_init (q_kap E) (some a73) (some a28) (some a12)) fun _v80 => (q_mo_wr (q_mo_mk fun a87 => (q_mo_gd (q_mo_ca (M_X8_init (q_kap E) (some a87) (some a28) (some a12) (some a20)) fun _v95 => (q_mo_wr q_mo_rt)))))))))))))))))))))) B.2.1 h (fun a20 σ h => ?_)
  refine q_dup (pc := 23) C dX11_init_23 rfl ?_
  refine q_callIN (pc := 24) (As := []) (st := [q_R (some a20)]) C B.2.1 (fun _ => rfl) qm_X11_15 qI_X6_init dX11_init_24 rfl rfl (Nat.le_of_ble_eq_true rfl) (q_flo B.2.2.1 B.2.2.2.1 (by decide) (by decide)) (K_X6_init (some a20)) (M_X6_init (q_kap E) (some a20)) (N_X6_init (q_kap E) (some a20)) (by exact fun _v24 => (q_mo_mk fun a28 => (q_mo_gd (q_mo_ca (M_X9_init (q_kap E) (some a28) (some a4)) fun _v33 => (q_mo_wr (q_mo_wr (q_mo_wr (q_mo_wr (q_mo_mk fun a60 => (q_mo_gd (q_mo_ca (M_X4_init (q_kap E) (some a60) (some a12) (some a20)) fun _v66 => (q_mo_wr (q_mo_mk fun a73 => (q_mo_gd (q_mo_ca (M_X0_init (q_kap E) (some a73) (some a28) (some a12)) fun _v80 => (q_mo_wr (q_mo_mk fun a87 => (q_mo_gd (q_mo_ca (M_X8_init (q_kap E) (some a87) (some a28) (some a12) (some a20)) fun _v95 => (q_mo_wr q_mo_rt)))))))))))))))))))) h (fun _v24 σ h => ?_)
  refine q_astore_n (pc := 27) (l' := [(3, q_R (some a20)), (2, q_R (some a12)), (1, q_R (some a4)), (0, q_R l0)]) C dX11_init_27 rfl (by decide) rfl ?_
  refine q_new (pc := 28) C dX11_init_28 qn_X11_16 (by exact fun a28 => (q_mo_gd (q_mo_ca (M_X9_init (q_kap E) (some a28) (some a4)) fun _v33 => (q_mo_wr (q_mo_wr (q_mo_wr (q_mo_wr (q_mo_mk fun a60 => (q_mo_gd (q_mo_ca (M_X4_init (q_kap E) (some a60) (some a12) (some a20)) fun _v66 => (q_mo_wr (q_mo_mk fun a73 => (q_mo_gd (q_mo_ca (M_X0_init (q_kap E) (some a73) (some a28) (some a12)) fun _v80 => (q_mo_wr (q_mo_mk fun a87 => (q_mo_gd (q_mo_ca (M_X8_init (q_kap E) (some a87) (some a28) (some a12) (some a20)) fun _v95 => (q_mo_wr q_mo_rt))))))))))))))))))) B.2.1 h (fun a28 σ h => ?_)
  refine q_dup (pc := 31) C dX11_init_31 rfl ?_
  refine q_aload_n (pc := 32) C 2 rfl dX11_init_32 rfl ?_
  refine q_callI (pc := 33) (As := [q_R (some a4)]) (st := [q_R (some a28)]) C B.2.1 (fun _ => rfl) qm_X11_18 qI_X9_init dX11_init_33 rfl rfl (Nat.le_of_ble_eq_true rfl) (q_flo B.2.2.1 B.2.2.2.1 (by decide) (by decide)) (K_X9_init (some a28) (some a4)) (M_X9_init (q_kap E) (some a28) (some a4)) (N_X9_init (q_kap E) (some a28) (some a4)) (by exact fun _v33 => (q_mo_wr (q_mo_wr (q_mo_wr (q_mo_wr (q_mo_mk fun a60 => (q_mo_gd (q_mo_ca (M_X4_init (q_kap E) (some a60) (some a12) (some a20)) fun _v66 => (q_mo_wr (q_mo_mk fun a73 => (q_mo_gd (q_mo_ca (M_X0_init (q_kap E) (some a73) (some a28) (some a12)) fun _v80 => (q_mo_wr (q_mo_mk fun a87 => (q_mo_gd (q_mo_ca (M_X8_init (q_kap E) (some a87) (some a28) (some a12) (some a20)) fun _v95 => (q_mo_wr q_mo_rt))))))))))))))))) h (fun _v33 σ h => ?_)
  refine q_astore (pc := 36) (l' := [(4, q_R (some a28)), (3, q_R (some a20)), (2, q_R (some a12)), (1, q_R (some a4)), (0, q_R l0)]) C dX11_init_36 (by decide) rfl ?_
  refine q_aload_n (pc := 38) C 4 rfl dX11_init_38 rfl ?_
  refine q_aload_n (pc := 39) C 3 rfl dX11_init_39 rfl ?_
  refine q_putV (pc := 40) (v := q_R (some a4)) C dX11_init_40 ql_X11_21 (Or.inr ⟨B.2.2.2.2.2, RX11, TX11, 7, rfl, rfl⟩) q_nfO q_nfO' h (fun M40 h => ?_)
  refine q_aload_n (pc := 43) C 4 rfl dX11_init_43 rfl ?_
  refine q_aload (pc := 44) C 0 rfl dX11_init_44 ?_
  refine q_putV (pc := 46) (v := q_R (some a28)) C dX11_init_46 ql_X11_27 (Or.inr ⟨B.2.2.2.2.2, RX11, TX11, 7, rfl, rfl⟩) q_nfO q_nfO' h (fun M46 h => ?_)
  refine q_aload_n (pc := 49) C 4 rfl dX11_init_49 rfl ?_
  refine q_aload_n (pc := 50) C 2 rfl dX11_init_50 rfl ?_
  refine q_putV (pc := 51) (v := q_R (some a12)) C dX11_init_51 ql_X11_31 (Or.inr ⟨B.2.2.2.2.2, RX11, TX11, 7, rfl, rfl⟩) q_nfO q_nfO' h (fun M51 h => ?_)
  refine q_aload_n (pc := 54) C 4 rfl dX11_init_54 rfl ?_
  refine q_aload_n (pc := 55) C 1 rfl dX11_init_55 rfl ?_
  refine q_putV (pc := 56) (v := q_R (some a20)) C dX11_init_56 ql_X11_35 (Or.inr ⟨B.2.2.2.2.2, RX11, TX11, 7, rfl, rfl⟩) q_nfO q_nfO' h (fun M56 h => ?_)
  refine q_aload_n (pc := 59) C 4 rfl dX11_init_59 rfl ?_
  refine q_new (pc := 60) C dX11_init_60 qn_X11_39 (by exact fun a60 => (q_mo_gd (q_mo_ca (M_X4_init (q_kap E) (some a60) (some a12) (some a20)) fun _v66 => (q_mo_wr (q_mo_mk fun a73 => (q_mo_gd (q_mo_ca (M_X0_init (q_kap E) (some a73) (some a28) (some a12)) fun _v80 => (q_mo_wr (q_mo_mk fun a87 => (q_mo_gd (q_mo_ca (M_X8_init (q_kap E) (some a87) (some a28) (some a12) (some a20)) fun _v95 => (q_mo_wr q_mo_rt)))))))))))) B.2.1 h (fun a60 σ h => ?_)
  refine q_dup (pc := 63) C dX11_init_63 rfl ?_
  refine q_aload_n (pc := 64) C 2 rfl dX11_init_64 rfl ?_
  refine q_aload_n (pc := 65) C 1 rfl dX11_init_65 rfl ?_
  refine q_callI (pc := 66) (As := [q_R (some a12), q_R (some a20)]) (st := [q_R (some a60), q_R l0]) C B.2.1 (fun _ => rfl) qm_X11_41 qI_X4_init dX11_init_66 rfl rfl (Nat.le_of_ble_eq_true rfl) (q_flo B.2.2.1 B.2.2.2.1 (by decide) (by decide)) (K_X4_init (some a60) (some a12) (some a20)) (M_X4_init (q_kap E) (some a60) (some a12) (some a20)) (N_X4_init (q_kap E) (some a60) (some a12) (some a20)) (by exact fun _v66 => (q_mo_wr (q_mo_mk fun a73 => (q_mo_gd (q_mo_ca (M_X0_init (q_kap E) (some a73) (some a28) (some a12)) fun _v80 => (q_mo_wr (q_mo_mk fun a87 => (q_mo_gd (q_mo_ca (M_X8_init (q_kap E) (some a87) (some a28) (some a12) (some a20)) fun _v95 => (q_mo_wr q_mo_rt)))))))))) h (fun _v66 σ h => ?_)
  refine q_putV (pc := 69) (v := q_R (some a60)) C dX11_init_69 ql_X11_44 (Or.inr ⟨B.2.2.2.2.2, RX11, TX11, 7, rfl, rfl⟩) q_nfO q_nfO' h (fun M69 h => ?_)
  refine q_aload_n (pc := 72) C 4 rfl dX11_init_72 rfl ?_
  refine q_new (pc := 73) C dX11_init_73 qn_X11_48 (by exact fun a73 => (q_mo_gd (q_mo_ca (M_X0_init (q_kap E) (some a73) (some a28) (some a12)) fun _v80 => (q_mo_wr (q_mo_mk fun a87 => (q_mo_gd (q_mo_ca (M_X8_init (q_kap E) (some a87) (some a28) (some a12) (some a20)) fun _v95 => (q_mo_wr q_mo_rt)))))))) B.2.1 h (fun a73 σ h => ?_)
  refine q_dup (pc := 76) C dX11_init_76 rfl ?_
  refine q_aload (pc := 77) C 0 rfl dX11_init_77 ?_
  refine q_aload_n (pc := 79) C 2 rfl dX11_init_79 rfl ?_
  refine q_callI (pc := 80) (As := [q_R (some a28), q_R (some a12)]) (st := [q_R (some a73), q_R l0]) C B.2.1 (fun _ => rfl) qm_X11_50 qI_X0_init dX11_init_80 rfl rfl (Nat.le_of_ble_eq_true rfl) (q_flo B.2.2.1 B.2.2.2.1 (by decide) (by decide)) (K_X0_init (some a73) (some a28) (some a12)) (M_X0_init (q_kap E) (some a73) (some a28) (some a12)) (N_X0_init (q_kap E) (some a73) (some a28) (some a12)) (by exact fun _v80 => (q_mo_wr (q_mo_mk fun a87 => (q_mo_gd (q_mo_ca (M_X8_init (q_kap E) (some a87) (some a28) (some a12) (some a20)) fun _v95 => (q_mo_wr q_mo_rt)))))) h (fun _v80 σ h => ?_)
  refine q_putV (pc := 83) (v := q_R (some a73)) C dX11_init_83 ql_X11_53 (Or.inr ⟨B.2.2.2.2.2, RX11, TX11, 7, rfl, rfl⟩) q_nfO q_nfO' h (fun M83 h => ?_)
  refine q_aload_n (pc := 86) C 4 rfl dX11_init_86 rfl ?_
  refine q_new (pc := 87) C dX11_init_87 qn_X11_57 (by exact fun a87 => (q_mo_gd (q_mo_ca (M_X8_init (q_kap E) (some a87) (some a28) (some a12) (some a20)) fun _v95 => (q_mo_wr q_mo_rt)))) B.2.1 h (fun a87 σ h => ?_)
  refine q_dup (pc := 90) C dX11_init_90 rfl ?_
  refine q_aload (pc := 91) C 0 rfl dX11_init_91 ?_
  refine q_aload_n (pc := 93) C 2 rfl dX11_init_93 rfl ?_
  refine q_aload_n (pc := 94) C 1 rfl dX11_init_94 rfl ?_
  refine q_callI (pc := 95) (As := [q_R (some a28), q_R (some a12), q_R (some a20)]) (st := [q_R (some a87), q_R l0]) C B.2.1 (fun _ => rfl) qm_X11_59 qI_X8_init dX11_init_95 rfl rfl (Nat.le_of_ble_eq_true rfl) (q_flo B.2.2.1 B.2.2.2.1 (by decide) (by decide)) (K_X8_init (some a87) (some a28) (some a12) (some a20)) (M_X8_init (q_kap E) (some a87) (some a28) (some a12) (some a20)) (N_X8_init (q_kap E) (some a87) (some a28) (some a12) (some a20)) (by exact fun _v95 => (q_mo_wr q_mo_rt)) h (fun _v95 σ h => ?_)
  refine q_putV (pc := 98) (v := q_R (some a87)) C dX11_init_98 ql_X11_62 (Or.inr ⟨B.2.2.2.2.2, RX11, TX11, 7, rfl, rfl⟩) q_nfO q_nfO' h (fun M98 h => ?_)
  exact q_vret C B.2.2.2.2.1 dX11_init_101 h
def F_X11_feed (κ : Nat → Nat) (l0 : Option Nat) (l1 : Int32) (l2 : Int32) (l3 : Int32) (l4 : Int32) (l5 : Int32) : q_X Int32 :=
  q_rd (q_gA l0 14 0) fun v1 => q_rd (q_is v1 13) fun _ => q_ca (F_X10_hasRoomFor κ v1 (20 : Int32)) fun v6 => q_br (¬ v6 = 0) (q_rd (q_gA l0 14 0) fun v23 => q_rd (q_is v23 13) fun _ => q_ca (F_X10_addFour κ v23 l1) fun _v27 => q_rd (q_gA l0 14 0) fun v31 => q_rd (q_is v31 13) fun _ => q_ca (F_X10_addFour κ v31 l2) fun _v35 => q_rd (q_gA l0 14 0) fun v39 => q_rd (q_is v39 13) fun _ => q_ca (F_X10_addFour κ v39 l3) fun _v43 => q_rd (q_gA l0 14 0) fun v47 => q_rd (q_is v47 13) fun _ => q_ca (F_X10_addFour κ v47 l4) fun _v52 => q_rd (q_gA l0 14 0) fun v56 => q_rd (q_is v56 13) fun _ => q_ca (F_X10_addFour κ v56 l5) fun _v61 => q_rd (q_gA l0 14 0) fun v65 => q_rd (q_gI v65 13 5) fun v68 => q_rt v68) (q_th "java/lang/IllegalStateException")
theorem M_X11_feed (κ : Nat → Nat) (l0 : Option Nat) (l1 : Int32) (l2 : Int32) (l3 : Int32) (l4 : Int32) (l5 : Int32) : q_mo (F_X11_feed κ l0 l1 l2 l3 l4 l5) := (q_mo_rd fun v1 => (q_mo_rd fun _ => q_mo_ca (M_X10_hasRoomFor κ v1 (20 : Int32)) fun v6 => (q_mo_br (q_mo_rd fun v23 => (q_mo_rd fun _ => q_mo_ca (M_X10_addFour κ v23 l1) fun _v27 => (q_mo_rd fun v31 => (q_mo_rd fun _ => q_mo_ca (M_X10_addFour κ v31 l2) fun _v35 => (q_mo_rd fun v39 => (q_mo_rd fun _ => q_mo_ca (M_X10_addFour κ v39 l3) fun _v43 => (q_mo_rd fun v47 => (q_mo_rd fun _ => q_mo_ca (M_X10_addFour κ v47 l4) fun _v52 => (q_mo_rd fun v56 => (q_mo_rd fun _ => q_mo_ca (M_X10_addFour κ v56 l5) fun _v61 => (q_mo_rd fun v65 => (q_mo_rd fun v68 => q_mo_rt)))))))))))) q_mo_th)))
set_option maxRecDepth 100000 in
set_option maxHeartbeats 4000000 in
theorem K_X11_feed {E : q_Ev} (l0 : Option Nat) (l1 : Int32) (l2 : Int32) (l3 : Int32) (l4 : Int32) (l5 : Int32) : q_Ct E yX11_feed (.code yX11_feed cX11_feed 6 (some .int)) 6 90 [q_R l0, q_I l1, q_I l2, q_I l3, q_I l4, q_I l5] q_oI (F_X11_feed (q_kap E) l0 l1 l2 l3 l4 l5) := by
  refine q_enter (by decide) (Nat.le_of_ble_eq_true rfl) (fun Γ σ w h B hT => ?_)
  have C := B.1
  unfold F_X11_feed at h
  refine q_aload_n (pc := 0) C 0 rfl dX11_feed_0 rfl ?_
  refine q_getA (pc := 1) C dX11_feed_1 ql_X11_21 h (fun v1 h => ?_)
  refine q_bipush (pc := 4) (v := (20 : Int32)) C dX11_feed_4 (by decide) ?_
  refine q_callV (pc := 6) (As := [q_I (20 : Int32)]) (st := []) (ps := q_psI) C B.2.1 hT q_hpI qm_X11_66 qv_X10_hasRoomFor dX11_feed_6 rfl rfl (Nat.le_of_ble_eq_true rfl) (q_flo B.2.2.1 B.2.2.2.1 (by decide) (by decide)) (K_X10_hasRoomFor v1 (20 : Int32)) (M_X10_hasRoomFor (q_kap E) v1 (20 : Int32)) (by exact fun v6 => (q_mo_br (q_mo_rd fun v23 => (q_mo_rd fun _ => q_mo_ca (M_X10_addFour (q_kap E) v23 l1) fun _v27 => (q_mo_rd fun v31 => (q_mo_rd fun _ => q_mo_ca (M_X10_addFour (q_kap E) v31 l2) fun _v35 => (q_mo_rd fun v39 => (q_mo_rd fun _ => q_mo_ca (M_X10_addFour (q_kap E) v39 l3) fun _v43 => (q_mo_rd fun v47 => (q_mo_rd fun _ => q_mo_ca (M_X10_addFour (q_kap E) v47 l4) fun _v52 => (q_mo_rd fun v56 => (q_mo_rd fun _ => q_mo_ca (M_X10_addFour (q_kap E) v56 l5) fun _v61 => (q_mo_rd fun v65 => (q_mo_rd fun v68 => q_mo_rt)))))))))))) q_mo_th)) h (fun v6 σ h => ?_)
  refine q_W.st (st' := [q_I v6]) rfl ?_
  refine q_if_ne (pc := 9) (tgt := 22) C dX11_feed_9 (by decide) h (fun _ h => ?_) (fun _ h => ?_)
  · refine q_aload_n (pc := 22) C 0 rfl dX11_feed_22 rfl ?_
    refine q_getA (pc := 23) C dX11_feed_23 ql_X11_21 h (fun v23 h => ?_)
    refine q_iload_n (pc := 26) C 1 rfl dX11_feed_26 rfl ?_
    refine q_callV (pc := 27) (As := [q_I l1]) (st := []) (ps := q_psV) C B.2.1 hT q_hpV qm_X11_77 qv_X10_addFour dX11_feed_27 rfl rfl (Nat.le_of_ble_eq_true rfl) (q_flo B.2.2.1 B.2.2.2.1 (by decide) (by decide)) (K_X10_addFour v23 l1) (M_X10_addFour (q_kap E) v23 l1) (by exact fun _v27 => (q_mo_rd fun v31 => (q_mo_rd fun _ => q_mo_ca (M_X10_addFour (q_kap E) v31 l2) fun _v35 => (q_mo_rd fun v39 => (q_mo_rd fun _ => q_mo_ca (M_X10_addFour (q_kap E) v39 l3) fun _v43 => (q_mo_rd fun v47 => (q_mo_rd fun _ => q_mo_ca (M_X10_addFour (q_kap E) v47 l4) fun _v52 => (q_mo_rd fun v56 => (q_mo_rd fun _ => q_mo_ca (M_X10_addFour (q_kap E) v56 l5) fun _v61 => (q_mo_rd fun v65 => (q_mo_rd fun v68 => q_mo_rt))))))))))) h (fun _v27 σ h => ?_)
    refine q_W.st (st' := []) rfl ?_
    refine q_aload_n (pc := 30) C 0 rfl dX11_feed_30 rfl ?_
    refine q_getA (pc := 31) C dX11_feed_31 ql_X11_21 h (fun v31 h => ?_)
    refine q_iload_n (pc := 34) C 2 rfl dX11_feed_34 rfl ?_
    refine q_callV (pc := 35) (As := [q_I l2]) (st := []) (ps := q_psV) C B.2.1 hT q_hpV qm_X11_77 qv_X10_addFour dX11_feed_35 rfl rfl (Nat.le_of_ble_eq_true rfl) (q_flo B.2.2.1 B.2.2.2.1 (by decide) (by decide)) (K_X10_addFour v31 l2) (M_X10_addFour (q_kap E) v31 l2) (by exact fun _v35 => (q_mo_rd fun v39 => (q_mo_rd fun _ => q_mo_ca (M_X10_addFour (q_kap E) v39 l3) fun _v43 => (q_mo_rd fun v47 => (q_mo_rd fun _ => q_mo_ca (M_X10_addFour (q_kap E) v47 l4) fun _v52 => (q_mo_rd fun v56 => (q_mo_rd fun _ => q_mo_ca (M_X10_addFour (q_kap E) v56 l5) fun _v61 => (q_mo_rd fun v65 => (q_mo_rd fun v68 => q_mo_rt))))))))) h (fun _v35 σ h => ?_)
    refine q_W.st (st' := []) rfl ?_
    refine q_aload_n (pc := 38) C 0 rfl dX11_feed_38 rfl ?_
    refine q_getA (pc := 39) C dX11_feed_39 ql_X11_21 h (fun v39 h => ?_)
    refine q_iload_n (pc := 42) C 3 rfl dX11_feed_42 rfl ?_
    refine q_callV (pc := 43) (As := [q_I l3]) (st := []) (ps := q_psV) C B.2.1 hT q_hpV qm_X11_77 qv_X10_addFour dX11_feed_43 rfl rfl (Nat.le_of_ble_eq_true rfl) (q_flo B.2.2.1 B.2.2.2.1 (by decide) (by decide)) (K_X10_addFour v39 l3) (M_X10_addFour (q_kap E) v39 l3) (by exact fun _v43 => (q_mo_rd fun v47 => (q_mo_rd fun _ => q_mo_ca (M_X10_addFour (q_kap E) v47 l4) fun _v52 => (q_mo_rd fun v56 => (q_mo_rd fun _ => q_mo_ca (M_X10_addFour (q_kap E) v56 l5) fun _v61 => (q_mo_rd fun v65 => (q_mo_rd fun v68 => q_mo_rt))))))) h (fun _v43 σ h => ?_)
    refine q_W.st (st' := []) rfl ?_
    refine q_aload_n (pc := 46) C 0 rfl dX11_feed_46 rfl ?_
    refine q_getA (pc := 47) C dX11_feed_47 ql_X11_21 h (fun v47 h => ?_)
    refine q_iload (pc := 50) C 4 rfl dX11_feed_50 ?_
    refine q_callV (pc := 52) (As := [q_I l4]) (st := []) (ps := q_psV) C B.2.1 hT q_hpV qm_X11_77 qv_X10_addFour dX11_feed_52 rfl rfl (Nat.le_of_ble_eq_true rfl) (q_flo B.2.2.1 B.2.2.2.1 (by decide) (by decide)) (K_X10_addFour v47 l4) (M_X10_addFour (q_kap E) v47 l4) (by exact fun _v52 => (q_mo_rd fun v56 => (q_mo_rd fun _ => q_mo_ca (M_X10_addFour (q_kap E) v56 l5) fun _v61 => (q_mo_rd fun v65 => (q_mo_rd fun v68 => q_mo_rt))))) h (fun _v52 σ h => ?_)
    refine q_W.st (st' := []) rfl ?_
    refine q_aload_n (pc := 55) C 0 rfl dX11_feed_55 rfl ?_
    refine q_getA (pc := 56) C dX11_feed_56 ql_X11_21 h (fun v56 h => ?_)
    refine q_iload (pc := 59) C 5 rfl dX11_feed_59 ?_
    refine q_callV (pc := 61) (As := [q_I l5]) (st := []) (ps := q_psV) C B.2.1 hT q_hpV qm_X11_77 qv_X10_addFour dX11_feed_61 rfl rfl (Nat.le_of_ble_eq_true rfl) (q_flo B.2.2.1 B.2.2.2.1 (by decide) (by decide)) (K_X10_addFour v56 l5) (M_X10_addFour (q_kap E) v56 l5) (by exact fun _v61 => (q_mo_rd fun v65 => (q_mo_rd fun v68 => q_mo_rt))) h (fun _v61 σ h => ?_)
    refine q_W.st (st' := []) rfl ?_
    refine q_aload_n (pc := 64) C 0 rfl dX11_feed_64 rfl ?_
    refine q_getA (pc := 65) C dX11_feed_65 ql_X11_21 h (fun v65 h => ?_)
    refine q_getI (pc := 68) C dX11_feed_68 ql_X11_81 h (fun v68 h => ?_)
    exact q_iret C B.2.2.2.2.1 dX11_feed_71 h
  · exact q_throw (pc := 12) (names := ["java/lang/RuntimeException", "java/lang/Exception"]) (k9 := 0) (tx := "the text would be too long") C B.2.1 hT qt_X11_70_74.2.2.2 qt_X11_70_74.2.2.1 (by decide +kernel) qt_X11_70_74.1 qt_X11_70_74.2.1 dX11_feed_12 dX11_feed_15 dX11_feed_16 dX11_feed_18 dX11_feed_21 (q_flo B.2.2.1 B.2.2.2.1 (by decide) (by decide)) (Nat.le_of_ble_eq_true rfl) h
def F_X11_end_15 (κ : Nat → Nat) : q_X Int32 :=
  q_th "java/lang/IllegalArgumentException"
theorem M_X11_end_15 (κ : Nat → Nat) : q_mo (F_X11_end_15 κ) := q_mo_th
set_option maxRecDepth 100000 in
set_option maxHeartbeats 4000000 in
theorem S_X11_end_15 {E : q_Ev} {Γ : q_Gm} {w : (Int32 ⊕ q_Exn) × q_St} (B : q_Bd E Γ cX11_end yX11_end.cls 2 6 115 (some .int) yX11_end.name w) (hT : q_nT Γ) (σ : q_St) (h : F_X11_end_15 (q_kap E) σ = some w) : q_W E Γ (q_QF E Γ q_oI w) 2 σ 15 [] [] := by
  have C := B.1
  unfold F_X11_end_15 at h
  exact q_throw (pc := 15) (names := ["java/lang/RuntimeException", "java/lang/Exception"]) (k9 := 1) (tx := "the text has not so many bytes") C B.2.1 hT qt_X11_85_89.2.2.2 qt_X11_85_89.2.2.1 (by decide +kernel) qt_X11_85_89.1 qt_X11_85_89.2.1 dX11_end_15 dX11_end_18 dX11_end_19 dX11_end_21 dX11_end_24 (q_flo B.2.2.1 B.2.2.2.1 (by decide) (by decide)) (Nat.le_of_ble_eq_true rfl) h
def F_X11_end (κ : Nat → Nat) (l0 : Option Nat) (l1 : Int32) : q_X Int32 :=
  q_br (l1 < 0) (F_X11_end_15 κ) (q_rd (q_gA l0 14 0) fun v6 => q_rd (q_gI v6 13 5) fun v9 => q_br (l1 ≤ v9) (q_rd (q_gA l0 14 0) fun v26 => q_wr (q_pF v26 13 5 (.int l1)) (q_rd (q_gA l0 14 0) fun v34 => q_rd (q_is v34 13) fun _ => q_ca (F_X10_scan κ v34 (0 : Int32)) fun v38 => q_rt v38)) (F_X11_end_15 κ))
theorem M_X11_end (κ : Nat → Nat) (l0 : Option Nat) (l1 : Int32) : q_mo (F_X11_end κ l0 l1) := (q_mo_br (M_X11_end_15 κ) (q_mo_rd fun v6 => (q_mo_rd fun v9 => (q_mo_br (q_mo_rd fun v26 => (q_mo_wr (q_mo_rd fun v34 => (q_mo_rd fun _ => q_mo_ca (M_X10_scan κ v34 (0 : Int32)) fun v38 => q_mo_rt)))) (M_X11_end_15 κ)))))
set_option maxRecDepth 100000 in
set_option maxHeartbeats 4000000 in
theorem K_X11_end {E : q_Ev} (l0 : Option Nat) (l1 : Int32) : q_Ct E yX11_end (.code yX11_end cX11_end 2 (some .int)) 6 115 [q_R l0, q_I l1] q_oI (F_X11_end (q_kap E) l0 l1) := by
  refine q_enter (by decide) (Nat.le_of_ble_eq_true rfl) (fun Γ σ w h B hT => ?_)
  have C := B.1
  unfold F_X11_end at h
  refine q_iload_n (pc := 0) C 1 rfl dX11_end_0 rfl ?_
  refine q_if_lt (pc := 1) (tgt := 15) C dX11_end_1 (by decide) h (fun _ h => ?_) (fun _ h => ?_)
  · refine q_W.sub [] rfl ?_
    exact S_X11_end_15 B hT _ h
  · refine q_iload_n (pc := 4) C 1 rfl dX11_end_4 rfl ?_
    refine q_aload_n (pc := 5) C 0 rfl dX11_end_5 rfl ?_
    refine q_getA (pc := 6) C dX11_end_6 ql_X11_21 h (fun v6 h => ?_)
    refine q_getI (pc := 9) C dX11_end_9 ql_X11_81 h (fun v9 h => ?_)
    refine q_icmp_le (pc := 12) (tgt := 25) C dX11_end_12 (by decide) h (fun _ h => ?_) (fun _ h => ?_)
    · refine q_aload_n (pc := 25) C 0 rfl dX11_end_25 rfl ?_
      refine q_getA (pc := 26) C dX11_end_26 ql_X11_21 h (fun v26 h => ?_)
      refine q_iload_n (pc := 29) C 1 rfl dX11_end_29 rfl ?_
      refine q_putV (pc := 30) (v := q_I l1) C dX11_end_30 ql_X11_81 (Or.inl rfl) rfl rfl h (fun M30 h => ?_)
      refine q_aload_n (pc := 33) C 0 rfl dX11_end_33 rfl ?_
      refine q_getA (pc := 34) C dX11_end_34 ql_X11_21 h (fun v34 h => ?_)
      refine q_iconst (pc := 37) (v := (0 : Int32)) C dX11_end_37 (by decide) ?_
      refine q_callV (pc := 38) (As := [q_I (0 : Int32)]) (st := []) (ps := q_psI) C B.2.1 hT q_hpI qm_X11_90 qv_X10_scan dX11_end_38 rfl rfl (Nat.le_of_ble_eq_true rfl) (q_flo B.2.2.1 B.2.2.2.1 (by decide) (by decide)) (K_X10_scan v34 (0 : Int32)) (M_X10_scan (q_kap E) v34 (0 : Int32)) (by exact fun v38 => q_mo_rt) h (fun v38 σ h => ?_)
      refine q_W.st (st' := [q_I v38]) rfl ?_
      exact q_iret C B.2.2.2.2.1 dX11_end_41 h
    · refine q_W.sub [] rfl ?_
      exact S_X11_end_15 B hT _ h
def F_X11_describe (κ : Nat → Nat) (l0 : Option Nat) : q_X Int32 :=
  q_rd (q_gA l0 14 5) fun v1 => q_rd (q_is v1 11) fun _ => q_ca (F_X8_forget κ v1) fun _v4 => q_rd (q_gA l0 14 4) fun v8 => q_rd (q_is v8 3) fun _ => q_ca (F_X0_read κ v8) fun v11 => q_rd (q_gA l0 14 0) fun v16 => q_wr (q_pF v16 13 5 (.int (0 : Int32))) (q_br (¬ v11 = 0) (q_rd (q_gA l0 14 2) fun v38 => q_rd (q_gI v38 8 4) fun v41 => q_rt v41) (q_th "java/lang/UnsupportedOperationException"))
theorem M_X11_describe (κ : Nat → Nat) (l0 : Option Nat) : q_mo (F_X11_describe κ l0) := (q_mo_rd fun v1 => (q_mo_rd fun _ => q_mo_ca (M_X8_forget κ v1) fun _v4 => (q_mo_rd fun v8 => (q_mo_rd fun _ => q_mo_ca (M_X0_read κ v8) fun v11 => (q_mo_rd fun v16 => (q_mo_wr (q_mo_br (q_mo_rd fun v38 => (q_mo_rd fun v41 => q_mo_rt)) q_mo_th)))))))
set_option maxRecDepth 100000 in
set_option maxHeartbeats 4000000 in
theorem K_X11_describe {E : q_Ev} (l0 : Option Nat) : q_Ct E yX11_describe (.code yX11_describe cX11_describe 2 (some .int)) 9 216 [q_R l0] q_oI (F_X11_describe (q_kap E) l0) := by
  refine q_enter (by decide) (Nat.le_of_ble_eq_true rfl) (fun Γ σ w h B hT => ?_)
  have C := B.1
  unfold F_X11_describe at h
  refine q_aload_n (pc := 0) C 0 rfl dX11_describe_0 rfl ?_
  refine q_getA (pc := 1) C dX11_describe_1 ql_X11_62 h (fun v1 h => ?_)
  refine q_callV (pc := 4) (As := []) (st := []) (ps := q_psV) C B.2.1 hT q_hpV qm_X11_94 qv_X8_forget dX11_describe_4 rfl rfl (Nat.le_of_ble_eq_true rfl) (q_flo B.2.2.1 B.2.2.2.1 (by decide) (by decide)) (K_X8_forget v1) (M_X8_forget (q_kap E) v1) (by exact fun _v4 => (q_mo_rd fun v8 => (q_mo_rd fun _ => q_mo_ca (M_X0_read (q_kap E) v8) fun v11 => (q_mo_rd fun v16 => (q_mo_wr (q_mo_br (q_mo_rd fun v38 => (q_mo_rd fun v41 => q_mo_rt)) q_mo_th)))))) h (fun _v4 σ h => ?_)
  refine q_W.st (st' := []) rfl ?_
  refine q_aload_n (pc := 7) C 0 rfl dX11_describe_7 rfl ?_
  refine q_getA (pc := 8) C dX11_describe_8 ql_X11_53 h (fun v8 h => ?_)
  refine q_callV (pc := 11) (As := []) (st := []) (ps := q_psI) C B.2.1 hT q_hpI qm_X11_97 qv_X0_read dX11_describe_11 rfl rfl (Nat.le_of_ble_eq_true rfl) (q_flo B.2.2.1 B.2.2.2.1 (by decide) (by decide)) (K_X0_read v8) (M_X0_read (q_kap E) v8) (by exact fun v11 => (q_mo_rd fun v16 => (q_mo_wr (q_mo_br (q_mo_rd fun v38 => (q_mo_rd fun v41 => q_mo_rt)) q_mo_th)))) h (fun v11 σ h => ?_)
  refine q_W.st (st' := [q_I v11]) rfl ?_
  refine q_istore_n (pc := 14) (l' := [(1, q_I v11), (0, q_R l0)]) C dX11_describe_14 rfl (by decide) rfl ?_
  refine q_aload_n (pc := 15) C 1 rfl dX11_describe_15 rfl ?_
  refine q_getA (pc := 16) C dX11_describe_16 ql_X11_21 h (fun v16 h => ?_)
  refine q_iconst (pc := 19) (v := (0 : Int32)) C dX11_describe_19 (by decide) ?_
  refine q_putV (pc := 20) (v := q_I (0 : Int32)) C dX11_describe_20 ql_X11_81 (Or.inl rfl) rfl rfl h (fun M20 h => ?_)
  refine q_iload_n (pc := 23) C 0 rfl dX11_describe_23 rfl ?_
  refine q_if_ne (pc := 24) (tgt := 37) C dX11_describe_24 (by decide) h (fun _ h => ?_) (fun _ h => ?_)
  · refine q_aload_n (pc := 37) C 1 rfl dX11_describe_37 rfl ?_
    refine q_getA (pc := 38) C dX11_describe_38 ql_X11_31 h (fun v38 h => ?_)
    refine q_getI (pc := 41) C dX11_describe_41 ql_X11_106 h (fun v41 h => ?_)
    exact q_iret C B.2.2.2.2.1 dX11_describe_44 h
  · exact q_throw (pc := 27) (names := ["java/lang/RuntimeException", "java/lang/Exception"]) (k9 := 11) (tx := "a fault in the description") C B.2.1 hT qt_X11_101_105.2.2.2 qt_X11_101_105.2.2.1 (by decide +kernel) qt_X11_101_105.1 qt_X11_101_105.2.1 dX11_describe_27 dX11_describe_30 dX11_describe_31 dX11_describe_33 dX11_describe_36 (q_flo B.2.2.1 B.2.2.2.1 (by decide) (by decide)) (Nat.le_of_ble_eq_true rfl) h
def F_X11_assemble_62 (κ : Nat → Nat) (l0 : Option Nat) (s0 : Int32) : q_X Int32 :=
  q_rd (q_gA l0 14 0) fun v64 => q_wr (q_pF v64 13 5 (.int (0 : Int32))) (q_br (¬ s0 = 0) (q_rd (q_gA l0 14 3) fun v93 => q_rd (q_gI v93 9 2) fun v96 => q_rt v96) (q_rd (q_gA l0 14 5) fun v76 => q_rd (q_is v76 11) fun _ => q_ca (F_X8_forget κ v76) fun _v79 => q_th "java/lang/UnsupportedOperationException"))
theorem M_X11_assemble_62 (κ : Nat → Nat) (l0 : Option Nat) (s0 : Int32) : q_mo (F_X11_assemble_62 κ l0 s0) := (q_mo_rd fun v64 => (q_mo_wr (q_mo_br (q_mo_rd fun v93 => (q_mo_rd fun v96 => q_mo_rt)) (q_mo_rd fun v76 => (q_mo_rd fun _ => q_mo_ca (M_X8_forget κ v76) fun _v79 => q_mo_th)))))
set_option maxRecDepth 100000 in
set_option maxHeartbeats 4000000 in
theorem S_X11_assemble_62 {E : q_Ev} {Γ : q_Gm} {w : (Int32 ⊕ q_Exn) × q_St} (B : q_Bd E Γ cX11_assemble yX11_assemble.cls 2 10 240 (some .int) yX11_assemble.name w) (hT : q_nT Γ) (l0 : Option Nat) (s0 : Int32) (σ : q_St) (h : F_X11_assemble_62 (q_kap E) l0 s0 σ = some w) : q_W E Γ (q_QF E Γ q_oI w) 2 σ 62 [(0, q_R l0)] [q_I s0] := by
  have C := B.1
  unfold F_X11_assemble_62 at h
  refine q_istore_n (pc := 62) (l' := [(1, q_I s0), (0, q_R l0)]) C dX11_assemble_62 rfl (by decide) rfl ?_
  refine q_aload_n (pc := 63) C 1 rfl dX11_assemble_63 rfl ?_
  refine q_getA (pc := 64) C dX11_assemble_64 ql_X11_21 h (fun v64 h => ?_)
  refine q_iconst (pc := 67) (v := (0 : Int32)) C dX11_assemble_67 (by decide) ?_
  refine q_putV (pc := 68) (v := q_I (0 : Int32)) C dX11_assemble_68 ql_X11_81 (Or.inl rfl) rfl rfl h (fun M68 h => ?_)
  refine q_iload_n (pc := 71) C 0 rfl dX11_assemble_71 rfl ?_
  refine q_if_ne (pc := 72) (tgt := 92) C dX11_assemble_72 (by decide) h (fun _ h => ?_) (fun _ h => ?_)
  · refine q_aload_n (pc := 92) C 1 rfl dX11_assemble_92 rfl ?_
    refine q_getA (pc := 93) C dX11_assemble_93 ql_X11_35 h (fun v93 h => ?_)
    refine q_getI (pc := 96) C dX11_assemble_96 ql_X11_123 h (fun v96 h => ?_)
    exact q_iret C B.2.2.2.2.1 dX11_assemble_99 h
  · refine q_aload_n (pc := 75) C 1 rfl dX11_assemble_75 rfl ?_
    refine q_getA (pc := 76) C dX11_assemble_76 ql_X11_62 h (fun v76 h => ?_)
    refine q_callV (pc := 79) (As := []) (st := []) (ps := q_psV) C B.2.1 hT q_hpV qm_X11_94 qv_X8_forget dX11_assemble_79 rfl rfl (Nat.le_of_ble_eq_true rfl) (q_flo B.2.2.1 B.2.2.2.1 (by decide) (by decide)) (K_X8_forget v76) (M_X8_forget (q_kap E) v76) (by exact fun _v79 => q_mo_th) h (fun _v79 σ h => ?_)
    refine q_W.st (st' := []) rfl ?_
    exact q_throw (pc := 82) (names := ["java/lang/RuntimeException", "java/lang/Exception"]) (k9 := 14) (tx := "a fault in the program") C B.2.1 hT qt_X11_101_105.2.2.2 qt_X11_101_105.2.2.1 (by decide +kernel) qt_X11_101_105.1 qt_X11_101_105.2.1 dX11_assemble_82 dX11_assemble_85 dX11_assemble_86 dX11_assemble_88 dX11_assemble_91 (q_flo B.2.2.1 B.2.2.2.1 (by decide) (by decide)) (Nat.le_of_ble_eq_true rfl) h
def F_X11_assemble_61 (κ : Nat → Nat) (l0 : Option Nat) : q_X Int32 :=
  F_X11_assemble_62 κ l0 (0 : Int32)
theorem M_X11_assemble_61 (κ : Nat → Nat) (l0 : Option Nat) : q_mo (F_X11_assemble_61 κ l0) := (M_X11_assemble_62 κ l0 (0 : Int32))
set_option maxRecDepth 100000 in
set_option maxHeartbeats 4000000 in
theorem S_X11_assemble_61 {E : q_Ev} {Γ : q_Gm} {w : (Int32 ⊕ q_Exn) × q_St} (B : q_Bd E Γ cX11_assemble yX11_assemble.cls 2 10 240 (some .int) yX11_assemble.name w) (hT : q_nT Γ) (l0 : Option Nat) (σ : q_St) (h : F_X11_assemble_61 (q_kap E) l0 σ = some w) : q_W E Γ (q_QF E Γ q_oI w) 2 σ 61 [(0, q_R l0)] [] := by
  have C := B.1
  unfold F_X11_assemble_61 at h
  refine q_iconst (pc := 61) (v := (0 : Int32)) C dX11_assemble_61 (by decide) ?_
  exact S_X11_assemble_62 B hT l0 (0 : Int32) _ h
def F_X11_assemble (κ : Nat → Nat) (l0 : Option Nat) : q_X Int32 :=
  q_rd (q_gA l0 14 2) fun v1 => q_rd (q_gI v1 8 2) fun v4 => q_br (¬ v4 = 0) (q_rd (q_gA l0 14 5) fun v21 => q_rd (q_is v21 11) fun _ => q_ca (F_X8_forget κ v21) fun _v24 => q_rd (q_gA l0 14 5) fun v28 => q_rd (q_is v28 11) fun _ => q_ca (F_X8_read κ v28) fun v31 => q_br (v31 = 0) (F_X11_assemble_61 κ l0) (q_rd (q_gA l0 14 5) fun v38 => q_rd (q_is v38 11) fun _ => q_ca (F_X8_settle κ v38) fun v41 => q_br (v41 = 0) (F_X11_assemble_61 κ l0) (q_rd (q_gA l0 14 5) fun v48 => q_rd (q_is v48 11) fun _ => q_ca (F_X8_layDown κ v48) fun v51 => q_br (v51 = 0) (F_X11_assemble_61 κ l0) (F_X11_assemble_62 κ l0 (1 : Int32))))) (q_th "java/lang/IllegalStateException")
theorem M_X11_assemble (κ : Nat → Nat) (l0 : Option Nat) : q_mo (F_X11_assemble κ l0) := (q_mo_rd fun v1 => (q_mo_rd fun v4 => (q_mo_br (q_mo_rd fun v21 => (q_mo_rd fun _ => q_mo_ca (M_X8_forget κ v21) fun _v24 => (q_mo_rd fun v28 => (q_mo_rd fun _ => q_mo_ca (M_X8_read κ v28) fun v31 => (q_mo_br (M_X11_assemble_61 κ l0) (q_mo_rd fun v38 => (q_mo_rd fun _ => q_mo_ca (M_X8_settle κ v38) fun v41 => (q_mo_br (M_X11_assemble_61 κ l0) (q_mo_rd fun v48 => (q_mo_rd fun _ => q_mo_ca (M_X8_layDown κ v48) fun v51 => (q_mo_br (M_X11_assemble_61 κ l0) (M_X11_assemble_62 κ l0 (1 : Int32))))))))))))) q_mo_th)))
set_option maxRecDepth 100000 in
set_option maxHeartbeats 4000000 in
theorem K_X11_assemble {E : q_Ev} (l0 : Option Nat) : q_Ct E yX11_assemble (.code yX11_assemble cX11_assemble 2 (some .int)) 10 240 [q_R l0] q_oI (F_X11_assemble (q_kap E) l0) := by
  refine q_enter (by decide) (Nat.le_of_ble_eq_true rfl) (fun Γ σ w h B hT => ?_)
  have C := B.1
  unfold F_X11_assemble at h
  refine q_aload_n (pc := 0) C 0 rfl dX11_assemble_0 rfl ?_
  refine q_getA (pc := 1) C dX11_assemble_1 ql_X11_31 h (fun v1 h => ?_)
  refine q_getI (pc := 4) C dX11_assemble_4 ql_X11_109 h (fun v4 h => ?_)
  refine q_if_ne (pc := 7) (tgt := 20) C dX11_assemble_7 (by decide) h (fun _ h => ?_) (fun _ h => ?_)
  · refine q_aload_n (pc := 20) C 0 rfl dX11_assemble_20 rfl ?_
    refine q_getA (pc := 21) C dX11_assemble_21 ql_X11_62 h (fun v21 h => ?_)
    refine q_callV (pc := 24) (As := []) (st := []) (ps := q_psV) C B.2.1 hT q_hpV qm_X11_94 qv_X8_forget dX11_assemble_24 rfl rfl (Nat.le_of_ble_eq_true rfl) (q_flo B.2.2.1 B.2.2.2.1 (by decide) (by decide)) (K_X8_forget v21) (M_X8_forget (q_kap E) v21) (by exact fun _v24 => (q_mo_rd fun v28 => (q_mo_rd fun _ => q_mo_ca (M_X8_read (q_kap E) v28) fun v31 => (q_mo_br (M_X11_assemble_61 (q_kap E) l0) (q_mo_rd fun v38 => (q_mo_rd fun _ => q_mo_ca (M_X8_settle (q_kap E) v38) fun v41 => (q_mo_br (M_X11_assemble_61 (q_kap E) l0) (q_mo_rd fun v48 => (q_mo_rd fun _ => q_mo_ca (M_X8_layDown (q_kap E) v48) fun v51 => (q_mo_br (M_X11_assemble_61 (q_kap E) l0) (M_X11_assemble_62 (q_kap E) l0 (1 : Int32)))))))))))) h (fun _v24 σ h => ?_)
    refine q_W.st (st' := []) rfl ?_
    refine q_aload_n (pc := 27) C 0 rfl dX11_assemble_27 rfl ?_
    refine q_getA (pc := 28) C dX11_assemble_28 ql_X11_62 h (fun v28 h => ?_)
    refine q_callV (pc := 31) (As := []) (st := []) (ps := q_psI) C B.2.1 hT q_hpI qm_X11_114 qv_X8_read dX11_assemble_31 rfl rfl (Nat.le_of_ble_eq_true rfl) (q_flo B.2.2.1 B.2.2.2.1 (by decide) (by decide)) (K_X8_read v28) (M_X8_read (q_kap E) v28) (by exact fun v31 => (q_mo_br (M_X11_assemble_61 (q_kap E) l0) (q_mo_rd fun v38 => (q_mo_rd fun _ => q_mo_ca (M_X8_settle (q_kap E) v38) fun v41 => (q_mo_br (M_X11_assemble_61 (q_kap E) l0) (q_mo_rd fun v48 => (q_mo_rd fun _ => q_mo_ca (M_X8_layDown (q_kap E) v48) fun v51 => (q_mo_br (M_X11_assemble_61 (q_kap E) l0) (M_X11_assemble_62 (q_kap E) l0 (1 : Int32)))))))))) h (fun v31 σ h => ?_)
    refine q_W.st (st' := [q_I v31]) rfl ?_
    refine q_if_eq (pc := 34) (tgt := 61) C dX11_assemble_34 (by decide) h (fun _ h => ?_) (fun _ h => ?_)
    · exact S_X11_assemble_61 B hT l0 _ h
    · refine q_aload_n (pc := 37) C 0 rfl dX11_assemble_37 rfl ?_
      refine q_getA (pc := 38) C dX11_assemble_38 ql_X11_62 h (fun v38 h => ?_)
      refine q_callV (pc := 41) (As := []) (st := []) (ps := q_psI) C B.2.1 hT q_hpI qm_X11_115 qv_X8_settle dX11_assemble_41 rfl rfl (Nat.le_of_ble_eq_true rfl) (q_flo B.2.2.1 B.2.2.2.1 (by decide) (by decide)) (K_X8_settle v38) (M_X8_settle (q_kap E) v38) (by exact fun v41 => (q_mo_br (M_X11_assemble_61 (q_kap E) l0) (q_mo_rd fun v48 => (q_mo_rd fun _ => q_mo_ca (M_X8_layDown (q_kap E) v48) fun v51 => (q_mo_br (M_X11_assemble_61 (q_kap E) l0) (M_X11_assemble_62 (q_kap E) l0 (1 : Int32))))))) h (fun v41 σ h => ?_)
      refine q_W.st (st' := [q_I v41]) rfl ?_
      refine q_if_eq (pc := 44) (tgt := 61) C dX11_assemble_44 (by decide) h (fun _ h => ?_) (fun _ h => ?_)
      · exact S_X11_assemble_61 B hT l0 _ h
      · refine q_aload_n (pc := 47) C 0 rfl dX11_assemble_47 rfl ?_
        refine q_getA (pc := 48) C dX11_assemble_48 ql_X11_62 h (fun v48 h => ?_)
        refine q_callV (pc := 51) (As := []) (st := []) (ps := q_psI) C B.2.1 hT q_hpI qm_X11_118 qv_X8_layDown dX11_assemble_51 rfl rfl (Nat.le_of_ble_eq_true rfl) (q_flo B.2.2.1 B.2.2.2.1 (by decide) (by decide)) (K_X8_layDown v48) (M_X8_layDown (q_kap E) v48) (by exact fun v51 => (q_mo_br (M_X11_assemble_61 (q_kap E) l0) (M_X11_assemble_62 (q_kap E) l0 (1 : Int32)))) h (fun v51 σ h => ?_)
        refine q_W.st (st' := [q_I v51]) rfl ?_
        refine q_if_eq (pc := 54) (tgt := 61) C dX11_assemble_54 (by decide) h (fun _ h => ?_) (fun _ h => ?_)
        · exact S_X11_assemble_61 B hT l0 _ h
        · refine q_iconst (pc := 57) (v := (1 : Int32)) C dX11_assemble_57 (by decide) ?_
          refine q_goto (pc := 58) (tgt := 62) C dX11_assemble_58 (by decide) ?_
          exact S_X11_assemble_62 B hT l0 (1 : Int32) _ h
  · exact q_throw (pc := 10) (names := ["java/lang/RuntimeException", "java/lang/Exception"]) (k9 := 12) (tx := "there is no description") C B.2.1 hT qt_X11_70_74.2.2.2 qt_X11_70_74.2.2.1 (by decide +kernel) qt_X11_70_74.1 qt_X11_70_74.2.1 dX11_assemble_10 dX11_assemble_13 dX11_assemble_14 dX11_assemble_16 dX11_assemble_19 (q_flo B.2.2.1 B.2.2.2.1 (by decide) (by decide)) (Nat.le_of_ble_eq_true rfl) h
def F_X11_kind (κ : Nat → Nat) (l0 : Option Nat) : q_X Int32 :=
  q_rd (q_gA l0 14 1) fun v1 => q_rd (q_gI v1 12 2) fun v4 => q_rt v4
theorem M_X11_kind (κ : Nat → Nat) (l0 : Option Nat) : q_mo (F_X11_kind κ l0) := (q_mo_rd fun v1 => (q_mo_rd fun v4 => q_mo_rt))
theorem N_X11_kind (κ : Nat → Nat) (l0 : Option Nat) : q_ni (F_X11_kind κ l0) := (q_ni_rd fun v1 => (q_ni_rd fun v4 => q_ni_rt))
set_option maxRecDepth 100000 in
set_option maxHeartbeats 4000000 in
theorem K_X11_kind {E : q_Ev} (l0 : Option Nat) : q_Ct E yX11_kind (.code yX11_kind cX11_kind 1 (some .int)) 0 0 [q_R l0] q_oI (F_X11_kind (q_kap E) l0) := by
  refine q_enter (by decide) (Nat.le_of_ble_eq_true rfl) (fun Γ σ w h B hT => ?_)
  have C := B.1
  unfold F_X11_kind at h
  refine q_aload_n (pc := 0) C 0 rfl dX11_kind_0 rfl ?_
  refine q_getA (pc := 1) C dX11_kind_1 ql_X11_27 h (fun v1 h => ?_)
  refine q_getI (pc := 4) C dX11_kind_4 ql_X11_126 h (fun v4 h => ?_)
  exact q_iret C B.2.2.2.2.1 dX11_kind_7 h
def F_X11_place (κ : Nat → Nat) (l0 : Option Nat) : q_X Int32 :=
  q_rd (q_gA l0 14 1) fun v1 => q_rd (q_gI v1 12 3) fun v4 => q_rt v4
theorem M_X11_place (κ : Nat → Nat) (l0 : Option Nat) : q_mo (F_X11_place κ l0) := (q_mo_rd fun v1 => (q_mo_rd fun v4 => q_mo_rt))
theorem N_X11_place (κ : Nat → Nat) (l0 : Option Nat) : q_ni (F_X11_place κ l0) := (q_ni_rd fun v1 => (q_ni_rd fun v4 => q_ni_rt))
set_option maxRecDepth 100000 in
set_option maxHeartbeats 4000000 in
theorem K_X11_place {E : q_Ev} (l0 : Option Nat) : q_Ct E yX11_place (.code yX11_place cX11_place 1 (some .int)) 0 0 [q_R l0] q_oI (F_X11_place (q_kap E) l0) := by
  refine q_enter (by decide) (Nat.le_of_ble_eq_true rfl) (fun Γ σ w h B hT => ?_)
  have C := B.1
  unfold F_X11_place at h
  refine q_aload_n (pc := 0) C 0 rfl dX11_place_0 rfl ?_
  refine q_getA (pc := 1) C dX11_place_1 ql_X11_27 h (fun v1 h => ?_)
  refine q_getI (pc := 4) C dX11_place_4 ql_X11_129 h (fun v4 h => ?_)
  exact q_iret C B.2.2.2.2.1 dX11_place_7 h
def F_X11_word (κ : Nat → Nat) (l0 : Option Nat) (l1 : Int32) : q_X Int64 :=
  q_rd (q_gA l0 14 3) fun v1 => q_rd (q_is v1 9) fun _ => q_ca (F_X6_has κ v1 l1) fun v5 => q_br (¬ v5 = 0) (q_rd (q_gA l0 14 3) fun v22 => q_rd (q_gA v22 9 0) fun v25 => q_rd (q_lL v25 l1) fun v29 => q_rt v29) (q_th "java/util/NoSuchElementException")
theorem M_X11_word (κ : Nat → Nat) (l0 : Option Nat) (l1 : Int32) : q_mo (F_X11_word κ l0 l1) := (q_mo_rd fun v1 => (q_mo_rd fun _ => q_mo_ca (M_X6_has κ v1 l1) fun v5 => (q_mo_br (q_mo_rd fun v22 => (q_mo_rd fun v25 => (q_mo_rd fun v29 => q_mo_rt))) q_mo_th)))
set_option maxRecDepth 100000 in
set_option maxHeartbeats 4000000 in
theorem K_X11_word {E : q_Ev} (l0 : Option Nat) (l1 : Int32) : q_Ct E yX11_word (.code yX11_word cX11_word 2 (some .long)) 6 90 [q_R l0, q_I l1] q_oL (F_X11_word (q_kap E) l0 l1) := by
  refine q_enter (by decide) (Nat.le_of_ble_eq_true rfl) (fun Γ σ w h B hT => ?_)
  have C := B.1
  unfold F_X11_word at h
  refine q_aload_n (pc := 0) C 0 rfl dX11_word_0 rfl ?_
  refine q_getA (pc := 1) C dX11_word_1 ql_X11_35 h (fun v1 h => ?_)
  refine q_iload_n (pc := 4) C 1 rfl dX11_word_4 rfl ?_
  refine q_callV (pc := 5) (As := [q_I l1]) (st := []) (ps := q_psI) C B.2.1 hT q_hpI qm_X11_132 qv_X6_has dX11_word_5 rfl rfl (Nat.le_of_ble_eq_true rfl) (q_flo B.2.2.1 B.2.2.2.1 (by decide) (by decide)) (K_X6_has v1 l1) (M_X6_has (q_kap E) v1 l1) (by exact fun v5 => (q_mo_br (q_mo_rd fun v22 => (q_mo_rd fun v25 => (q_mo_rd fun v29 => q_mo_rt))) q_mo_th)) h (fun v5 σ h => ?_)
  refine q_W.st (st' := [q_I v5]) rfl ?_
  refine q_if_ne (pc := 8) (tgt := 21) C dX11_word_8 (by decide) h (fun _ h => ?_) (fun _ h => ?_)
  · refine q_aload_n (pc := 21) C 0 rfl dX11_word_21 rfl ?_
    refine q_getA (pc := 22) C dX11_word_22 ql_X11_35 h (fun v22 h => ?_)
    refine q_getA (pc := 25) C dX11_word_25 ql_X11_140 h (fun v25 h => ?_)
    refine q_iload_n (pc := 28) C 1 rfl dX11_word_28 rfl ?_
    refine q_ldL (pc := 29) C dX11_word_29 h (fun v29 h => ?_)
    exact q_lret C B.2.2.2.2.1 dX11_word_30 h
  · exact q_throwX (pc := 11) (Y9 := "java/lang/RuntimeException") (rn := ["java/lang/Exception"]) (ix := 13) (rx := wx_nse) (k9 := 15) (tx := "nothing is laid down there") C B.2.1 hT wx_nse_d qt_X11_135_139.2.2.2 qt_X11_135_139.2.2.1 (by decide +kernel) qt_X11_135_139.1 qt_X11_135_139.2.1 dX11_word_11 dX11_word_14 dX11_word_15 dX11_word_17 dX11_word_20 (q_flo B.2.2.1 B.2.2.2.1 (by decide) (by decide)) (Nat.le_of_ble_eq_true rfl) h
def F_X11_poke_49 (κ : Nat → Nat) : q_X Int32 :=
  q_th "java/lang/IllegalArgumentException"
theorem M_X11_poke_49 (κ : Nat → Nat) : q_mo (F_X11_poke_49 κ) := q_mo_th
set_option maxRecDepth 100000 in
set_option maxHeartbeats 4000000 in
theorem S_X11_poke_49 {E : q_Ev} {Γ : q_Gm} {w : (Int32 ⊕ q_Exn) × q_St} (B : q_Bd E Γ cX11_poke yX11_poke.cls 4 6 90 (some .int) yX11_poke.name w) (hT : q_nT Γ) (σ : q_St) (h : F_X11_poke_49 (q_kap E) σ = some w) : q_W E Γ (q_QF E Γ q_oI w) 4 σ 49 [] [] := by
  have C := B.1
  unfold F_X11_poke_49 at h
  exact q_throw (pc := 49) (names := ["java/lang/RuntimeException", "java/lang/Exception"]) (k9 := 16) (tx := "no address, or no word") C B.2.1 hT qt_X11_85_89.2.2.2 qt_X11_85_89.2.2.1 (by decide +kernel) qt_X11_85_89.1 qt_X11_85_89.2.1 dX11_poke_49 dX11_poke_52 dX11_poke_53 dX11_poke_55 dX11_poke_58 (q_flo B.2.2.1 B.2.2.2.1 (by decide) (by decide)) (Nat.le_of_ble_eq_true rfl) h
def F_X11_poke (κ : Nat → Nat) (l0 : Option Nat) (l1 : Int32) (l2 : Int64) : q_X Int32 :=
  q_rd (q_gA l0 14 2) fun v1 => q_rd (q_gI v1 8 2) fun v4 => q_br (¬ v4 = 0) (q_br (l1 < 0) (F_X11_poke_49 κ) (q_br ((4096 : Int32) ≤ l1) (F_X11_poke_49 κ) (q_br ((lg_cmp l2 (0 : Int64)) < 0) (F_X11_poke_49 κ) (q_rd (q_gA l0 14 2) fun v39 => q_rd (q_is v39 8) fun _ => q_ca (F_X5_highestWord κ v39) fun v42 => q_br ((lg_cmp l2 v42) ≤ 0) (q_rd (q_gA l0 14 3) fun v60 => q_rd (q_is v60 9) fun _ => q_ca (F_X6_put κ v60 l1 l2) fun _v65 => q_rd (q_gA l0 14 3) fun v69 => q_rd (q_gI v69 9 2) fun v72 => q_rt v72) (F_X11_poke_49 κ))))) (q_th "java/lang/IllegalStateException")
theorem M_X11_poke (κ : Nat → Nat) (l0 : Option Nat) (l1 : Int32) (l2 : Int64) : q_mo (F_X11_poke κ l0 l1 l2) := (q_mo_rd fun v1 => (q_mo_rd fun v4 => (q_mo_br (q_mo_br (M_X11_poke_49 κ) (q_mo_br (M_X11_poke_49 κ) (q_mo_br (M_X11_poke_49 κ) (q_mo_rd fun v39 => (q_mo_rd fun _ => q_mo_ca (M_X5_highestWord κ v39) fun v42 => (q_mo_br (q_mo_rd fun v60 => (q_mo_rd fun _ => q_mo_ca (M_X6_put κ v60 l1 l2) fun _v65 => (q_mo_rd fun v69 => (q_mo_rd fun v72 => q_mo_rt)))) (M_X11_poke_49 κ))))))) q_mo_th)))
set_option maxRecDepth 100000 in
set_option maxHeartbeats 4000000 in
theorem K_X11_poke {E : q_Ev} (l0 : Option Nat) (l1 : Int32) (l2 : Int64) : q_Ct E yX11_poke (.code yX11_poke cX11_poke 4 (some .int)) 6 90 [q_R l0, q_I l1, q_L l2] q_oI (F_X11_poke (q_kap E) l0 l1 l2) := by
  refine q_enter (by decide) (Nat.le_of_ble_eq_true rfl) (fun Γ σ w h B hT => ?_)
  have C := B.1
  unfold F_X11_poke at h
  refine q_aload_n (pc := 0) C 0 rfl dX11_poke_0 rfl ?_
  refine q_getA (pc := 1) C dX11_poke_1 ql_X11_31 h (fun v1 h => ?_)
  refine q_getI (pc := 4) C dX11_poke_4 ql_X11_109 h (fun v4 h => ?_)
  refine q_if_ne (pc := 7) (tgt := 20) C dX11_poke_7 (by decide) h (fun _ h => ?_) (fun _ h => ?_)
  · refine q_iload_n (pc := 20) C 1 rfl dX11_poke_20 rfl ?_
    refine q_if_lt (pc := 21) (tgt := 49) C dX11_poke_21 (by decide) h (fun _ h => ?_) (fun _ h => ?_)
    · refine q_W.sub [] rfl ?_
      exact S_X11_poke_49 B hT _ h
    · refine q_iload_n (pc := 24) C 1 rfl dX11_poke_24 rfl ?_
      refine q_sipush (pc := 25) (v := (4096 : Int32)) C dX11_poke_25 (by decide) ?_
      refine q_icmp_ge (pc := 28) (tgt := 49) C dX11_poke_28 (by decide) h (fun _ h => ?_) (fun _ h => ?_)
      · refine q_W.sub [] rfl ?_
        exact S_X11_poke_49 B hT _ h
      · refine q_lload_n (pc := 31) C 2 rfl dX11_poke_31 rfl ?_
        refine q_lconst (pc := 32) (v := (0 : Int64)) C dX11_poke_32 (by decide) ?_
        refine q_lcmp (pc := 33) C dX11_poke_33 ?_
        refine q_if_lt (pc := 34) (tgt := 49) C dX11_poke_34 (by decide) h (fun _ h => ?_) (fun _ h => ?_)
        · refine q_W.sub [] rfl ?_
          exact S_X11_poke_49 B hT _ h
        · refine q_lload_n (pc := 37) C 2 rfl dX11_poke_37 rfl ?_
          refine q_aload_n (pc := 38) C 0 rfl dX11_poke_38 rfl ?_
          refine q_getA (pc := 39) C dX11_poke_39 ql_X11_31 h (fun v39 h => ?_)
          refine q_callV (pc := 42) (As := []) (st := [q_L l2]) (ps := q_psL) C B.2.1 hT q_hpL qm_X11_144 qv_X5_highestWord dX11_poke_42 rfl rfl (Nat.le_of_ble_eq_true rfl) (q_flo B.2.2.1 B.2.2.2.1 (by decide) (by decide)) (K_X5_highestWord v39) (M_X5_highestWord (q_kap E) v39) (by exact fun v42 => (q_mo_br (q_mo_rd fun v60 => (q_mo_rd fun _ => q_mo_ca (M_X6_put (q_kap E) v60 l1 l2) fun _v65 => (q_mo_rd fun v69 => (q_mo_rd fun v72 => q_mo_rt)))) (M_X11_poke_49 (q_kap E)))) h (fun v42 σ h => ?_)
          refine q_W.st (st' := [q_L v42, q_L l2]) rfl ?_
          refine q_lcmp (pc := 45) C dX11_poke_45 ?_
          refine q_if_le (pc := 46) (tgt := 59) C dX11_poke_46 (by decide) h (fun _ h => ?_) (fun _ h => ?_)
          · refine q_aload_n (pc := 59) C 0 rfl dX11_poke_59 rfl ?_
            refine q_getA (pc := 60) C dX11_poke_60 ql_X11_35 h (fun v60 h => ?_)
            refine q_iload_n (pc := 63) C 1 rfl dX11_poke_63 rfl ?_
            refine q_lload_n (pc := 64) C 2 rfl dX11_poke_64 rfl ?_
            refine q_callV (pc := 65) (As := [q_I l1, q_L l2]) (st := []) (ps := q_psV) C B.2.1 hT q_hpV qm_X11_150 qv_X6_put dX11_poke_65 rfl rfl (Nat.le_of_ble_eq_true rfl) (q_flo B.2.2.1 B.2.2.2.1 (by decide) (by decide)) (K_X6_put v60 l1 l2) (M_X6_put (q_kap E) v60 l1 l2) (by exact fun _v65 => (q_mo_rd fun v69 => (q_mo_rd fun v72 => q_mo_rt))) h (fun _v65 σ h => ?_)
            refine q_W.st (st' := []) rfl ?_
            refine q_aload_n (pc := 68) C 0 rfl dX11_poke_68 rfl ?_
            refine q_getA (pc := 69) C dX11_poke_69 ql_X11_35 h (fun v69 h => ?_)
            refine q_getI (pc := 72) C dX11_poke_72 ql_X11_123 h (fun v72 h => ?_)
            exact q_iret C B.2.2.2.2.1 dX11_poke_75 h
          · refine q_W.sub [] rfl ?_
            exact S_X11_poke_49 B hT _ h
  · exact q_throw (pc := 10) (names := ["java/lang/RuntimeException", "java/lang/Exception"]) (k9 := 12) (tx := "there is no description") C B.2.1 hT qt_X11_70_74.2.2.2 qt_X11_70_74.2.2.1 (by decide +kernel) qt_X11_70_74.1 qt_X11_70_74.2.1 dX11_poke_10 dX11_poke_13 dX11_poke_14 dX11_poke_16 dX11_poke_19 (q_flo B.2.2.1 B.2.2.2.1 (by decide) (by decide)) (Nat.le_of_ble_eq_true rfl) h
def F_X11_list (κ : Nat → Nat) (l0 : Option Nat) (l1 : Int32) : q_X Int32 :=
  q_rd (q_gA l0 14 3) fun v1 => q_rd (q_is v1 9) fun _ => q_ca (F_X6_has κ v1 l1) fun v5 => q_br (¬ v5 = 0) (q_rd (q_gA l0 14 6) fun v22 => q_rd (q_is v22 7) fun _ => q_ca (F_X4_show κ v22 l1) fun v26 => q_rt v26) (q_th "java/util/NoSuchElementException")
theorem M_X11_list (κ : Nat → Nat) (l0 : Option Nat) (l1 : Int32) : q_mo (F_X11_list κ l0 l1) := (q_mo_rd fun v1 => (q_mo_rd fun _ => q_mo_ca (M_X6_has κ v1 l1) fun v5 => (q_mo_br (q_mo_rd fun v22 => (q_mo_rd fun _ => q_mo_ca (M_X4_show κ v22 l1) fun v26 => q_mo_rt)) q_mo_th)))
set_option maxRecDepth 100000 in
set_option maxHeartbeats 4000000 in
theorem K_X11_list {E : q_Ev} (l0 : Option Nat) (l1 : Int32) : q_Ct E yX11_list (.code yX11_list cX11_list 2 (some .int)) 6 131 [q_R l0, q_I l1] q_oI (F_X11_list (q_kap E) l0 l1) := by
  refine q_enter (by decide) (Nat.le_of_ble_eq_true rfl) (fun Γ σ w h B hT => ?_)
  have C := B.1
  unfold F_X11_list at h
  refine q_aload_n (pc := 0) C 0 rfl dX11_list_0 rfl ?_
  refine q_getA (pc := 1) C dX11_list_1 ql_X11_35 h (fun v1 h => ?_)
  refine q_iload_n (pc := 4) C 1 rfl dX11_list_4 rfl ?_
  refine q_callV (pc := 5) (As := [q_I l1]) (st := []) (ps := q_psI) C B.2.1 hT q_hpI qm_X11_132 qv_X6_has dX11_list_5 rfl rfl (Nat.le_of_ble_eq_true rfl) (q_flo B.2.2.1 B.2.2.2.1 (by decide) (by decide)) (K_X6_has v1 l1) (M_X6_has (q_kap E) v1 l1) (by exact fun v5 => (q_mo_br (q_mo_rd fun v22 => (q_mo_rd fun _ => q_mo_ca (M_X4_show (q_kap E) v22 l1) fun v26 => q_mo_rt)) q_mo_th)) h (fun v5 σ h => ?_)
  refine q_W.st (st' := [q_I v5]) rfl ?_
  refine q_if_ne (pc := 8) (tgt := 21) C dX11_list_8 (by decide) h (fun _ h => ?_) (fun _ h => ?_)
  · refine q_aload_n (pc := 21) C 0 rfl dX11_list_21 rfl ?_
    refine q_getA (pc := 22) C dX11_list_22 ql_X11_44 h (fun v22 h => ?_)
    refine q_iload_n (pc := 25) C 1 rfl dX11_list_25 rfl ?_
    refine q_callV (pc := 26) (As := [q_I l1]) (st := []) (ps := q_psI) C B.2.1 hT q_hpI qm_X11_154 qv_X4_show dX11_list_26 rfl rfl (Nat.le_of_ble_eq_true rfl) (q_flo B.2.2.1 B.2.2.2.1 (by decide) (by decide)) (K_X4_show v22 l1) (M_X4_show (q_kap E) v22 l1) (by exact fun v26 => q_mo_rt) h (fun v26 σ h => ?_)
    refine q_W.st (st' := [q_I v26]) rfl ?_
    exact q_iret C B.2.2.2.2.1 dX11_list_29 h
  · exact q_throwX (pc := 11) (Y9 := "java/lang/RuntimeException") (rn := ["java/lang/Exception"]) (ix := 13) (rx := wx_nse) (k9 := 15) (tx := "nothing is laid down there") C B.2.1 hT wx_nse_d qt_X11_135_139.2.2.2 qt_X11_135_139.2.2.1 (by decide +kernel) qt_X11_135_139.1 qt_X11_135_139.2.1 dX11_list_11 dX11_list_14 dX11_list_15 dX11_list_17 dX11_list_20 (q_flo B.2.2.1 B.2.2.2.1 (by decide) (by decide)) (Nat.le_of_ble_eq_true rfl) h
def F_X11_which (κ : Nat → Nat) (l0 : Option Nat) : q_X Int32 :=
  q_rd (q_gA l0 14 6) fun v1 => q_rd (q_gI v1 7 6) fun v4 => q_rt v4
theorem M_X11_which (κ : Nat → Nat) (l0 : Option Nat) : q_mo (F_X11_which κ l0) := (q_mo_rd fun v1 => (q_mo_rd fun v4 => q_mo_rt))
theorem N_X11_which (κ : Nat → Nat) (l0 : Option Nat) : q_ni (F_X11_which κ l0) := (q_ni_rd fun v1 => (q_ni_rd fun v4 => q_ni_rt))
set_option maxRecDepth 100000 in
set_option maxHeartbeats 4000000 in
theorem K_X11_which {E : q_Ev} (l0 : Option Nat) : q_Ct E yX11_which (.code yX11_which cX11_which 1 (some .int)) 0 0 [q_R l0] q_oI (F_X11_which (q_kap E) l0) := by
  refine q_enter (by decide) (Nat.le_of_ble_eq_true rfl) (fun Γ σ w h B hT => ?_)
  have C := B.1
  unfold F_X11_which at h
  refine q_aload_n (pc := 0) C 0 rfl dX11_which_0 rfl ?_
  refine q_getA (pc := 1) C dX11_which_1 ql_X11_44 h (fun v1 h => ?_)
  refine q_getI (pc := 4) C dX11_which_4 ql_X11_158 h (fun v4 h => ?_)
  exact q_iret C B.2.2.2.2.1 dX11_which_7 h
def F_X11_listing_11 (κ : Nat → Nat) : q_X Int64 :=
  q_th "java/lang/IllegalArgumentException"
theorem M_X11_listing_11 (κ : Nat → Nat) : q_mo (F_X11_listing_11 κ) := q_mo_th
set_option maxRecDepth 100000 in
set_option maxHeartbeats 4000000 in
theorem S_X11_listing_11 {E : q_Ev} {Γ : q_Gm} {w : (Int64 ⊕ q_Exn) × q_St} (B : q_Bd E Γ cX11_listing yX11_listing.cls 2 6 90 (some .long) yX11_listing.name w) (hT : q_nT Γ) (σ : q_St) (h : F_X11_listing_11 (q_kap E) σ = some w) : q_W E Γ (q_QF E Γ q_oL w) 2 σ 11 [] [] := by
  have C := B.1
  unfold F_X11_listing_11 at h
  exact q_throw (pc := 11) (names := ["java/lang/RuntimeException", "java/lang/Exception"]) (k9 := 18) (tx := "at is 0 to 300") C B.2.1 hT qt_X11_85_89.2.2.2 qt_X11_85_89.2.2.1 (by decide +kernel) qt_X11_85_89.1 qt_X11_85_89.2.1 dX11_listing_11 dX11_listing_14 dX11_listing_15 dX11_listing_17 dX11_listing_20 (q_flo B.2.2.1 B.2.2.2.1 (by decide) (by decide)) (Nat.le_of_ble_eq_true rfl) h
def F_X11_listing (κ : Nat → Nat) (l0 : Option Nat) (l1 : Int32) : q_X Int64 :=
  q_br (l1 < 0) (F_X11_listing_11 κ) (q_br (l1 ≤ (300 : Int32)) (q_rd (q_gA l0 14 6) fun v22 => q_rd (q_is v22 7) fun _ => q_ca (F_X4_eightFrom κ v22 l1) fun v26 => q_rt v26) (F_X11_listing_11 κ))
theorem M_X11_listing (κ : Nat → Nat) (l0 : Option Nat) (l1 : Int32) : q_mo (F_X11_listing κ l0 l1) := (q_mo_br (M_X11_listing_11 κ) (q_mo_br (q_mo_rd fun v22 => (q_mo_rd fun _ => q_mo_ca (M_X4_eightFrom κ v22 l1) fun v26 => q_mo_rt)) (M_X11_listing_11 κ)))
set_option maxRecDepth 100000 in
set_option maxHeartbeats 4000000 in
theorem K_X11_listing {E : q_Ev} (l0 : Option Nat) (l1 : Int32) : q_Ct E yX11_listing (.code yX11_listing cX11_listing 2 (some .long)) 6 90 [q_R l0, q_I l1] q_oL (F_X11_listing (q_kap E) l0 l1) := by
  refine q_enter (by decide) (Nat.le_of_ble_eq_true rfl) (fun Γ σ w h B hT => ?_)
  have C := B.1
  unfold F_X11_listing at h
  refine q_iload_n (pc := 0) C 1 rfl dX11_listing_0 rfl ?_
  refine q_if_lt (pc := 1) (tgt := 11) C dX11_listing_1 (by decide) h (fun _ h => ?_) (fun _ h => ?_)
  · refine q_W.sub [] rfl ?_
    exact S_X11_listing_11 B hT _ h
  · refine q_iload_n (pc := 4) C 1 rfl dX11_listing_4 rfl ?_
    refine q_sipush (pc := 5) (v := (300 : Int32)) C dX11_listing_5 (by decide) ?_
    refine q_icmp_le (pc := 8) (tgt := 21) C dX11_listing_8 (by decide) h (fun _ h => ?_) (fun _ h => ?_)
    · refine q_aload_n (pc := 21) C 0 rfl dX11_listing_21 rfl ?_
      refine q_getA (pc := 22) C dX11_listing_22 ql_X11_44 h (fun v22 h => ?_)
      refine q_iload_n (pc := 25) C 1 rfl dX11_listing_25 rfl ?_
      refine q_callV (pc := 26) (As := [q_I l1]) (st := []) (ps := q_psL) C B.2.1 hT q_hpL qm_X11_163 qv_X4_eightFrom dX11_listing_26 rfl rfl (Nat.le_of_ble_eq_true rfl) (q_flo B.2.2.1 B.2.2.2.1 (by decide) (by decide)) (K_X4_eightFrom v22 l1) (M_X4_eightFrom (q_kap E) v22 l1) (by exact fun v26 => q_mo_rt) h (fun v26 σ h => ?_)
      refine q_W.st (st' := [q_L v26]) rfl ?_
      exact q_lret C B.2.2.2.2.1 dX11_listing_29 h
    · refine q_W.sub [] rfl ?_
      exact S_X11_listing_11 B hT _ h
def F_X11_quote_31B (κ : Nat → Nat) (r31 : Option Nat → Int32 → q_X Int32) (l0 : Option Nat) (l1 : Int32) : q_X Int32 :=
  q_rd (q_gA l0 14 6) fun v33 => q_rd (q_gI v33 7 5) fun v36 => q_br (v36 ≤ l1) (q_rd (q_gA l0 14 0) fun v65 => q_rd (q_is v65 13) fun _ => q_ca (F_X10_addByte κ v65 (10 : Int32)) fun _v70 => q_rd (q_gA l0 14 0) fun v74 => q_rd (q_gI v74 13 5) fun v77 => q_rt v77) (q_rd (q_gA l0 14 0) fun v43 => q_rd (q_gA l0 14 6) fun v47 => q_rd (q_gA v47 7 4) fun v50 => q_rd (q_lI 0 v50 l1) fun v54 => q_rd (q_is v43 13) fun _ => q_ca (F_X10_addByte κ v43 v54) fun _v55 => r31 l0 (l1 + (1 : Int32)))
theorem M_X11_quote_31B (κ : Nat → Nat) (r31 : Option Nat → Int32 → q_X Int32) (mr31 : ∀ (l0 : Option Nat) (l1 : Int32), q_mo (r31 l0 l1)) (l0 : Option Nat) (l1 : Int32) : q_mo (F_X11_quote_31B κ r31 l0 l1) := (q_mo_rd fun v33 => (q_mo_rd fun v36 => (q_mo_br (q_mo_rd fun v65 => (q_mo_rd fun _ => q_mo_ca (M_X10_addByte κ v65 (10 : Int32)) fun _v70 => (q_mo_rd fun v74 => (q_mo_rd fun v77 => q_mo_rt)))) (q_mo_rd fun v43 => (q_mo_rd fun v47 => (q_mo_rd fun v50 => (q_mo_rd fun v54 => (q_mo_rd fun _ => q_mo_ca (M_X10_addByte κ v43 v54) fun _v55 => (mr31 l0 (l1 + (1 : Int32)))))))))))
set_option maxRecDepth 100000 in
set_option maxHeartbeats 4000000 in
theorem S_X11_quote_31B {E : q_Ev} {Γ : q_Gm} {w : (Int32 ⊕ q_Exn) × q_St} (B : q_Bd E Γ cX11_quote yX11_quote.cls 2 6 90 (some .int) yX11_quote.name w) (hT : q_nT Γ) (r31 : Option Nat → Int32 → q_X Int32) (hr31 : ∀ (l0 : Option Nat) (l1 : Int32) (σ : q_St), r31 l0 l1 σ = some w → q_W E Γ (q_QF E Γ q_oI w) 2 σ 31 [(0, q_R l0), (1, q_I l1)] []) (mr31 : ∀ (l0 : Option Nat) (l1 : Int32), q_mo (r31 l0 l1)) (l0 : Option Nat) (l1 : Int32) (σ : q_St) (h : F_X11_quote_31B (q_kap E) r31 l0 l1 σ = some w) : q_W E Γ (q_QF E Γ q_oI w) 2 σ 31 [(0, q_R l0), (1, q_I l1)] [] := by
  have C := B.1
  unfold F_X11_quote_31B at h
  refine q_iload_n (pc := 31) C 1 rfl dX11_quote_31 rfl ?_
  refine q_aload_n (pc := 32) C 0 rfl dX11_quote_32 rfl ?_
  refine q_getA (pc := 33) C dX11_quote_33 ql_X11_44 h (fun v33 h => ?_)
  refine q_getI (pc := 36) C dX11_quote_36 ql_X11_167 h (fun v36 h => ?_)
  refine q_icmp_ge (pc := 39) (tgt := 64) C dX11_quote_39 (by decide) h (fun _ h => ?_) (fun _ h => ?_)
  · refine q_aload_n (pc := 64) C 0 rfl dX11_quote_64 rfl ?_
    refine q_getA (pc := 65) C dX11_quote_65 ql_X11_21 h (fun v65 h => ?_)
    refine q_bipush (pc := 68) (v := (10 : Int32)) C dX11_quote_68 (by decide) ?_
    refine q_callV (pc := 70) (As := [q_I (10 : Int32)]) (st := []) (ps := q_psV) C B.2.1 hT q_hpV qm_X11_174 qv_X10_addByte dX11_quote_70 rfl rfl (Nat.le_of_ble_eq_true rfl) (q_flo B.2.2.1 B.2.2.2.1 (by decide) (by decide)) (K_X10_addByte v65 (10 : Int32)) (M_X10_addByte (q_kap E) v65 (10 : Int32)) (by exact fun _v70 => (q_mo_rd fun v74 => (q_mo_rd fun v77 => q_mo_rt))) h (fun _v70 σ h => ?_)
    refine q_W.st (st' := []) rfl ?_
    refine q_aload_n (pc := 73) C 0 rfl dX11_quote_73 rfl ?_
    refine q_getA (pc := 74) C dX11_quote_74 ql_X11_21 h (fun v74 h => ?_)
    refine q_getI (pc := 77) C dX11_quote_77 ql_X11_81 h (fun v77 h => ?_)
    exact q_iret C B.2.2.2.2.1 dX11_quote_80 h
  · refine q_aload_n (pc := 42) C 0 rfl dX11_quote_42 rfl ?_
    refine q_getA (pc := 43) C dX11_quote_43 ql_X11_21 h (fun v43 h => ?_)
    refine q_aload_n (pc := 46) C 0 rfl dX11_quote_46 rfl ?_
    refine q_getA (pc := 47) C dX11_quote_47 ql_X11_44 h (fun v47 h => ?_)
    refine q_getA (pc := 50) C dX11_quote_50 ql_X11_170 h (fun v50 h => ?_)
    refine q_iload_n (pc := 53) C 1 rfl dX11_quote_53 rfl ?_
    refine q_ldI (pc := 54) C dX11_quote_54 (Or.inl ⟨rfl, rfl⟩) h (fun v54 h => ?_)
    refine q_callV (pc := 55) (As := [q_I v54]) (st := []) (ps := q_psV) C B.2.1 hT q_hpV qm_X11_174 qv_X10_addByte dX11_quote_55 rfl rfl (Nat.le_of_ble_eq_true rfl) (q_flo B.2.2.1 B.2.2.2.1 (by decide) (by decide)) (K_X10_addByte v43 v54) (M_X10_addByte (q_kap E) v43 v54) (by exact fun _v55 => (mr31 l0 (l1 + (1 : Int32)))) h (fun _v55 σ h => ?_)
    refine q_W.st (st' := []) rfl ?_
    refine q_iinc (pc := 58) (v := (1 : Int32)) (l' := [(1, q_I (l1 + (1 : Int32))), (0, q_R l0)]) C 1 rfl dX11_quote_58 (by decide) (by decide) rfl ?_
    refine q_goto (pc := 61) (tgt := 31) C dX11_quote_61 (by decide) ?_
    refine q_W.sub [1, 0] rfl ?_
    exact hr31 l0 (l1 + (1 : Int32)) _ h
def F_X11_quote_31 (κ : Nat → Nat) : Nat → Option Nat → Int32 → q_X Int32
  | 0, _, _ => q_no
  | n + 1, l0, l1 => F_X11_quote_31B κ (F_X11_quote_31 κ n) l0 l1
theorem M_X11_quote_31 (κ : Nat → Nat) : ∀ (n : Nat) (l0 : Option Nat) (l1 : Int32), q_mo (F_X11_quote_31 κ n l0 l1)
  | 0, _, _ => q_mo_no
  | n + 1, l0, l1 => M_X11_quote_31B κ (F_X11_quote_31 κ n) (M_X11_quote_31 κ n) l0 l1
theorem S_X11_quote_31 {E : q_Ev} {Γ : q_Gm} {w : (Int32 ⊕ q_Exn) × q_St} (B : q_Bd E Γ cX11_quote yX11_quote.cls 2 6 90 (some .int) yX11_quote.name w) (hT : q_nT Γ) : ∀ (n : Nat) (l0 : Option Nat) (l1 : Int32) (σ : q_St), F_X11_quote_31 (q_kap E) n l0 l1 σ = some w → q_W E Γ (q_QF E Γ q_oI w) 2 σ 31 [(0, q_R l0), (1, q_I l1)] []
  | 0, _, _, _, h => by cases h
  | n + 1, l0, l1, σ, h => S_X11_quote_31B B hT (F_X11_quote_31 (q_kap E) n) (S_X11_quote_31 B hT n) (M_X11_quote_31 (q_kap E) n) l0 l1 σ h
def F_X11_quote (κ : Nat → Nat) (l0 : Option Nat) : q_X Int32 :=
  q_rd (q_gA l0 14 0) fun v1 => q_rd (q_gA l0 14 6) fun v5 => q_rd (q_gI v5 7 5) fun v8 => q_rd (q_is v1 13) fun _ => q_ca (F_X10_hasRoomFor κ v1 (v8 + (1 : Int32))) fun v13 => q_br (¬ v13 = 0) (F_X11_quote_31 κ q_fu l0 (0 : Int32)) (q_th "java/lang/IllegalStateException")
theorem M_X11_quote (κ : Nat → Nat) (l0 : Option Nat) : q_mo (F_X11_quote κ l0) := (q_mo_rd fun v1 => (q_mo_rd fun v5 => (q_mo_rd fun v8 => (q_mo_rd fun _ => q_mo_ca (M_X10_hasRoomFor κ v1 (v8 + (1 : Int32))) fun v13 => (q_mo_br (M_X11_quote_31 κ q_fu l0 (0 : Int32)) q_mo_th)))))
set_option maxRecDepth 100000 in
set_option maxHeartbeats 4000000 in
theorem K_X11_quote {E : q_Ev} (l0 : Option Nat) : q_Ct E yX11_quote (.code yX11_quote cX11_quote 2 (some .int)) 6 90 [q_R l0] q_oI (F_X11_quote (q_kap E) l0) := by
  refine q_enter (by decide) (Nat.le_of_ble_eq_true rfl) (fun Γ σ w h B hT => ?_)
  have C := B.1
  unfold F_X11_quote at h
  refine q_aload_n (pc := 0) C 0 rfl dX11_quote_0 rfl ?_
  refine q_getA (pc := 1) C dX11_quote_1 ql_X11_21 h (fun v1 h => ?_)
  refine q_aload_n (pc := 4) C 0 rfl dX11_quote_4 rfl ?_
  refine q_getA (pc := 5) C dX11_quote_5 ql_X11_44 h (fun v5 h => ?_)
  refine q_getI (pc := 8) C dX11_quote_8 ql_X11_167 h (fun v8 h => ?_)
  refine q_iconst (pc := 11) (v := (1 : Int32)) C dX11_quote_11 (by decide) ?_
  refine q_iadd (pc := 12) C dX11_quote_12 ?_
  refine q_callV (pc := 13) (As := [q_I (v8 + (1 : Int32))]) (st := []) (ps := q_psI) C B.2.1 hT q_hpI qm_X11_66 qv_X10_hasRoomFor dX11_quote_13 rfl rfl (Nat.le_of_ble_eq_true rfl) (q_flo B.2.2.1 B.2.2.2.1 (by decide) (by decide)) (K_X10_hasRoomFor v1 (v8 + (1 : Int32))) (M_X10_hasRoomFor (q_kap E) v1 (v8 + (1 : Int32))) (by exact fun v13 => (q_mo_br (M_X11_quote_31 (q_kap E) q_fu l0 (0 : Int32)) q_mo_th)) h (fun v13 σ h => ?_)
  refine q_W.st (st' := [q_I v13]) rfl ?_
  refine q_if_ne (pc := 16) (tgt := 29) C dX11_quote_16 (by decide) h (fun _ h => ?_) (fun _ h => ?_)
  · refine q_iconst (pc := 29) (v := (0 : Int32)) C dX11_quote_29 (by decide) ?_
    refine q_istore_n (pc := 30) (l' := [(1, q_I (0 : Int32)), (0, q_R l0)]) C dX11_quote_30 rfl (by decide) rfl ?_
    refine q_W.sub [1, 0] rfl ?_
    exact S_X11_quote_31 B hT q_fu l0 (0 : Int32) _ h
  · exact q_throw (pc := 19) (names := ["java/lang/RuntimeException", "java/lang/Exception"]) (k9 := 0) (tx := "the text would be too long") C B.2.1 hT qt_X11_70_74.2.2.2 qt_X11_70_74.2.2.1 (by decide +kernel) qt_X11_70_74.1 qt_X11_70_74.2.1 dX11_quote_19 dX11_quote_22 dX11_quote_23 dX11_quote_25 dX11_quote_28 (q_flo B.2.2.1 B.2.2.2.1 (by decide) (by decide)) (Nat.le_of_ble_eq_true rfl) h
