def F_X10_hasOnlyBits_41 (κ : Nat → Nat) (r7 : Option Nat → Int32 → Int32 → q_X Int32) (l0 : Option Nat) (l1 : Int32) (l2 : Int32) : q_X Int32 :=
  r7 l0 l1 (l2 + (1 : Int32))
theorem M_X10_hasOnlyBits_41 (κ : Nat → Nat) (r7 : Option Nat → Int32 → Int32 → q_X Int32) (mr7 : ∀ (l0 : Option Nat) (l1 : Int32) (l2 : Int32), q_mo (r7 l0 l1 l2)) (l0 : Option Nat) (l1 : Int32) (l2 : Int32) : q_mo (F_X10_hasOnlyBits_41 κ r7 l0 l1 l2) := (mr7 l0 l1 (l2 + (1 : Int32)))
set_option maxRecDepth 100000 in
set_option maxHeartbeats 4000000 in
theorem S_X10_hasOnlyBits_41 {E : q_Ev} {Γ : q_Gm} {w : (Int32 ⊕ q_Exn) × q_St} (B : q_Bd E Γ cX10_hasOnlyBits yX10_hasOnlyBits.cls 3 0 0 (some .boolean) yX10_hasOnlyBits.name w) (hT : q_nT Γ) (r7 : Option Nat → Int32 → Int32 → q_X Int32) (hr7 : ∀ (l0 : Option Nat) (l1 : Int32) (l2 : Int32) (σ : q_St), r7 l0 l1 l2 σ = some w → q_W E Γ (q_QF E Γ q_oI w) 3 σ 7 [(0, q_R l0), (1, q_I l1), (2, q_I l2)] []) (mr7 : ∀ (l0 : Option Nat) (l1 : Int32) (l2 : Int32), q_mo (r7 l0 l1 l2)) (l0 : Option Nat) (l1 : Int32) (l2 : Int32) (σ : q_St) (h : F_X10_hasOnlyBits_41 (q_kap E) r7 l0 l1 l2 σ = some w) : q_W E Γ (q_QF E Γ q_oI w) 3 σ 41 [(0, q_R l0), (1, q_I l1), (2, q_I l2)] [] := by
  have C := B.1
  unfold F_X10_hasOnlyBits_41 at h
  refine q_iinc (pc := 41) (v := (1 : Int32)) (l' := [(2, q_I (l2 + (1 : Int32))), (0, q_R l0), (1, q_I l1)]) C 2 rfl dX10_hasOnlyBits_41 (by decide) (by decide) rfl ?_
  refine q_goto (pc := 44) (tgt := 7) C dX10_hasOnlyBits_44 (by decide) ?_
  refine q_W.sub [1, 2, 0] rfl ?_
  exact hr7 l0 l1 (l2 + (1 : Int32)) _ h
def F_X10_hasOnlyBits_7B (κ : Nat → Nat) (r7 : Option Nat → Int32 → Int32 → q_X Int32) (l0 : Option Nat) (l1 : Int32) (l2 : Int32) : q_X Int32 :=
  q_rd (q_gA l0 13 3) fun v9 => q_rd (q_lI 1 v9 l1) fun v13 => q_br (v13 ≤ l2) (q_rz (1 : Int32)) (q_rd (q_gA l0 13 0) fun v18 => q_rd (q_lI 0 v18 l2) fun v22 => q_br (v22 = (48 : Int32)) (F_X10_hasOnlyBits_41 κ r7 l0 l1 l2) (q_rd (q_gA l0 13 0) fun v29 => q_rd (q_lI 0 v29 l2) fun v33 => q_br (v33 = (49 : Int32)) (F_X10_hasOnlyBits_41 κ r7 l0 l1 l2) (q_rz (0 : Int32))))
theorem M_X10_hasOnlyBits_7B (κ : Nat → Nat) (r7 : Option Nat → Int32 → Int32 → q_X Int32) (mr7 : ∀ (l0 : Option Nat) (l1 : Int32) (l2 : Int32), q_mo (r7 l0 l1 l2)) (l0 : Option Nat) (l1 : Int32) (l2 : Int32) : q_mo (F_X10_hasOnlyBits_7B κ r7 l0 l1 l2) := (q_mo_rd fun v9 => (q_mo_rd fun v13 => (q_mo_br q_mo_rz (q_mo_rd fun v18 => (q_mo_rd fun v22 => (q_mo_br (M_X10_hasOnlyBits_41 κ r7 mr7 l0 l1 l2) (q_mo_rd fun v29 => (q_mo_rd fun v33 => (q_mo_br (M_X10_hasOnlyBits_41 κ r7 mr7 l0 l1 l2) q_mo_rz)))))))))
set_option maxRecDepth 100000 in
set_option maxHeartbeats 4000000 in
theorem S_X10_hasOnlyBits_7B {E : q_Ev} {Γ : q_Gm} {w : (Int32 ⊕ q_Exn) × q_St} (B : q_Bd E Γ cX10_hasOnlyBits yX10_hasOnlyBits.cls 3 0 0 (some .boolean) yX10_hasOnlyBits.name w) (hT : q_nT Γ) (r7 : Option Nat → Int32 → Int32 → q_X Int32) (hr7 : ∀ (l0 : Option Nat) (l1 : Int32) (l2 : Int32) (σ : q_St), r7 l0 l1 l2 σ = some w → q_W E Γ (q_QF E Γ q_oI w) 3 σ 7 [(0, q_R l0), (1, q_I l1), (2, q_I l2)] []) (mr7 : ∀ (l0 : Option Nat) (l1 : Int32) (l2 : Int32), q_mo (r7 l0 l1 l2)) (l0 : Option Nat) (l1 : Int32) (l2 : Int32) (σ : q_St) (h : F_X10_hasOnlyBits_7B (q_kap E) r7 l0 l1 l2 σ = some w) : q_W E Γ (q_QF E Γ q_oI w) 3 σ 7 [(0, q_R l0), (1, q_I l1), (2, q_I l2)] [] := by
  have C := B.1
  unfold F_X10_hasOnlyBits_7B at h
  refine q_iload_n (pc := 7) C 2 rfl dX10_hasOnlyBits_7 rfl ?_
  refine q_aload_n (pc := 8) C 0 rfl dX10_hasOnlyBits_8 rfl ?_
  refine q_getA (pc := 9) C dX10_hasOnlyBits_9 ql_X10_22 h (fun v9 h => ?_)
  refine q_iload_n (pc := 12) C 1 rfl dX10_hasOnlyBits_12 rfl ?_
  refine q_ldI (pc := 13) C dX10_hasOnlyBits_13 (Or.inr (Or.inl ⟨rfl, rfl⟩)) h (fun v13 h => ?_)
  refine q_icmp_ge (pc := 14) (tgt := 47) C dX10_hasOnlyBits_14 (by decide) h (fun _ h => ?_) (fun _ h => ?_)
  · refine q_iconst (pc := 47) (v := (1 : Int32)) C dX10_hasOnlyBits_47 (by decide) ?_
    exact q_zret C B.2.2.2.2.1 dX10_hasOnlyBits_48 h
  · refine q_aload_n (pc := 17) C 0 rfl dX10_hasOnlyBits_17 rfl ?_
    refine q_getA (pc := 18) C dX10_hasOnlyBits_18 ql_X10_9 h (fun v18 h => ?_)
    refine q_iload_n (pc := 21) C 2 rfl dX10_hasOnlyBits_21 rfl ?_
    refine q_ldI (pc := 22) C dX10_hasOnlyBits_22 (Or.inl ⟨rfl, rfl⟩) h (fun v22 h => ?_)
    refine q_bipush (pc := 23) (v := (48 : Int32)) C dX10_hasOnlyBits_23 (by decide) ?_
    refine q_icmp_eq (pc := 25) (tgt := 41) C dX10_hasOnlyBits_25 (by decide) h (fun _ h => ?_) (fun _ h => ?_)
    · exact S_X10_hasOnlyBits_41 B hT r7 hr7 mr7 l0 l1 l2 _ h
    · refine q_aload_n (pc := 28) C 0 rfl dX10_hasOnlyBits_28 rfl ?_
      refine q_getA (pc := 29) C dX10_hasOnlyBits_29 ql_X10_9 h (fun v29 h => ?_)
      refine q_iload_n (pc := 32) C 2 rfl dX10_hasOnlyBits_32 rfl ?_
      refine q_ldI (pc := 33) C dX10_hasOnlyBits_33 (Or.inl ⟨rfl, rfl⟩) h (fun v33 h => ?_)
      refine q_bipush (pc := 34) (v := (49 : Int32)) C dX10_hasOnlyBits_34 (by decide) ?_
      refine q_icmp_eq (pc := 36) (tgt := 41) C dX10_hasOnlyBits_36 (by decide) h (fun _ h => ?_) (fun _ h => ?_)
      · exact S_X10_hasOnlyBits_41 B hT r7 hr7 mr7 l0 l1 l2 _ h
      · refine q_iconst (pc := 39) (v := (0 : Int32)) C dX10_hasOnlyBits_39 (by decide) ?_
        exact q_zret C B.2.2.2.2.1 dX10_hasOnlyBits_40 h
def F_X10_hasOnlyBits_7 (κ : Nat → Nat) : Nat → Option Nat → Int32 → Int32 → q_X Int32
  | 0, _, _, _ => q_no
  | n + 1, l0, l1, l2 => F_X10_hasOnlyBits_7B κ (F_X10_hasOnlyBits_7 κ n) l0 l1 l2
theorem M_X10_hasOnlyBits_7 (κ : Nat → Nat) : ∀ (n : Nat) (l0 : Option Nat) (l1 : Int32) (l2 : Int32), q_mo (F_X10_hasOnlyBits_7 κ n l0 l1 l2)
  | 0, _, _, _ => q_mo_no
  | n + 1, l0, l1, l2 => M_X10_hasOnlyBits_7B κ (F_X10_hasOnlyBits_7 κ n) (M_X10_hasOnlyBits_7 κ n) l0 l1 l2
theorem S_X10_hasOnlyBits_7 {E : q_Ev} {Γ : q_Gm} {w : (Int32 ⊕ q_Exn) × q_St} (B : q_Bd E Γ cX10_hasOnlyBits yX10_hasOnlyBits.cls 3 0 0 (some .boolean) yX10_hasOnlyBits.name w) (hT : q_nT Γ) : ∀ (n : Nat) (l0 : Option Nat) (l1 : Int32) (l2 : Int32) (σ : q_St), F_X10_hasOnlyBits_7 (q_kap E) n l0 l1 l2 σ = some w → q_W E Γ (q_QF E Γ q_oI w) 3 σ 7 [(0, q_R l0), (1, q_I l1), (2, q_I l2)] []
  | 0, _, _, _, _, h => by cases h
  | n + 1, l0, l1, l2, σ, h => S_X10_hasOnlyBits_7B B hT (F_X10_hasOnlyBits_7 (q_kap E) n) (S_X10_hasOnlyBits_7 B hT n) (M_X10_hasOnlyBits_7 (q_kap E) n) l0 l1 l2 σ h
def F_X10_hasOnlyBits (κ : Nat → Nat) (l0 : Option Nat) (l1 : Int32) : q_X Int32 :=
  q_rd (q_gA l0 13 2) fun v1 => q_rd (q_lI 1 v1 l1) fun v5 => F_X10_hasOnlyBits_7 κ q_fu l0 l1 v5
theorem M_X10_hasOnlyBits (κ : Nat → Nat) (l0 : Option Nat) (l1 : Int32) : q_mo (F_X10_hasOnlyBits κ l0 l1) := (q_mo_rd fun v1 => (q_mo_rd fun v5 => (M_X10_hasOnlyBits_7 κ q_fu l0 l1 v5)))
set_option maxRecDepth 100000 in
set_option maxHeartbeats 4000000 in
theorem K_X10_hasOnlyBits {E : q_Ev} (l0 : Option Nat) (l1 : Int32) : q_Ct E yX10_hasOnlyBits (.code yX10_hasOnlyBits cX10_hasOnlyBits 3 (some .boolean)) 0 0 [q_R l0, q_I l1] q_oI (F_X10_hasOnlyBits (q_kap E) l0 l1) := by
  refine q_enter (by decide) (Nat.le_of_ble_eq_true rfl) (fun Γ σ w h B hT => ?_)
  have C := B.1
  unfold F_X10_hasOnlyBits at h
  refine q_aload_n (pc := 0) C 0 rfl dX10_hasOnlyBits_0 rfl ?_
  refine q_getA (pc := 1) C dX10_hasOnlyBits_1 ql_X10_18 h (fun v1 h => ?_)
  refine q_iload_n (pc := 4) C 1 rfl dX10_hasOnlyBits_4 rfl ?_
  refine q_ldI (pc := 5) C dX10_hasOnlyBits_5 (Or.inr (Or.inl ⟨rfl, rfl⟩)) h (fun v5 h => ?_)
  refine q_istore_n (pc := 6) (l' := [(2, q_I v5), (0, q_R l0), (1, q_I l1)]) C dX10_hasOnlyBits_6 rfl (by decide) rfl ?_
  refine q_W.sub [1, 2, 0] rfl ?_
  exact S_X10_hasOnlyBits_7 B hT q_fu l0 l1 v5 _ h
def F_X0_readDigits_109 (κ : Nat → Nat) (r43 : Option Nat → Int32 → q_X Unit) (l0 : Option Nat) (l1 : Int32) : q_X Unit :=
  q_rd (q_gI l0 3 4) fun v111 => q_wr (q_pF l0 3 4 (.int (v111 + (1 : Int32)))) (r43 l0 (l1 + (1 : Int32)))
theorem M_X0_readDigits_109 (κ : Nat → Nat) (r43 : Option Nat → Int32 → q_X Unit) (mr43 : ∀ (l0 : Option Nat) (l1 : Int32), q_mo (r43 l0 l1)) (l0 : Option Nat) (l1 : Int32) : q_mo (F_X0_readDigits_109 κ r43 l0 l1) := (q_mo_rd fun v111 => (q_mo_wr (mr43 l0 (l1 + (1 : Int32)))))
set_option maxRecDepth 100000 in
set_option maxHeartbeats 4000000 in
theorem S_X0_readDigits_109 {E : q_Ev} {Γ : q_Gm} {w : (Unit ⊕ q_Exn) × q_St} (B : q_Bd E Γ cX0_readDigits yX0_readDigits.cls 2 1 22 (none) yX0_readDigits.name w) (hT : q_nT Γ) (r43 : Option Nat → Int32 → q_X Unit) (hr43 : ∀ (l0 : Option Nat) (l1 : Int32) (σ : q_St), r43 l0 l1 σ = some w → q_W E Γ (q_QF E Γ q_oV w) 2 σ 43 [(0, q_R l0), (1, q_I l1)] []) (mr43 : ∀ (l0 : Option Nat) (l1 : Int32), q_mo (r43 l0 l1)) (l0 : Option Nat) (l1 : Int32) (σ : q_St) (h : F_X0_readDigits_109 (q_kap E) r43 l0 l1 σ = some w) : q_W E Γ (q_QF E Γ q_oV w) 2 σ 109 [(0, q_R l0), (1, q_I l1)] [] := by
  have C := B.1
  unfold F_X0_readDigits_109 at h
  refine q_aload_n (pc := 109) C 0 rfl dX0_readDigits_109 rfl ?_
  refine q_dup (pc := 110) C dX0_readDigits_110 rfl ?_
  refine q_getI (pc := 111) C dX0_readDigits_111 ql_X0_241 h (fun v111 h => ?_)
  refine q_iconst (pc := 114) (v := (1 : Int32)) C dX0_readDigits_114 (by decide) ?_
  refine q_iadd (pc := 115) C dX0_readDigits_115 ?_
  refine q_putV (pc := 116) (v := q_I (v111 + (1 : Int32))) C dX0_readDigits_116 ql_X0_241 (Or.inl rfl) rfl rfl h (fun M116 h => ?_)
  refine q_iinc (pc := 119) (v := (1 : Int32)) (l' := [(1, q_I (l1 + (1 : Int32))), (0, q_R l0)]) C 1 rfl dX0_readDigits_119 (by decide) (by decide) rfl ?_
  refine q_goto (pc := 122) (tgt := 43) C dX0_readDigits_122 (by decide) ?_
  refine q_W.sub [1, 0] rfl ?_
  exact hr43 l0 (l1 + (1 : Int32)) _ h
def F_X0_readDigits_43B (κ : Nat → Nat) (r43 : Option Nat → Int32 → q_X Unit) (l0 : Option Nat) (l1 : Int32) : q_X Unit :=
  q_rd (q_gA l0 3 1) fun v45 => q_rd (q_gA v45 13 3) fun v48 => q_rd (q_gA l0 3 0) fun v52 => q_rd (q_gI v52 12 1) fun v55 => q_rd (q_lI 1 v48 v55) fun v58 => q_br (v58 ≤ l1) (q_rd (q_gA l0 3 0) fun v126 => q_rd (q_gI v126 12 1) fun v130 => q_wr (q_pF v126 12 1 (.int (v130 + (1 : Int32)))) (q_rt ())) (q_rd (q_gI l0 3 4) fun v63 => q_rd (q_gA l0 3 2) fun v67 => q_rd (q_gI v67 8 2) fun v70 => q_br (v70 ≤ v63) (F_X0_readDigits_109 κ r43 l0 l1) (q_rd (q_gA l0 3 3) fun v77 => q_rd (q_gA l0 3 2) fun v81 => q_rd (q_gI v81 8 2) fun v84 => q_rd (q_gI l0 3 4) fun v90 => q_rd (q_gA l0 3 1) fun v95 => q_rd (q_gA v95 13 0) fun v98 => q_rd (q_lI 0 v98 l1) fun v102 => q_rd (q_is v77 4) fun _ => q_ca (F_X1_putDigit κ v77 ((v84 - (1 : Int32)) - v90) (v102 - (48 : Int32))) fun _v106 => F_X0_readDigits_109 κ r43 l0 l1))
theorem M_X0_readDigits_43B (κ : Nat → Nat) (r43 : Option Nat → Int32 → q_X Unit) (mr43 : ∀ (l0 : Option Nat) (l1 : Int32), q_mo (r43 l0 l1)) (l0 : Option Nat) (l1 : Int32) : q_mo (F_X0_readDigits_43B κ r43 l0 l1) := (q_mo_rd fun v45 => (q_mo_rd fun v48 => (q_mo_rd fun v52 => (q_mo_rd fun v55 => (q_mo_rd fun v58 => (q_mo_br (q_mo_rd fun v126 => (q_mo_rd fun v130 => (q_mo_wr q_mo_rt))) (q_mo_rd fun v63 => (q_mo_rd fun v67 => (q_mo_rd fun v70 => (q_mo_br (M_X0_readDigits_109 κ r43 mr43 l0 l1) (q_mo_rd fun v77 => (q_mo_rd fun v81 => (q_mo_rd fun v84 => (q_mo_rd fun v90 => (q_mo_rd fun v95 => (q_mo_rd fun v98 => (q_mo_rd fun v102 => (q_mo_rd fun _ => q_mo_ca (M_X1_putDigit κ v77 ((v84 - (1 : Int32)) - v90) (v102 - (48 : Int32))) fun _v106 => (M_X0_readDigits_109 κ r43 mr43 l0 l1)))))))))))))))))))
set_option maxRecDepth 100000 in
set_option maxHeartbeats 4000000 in
theorem S_X0_readDigits_43B {E : q_Ev} {Γ : q_Gm} {w : (Unit ⊕ q_Exn) × q_St} (B : q_Bd E Γ cX0_readDigits yX0_readDigits.cls 2 1 22 (none) yX0_readDigits.name w) (hT : q_nT Γ) (r43 : Option Nat → Int32 → q_X Unit) (hr43 : ∀ (l0 : Option Nat) (l1 : Int32) (σ : q_St), r43 l0 l1 σ = some w → q_W E Γ (q_QF E Γ q_oV w) 2 σ 43 [(0, q_R l0), (1, q_I l1)] []) (mr43 : ∀ (l0 : Option Nat) (l1 : Int32), q_mo (r43 l0 l1)) (l0 : Option Nat) (l1 : Int32) (σ : q_St) (h : F_X0_readDigits_43B (q_kap E) r43 l0 l1 σ = some w) : q_W E Γ (q_QF E Γ q_oV w) 2 σ 43 [(0, q_R l0), (1, q_I l1)] [] := by
  have C := B.1
  unfold F_X0_readDigits_43B at h
  refine q_iload_n (pc := 43) C 1 rfl dX0_readDigits_43 rfl ?_
  refine q_aload_n (pc := 44) C 0 rfl dX0_readDigits_44 rfl ?_
  refine q_getA (pc := 45) C dX0_readDigits_45 ql_X0_25 h (fun v45 h => ?_)
  refine q_getA (pc := 48) C dX0_readDigits_48 ql_X0_280 h (fun v48 h => ?_)
  refine q_aload_n (pc := 51) C 0 rfl dX0_readDigits_51 rfl ?_
  refine q_getA (pc := 52) C dX0_readDigits_52 ql_X0_15 h (fun v52 h => ?_)
  refine q_getI (pc := 55) C dX0_readDigits_55 ql_X0_58 h (fun v55 h => ?_)
  refine q_ldI (pc := 58) C dX0_readDigits_58 (Or.inr (Or.inl ⟨rfl, rfl⟩)) h (fun v58 h => ?_)
  refine q_icmp_ge (pc := 59) (tgt := 125) C dX0_readDigits_59 (by decide) h (fun _ h => ?_) (fun _ h => ?_)
  · refine q_aload_n (pc := 125) C 0 rfl dX0_readDigits_125 rfl ?_
    refine q_getA (pc := 126) C dX0_readDigits_126 ql_X0_15 h (fun v126 h => ?_)
    refine q_dup (pc := 129) C dX0_readDigits_129 rfl ?_
    refine q_getI (pc := 130) C dX0_readDigits_130 ql_X0_58 h (fun v130 h => ?_)
    refine q_iconst (pc := 133) (v := (1 : Int32)) C dX0_readDigits_133 (by decide) ?_
    refine q_iadd (pc := 134) C dX0_readDigits_134 ?_
    refine q_putV (pc := 135) (v := q_I (v130 + (1 : Int32))) C dX0_readDigits_135 ql_X0_58 (Or.inl rfl) rfl rfl h (fun M135 h => ?_)
    exact q_vret C B.2.2.2.2.1 dX0_readDigits_138 h
  · refine q_aload_n (pc := 62) C 0 rfl dX0_readDigits_62 rfl ?_
    refine q_getI (pc := 63) C dX0_readDigits_63 ql_X0_241 h (fun v63 h => ?_)
    refine q_aload_n (pc := 66) C 0 rfl dX0_readDigits_66 rfl ?_
    refine q_getA (pc := 67) C dX0_readDigits_67 ql_X0_26 h (fun v67 h => ?_)
    refine q_getI (pc := 70) C dX0_readDigits_70 ql_X0_91 h (fun v70 h => ?_)
    refine q_icmp_ge (pc := 73) (tgt := 109) C dX0_readDigits_73 (by decide) h (fun _ h => ?_) (fun _ h => ?_)
    · exact S_X0_readDigits_109 B hT r43 hr43 mr43 l0 l1 _ h
    · refine q_aload_n (pc := 76) C 0 rfl dX0_readDigits_76 rfl ?_
      refine q_getA (pc := 77) C dX0_readDigits_77 ql_X0_186 h (fun v77 h => ?_)
      refine q_aload_n (pc := 80) C 0 rfl dX0_readDigits_80 rfl ?_
      refine q_getA (pc := 81) C dX0_readDigits_81 ql_X0_26 h (fun v81 h => ?_)
      refine q_getI (pc := 84) C dX0_readDigits_84 ql_X0_91 h (fun v84 h => ?_)
      refine q_iconst (pc := 87) (v := (1 : Int32)) C dX0_readDigits_87 (by decide) ?_
      refine q_isub (pc := 88) C dX0_readDigits_88 ?_
      refine q_aload_n (pc := 89) C 0 rfl dX0_readDigits_89 rfl ?_
      refine q_getI (pc := 90) C dX0_readDigits_90 ql_X0_241 h (fun v90 h => ?_)
      refine q_isub (pc := 93) C dX0_readDigits_93 ?_
      refine q_aload_n (pc := 94) C 0 rfl dX0_readDigits_94 rfl ?_
      refine q_getA (pc := 95) C dX0_readDigits_95 ql_X0_25 h (fun v95 h => ?_)
      refine q_getA (pc := 98) C dX0_readDigits_98 ql_X0_283 h (fun v98 h => ?_)
      refine q_iload_n (pc := 101) C 1 rfl dX0_readDigits_101 rfl ?_
      refine q_ldI (pc := 102) C dX0_readDigits_102 (Or.inl ⟨rfl, rfl⟩) h (fun v102 h => ?_)
      refine q_bipush (pc := 103) (v := (48 : Int32)) C dX0_readDigits_103 (by decide) ?_
      refine q_isub (pc := 105) C dX0_readDigits_105 ?_
      refine q_callV (pc := 106) (As := [q_I ((v84 - (1 : Int32)) - v90), q_I (v102 - (48 : Int32))]) (st := []) (ps := q_psV) C B.2.1 hT q_hpV qm_X0_286 qv_X1_putDigit dX0_readDigits_106 rfl rfl (Nat.le_of_ble_eq_true rfl) (q_flo B.2.2.1 B.2.2.2.1 (by decide) (by decide)) (K_X1_putDigit v77 ((v84 - (1 : Int32)) - v90) (v102 - (48 : Int32))) (M_X1_putDigit (q_kap E) v77 ((v84 - (1 : Int32)) - v90) (v102 - (48 : Int32))) (by exact fun _v106 => (M_X0_readDigits_109 (q_kap E) r43 mr43 l0 l1)) h (fun _v106 σ h => ?_)
      refine q_W.st (st' := []) rfl ?_
      exact S_X0_readDigits_109 B hT r43 hr43 mr43 l0 l1 _ h
def F_X0_readDigits_43 (κ : Nat → Nat) : Nat → Option Nat → Int32 → q_X Unit
  | 0, _, _ => q_no
  | n + 1, l0, l1 => F_X0_readDigits_43B κ (F_X0_readDigits_43 κ n) l0 l1
theorem M_X0_readDigits_43 (κ : Nat → Nat) : ∀ (n : Nat) (l0 : Option Nat) (l1 : Int32), q_mo (F_X0_readDigits_43 κ n l0 l1)
  | 0, _, _ => q_mo_no
  | n + 1, l0, l1 => M_X0_readDigits_43B κ (F_X0_readDigits_43 κ n) (M_X0_readDigits_43 κ n) l0 l1
theorem S_X0_readDigits_43 {E : q_Ev} {Γ : q_Gm} {w : (Unit ⊕ q_Exn) × q_St} (B : q_Bd E Γ cX0_readDigits yX0_readDigits.cls 2 1 22 (none) yX0_readDigits.name w) (hT : q_nT Γ) : ∀ (n : Nat) (l0 : Option Nat) (l1 : Int32) (σ : q_St), F_X0_readDigits_43 (q_kap E) n l0 l1 σ = some w → q_W E Γ (q_QF E Γ q_oV w) 2 σ 43 [(0, q_R l0), (1, q_I l1)] []
  | 0, _, _, _, h => by cases h
  | n + 1, l0, l1, σ, h => S_X0_readDigits_43B B hT (F_X0_readDigits_43 (q_kap E) n) (S_X0_readDigits_43 B hT n) (M_X0_readDigits_43 (q_kap E) n) l0 l1 σ h
def F_X0_readDigits (κ : Nat → Nat) (l0 : Option Nat) : q_X Unit :=
  q_rd (q_gA l0 3 1) fun v1 => q_rd (q_gA l0 3 0) fun v5 => q_rd (q_gI v5 12 1) fun v8 => q_rd (q_is v1 13) fun _ => q_ca (F_X10_hasOnlyBits κ v1 v8) fun v11 => q_br (¬ v11 = 0) (q_rd (q_gA l0 3 1) fun v28 => q_rd (q_gA v28 13 2) fun v31 => q_rd (q_gA l0 3 0) fun v35 => q_rd (q_gI v35 12 1) fun v38 => q_rd (q_lI 1 v31 v38) fun v41 => F_X0_readDigits_43 κ q_fu l0 v41) (q_rd (q_gA l0 3 0) fun v18 => q_rd (q_is v18 12) fun _ => q_ca (F_X9_fail κ v18 (3 : Int32)) fun v22 => q_rt ())
theorem M_X0_readDigits (κ : Nat → Nat) (l0 : Option Nat) : q_mo (F_X0_readDigits κ l0) := (q_mo_rd fun v1 => (q_mo_rd fun v5 => (q_mo_rd fun v8 => (q_mo_rd fun _ => q_mo_ca (M_X10_hasOnlyBits κ v1 v8) fun v11 => (q_mo_br (q_mo_rd fun v28 => (q_mo_rd fun v31 => (q_mo_rd fun v35 => (q_mo_rd fun v38 => (q_mo_rd fun v41 => (M_X0_readDigits_43 κ q_fu l0 v41)))))) (q_mo_rd fun v18 => (q_mo_rd fun _ => q_mo_ca (M_X9_fail κ v18 (3 : Int32)) fun v22 => q_mo_rt)))))))
set_option maxRecDepth 100000 in
set_option maxHeartbeats 4000000 in
theorem K_X0_readDigits {E : q_Ev} (l0 : Option Nat) : q_Ct E yX0_readDigits (.code yX0_readDigits cX0_readDigits 2 (none)) 1 22 [q_R l0] q_oV (F_X0_readDigits (q_kap E) l0) := by
  refine q_enter (by decide) (Nat.le_of_ble_eq_true rfl) (fun Γ σ w h B hT => ?_)
  have C := B.1
  unfold F_X0_readDigits at h
  refine q_aload_n (pc := 0) C 0 rfl dX0_readDigits_0 rfl ?_
  refine q_getA (pc := 1) C dX0_readDigits_1 ql_X0_25 h (fun v1 h => ?_)
  refine q_aload_n (pc := 4) C 0 rfl dX0_readDigits_4 rfl ?_
  refine q_getA (pc := 5) C dX0_readDigits_5 ql_X0_15 h (fun v5 h => ?_)
  refine q_getI (pc := 8) C dX0_readDigits_8 ql_X0_58 h (fun v8 h => ?_)
  refine q_callV (pc := 11) (As := [q_I v8]) (st := []) (ps := q_psI) C B.2.1 hT q_hpI qm_X0_273 qv_X10_hasOnlyBits dX0_readDigits_11 rfl rfl (Nat.le_of_ble_eq_true rfl) (q_flo B.2.2.1 B.2.2.2.1 (by decide) (by decide)) (K_X10_hasOnlyBits v1 v8) (M_X10_hasOnlyBits (q_kap E) v1 v8) (by exact fun v11 => (q_mo_br (q_mo_rd fun v28 => (q_mo_rd fun v31 => (q_mo_rd fun v35 => (q_mo_rd fun v38 => (q_mo_rd fun v41 => (M_X0_readDigits_43 (q_kap E) q_fu l0 v41)))))) (q_mo_rd fun v18 => (q_mo_rd fun _ => q_mo_ca (M_X9_fail (q_kap E) v18 (3 : Int32)) fun v22 => q_mo_rt)))) h (fun v11 σ h => ?_)
  refine q_W.st (st' := [q_I v11]) rfl ?_
  refine q_if_ne (pc := 14) (tgt := 27) C dX0_readDigits_14 (by decide) h (fun _ h => ?_) (fun _ h => ?_)
  · refine q_aload_n (pc := 27) C 0 rfl dX0_readDigits_27 rfl ?_
    refine q_getA (pc := 28) C dX0_readDigits_28 ql_X0_25 h (fun v28 h => ?_)
    refine q_getA (pc := 31) C dX0_readDigits_31 ql_X0_276 h (fun v31 h => ?_)
    refine q_aload_n (pc := 34) C 0 rfl dX0_readDigits_34 rfl ?_
    refine q_getA (pc := 35) C dX0_readDigits_35 ql_X0_15 h (fun v35 h => ?_)
    refine q_getI (pc := 38) C dX0_readDigits_38 ql_X0_58 h (fun v38 h => ?_)
    refine q_ldI (pc := 41) C dX0_readDigits_41 (Or.inr (Or.inl ⟨rfl, rfl⟩)) h (fun v41 h => ?_)
    refine q_istore_n (pc := 42) (l' := [(1, q_I v41), (0, q_R l0)]) C dX0_readDigits_42 rfl (by decide) rfl ?_
    refine q_W.sub [1, 0] rfl ?_
    exact S_X0_readDigits_43 B hT q_fu l0 v41 _ h
  · refine q_aload_n (pc := 17) C 0 rfl dX0_readDigits_17 rfl ?_
    refine q_getA (pc := 18) C dX0_readDigits_18 ql_X0_15 h (fun v18 h => ?_)
    refine q_iconst (pc := 21) (v := (3 : Int32)) C dX0_readDigits_21 (by decide) ?_
    refine q_callV (pc := 22) (As := [q_I (3 : Int32)]) (st := []) (ps := q_psI) C B.2.1 hT q_hpI qm_X0_67 qv_X9_fail dX0_readDigits_22 rfl rfl (Nat.le_of_ble_eq_true rfl) (q_flo B.2.2.1 B.2.2.2.1 (by decide) (by decide)) (K_X9_fail v18 (3 : Int32)) (M_X9_fail (q_kap E) v18 (3 : Int32)) (by exact fun v22 => q_mo_rt) h (fun v22 σ h => ?_)
    refine q_W.st (st' := [q_I v22]) rfl ?_
    refine q_pop (pc := 25) C dX0_readDigits_25 rfl ?_
    exact q_vret C B.2.2.2.2.1 dX0_readDigits_26 h
def F_J7_fill_d0a16_6B (κ : Nat → Nat) (r6 : Option Nat → Int64 → Int32 → Int32 → q_X Unit) (l0 : Option Nat) (l1 : Int64) (l3 : Int32) (l4 : Int32) : q_X Unit :=
  q_br (l4 ≤ l3) (q_rt ()) (q_wr (q_sL l0 l3 l1) (r6 l0 l1 (l3 + (1 : Int32)) l4))
theorem M_J7_fill_d0a16_6B (κ : Nat → Nat) (r6 : Option Nat → Int64 → Int32 → Int32 → q_X Unit) (mr6 : ∀ (l0 : Option Nat) (l1 : Int64) (l3 : Int32) (l4 : Int32), q_mo (r6 l0 l1 l3 l4)) (l0 : Option Nat) (l1 : Int64) (l3 : Int32) (l4 : Int32) : q_mo (F_J7_fill_d0a16_6B κ r6 l0 l1 l3 l4) := (q_mo_br q_mo_rt (q_mo_wr (mr6 l0 l1 (l3 + (1 : Int32)) l4)))
set_option maxRecDepth 100000 in
set_option maxHeartbeats 4000000 in
theorem S_J7_fill_d0a16_6B {E : q_Ev} {Γ : q_Gm} {w : (Unit ⊕ q_Exn) × q_St} (B : q_Bd E Γ cJ7_fill_d0a16 yJ7_fill_d0a16.cls 5 0 0 (none) yJ7_fill_d0a16.name w) (hT : q_nT Γ) (r6 : Option Nat → Int64 → Int32 → Int32 → q_X Unit) (hr6 : ∀ (l0 : Option Nat) (l1 : Int64) (l3 : Int32) (l4 : Int32) (σ : q_St), r6 l0 l1 l3 l4 σ = some w → q_W E Γ (q_QF E Γ q_oV w) 5 σ 6 [(0, q_R l0), (1, q_L l1), (3, q_I l3), (4, q_I l4)] []) (mr6 : ∀ (l0 : Option Nat) (l1 : Int64) (l3 : Int32) (l4 : Int32), q_mo (r6 l0 l1 l3 l4)) (l0 : Option Nat) (l1 : Int64) (l3 : Int32) (l4 : Int32) (σ : q_St) (h : F_J7_fill_d0a16_6B (q_kap E) r6 l0 l1 l3 l4 σ = some w) : q_W E Γ (q_QF E Γ q_oV w) 5 σ 6 [(0, q_R l0), (1, q_L l1), (3, q_I l3), (4, q_I l4)] [] := by
  have C := B.1
  unfold F_J7_fill_d0a16_6B at h
  refine q_iload_n (pc := 6) C 2 rfl dJ7_fill_d0a16_6 rfl ?_
  refine q_iload (pc := 7) C 3 rfl dJ7_fill_d0a16_7 ?_
  refine q_icmp_ge (pc := 9) (tgt := 22) C dJ7_fill_d0a16_9 (by decide) h (fun _ h => ?_) (fun _ h => ?_)
  · exact q_vret C B.2.2.2.2.1 dJ7_fill_d0a16_22 h
  · refine q_aload_n (pc := 12) C 0 rfl dJ7_fill_d0a16_12 rfl ?_
    refine q_iload_n (pc := 13) C 2 rfl dJ7_fill_d0a16_13 rfl ?_
    refine q_lload_n (pc := 14) C 1 rfl dJ7_fill_d0a16_14 rfl ?_
    refine q_stL (pc := 15) C dJ7_fill_d0a16_15 h (fun M15 h => ?_)
    refine q_iinc (pc := 16) (v := (1 : Int32)) (l' := [(3, q_I (l3 + (1 : Int32))), (0, q_R l0), (1, q_L l1), (4, q_I l4)]) C 2 rfl dJ7_fill_d0a16_16 (by decide) (by decide) rfl ?_
    refine q_goto (pc := 19) (tgt := 6) C dJ7_fill_d0a16_19 (by decide) ?_
    refine q_W.sub [1, 2, 0, 3] rfl ?_
    exact hr6 l0 l1 (l3 + (1 : Int32)) l4 _ h
def F_J7_fill_d0a16_6 (κ : Nat → Nat) : Nat → Option Nat → Int64 → Int32 → Int32 → q_X Unit
  | 0, _, _, _, _ => q_no
  | n + 1, l0, l1, l3, l4 => F_J7_fill_d0a16_6B κ (F_J7_fill_d0a16_6 κ n) l0 l1 l3 l4
theorem M_J7_fill_d0a16_6 (κ : Nat → Nat) : ∀ (n : Nat) (l0 : Option Nat) (l1 : Int64) (l3 : Int32) (l4 : Int32), q_mo (F_J7_fill_d0a16_6 κ n l0 l1 l3 l4)
  | 0, _, _, _, _ => q_mo_no
  | n + 1, l0, l1, l3, l4 => M_J7_fill_d0a16_6B κ (F_J7_fill_d0a16_6 κ n) (M_J7_fill_d0a16_6 κ n) l0 l1 l3 l4
theorem S_J7_fill_d0a16_6 {E : q_Ev} {Γ : q_Gm} {w : (Unit ⊕ q_Exn) × q_St} (B : q_Bd E Γ cJ7_fill_d0a16 yJ7_fill_d0a16.cls 5 0 0 (none) yJ7_fill_d0a16.name w) (hT : q_nT Γ) : ∀ (n : Nat) (l0 : Option Nat) (l1 : Int64) (l3 : Int32) (l4 : Int32) (σ : q_St), F_J7_fill_d0a16_6 (q_kap E) n l0 l1 l3 l4 σ = some w → q_W E Γ (q_QF E Γ q_oV w) 5 σ 6 [(0, q_R l0), (1, q_L l1), (3, q_I l3), (4, q_I l4)] []
  | 0, _, _, _, _, _, h => by cases h
  | n + 1, l0, l1, l3, l4, σ, h => S_J7_fill_d0a16_6B B hT (F_J7_fill_d0a16_6 (q_kap E) n) (S_J7_fill_d0a16_6 B hT n) (M_J7_fill_d0a16_6 (q_kap E) n) l0 l1 l3 l4 σ h
def F_J7_fill_d0a16 (κ : Nat → Nat) (l0 : Option Nat) (l1 : Int64) : q_X Unit :=
  q_rd (q_ln l0) fun v3 => F_J7_fill_d0a16_6 κ q_fu l0 l1 (0 : Int32) v3
theorem M_J7_fill_d0a16 (κ : Nat → Nat) (l0 : Option Nat) (l1 : Int64) : q_mo (F_J7_fill_d0a16 κ l0 l1) := (q_mo_rd fun v3 => (M_J7_fill_d0a16_6 κ q_fu l0 l1 (0 : Int32) v3))
set_option maxRecDepth 100000 in
set_option maxHeartbeats 4000000 in
theorem K_J7_fill_d0a16 {E : q_Ev} (l0 : Option Nat) (l1 : Int64) : q_Ct E yJ7_fill_d0a16 (.code yJ7_fill_d0a16 cJ7_fill_d0a16 5 (none)) 0 0 [q_R l0, q_L l1] q_oV (F_J7_fill_d0a16 (q_kap E) l0 l1) := by
  refine q_enter (by decide) (Nat.le_of_ble_eq_true rfl) (fun Γ σ w h B hT => ?_)
  have C := B.1
  unfold F_J7_fill_d0a16 at h
  refine q_iconst (pc := 0) (v := (0 : Int32)) C dJ7_fill_d0a16_0 (by decide) ?_
  refine q_istore_n (pc := 1) (l' := [(3, q_I (0 : Int32)), (0, q_R l0), (1, q_L l1)]) C dJ7_fill_d0a16_1 rfl (by decide) rfl ?_
  refine q_aload_n (pc := 2) C 1 rfl dJ7_fill_d0a16_2 rfl ?_
  refine q_aln (pc := 3) C dJ7_fill_d0a16_3 h (fun v3 h => ?_)
  refine q_istore (pc := 4) (l' := [(4, q_I v3), (3, q_I (0 : Int32)), (0, q_R l0), (1, q_L l1)]) C dJ7_fill_d0a16_4 (by decide) rfl ?_
  refine q_W.sub [2, 3, 1, 0] rfl ?_
  exact S_J7_fill_d0a16_6 B hT q_fu l0 l1 (0 : Int32) v3 _ h
def F_X0_readBits_147 (κ : Nat → Nat) : q_X Unit :=
  q_rt ()
theorem M_X0_readBits_147 (κ : Nat → Nat) : q_mo (F_X0_readBits_147 κ) := q_mo_rt
theorem N_X0_readBits_147 (κ : Nat → Nat) : q_ni (F_X0_readBits_147 κ) := q_ni_rt
set_option maxRecDepth 100000 in
set_option maxHeartbeats 4000000 in
theorem S_X0_readBits_147 {E : q_Ev} {Γ : q_Gm} {w : (Unit ⊕ q_Exn) × q_St} (B : q_Bd E Γ cX0_readBits yX0_readBits.cls 3 3 71 (none) yX0_readBits.name w) (hT : q_nT Γ) (σ : q_St) (h : F_X0_readBits_147 (q_kap E) σ = some w) : q_W E Γ (q_QF E Γ q_oV w) 3 σ 147 [] [] := by
  have C := B.1
  unfold F_X0_readBits_147 at h
  exact q_vret C B.2.2.2.2.1 dX0_readBits_147 h
def F_X0_readBits_141 (κ : Nat → Nat) (r22 : Option Nat → Int32 → Int32 → q_X Unit) (l0 : Option Nat) (l1 : Int32) (l2 : Int32) : q_X Unit :=
  r22 l0 l1 (l2 + (1 : Int32))
theorem M_X0_readBits_141 (κ : Nat → Nat) (r22 : Option Nat → Int32 → Int32 → q_X Unit) (mr22 : ∀ (l0 : Option Nat) (l1 : Int32) (l2 : Int32), q_mo (r22 l0 l1 l2)) (l0 : Option Nat) (l1 : Int32) (l2 : Int32) : q_mo (F_X0_readBits_141 κ r22 l0 l1 l2) := (mr22 l0 l1 (l2 + (1 : Int32)))
set_option maxRecDepth 100000 in
set_option maxHeartbeats 4000000 in
theorem S_X0_readBits_141 {E : q_Ev} {Γ : q_Gm} {w : (Unit ⊕ q_Exn) × q_St} (B : q_Bd E Γ cX0_readBits yX0_readBits.cls 3 3 71 (none) yX0_readBits.name w) (hT : q_nT Γ) (r22 : Option Nat → Int32 → Int32 → q_X Unit) (hr22 : ∀ (l0 : Option Nat) (l1 : Int32) (l2 : Int32) (σ : q_St), r22 l0 l1 l2 σ = some w → q_W E Γ (q_QF E Γ q_oV w) 3 σ 22 [(0, q_R l0), (1, q_I l1), (2, q_I l2)] []) (mr22 : ∀ (l0 : Option Nat) (l1 : Int32) (l2 : Int32), q_mo (r22 l0 l1 l2)) (l0 : Option Nat) (l1 : Int32) (l2 : Int32) (σ : q_St) (h : F_X0_readBits_141 (q_kap E) r22 l0 l1 l2 σ = some w) : q_W E Γ (q_QF E Γ q_oV w) 3 σ 141 [(0, q_R l0), (1, q_I l1), (2, q_I l2)] [] := by
  have C := B.1
  unfold F_X0_readBits_141 at h
  refine q_iinc (pc := 141) (v := (1 : Int32)) (l' := [(2, q_I (l2 + (1 : Int32))), (0, q_R l0), (1, q_I l1)]) C 2 rfl dX0_readBits_141 (by decide) (by decide) rfl ?_
  refine q_goto (pc := 144) (tgt := 22) C dX0_readBits_144 (by decide) ?_
  refine q_W.sub [1, 2, 0] rfl ?_
  exact hr22 l0 l1 (l2 + (1 : Int32)) _ h
def F_X0_readBits_22B (κ : Nat → Nat) (r22 : Option Nat → Int32 → Int32 → q_X Unit) (l0 : Option Nat) (l1 : Int32) (l2 : Int32) : q_X Unit :=
  q_rd (q_gA l0 3 1) fun v24 => q_rd (q_gI v24 13 6) fun v27 => q_br (v27 < l2) (F_X0_readBits_147 κ) (q_br (l1 = 0) (F_X0_readBits_147 κ) (q_rd (q_gA l0 3 0) fun v38 => q_rd (q_is v38 12) fun _ => q_ca (F_X9_hasFault κ v38) fun v41 => q_br (¬ v41 = 0) (F_X0_readBits_147 κ) (q_rd (q_gA l0 3 1) fun v48 => q_rd (q_gA v48 13 1) fun v51 => q_rd (q_gA l0 3 0) fun v55 => q_rd (q_gI v55 12 1) fun v58 => q_rd (q_lI 0 v51 v58) fun v61 => q_br (¬ v61 = (2 : Int32)) (q_rd (q_gA l0 3 0) fun v74 => q_rd (q_is v74 12) fun _ => q_ca (F_X9_isAtName κ v74) fun v77 => q_br (v77 = 0) (q_rd (q_gA l0 3 0) fun v91 => q_rd (q_is v91 12) fun _ => q_ca (F_X9_isAt κ v91 (124 : Int32)) fun v96 => q_br (v96 = 0) (q_rd (q_gA l0 3 0) fun v111 => q_rd (q_is v111 12) fun _ => q_ca (F_X9_isAt κ v111 (59 : Int32)) fun v116 => q_br (v116 = 0) (q_rd (q_gA l0 3 0) fun v133 => q_rd (q_is v133 12) fun _ => q_ca (F_X9_fail κ v133 (1 : Int32)) fun v137 => F_X0_readBits_141 κ r22 l0 l1 l2) (q_rd (q_is l0 3) fun _ => q_ca (F_X0_closeWord κ l0 (0 : Int32)) fun _v124 => F_X0_readBits_141 κ r22 l0 (0 : Int32) l2)) (q_rd (q_is l0 3) fun _ => q_ca (F_X0_closeWord κ l0 (1 : Int32)) fun _v104 => F_X0_readBits_141 κ r22 l0 l1 l2)) (q_rd (q_is l0 3) fun _ => q_ca (F_X0_readPiece κ l0) fun _v84 => F_X0_readBits_141 κ r22 l0 l1 l2)) (q_rd (q_is l0 3) fun _ => q_ca (F_X0_readDigits κ l0) fun _v67 => F_X0_readBits_141 κ r22 l0 l1 l2))))
theorem M_X0_readBits_22B (κ : Nat → Nat) (r22 : Option Nat → Int32 → Int32 → q_X Unit) (mr22 : ∀ (l0 : Option Nat) (l1 : Int32) (l2 : Int32), q_mo (r22 l0 l1 l2)) (l0 : Option Nat) (l1 : Int32) (l2 : Int32) : q_mo (F_X0_readBits_22B κ r22 l0 l1 l2) := (q_mo_rd fun v24 => (q_mo_rd fun v27 => (q_mo_br (M_X0_readBits_147 κ) (q_mo_br (M_X0_readBits_147 κ) (q_mo_rd fun v38 => (q_mo_rd fun _ => q_mo_ca (M_X9_hasFault κ v38) fun v41 => (q_mo_br (M_X0_readBits_147 κ) (q_mo_rd fun v48 => (q_mo_rd fun v51 => (q_mo_rd fun v55 => (q_mo_rd fun v58 => (q_mo_rd fun v61 => (q_mo_br (q_mo_rd fun v74 => (q_mo_rd fun _ => q_mo_ca (M_X9_isAtName κ v74) fun v77 => (q_mo_br (q_mo_rd fun v91 => (q_mo_rd fun _ => q_mo_ca (M_X9_isAt κ v91 (124 : Int32)) fun v96 => (q_mo_br (q_mo_rd fun v111 => (q_mo_rd fun _ => q_mo_ca (M_X9_isAt κ v111 (59 : Int32)) fun v116 => (q_mo_br (q_mo_rd fun v133 => (q_mo_rd fun _ => q_mo_ca (M_X9_fail κ v133 (1 : Int32)) fun v137 => (M_X0_readBits_141 κ r22 mr22 l0 l1 l2))) (q_mo_rd fun _ => q_mo_ca (M_X0_closeWord κ l0 (0 : Int32)) fun _v124 => (M_X0_readBits_141 κ r22 mr22 l0 (0 : Int32) l2))))) (q_mo_rd fun _ => q_mo_ca (M_X0_closeWord κ l0 (1 : Int32)) fun _v104 => (M_X0_readBits_141 κ r22 mr22 l0 l1 l2))))) (q_mo_rd fun _ => q_mo_ca (M_X0_readPiece κ l0) fun _v84 => (M_X0_readBits_141 κ r22 mr22 l0 l1 l2))))) (q_mo_rd fun _ => q_mo_ca (M_X0_readDigits κ l0) fun _v67 => (M_X0_readBits_141 κ r22 mr22 l0 l1 l2)))))))))))))))
set_option maxRecDepth 100000 in
set_option maxHeartbeats 4000000 in
theorem S_X0_readBits_22B {E : q_Ev} {Γ : q_Gm} {w : (Unit ⊕ q_Exn) × q_St} (B : q_Bd E Γ cX0_readBits yX0_readBits.cls 3 3 71 (none) yX0_readBits.name w) (hT : q_nT Γ) (r22 : Option Nat → Int32 → Int32 → q_X Unit) (hr22 : ∀ (l0 : Option Nat) (l1 : Int32) (l2 : Int32) (σ : q_St), r22 l0 l1 l2 σ = some w → q_W E Γ (q_QF E Γ q_oV w) 3 σ 22 [(0, q_R l0), (1, q_I l1), (2, q_I l2)] []) (mr22 : ∀ (l0 : Option Nat) (l1 : Int32) (l2 : Int32), q_mo (r22 l0 l1 l2)) (l0 : Option Nat) (l1 : Int32) (l2 : Int32) (σ : q_St) (h : F_X0_readBits_22B (q_kap E) r22 l0 l1 l2 σ = some w) : q_W E Γ (q_QF E Γ q_oV w) 3 σ 22 [(0, q_R l0), (1, q_I l1), (2, q_I l2)] [] := by
  have C := B.1
  unfold F_X0_readBits_22B at h
  refine q_iload_n (pc := 22) C 2 rfl dX0_readBits_22 rfl ?_
  refine q_aload_n (pc := 23) C 0 rfl dX0_readBits_23 rfl ?_
  refine q_getA (pc := 24) C dX0_readBits_24 ql_X0_25 h (fun v24 h => ?_)
  refine q_getI (pc := 27) C dX0_readBits_27 ql_X0_42 h (fun v27 h => ?_)
  refine q_icmp_gt (pc := 30) (tgt := 147) C dX0_readBits_30 (by decide) h (fun _ h => ?_) (fun _ h => ?_)
  · refine q_W.sub [] rfl ?_
    exact S_X0_readBits_147 B hT _ h
  · refine q_iload_n (pc := 33) C 1 rfl dX0_readBits_33 rfl ?_
    refine q_if_eq (pc := 34) (tgt := 147) C dX0_readBits_34 (by decide) h (fun _ h => ?_) (fun _ h => ?_)
    · refine q_W.sub [] rfl ?_
      exact S_X0_readBits_147 B hT _ h
    · refine q_aload_n (pc := 37) C 0 rfl dX0_readBits_37 rfl ?_
      refine q_getA (pc := 38) C dX0_readBits_38 ql_X0_15 h (fun v38 h => ?_)
      refine q_callV (pc := 41) (As := []) (st := []) (ps := q_psI) C B.2.1 hT q_hpI qm_X0_55 qv_X9_hasFault dX0_readBits_41 rfl rfl (Nat.le_of_ble_eq_true rfl) (q_flo B.2.2.1 B.2.2.2.1 (by decide) (by decide)) (K_X9_hasFault v38) (M_X9_hasFault (q_kap E) v38) (by exact fun v41 => (q_mo_br (M_X0_readBits_147 (q_kap E)) (q_mo_rd fun v48 => (q_mo_rd fun v51 => (q_mo_rd fun v55 => (q_mo_rd fun v58 => (q_mo_rd fun v61 => (q_mo_br (q_mo_rd fun v74 => (q_mo_rd fun _ => q_mo_ca (M_X9_isAtName (q_kap E) v74) fun v77 => (q_mo_br (q_mo_rd fun v91 => (q_mo_rd fun _ => q_mo_ca (M_X9_isAt (q_kap E) v91 (124 : Int32)) fun v96 => (q_mo_br (q_mo_rd fun v111 => (q_mo_rd fun _ => q_mo_ca (M_X9_isAt (q_kap E) v111 (59 : Int32)) fun v116 => (q_mo_br (q_mo_rd fun v133 => (q_mo_rd fun _ => q_mo_ca (M_X9_fail (q_kap E) v133 (1 : Int32)) fun v137 => (M_X0_readBits_141 (q_kap E) r22 mr22 l0 l1 l2))) (q_mo_rd fun _ => q_mo_ca (M_X0_closeWord (q_kap E) l0 (0 : Int32)) fun _v124 => (M_X0_readBits_141 (q_kap E) r22 mr22 l0 (0 : Int32) l2))))) (q_mo_rd fun _ => q_mo_ca (M_X0_closeWord (q_kap E) l0 (1 : Int32)) fun _v104 => (M_X0_readBits_141 (q_kap E) r22 mr22 l0 l1 l2))))) (q_mo_rd fun _ => q_mo_ca (M_X0_readPiece (q_kap E) l0) fun _v84 => (M_X0_readBits_141 (q_kap E) r22 mr22 l0 l1 l2))))) (q_mo_rd fun _ => q_mo_ca (M_X0_readDigits (q_kap E) l0) fun _v67 => (M_X0_readBits_141 (q_kap E) r22 mr22 l0 l1 l2)))))))))) h (fun v41 σ h => ?_)
      refine q_W.st (st' := [q_I v41]) rfl ?_
      refine q_if_ne (pc := 44) (tgt := 147) C dX0_readBits_44 (by decide) h (fun _ h => ?_) (fun _ h => ?_)
      · refine q_W.sub [] rfl ?_
        exact S_X0_readBits_147 B hT _ h
      · refine q_aload_n (pc := 47) C 0 rfl dX0_readBits_47 rfl ?_
        refine q_getA (pc := 48) C dX0_readBits_48 ql_X0_25 h (fun v48 h => ?_)
        refine q_getA (pc := 51) C dX0_readBits_51 ql_X0_224 h (fun v51 h => ?_)
        refine q_aload_n (pc := 54) C 0 rfl dX0_readBits_54 rfl ?_
        refine q_getA (pc := 55) C dX0_readBits_55 ql_X0_15 h (fun v55 h => ?_)
        refine q_getI (pc := 58) C dX0_readBits_58 ql_X0_58 h (fun v58 h => ?_)
        refine q_ldI (pc := 61) C dX0_readBits_61 (Or.inl ⟨rfl, rfl⟩) h (fun v61 h => ?_)
        refine q_iconst (pc := 62) (v := (2 : Int32)) C dX0_readBits_62 (by decide) ?_
        refine q_icmp_ne (pc := 63) (tgt := 73) C dX0_readBits_63 (by decide) h (fun _ h => ?_) (fun _ h => ?_)
        · refine q_aload_n (pc := 73) C 0 rfl dX0_readBits_73 rfl ?_
          refine q_getA (pc := 74) C dX0_readBits_74 ql_X0_15 h (fun v74 h => ?_)
          refine q_callV (pc := 77) (As := []) (st := []) (ps := q_psI) C B.2.1 hT q_hpI qm_X0_117 qv_X9_isAtName dX0_readBits_77 rfl rfl (Nat.le_of_ble_eq_true rfl) (q_flo B.2.2.1 B.2.2.2.1 (by decide) (by decide)) (K_X9_isAtName v74) (M_X9_isAtName (q_kap E) v74) (by exact fun v77 => (q_mo_br (q_mo_rd fun v91 => (q_mo_rd fun _ => q_mo_ca (M_X9_isAt (q_kap E) v91 (124 : Int32)) fun v96 => (q_mo_br (q_mo_rd fun v111 => (q_mo_rd fun _ => q_mo_ca (M_X9_isAt (q_kap E) v111 (59 : Int32)) fun v116 => (q_mo_br (q_mo_rd fun v133 => (q_mo_rd fun _ => q_mo_ca (M_X9_fail (q_kap E) v133 (1 : Int32)) fun v137 => (M_X0_readBits_141 (q_kap E) r22 mr22 l0 l1 l2))) (q_mo_rd fun _ => q_mo_ca (M_X0_closeWord (q_kap E) l0 (0 : Int32)) fun _v124 => (M_X0_readBits_141 (q_kap E) r22 mr22 l0 (0 : Int32) l2))))) (q_mo_rd fun _ => q_mo_ca (M_X0_closeWord (q_kap E) l0 (1 : Int32)) fun _v104 => (M_X0_readBits_141 (q_kap E) r22 mr22 l0 l1 l2))))) (q_mo_rd fun _ => q_mo_ca (M_X0_readPiece (q_kap E) l0) fun _v84 => (M_X0_readBits_141 (q_kap E) r22 mr22 l0 l1 l2)))) h (fun v77 σ h => ?_)
          refine q_W.st (st' := [q_I v77]) rfl ?_
          refine q_if_eq (pc := 80) (tgt := 90) C dX0_readBits_80 (by decide) h (fun _ h => ?_) (fun _ h => ?_)
          · refine q_aload_n (pc := 90) C 0 rfl dX0_readBits_90 rfl ?_
            refine q_getA (pc := 91) C dX0_readBits_91 ql_X0_15 h (fun v91 h => ?_)
            refine q_bipush (pc := 94) (v := (124 : Int32)) C dX0_readBits_94 (by decide) ?_
            refine q_callV (pc := 96) (As := [q_I (124 : Int32)]) (st := []) (ps := q_psI) C B.2.1 hT q_hpI qm_X0_190 qv_X9_isAt dX0_readBits_96 rfl rfl (Nat.le_of_ble_eq_true rfl) (q_flo B.2.2.1 B.2.2.2.1 (by decide) (by decide)) (K_X9_isAt v91 (124 : Int32)) (M_X9_isAt (q_kap E) v91 (124 : Int32)) (by exact fun v96 => (q_mo_br (q_mo_rd fun v111 => (q_mo_rd fun _ => q_mo_ca (M_X9_isAt (q_kap E) v111 (59 : Int32)) fun v116 => (q_mo_br (q_mo_rd fun v133 => (q_mo_rd fun _ => q_mo_ca (M_X9_fail (q_kap E) v133 (1 : Int32)) fun v137 => (M_X0_readBits_141 (q_kap E) r22 mr22 l0 l1 l2))) (q_mo_rd fun _ => q_mo_ca (M_X0_closeWord (q_kap E) l0 (0 : Int32)) fun _v124 => (M_X0_readBits_141 (q_kap E) r22 mr22 l0 (0 : Int32) l2))))) (q_mo_rd fun _ => q_mo_ca (M_X0_closeWord (q_kap E) l0 (1 : Int32)) fun _v104 => (M_X0_readBits_141 (q_kap E) r22 mr22 l0 l1 l2)))) h (fun v96 σ h => ?_)
            refine q_W.st (st' := [q_I v96]) rfl ?_
            refine q_if_eq (pc := 99) (tgt := 110) C dX0_readBits_99 (by decide) h (fun _ h => ?_) (fun _ h => ?_)
            · refine q_aload_n (pc := 110) C 0 rfl dX0_readBits_110 rfl ?_
              refine q_getA (pc := 111) C dX0_readBits_111 ql_X0_15 h (fun v111 h => ?_)
              refine q_bipush (pc := 114) (v := (59 : Int32)) C dX0_readBits_114 (by decide) ?_
              refine q_callV (pc := 116) (As := [q_I (59 : Int32)]) (st := []) (ps := q_psI) C B.2.1 hT q_hpI qm_X0_190 qv_X9_isAt dX0_readBits_116 rfl rfl (Nat.le_of_ble_eq_true rfl) (q_flo B.2.2.1 B.2.2.2.1 (by decide) (by decide)) (K_X9_isAt v111 (59 : Int32)) (M_X9_isAt (q_kap E) v111 (59 : Int32)) (by exact fun v116 => (q_mo_br (q_mo_rd fun v133 => (q_mo_rd fun _ => q_mo_ca (M_X9_fail (q_kap E) v133 (1 : Int32)) fun v137 => (M_X0_readBits_141 (q_kap E) r22 mr22 l0 l1 l2))) (q_mo_rd fun _ => q_mo_ca (M_X0_closeWord (q_kap E) l0 (0 : Int32)) fun _v124 => (M_X0_readBits_141 (q_kap E) r22 mr22 l0 (0 : Int32) l2)))) h (fun v116 σ h => ?_)
              refine q_W.st (st' := [q_I v116]) rfl ?_
              refine q_if_eq (pc := 119) (tgt := 132) C dX0_readBits_119 (by decide) h (fun _ h => ?_) (fun _ h => ?_)
              · refine q_aload_n (pc := 132) C 0 rfl dX0_readBits_132 rfl ?_
                refine q_getA (pc := 133) C dX0_readBits_133 ql_X0_15 h (fun v133 h => ?_)
                refine q_iconst (pc := 136) (v := (1 : Int32)) C dX0_readBits_136 (by decide) ?_
                refine q_callV (pc := 137) (As := [q_I (1 : Int32)]) (st := []) (ps := q_psI) C B.2.1 hT q_hpI qm_X0_67 qv_X9_fail dX0_readBits_137 rfl rfl (Nat.le_of_ble_eq_true rfl) (q_flo B.2.2.1 B.2.2.2.1 (by decide) (by decide)) (K_X9_fail v133 (1 : Int32)) (M_X9_fail (q_kap E) v133 (1 : Int32)) (by exact fun v137 => (M_X0_readBits_141 (q_kap E) r22 mr22 l0 l1 l2)) h (fun v137 σ h => ?_)
                refine q_W.st (st' := [q_I v137]) rfl ?_
                refine q_pop (pc := 140) C dX0_readBits_140 rfl ?_
                exact S_X0_readBits_141 B hT r22 hr22 mr22 l0 l1 l2 _ h
              · refine q_aload_n (pc := 122) C 0 rfl dX0_readBits_122 rfl ?_
                refine q_iconst (pc := 123) (v := (0 : Int32)) C dX0_readBits_123 (by decide) ?_
                refine q_callV (pc := 124) (As := [q_I (0 : Int32)]) (st := []) (ps := q_psV) C B.2.1 hT q_hpV qm_X0_260 qv_X0_closeWord dX0_readBits_124 rfl rfl (Nat.le_of_ble_eq_true rfl) (q_flo B.2.2.1 B.2.2.2.1 (by decide) (by decide)) (K_X0_closeWord l0 (0 : Int32)) (M_X0_closeWord (q_kap E) l0 (0 : Int32)) (by exact fun _v124 => (M_X0_readBits_141 (q_kap E) r22 mr22 l0 (0 : Int32) l2)) h (fun _v124 σ h => ?_)
                refine q_W.st (st' := []) rfl ?_
                refine q_iconst (pc := 127) (v := (0 : Int32)) C dX0_readBits_127 (by decide) ?_
                refine q_istore_n (pc := 128) (l' := [(1, q_I (0 : Int32)), (0, q_R l0), (2, q_I l2)]) C dX0_readBits_128 rfl (by decide) rfl ?_
                refine q_goto (pc := 129) (tgt := 141) C dX0_readBits_129 (by decide) ?_
                refine q_W.sub [1, 0, 2] rfl ?_
                exact S_X0_readBits_141 B hT r22 hr22 mr22 l0 (0 : Int32) l2 _ h
            · refine q_aload_n (pc := 102) C 0 rfl dX0_readBits_102 rfl ?_
              refine q_iconst (pc := 103) (v := (1 : Int32)) C dX0_readBits_103 (by decide) ?_
              refine q_callV (pc := 104) (As := [q_I (1 : Int32)]) (st := []) (ps := q_psV) C B.2.1 hT q_hpV qm_X0_260 qv_X0_closeWord dX0_readBits_104 rfl rfl (Nat.le_of_ble_eq_true rfl) (q_flo B.2.2.1 B.2.2.2.1 (by decide) (by decide)) (K_X0_closeWord l0 (1 : Int32)) (M_X0_closeWord (q_kap E) l0 (1 : Int32)) (by exact fun _v104 => (M_X0_readBits_141 (q_kap E) r22 mr22 l0 l1 l2)) h (fun _v104 σ h => ?_)
              refine q_W.st (st' := []) rfl ?_
              refine q_goto (pc := 107) (tgt := 141) C dX0_readBits_107 (by decide) ?_
              exact S_X0_readBits_141 B hT r22 hr22 mr22 l0 l1 l2 _ h
          · refine q_aload_n (pc := 83) C 0 rfl dX0_readBits_83 rfl ?_
            refine q_callV (pc := 84) (As := []) (st := []) (ps := q_psV) C B.2.1 hT q_hpV qm_X0_257 qv_X0_readPiece dX0_readBits_84 rfl rfl (Nat.le_of_ble_eq_true rfl) (q_flo B.2.2.1 B.2.2.2.1 (by decide) (by decide)) (K_X0_readPiece l0) (M_X0_readPiece (q_kap E) l0) (by exact fun _v84 => (M_X0_readBits_141 (q_kap E) r22 mr22 l0 l1 l2)) h (fun _v84 σ h => ?_)
            refine q_W.st (st' := []) rfl ?_
            refine q_goto (pc := 87) (tgt := 141) C dX0_readBits_87 (by decide) ?_
            exact S_X0_readBits_141 B hT r22 hr22 mr22 l0 l1 l2 _ h
        · refine q_aload_n (pc := 66) C 0 rfl dX0_readBits_66 rfl ?_
          refine q_callV (pc := 67) (As := []) (st := []) (ps := q_psV) C B.2.1 hT q_hpV qm_X0_254 qv_X0_readDigits dX0_readBits_67 rfl rfl (Nat.le_of_ble_eq_true rfl) (q_flo B.2.2.1 B.2.2.2.1 (by decide) (by decide)) (K_X0_readDigits l0) (M_X0_readDigits (q_kap E) l0) (by exact fun _v67 => (M_X0_readBits_141 (q_kap E) r22 mr22 l0 l1 l2)) h (fun _v67 σ h => ?_)
          refine q_W.st (st' := []) rfl ?_
          refine q_goto (pc := 70) (tgt := 141) C dX0_readBits_70 (by decide) ?_
          exact S_X0_readBits_141 B hT r22 hr22 mr22 l0 l1 l2 _ h
def F_X0_readBits_22 (κ : Nat → Nat) : Nat → Option Nat → Int32 → Int32 → q_X Unit
  | 0, _, _, _ => q_no
  | n + 1, l0, l1, l2 => F_X0_readBits_22B κ (F_X0_readBits_22 κ n) l0 l1 l2
theorem M_X0_readBits_22 (κ : Nat → Nat) : ∀ (n : Nat) (l0 : Option Nat) (l1 : Int32) (l2 : Int32), q_mo (F_X0_readBits_22 κ n l0 l1 l2)
  | 0, _, _, _ => q_mo_no
  | n + 1, l0, l1, l2 => M_X0_readBits_22B κ (F_X0_readBits_22 κ n) (M_X0_readBits_22 κ n) l0 l1 l2
theorem S_X0_readBits_22 {E : q_Ev} {Γ : q_Gm} {w : (Unit ⊕ q_Exn) × q_St} (B : q_Bd E Γ cX0_readBits yX0_readBits.cls 3 3 71 (none) yX0_readBits.name w) (hT : q_nT Γ) : ∀ (n : Nat) (l0 : Option Nat) (l1 : Int32) (l2 : Int32) (σ : q_St), F_X0_readBits_22 (q_kap E) n l0 l1 l2 σ = some w → q_W E Γ (q_QF E Γ q_oV w) 3 σ 22 [(0, q_R l0), (1, q_I l1), (2, q_I l2)] []
  | 0, _, _, _, _, h => by cases h
  | n + 1, l0, l1, l2, σ, h => S_X0_readBits_22B B hT (F_X0_readBits_22 (q_kap E) n) (S_X0_readBits_22 B hT n) (M_X0_readBits_22 (q_kap E) n) l0 l1 l2 σ h
def F_X0_readBits (κ : Nat → Nat) (l0 : Option Nat) : q_X Unit :=
  q_wr (q_pF l0 3 4 (.int (0 : Int32))) (q_rd (q_gA l0 3 5) fun v6 => q_ca (F_J7_fill_d0a16 κ v6 (0 : Int64)) fun _v10 => q_gd ((0 : Int32) = 0 ∨ (0 : Int32) = 1) (q_wr (q_pF l0 3 6 (.int (0 : Int32))) (F_X0_readBits_22 κ q_fu l0 (1 : Int32) (0 : Int32))))
theorem M_X0_readBits (κ : Nat → Nat) (l0 : Option Nat) : q_mo (F_X0_readBits κ l0) := (q_mo_wr (q_mo_rd fun v6 => (q_mo_ca (M_J7_fill_d0a16 κ v6 (0 : Int64)) fun _v10 => (q_mo_gd (q_mo_wr (M_X0_readBits_22 κ q_fu l0 (1 : Int32) (0 : Int32)))))))
set_option maxRecDepth 100000 in
set_option maxHeartbeats 4000000 in
theorem K_X0_readBits {E : q_Ev} (l0 : Option Nat) : q_Ct E yX0_readBits (.code yX0_readBits cX0_readBits 3 (none)) 3 71 [q_R l0] q_oV (F_X0_readBits (q_kap E) l0) := by
  refine q_enter (by decide) (Nat.le_of_ble_eq_true rfl) (fun Γ σ w h B hT => ?_)
  have C := B.1
  unfold F_X0_readBits at h
  refine q_aload_n (pc := 0) C 0 rfl dX0_readBits_0 rfl ?_
  refine q_iconst (pc := 1) (v := (0 : Int32)) C dX0_readBits_1 (by decide) ?_
  refine q_putV (pc := 2) (v := q_I (0 : Int32)) C dX0_readBits_2 ql_X0_241 (Or.inl rfl) rfl rfl h (fun M2 h => ?_)
  refine q_aload_n (pc := 5) C 0 rfl dX0_readBits_5 rfl ?_
  refine q_getA (pc := 6) C dX0_readBits_6 ql_X0_9 h (fun v6 h => ?_)
  refine q_lconst (pc := 9) (v := (0 : Int64)) C dX0_readBits_9 (by decide) ?_
  refine q_callS (pc := 10) (As := [q_R v6, q_L (0 : Int64)]) (st := []) (ps := q_psV) C B.2.1 hT q_hpV qm_X0_244 qs_J7_fill_d0a16 dX0_readBits_10 rfl rfl (Nat.le_of_ble_eq_true rfl) (q_flo B.2.2.1 B.2.2.2.1 (by decide) (by decide)) (K_J7_fill_d0a16 v6 (0 : Int64)) (M_J7_fill_d0a16 (q_kap E) v6 (0 : Int64)) (by exact fun _v10 => (q_mo_gd (q_mo_wr (M_X0_readBits_22 (q_kap E) q_fu l0 (1 : Int32) (0 : Int32))))) h (fun _v10 σ h => ?_)
  refine q_W.st (st' := []) rfl ?_
  refine q_aload_n (pc := 13) C 0 rfl dX0_readBits_13 rfl ?_
  refine q_iconst (pc := 14) (v := (0 : Int32)) C dX0_readBits_14 (by decide) ?_
  obtain ⟨g15, h⟩ := q_gd_e h
  refine q_putV (pc := 15) (v := q_I (0 : Int32)) C dX0_readBits_15 ql_X0_250 (Or.inl rfl) (by rcases g15 with g | g <;> rw [g] <;> rfl) (by rcases g15 with g | g <;> rw [g] <;> rfl) h (fun M15 h => ?_)
  refine q_iconst (pc := 18) (v := (1 : Int32)) C dX0_readBits_18 (by decide) ?_
  refine q_istore_n (pc := 19) (l' := [(1, q_I (1 : Int32)), (0, q_R l0)]) C dX0_readBits_19 rfl (by decide) rfl ?_
  refine q_iconst (pc := 20) (v := (0 : Int32)) C dX0_readBits_20 (by decide) ?_
  refine q_istore_n (pc := 21) (l' := [(2, q_I (0 : Int32)), (1, q_I (1 : Int32)), (0, q_R l0)]) C dX0_readBits_21 rfl (by decide) rfl ?_
  refine q_W.sub [2, 1, 0] rfl ?_
  exact S_X0_readBits_22 B hT q_fu l0 (1 : Int32) (0 : Int32) _ h
def F_X5_addInstruction (κ : Nat → Nat) (l0 : Option Nat) (l1 : Option Nat) : q_X Unit :=
  q_rd (q_gA l0 8 1) fun v1 => q_rd (q_gI l0 8 4) fun v5 => q_wr (q_sT 4 4 v1 v5 l1) (q_rd (q_gI l0 8 4) fun v12 => q_wr (q_pF l0 8 4 (.int (v12 + (1 : Int32)))) (q_rt ()))
theorem M_X5_addInstruction (κ : Nat → Nat) (l0 : Option Nat) (l1 : Option Nat) : q_mo (F_X5_addInstruction κ l0 l1) := (q_mo_rd fun v1 => (q_mo_rd fun v5 => (q_mo_wr (q_mo_rd fun v12 => (q_mo_wr q_mo_rt)))))
theorem N_X5_addInstruction (κ : Nat → Nat) (l0 : Option Nat) (l1 : Option Nat) : q_ni (F_X5_addInstruction κ l0 l1) := (q_ni_rd fun v1 => (q_ni_rd fun v5 => (q_ni_wr (q_ni_rd fun v12 => (q_ni_wr q_ni_rt)))))
set_option maxRecDepth 100000 in
set_option maxHeartbeats 4000000 in
theorem K_X5_addInstruction {E : q_Ev} (l0 : Option Nat) (l1 : Option Nat) : q_Ct E yX5_addInstruction (.code yX5_addInstruction cX5_addInstruction 2 (none)) 0 0 [q_R l0, q_R l1] q_oV (F_X5_addInstruction (q_kap E) l0 l1) := by
  refine q_enter (by decide) (Nat.le_of_ble_eq_true rfl) (fun Γ σ w h B hT => ?_)
  have C := B.1
  unfold F_X5_addInstruction at h
  refine q_aload_n (pc := 0) C 0 rfl dX5_addInstruction_0 rfl ?_
  refine q_getA (pc := 1) C dX5_addInstruction_1 ql_X5_19 h (fun v1 h => ?_)
  refine q_aload_n (pc := 4) C 0 rfl dX5_addInstruction_4 rfl ?_
  refine q_getI (pc := 5) C dX5_addInstruction_5 ql_X5_30 h (fun v5 h => ?_)
  refine q_aload_n (pc := 8) C 1 rfl dX5_addInstruction_8 rfl ?_
  refine q_stA (pc := 9) (t := 4) (ci := 4) C dX5_addInstruction_9 rfl rfl (Or.inl rfl) h (fun M9 h => ?_)
  refine q_aload_n (pc := 10) C 0 rfl dX5_addInstruction_10 rfl ?_
  refine q_dup (pc := 11) C dX5_addInstruction_11 rfl ?_
  refine q_getI (pc := 12) C dX5_addInstruction_12 ql_X5_30 h (fun v12 h => ?_)
  refine q_iconst (pc := 15) (v := (1 : Int32)) C dX5_addInstruction_15 (by decide) ?_
  refine q_iadd (pc := 16) C dX5_addInstruction_16 ?_
  refine q_putV (pc := 17) (v := q_I (v12 + (1 : Int32))) C dX5_addInstruction_17 ql_X5_30 (Or.inl rfl) rfl rfl h (fun M17 h => ?_)
  exact q_vret C B.2.2.2.2.1 dX5_addInstruction_20 h
def F_J0_isLatin1_aae02_18 (κ : Nat → Nat) (s0 : Int32) : q_X Int32 :=
  q_rz s0
theorem M_J0_isLatin1_aae02_18 (κ : Nat → Nat) (s0 : Int32) : q_mo (F_J0_isLatin1_aae02_18 κ s0) := q_mo_rz
set_option maxRecDepth 100000 in
set_option maxHeartbeats 4000000 in
theorem S_J0_isLatin1_aae02_18 {E : q_Ev} {Γ : q_Gm} {w : (Int32 ⊕ q_Exn) × q_St} (B : q_Bd E Γ cJ0_isLatin1_aae02 yJ0_isLatin1_aae02.cls 1 0 0 (some .boolean) yJ0_isLatin1_aae02.name w) (hT : q_nT Γ) (s0 : Int32) (σ : q_St) (h : F_J0_isLatin1_aae02_18 (q_kap E) s0 σ = some w) : q_W E Γ (q_QF E Γ q_oI w) 1 σ 18 [] [q_I s0] := by
  have C := B.1
  unfold F_J0_isLatin1_aae02_18 at h
  exact q_zret C B.2.2.2.2.1 dJ0_isLatin1_aae02_18 h
def F_J0_isLatin1_aae02_17 (κ : Nat → Nat) : q_X Int32 :=
  F_J0_isLatin1_aae02_18 κ (0 : Int32)
theorem M_J0_isLatin1_aae02_17 (κ : Nat → Nat) : q_mo (F_J0_isLatin1_aae02_17 κ) := (M_J0_isLatin1_aae02_18 κ (0 : Int32))
set_option maxRecDepth 100000 in
set_option maxHeartbeats 4000000 in
theorem S_J0_isLatin1_aae02_17 {E : q_Ev} {Γ : q_Gm} {w : (Int32 ⊕ q_Exn) × q_St} (B : q_Bd E Γ cJ0_isLatin1_aae02 yJ0_isLatin1_aae02.cls 1 0 0 (some .boolean) yJ0_isLatin1_aae02.name w) (hT : q_nT Γ) (σ : q_St) (h : F_J0_isLatin1_aae02_17 (q_kap E) σ = some w) : q_W E Γ (q_QF E Γ q_oI w) 1 σ 17 [] [] := by
  have C := B.1
  unfold F_J0_isLatin1_aae02_17 at h
  refine q_iconst (pc := 17) (v := (0 : Int32)) C dJ0_isLatin1_aae02_17 (by decide) ?_
  exact S_J0_isLatin1_aae02_18 B hT (0 : Int32) _ h
def F_J0_isLatin1_aae02 (κ : Nat → Nat) (l0 : Option Nat) : q_X Int32 :=
  q_br ((1 : Int32) = 0) (F_J0_isLatin1_aae02_17 κ) (q_rd (q_sp l0 0) fun v7 => q_br (¬ (0 : Int32) = 0) (F_J0_isLatin1_aae02_17 κ) (F_J0_isLatin1_aae02_18 κ (1 : Int32)))
theorem M_J0_isLatin1_aae02 (κ : Nat → Nat) (l0 : Option Nat) : q_mo (F_J0_isLatin1_aae02 κ l0) := (q_mo_br (M_J0_isLatin1_aae02_17 κ) (q_mo_rd fun v7 => (q_mo_br (M_J0_isLatin1_aae02_17 κ) (M_J0_isLatin1_aae02_18 κ (1 : Int32)))))
set_option maxRecDepth 100000 in
set_option maxHeartbeats 4000000 in
theorem K_J0_isLatin1_aae02 {E : q_Ev} (l0 : Option Nat) : q_Ct E yJ0_isLatin1_aae02 (.code yJ0_isLatin1_aae02 cJ0_isLatin1_aae02 1 (some .boolean)) 0 0 [q_R l0] q_oI (F_J0_isLatin1_aae02 (q_kap E) l0) := by
  refine q_enter (by decide) (Nat.le_of_ble_eq_true rfl) (fun Γ σ w h B hT => ?_)
  have C := B.1
  unfold F_J0_isLatin1_aae02 at h
  refine q_getsC (pc := 0) C dJ0_isLatin1_aae02_0 qz_J0_38 ?_
  refine q_if_eq (pc := 3) (tgt := 17) C dJ0_isLatin1_aae02_3 (by decide) h (fun _ h => ?_) (fun _ h => ?_)
  · refine q_W.sub [] rfl ?_
    exact S_J0_isLatin1_aae02_17 B hT _ h
  · refine q_aload_n (pc := 6) C 0 rfl dJ0_isLatin1_aae02_6 rfl ?_
    refine q_getSc (pc := 7) C dJ0_isLatin1_aae02_7 qz_J0_15 h (fun v7 h => ?_)
    refine q_if_ne (pc := 10) (tgt := 17) C dJ0_isLatin1_aae02_10 (by decide) h (fun _ h => ?_) (fun _ h => ?_)
    · refine q_W.sub [] rfl ?_
      exact S_J0_isLatin1_aae02_17 B hT _ h
    · refine q_iconst (pc := 13) (v := (1 : Int32)) C dJ0_isLatin1_aae02_13 (by decide) ?_
      refine q_goto (pc := 14) (tgt := 18) C dJ0_isLatin1_aae02_14 (by decide) ?_
      refine q_W.sub [] rfl ?_
      exact S_J0_isLatin1_aae02_18 B hT (1 : Int32) _ h
def F_J0_coder_7d493_14 (κ : Nat → Nat) (s0 : Int32) : q_X Int32 :=
  q_rb s0
theorem M_J0_coder_7d493_14 (κ : Nat → Nat) (s0 : Int32) : q_mo (F_J0_coder_7d493_14 κ s0) := q_mo_rb
set_option maxRecDepth 100000 in
set_option maxHeartbeats 4000000 in
theorem S_J0_coder_7d493_14 {E : q_Ev} {Γ : q_Gm} {w : (Int32 ⊕ q_Exn) × q_St} (B : q_Bd E Γ cJ0_coder_7d493 yJ0_coder_7d493.cls 1 0 0 (some .byte) yJ0_coder_7d493.name w) (hT : q_nT Γ) (s0 : Int32) (σ : q_St) (h : F_J0_coder_7d493_14 (q_kap E) s0 σ = some w) : q_W E Γ (q_QF E Γ q_oI w) 1 σ 14 [] [q_I s0] := by
  have C := B.1
  unfold F_J0_coder_7d493_14 at h
  exact q_bret C B.2.2.2.2.1 dJ0_coder_7d493_14 h
def F_J0_coder_7d493 (κ : Nat → Nat) (l0 : Option Nat) : q_X Int32 :=
  q_br ((1 : Int32) = 0) (F_J0_coder_7d493_14 κ (1 : Int32)) (q_rd (q_sp l0 0) fun v7 => F_J0_coder_7d493_14 κ (0 : Int32))
theorem M_J0_coder_7d493 (κ : Nat → Nat) (l0 : Option Nat) : q_mo (F_J0_coder_7d493 κ l0) := (q_mo_br (M_J0_coder_7d493_14 κ (1 : Int32)) (q_mo_rd fun v7 => (M_J0_coder_7d493_14 κ (0 : Int32))))
set_option maxRecDepth 100000 in
set_option maxHeartbeats 4000000 in
theorem K_J0_coder_7d493 {E : q_Ev} (l0 : Option Nat) : q_Ct E yJ0_coder_7d493 (.code yJ0_coder_7d493 cJ0_coder_7d493 1 (some .byte)) 0 0 [q_R l0] q_oI (F_J0_coder_7d493 (q_kap E) l0) := by
  refine q_enter (by decide) (Nat.le_of_ble_eq_true rfl) (fun Γ σ w h B hT => ?_)
  have C := B.1
  unfold F_J0_coder_7d493 at h
  refine q_getsC (pc := 0) C dJ0_coder_7d493_0 qz_J0_38 ?_
  refine q_if_eq (pc := 3) (tgt := 13) C dJ0_coder_7d493_3 (by decide) h (fun _ h => ?_) (fun _ h => ?_)
  · refine q_iconst (pc := 13) (v := (1 : Int32)) C dJ0_coder_7d493_13 (by decide) ?_
    refine q_W.sub [] rfl ?_
    exact S_J0_coder_7d493_14 B hT (1 : Int32) _ h
  · refine q_aload_n (pc := 6) C 0 rfl dJ0_coder_7d493_6 rfl ?_
    refine q_getSc (pc := 7) C dJ0_coder_7d493_7 qz_J0_15 h (fun v7 h => ?_)
    refine q_goto (pc := 10) (tgt := 14) C dJ0_coder_7d493_10 (by decide) ?_
    refine q_W.sub [] rfl ?_
    exact S_J0_coder_7d493_14 B hT (0 : Int32) _ h
def F_J0_length_8abf5 (κ : Nat → Nat) (l0 : Option Nat) : q_X Int32 :=
  q_rd (q_sp l0 0) fun v1 => q_rd (q_sp (some (κ (200 + v1))) 1) fun v4 => q_rd (q_sp l0 0) fun _ => q_ca (F_J0_coder_7d493 κ l0) fun v6 => q_rt ((nI (q_tx.getD v4 []).length) >>> (v6 &&& 31))
theorem M_J0_length_8abf5 (κ : Nat → Nat) (l0 : Option Nat) : q_mo (F_J0_length_8abf5 κ l0) := (q_mo_rd fun v1 => (q_mo_rd fun v4 => (q_mo_rd fun _ => q_mo_ca (M_J0_coder_7d493 κ l0) fun v6 => q_mo_rt)))
set_option maxRecDepth 100000 in
set_option maxHeartbeats 4000000 in
theorem K_J0_length_8abf5 {E : q_Ev} (l0 : Option Nat) : q_Ct E yJ0_length_8abf5 (.code yJ0_length_8abf5 cJ0_length_8abf5 1 (some .int)) 1 20 [q_R l0] q_oI (F_J0_length_8abf5 (q_kap E) l0) := by
  refine q_enter (by decide) (Nat.le_of_ble_eq_true rfl) (fun Γ σ w h B hT => ?_)
  have C := B.1
  unfold F_J0_length_8abf5 at h
  refine q_aload_n (pc := 0) C 0 rfl dJ0_length_8abf5_0 rfl ?_
  refine q_getSv (pc := 1) C dJ0_length_8abf5_1 qz_J0_9 h (fun v1 h => ?_)
  refine q_lenS (pc := 4) C dJ0_length_8abf5_4 h (fun v4 h => ?_)
  refine q_aload_n (pc := 5) C 0 rfl dJ0_length_8abf5_5 rfl ?_
  refine q_callVS (pc := 6) (As := []) (st := [q_I (nI (q_tx.getD v4 []).length)]) (ps := q_psI) C B.2.1 hT q_hpI qm_J0_335 qv_J0_coder_7d493 dJ0_length_8abf5_6 rfl rfl (Nat.le_of_ble_eq_true rfl) (q_flo B.2.2.1 B.2.2.2.1 (by decide) (by decide)) (K_J0_coder_7d493 l0) (M_J0_coder_7d493 (q_kap E) l0) (by exact fun v6 => q_mo_rt) h (fun v6 σ h => ?_)
  refine q_W.st (st' := [q_I v6, q_I (nI (q_tx.getD v4 []).length)]) rfl ?_
  refine q_ishr (pc := 9) C dJ0_length_8abf5_9 ?_
  exact q_iret C B.2.2.2.2.1 dJ0_length_8abf5_10 h
def F_J1_canEncode_9a6ad_16 (κ : Nat → Nat) (s0 : Int32) : q_X Int32 :=
  q_rz s0
theorem M_J1_canEncode_9a6ad_16 (κ : Nat → Nat) (s0 : Int32) : q_mo (F_J1_canEncode_9a6ad_16 κ s0) := q_mo_rz
set_option maxRecDepth 100000 in
set_option maxHeartbeats 4000000 in
theorem S_J1_canEncode_9a6ad_16 {E : q_Ev} {Γ : q_Gm} {w : (Int32 ⊕ q_Exn) × q_St} (B : q_Bd E Γ cJ1_canEncode_9a6ad yJ1_canEncode_9a6ad.cls 1 0 0 (some .boolean) yJ1_canEncode_9a6ad.name w) (hT : q_nT Γ) (s0 : Int32) (σ : q_St) (h : F_J1_canEncode_9a6ad_16 (q_kap E) s0 σ = some w) : q_W E Γ (q_QF E Γ q_oI w) 1 σ 16 [] [q_I s0] := by
  have C := B.1
  unfold F_J1_canEncode_9a6ad_16 at h
  exact q_zret C B.2.2.2.2.1 dJ1_canEncode_9a6ad_16 h
def F_J1_canEncode_9a6ad_15 (κ : Nat → Nat) : q_X Int32 :=
  F_J1_canEncode_9a6ad_16 κ (0 : Int32)
theorem M_J1_canEncode_9a6ad_15 (κ : Nat → Nat) : q_mo (F_J1_canEncode_9a6ad_15 κ) := (M_J1_canEncode_9a6ad_16 κ (0 : Int32))
set_option maxRecDepth 100000 in
set_option maxHeartbeats 4000000 in
theorem S_J1_canEncode_9a6ad_15 {E : q_Ev} {Γ : q_Gm} {w : (Int32 ⊕ q_Exn) × q_St} (B : q_Bd E Γ cJ1_canEncode_9a6ad yJ1_canEncode_9a6ad.cls 1 0 0 (some .boolean) yJ1_canEncode_9a6ad.name w) (hT : q_nT Γ) (σ : q_St) (h : F_J1_canEncode_9a6ad_15 (q_kap E) σ = some w) : q_W E Γ (q_QF E Γ q_oI w) 1 σ 15 [] [] := by
  have C := B.1
  unfold F_J1_canEncode_9a6ad_15 at h
  refine q_iconst (pc := 15) (v := (0 : Int32)) C dJ1_canEncode_9a6ad_15 (by decide) ?_
  exact S_J1_canEncode_9a6ad_16 B hT (0 : Int32) _ h
def F_J1_canEncode_9a6ad (κ : Nat → Nat) (l0 : Int32) : q_X Int32 :=
  q_br (l0 < 0) (F_J1_canEncode_9a6ad_15 κ) (q_br ((255 : Int32) < l0) (F_J1_canEncode_9a6ad_15 κ) (F_J1_canEncode_9a6ad_16 κ (1 : Int32)))
theorem M_J1_canEncode_9a6ad (κ : Nat → Nat) (l0 : Int32) : q_mo (F_J1_canEncode_9a6ad κ l0) := (q_mo_br (M_J1_canEncode_9a6ad_15 κ) (q_mo_br (M_J1_canEncode_9a6ad_15 κ) (M_J1_canEncode_9a6ad_16 κ (1 : Int32))))
set_option maxRecDepth 100000 in
set_option maxHeartbeats 4000000 in
theorem K_J1_canEncode_9a6ad {E : q_Ev} (l0 : Int32) : q_Ct E yJ1_canEncode_9a6ad (.code yJ1_canEncode_9a6ad cJ1_canEncode_9a6ad 1 (some .boolean)) 0 0 [q_I l0] q_oI (F_J1_canEncode_9a6ad (q_kap E) l0) := by
  refine q_enter (by decide) (Nat.le_of_ble_eq_true rfl) (fun Γ σ w h B hT => ?_)
  have C := B.1
  unfold F_J1_canEncode_9a6ad at h
  refine q_iload_n (pc := 0) C 0 rfl dJ1_canEncode_9a6ad_0 rfl ?_
  refine q_if_lt (pc := 1) (tgt := 15) C dJ1_canEncode_9a6ad_1 (by decide) h (fun _ h => ?_) (fun _ h => ?_)
  · refine q_W.sub [] rfl ?_
    exact S_J1_canEncode_9a6ad_15 B hT _ h
  · refine q_iload_n (pc := 4) C 0 rfl dJ1_canEncode_9a6ad_4 rfl ?_
    refine q_sipush (pc := 5) (v := (255 : Int32)) C dJ1_canEncode_9a6ad_5 (by decide) ?_
    refine q_icmp_gt (pc := 8) (tgt := 15) C dJ1_canEncode_9a6ad_8 (by decide) h (fun _ h => ?_) (fun _ h => ?_)
    · refine q_W.sub [] rfl ?_
      exact S_J1_canEncode_9a6ad_15 B hT _ h
    · refine q_iconst (pc := 11) (v := (1 : Int32)) C dJ1_canEncode_9a6ad_11 (by decide) ?_
      refine q_goto (pc := 12) (tgt := 16) C dJ1_canEncode_9a6ad_12 (by decide) ?_
      refine q_W.sub [] rfl ?_
      exact S_J1_canEncode_9a6ad_16 B hT (1 : Int32) _ h
def F_J9_max_7cf53_10 (κ : Nat → Nat) (s0 : Int32) : q_X Int32 :=
  q_rt s0
theorem M_J9_max_7cf53_10 (κ : Nat → Nat) (s0 : Int32) : q_mo (F_J9_max_7cf53_10 κ s0) := q_mo_rt
theorem N_J9_max_7cf53_10 (κ : Nat → Nat) (s0 : Int32) : q_ni (F_J9_max_7cf53_10 κ s0) := q_ni_rt
set_option maxRecDepth 100000 in
set_option maxHeartbeats 4000000 in
theorem S_J9_max_7cf53_10 {E : q_Ev} {Γ : q_Gm} {w : (Int32 ⊕ q_Exn) × q_St} (B : q_Bd E Γ cJ9_max_7cf53 yJ9_max_7cf53.cls 2 0 0 (some .int) yJ9_max_7cf53.name w) (hT : q_nT Γ) (s0 : Int32) (σ : q_St) (h : F_J9_max_7cf53_10 (q_kap E) s0 σ = some w) : q_W E Γ (q_QF E Γ q_oI w) 2 σ 10 [] [q_I s0] := by
  have C := B.1
  unfold F_J9_max_7cf53_10 at h
  exact q_iret C B.2.2.2.2.1 dJ9_max_7cf53_10 h
def F_J9_max_7cf53 (κ : Nat → Nat) (l0 : Int32) (l1 : Int32) : q_X Int32 :=
  q_br (l0 < l1) (F_J9_max_7cf53_10 κ l1) (F_J9_max_7cf53_10 κ l0)
theorem M_J9_max_7cf53 (κ : Nat → Nat) (l0 : Int32) (l1 : Int32) : q_mo (F_J9_max_7cf53 κ l0 l1) := (q_mo_br (M_J9_max_7cf53_10 κ l1) (M_J9_max_7cf53_10 κ l0))
theorem N_J9_max_7cf53 (κ : Nat → Nat) (l0 : Int32) (l1 : Int32) : q_ni (F_J9_max_7cf53 κ l0 l1) := (q_ni_br (N_J9_max_7cf53_10 κ l1) (N_J9_max_7cf53_10 κ l0))
set_option maxRecDepth 100000 in
set_option maxHeartbeats 4000000 in
theorem K_J9_max_7cf53 {E : q_Ev} (l0 : Int32) (l1 : Int32) : q_Ct E yJ9_max_7cf53 (.code yJ9_max_7cf53 cJ9_max_7cf53 2 (some .int)) 0 0 [q_I l0, q_I l1] q_oI (F_J9_max_7cf53 (q_kap E) l0 l1) := by
  refine q_enterF (by decide +kernel) (Nat.le_of_ble_eq_true rfl) (fun Γ σ w h B hT => ?_)
  have C := B.1
  unfold F_J9_max_7cf53 at h
  refine q_iload_n (pc := 0) C 0 rfl dJ9_max_7cf53_0 rfl ?_
  refine q_iload_n (pc := 1) C 1 rfl dJ9_max_7cf53_1 rfl ?_
  refine q_icmp_lt (pc := 2) (tgt := 9) C dJ9_max_7cf53_2 (by decide) h (fun _ h => ?_) (fun _ h => ?_)
  · refine q_iload_n (pc := 9) C 1 rfl dJ9_max_7cf53_9 rfl ?_
    refine q_W.sub [] rfl ?_
    exact S_J9_max_7cf53_10 B hT l1 _ h
  · refine q_iload_n (pc := 5) C 0 rfl dJ9_max_7cf53_5 rfl ?_
    refine q_goto (pc := 6) (tgt := 10) C dJ9_max_7cf53_6 (by decide) ?_
    refine q_W.sub [] rfl ?_
    exact S_J9_max_7cf53_10 B hT l0 _ h
def F_J1_indexOfChar_4cfef_7B (κ : Nat → Nat) (r7 : Option Nat → Int32 → Int32 → Int32 → q_X Int32) (l0 : Option Nat) (l3 : Int32) (l4 : Int32) (l5 : Int32) : q_X Int32 :=
  q_br (l3 ≤ l5) (q_rt (-1 : Int32)) (q_rd (q_lS l0 l5) fun v16 => q_br (¬ v16 = l4) (r7 l0 l3 l4 (l5 + (1 : Int32))) (q_rt l5))
theorem M_J1_indexOfChar_4cfef_7B (κ : Nat → Nat) (r7 : Option Nat → Int32 → Int32 → Int32 → q_X Int32) (mr7 : ∀ (l0 : Option Nat) (l3 : Int32) (l4 : Int32) (l5 : Int32), q_mo (r7 l0 l3 l4 l5)) (l0 : Option Nat) (l3 : Int32) (l4 : Int32) (l5 : Int32) : q_mo (F_J1_indexOfChar_4cfef_7B κ r7 l0 l3 l4 l5) := (q_mo_br q_mo_rt (q_mo_rd fun v16 => (q_mo_br (mr7 l0 l3 l4 (l5 + (1 : Int32))) q_mo_rt)))
set_option maxRecDepth 100000 in
set_option maxHeartbeats 4000000 in
theorem S_J1_indexOfChar_4cfef_7B {E : q_Ev} {Γ : q_Gm} {w : (Int32 ⊕ q_Exn) × q_St} (B : q_Bd E Γ cJ1_indexOfChar_4cfef yJ1_indexOfChar_4cfef.cls 6 0 0 (some .int) yJ1_indexOfChar_4cfef.name w) (hT : q_nT Γ) (r7 : Option Nat → Int32 → Int32 → Int32 → q_X Int32) (hr7 : ∀ (l0 : Option Nat) (l3 : Int32) (l4 : Int32) (l5 : Int32) (σ : q_St), r7 l0 l3 l4 l5 σ = some w → q_W E Γ (q_QF E Γ q_oI w) 6 σ 7 [(0, q_R l0), (3, q_I l3), (4, q_I l4), (5, q_I l5)] []) (mr7 : ∀ (l0 : Option Nat) (l3 : Int32) (l4 : Int32) (l5 : Int32), q_mo (r7 l0 l3 l4 l5)) (l0 : Option Nat) (l3 : Int32) (l4 : Int32) (l5 : Int32) (σ : q_St) (h : F_J1_indexOfChar_4cfef_7B (q_kap E) r7 l0 l3 l4 l5 σ = some w) : q_W E Γ (q_QF E Γ q_oI w) 6 σ 7 [(0, q_R l0), (3, q_I l3), (4, q_I l4), (5, q_I l5)] [] := by
  have C := B.1
  unfold F_J1_indexOfChar_4cfef_7B at h
  refine q_iload (pc := 7) C 3 rfl dJ1_indexOfChar_4cfef_7 ?_
  refine q_iload_n (pc := 9) C 1 rfl dJ1_indexOfChar_4cfef_9 rfl ?_
  refine q_icmp_ge (pc := 10) (tgt := 31) C dJ1_indexOfChar_4cfef_10 (by decide) h (fun _ h => ?_) (fun _ h => ?_)
  · refine q_iconst (pc := 31) (v := (-1 : Int32)) C dJ1_indexOfChar_4cfef_31 (by decide) ?_
    exact q_iret C B.2.2.2.2.1 dJ1_indexOfChar_4cfef_32 h
  · refine q_aload_n (pc := 13) C 0 rfl dJ1_indexOfChar_4cfef_13 rfl ?_
    refine q_iload (pc := 14) C 3 rfl dJ1_indexOfChar_4cfef_14 ?_
    refine q_ldS (pc := 16) C dJ1_indexOfChar_4cfef_16 h (fun v16 h => ?_)
    refine q_iload (pc := 17) C 2 rfl dJ1_indexOfChar_4cfef_17 ?_
    refine q_icmp_ne (pc := 19) (tgt := 25) C dJ1_indexOfChar_4cfef_19 (by decide) h (fun _ h => ?_) (fun _ h => ?_)
    · refine q_iinc (pc := 25) (v := (1 : Int32)) (l' := [(5, q_I (l5 + (1 : Int32))), (0, q_R l0), (3, q_I l3), (4, q_I l4)]) C 3 rfl dJ1_indexOfChar_4cfef_25 (by decide) (by decide) rfl ?_
      refine q_goto (pc := 28) (tgt := 7) C dJ1_indexOfChar_4cfef_28 (by decide) ?_
      refine q_W.sub [1, 2, 3, 0] rfl ?_
      exact hr7 l0 l3 l4 (l5 + (1 : Int32)) _ h
    · refine q_iload (pc := 22) C 3 rfl dJ1_indexOfChar_4cfef_22 ?_
      exact q_iret C B.2.2.2.2.1 dJ1_indexOfChar_4cfef_24 h
def F_J1_indexOfChar_4cfef_7 (κ : Nat → Nat) : Nat → Option Nat → Int32 → Int32 → Int32 → q_X Int32
  | 0, _, _, _, _ => q_no
  | n + 1, l0, l3, l4, l5 => F_J1_indexOfChar_4cfef_7B κ (F_J1_indexOfChar_4cfef_7 κ n) l0 l3 l4 l5
theorem M_J1_indexOfChar_4cfef_7 (κ : Nat → Nat) : ∀ (n : Nat) (l0 : Option Nat) (l3 : Int32) (l4 : Int32) (l5 : Int32), q_mo (F_J1_indexOfChar_4cfef_7 κ n l0 l3 l4 l5)
  | 0, _, _, _, _ => q_mo_no
  | n + 1, l0, l3, l4, l5 => M_J1_indexOfChar_4cfef_7B κ (F_J1_indexOfChar_4cfef_7 κ n) (M_J1_indexOfChar_4cfef_7 κ n) l0 l3 l4 l5
theorem S_J1_indexOfChar_4cfef_7 {E : q_Ev} {Γ : q_Gm} {w : (Int32 ⊕ q_Exn) × q_St} (B : q_Bd E Γ cJ1_indexOfChar_4cfef yJ1_indexOfChar_4cfef.cls 6 0 0 (some .int) yJ1_indexOfChar_4cfef.name w) (hT : q_nT Γ) : ∀ (n : Nat) (l0 : Option Nat) (l3 : Int32) (l4 : Int32) (l5 : Int32) (σ : q_St), F_J1_indexOfChar_4cfef_7 (q_kap E) n l0 l3 l4 l5 σ = some w → q_W E Γ (q_QF E Γ q_oI w) 6 σ 7 [(0, q_R l0), (3, q_I l3), (4, q_I l4), (5, q_I l5)] []
  | 0, _, _, _, _, _, h => by cases h
  | n + 1, l0, l3, l4, l5, σ, h => S_J1_indexOfChar_4cfef_7B B hT (F_J1_indexOfChar_4cfef_7 (q_kap E) n) (S_J1_indexOfChar_4cfef_7 B hT n) (M_J1_indexOfChar_4cfef_7 (q_kap E) n) l0 l3 l4 l5 σ h
def F_J1_indexOfChar_4cfef (κ : Nat → Nat) (l0 : Option Nat) (l1 : Int32) (l2 : Int32) (l3 : Int32) : q_X Int32 :=
  F_J1_indexOfChar_4cfef_7 κ q_fu l0 l3 l1.toInt8.toInt32 l2
theorem M_J1_indexOfChar_4cfef (κ : Nat → Nat) (l0 : Option Nat) (l1 : Int32) (l2 : Int32) (l3 : Int32) : q_mo (F_J1_indexOfChar_4cfef κ l0 l1 l2 l3) := (M_J1_indexOfChar_4cfef_7 κ q_fu l0 l3 l1.toInt8.toInt32 l2)
set_option maxRecDepth 100000 in
set_option maxHeartbeats 4000000 in
theorem K_J1_indexOfChar_4cfef {E : q_Ev} (l0 : Option Nat) (l1 : Int32) (l2 : Int32) (l3 : Int32) : q_Ct E yJ1_indexOfChar_4cfef (.code yJ1_indexOfChar_4cfef cJ1_indexOfChar_4cfef 6 (some .int)) 0 0 [q_R l0, q_I l1, q_I l2, q_I l3] q_oI (F_J1_indexOfChar_4cfef (q_kap E) l0 l1 l2 l3) := by
  refine q_enter (by decide) (Nat.le_of_ble_eq_true rfl) (fun Γ σ w h B hT => ?_)
  have C := B.1
  unfold F_J1_indexOfChar_4cfef at h
  refine q_iload_n (pc := 0) C 1 rfl dJ1_indexOfChar_4cfef_0 rfl ?_
  refine q_i2b (pc := 1) C dJ1_indexOfChar_4cfef_1 ?_
  refine q_istore (pc := 2) (l' := [(4, q_I l1.toInt8.toInt32), (0, q_R l0), (1, q_I l1), (2, q_I l2), (3, q_I l3)]) C dJ1_indexOfChar_4cfef_2 (by decide) rfl ?_
  refine q_iload_n (pc := 4) C 3 rfl dJ1_indexOfChar_4cfef_4 rfl ?_
  refine q_istore (pc := 5) (l' := [(5, q_I l2), (4, q_I l1.toInt8.toInt32), (0, q_R l0), (1, q_I l1), (2, q_I l2), (3, q_I l3)]) C dJ1_indexOfChar_4cfef_5 (by decide) rfl ?_
  refine q_W.sub [2, 5, 1, 0] rfl ?_
  exact S_J1_indexOfChar_4cfef_7 B hT q_fu l0 l3 l1.toInt8.toInt32 l2 _ h
def F_J1_indexOf_4cfef (κ : Nat → Nat) (l0 : Option Nat) (l1 : Int32) (l2 : Int32) (l3 : Int32) : q_X Int32 :=
  q_ca (F_J1_canEncode_9a6ad κ l1) fun v1 => q_br (¬ v1 = 0) (q_ca (F_J9_max_7cf53 κ l2 (0 : Int32)) fun v11 => q_rd (q_sp l0 1) fun v17 => q_ca (F_J9_min_7cf53 κ l3 (nI (q_tx.getD v17 []).length)) fun v18 => q_br (v11 < v18) (q_ca (F_J1_indexOfChar_4cfef κ l0 l1 v11 v18) fun v33 => q_rt v33) (q_rt (-1 : Int32))) (q_rt (-1 : Int32))
theorem M_J1_indexOf_4cfef (κ : Nat → Nat) (l0 : Option Nat) (l1 : Int32) (l2 : Int32) (l3 : Int32) : q_mo (F_J1_indexOf_4cfef κ l0 l1 l2 l3) := (q_mo_ca (M_J1_canEncode_9a6ad κ l1) fun v1 => (q_mo_br (q_mo_ca (M_J9_max_7cf53 κ l2 (0 : Int32)) fun v11 => (q_mo_rd fun v17 => (q_mo_ca (M_J9_min_7cf53 κ l3 (nI (q_tx.getD v17 []).length)) fun v18 => (q_mo_br (q_mo_ca (M_J1_indexOfChar_4cfef κ l0 l1 v11 v18) fun v33 => q_mo_rt) q_mo_rt)))) q_mo_rt))
set_option maxRecDepth 100000 in
set_option maxHeartbeats 4000000 in
theorem K_J1_indexOf_4cfef {E : q_Ev} (l0 : Option Nat) (l1 : Int32) (l2 : Int32) (l3 : Int32) : q_Ct E yJ1_indexOf_4cfef (.code yJ1_indexOf_4cfef cJ1_indexOf_4cfef 4 (some .int)) 1 25 [q_R l0, q_I l1, q_I l2, q_I l3] q_oI (F_J1_indexOf_4cfef (q_kap E) l0 l1 l2 l3) := by
  refine q_enter (by decide) (Nat.le_of_ble_eq_true rfl) (fun Γ σ w h B hT => ?_)
  have C := B.1
  unfold F_J1_indexOf_4cfef at h
  refine q_iload_n (pc := 0) C 1 rfl dJ1_indexOf_4cfef_0 rfl ?_
  refine q_callS (pc := 1) (As := [q_I l1]) (st := []) (ps := q_psI) C B.2.1 hT q_hpI qm_J1_88 qs_J1_canEncode_9a6ad dJ1_indexOf_4cfef_1 rfl rfl (Nat.le_of_ble_eq_true rfl) (q_flo B.2.2.1 B.2.2.2.1 (by decide) (by decide)) (K_J1_canEncode_9a6ad l1) (M_J1_canEncode_9a6ad (q_kap E) l1) (by exact fun v1 => (q_mo_br (q_mo_ca (M_J9_max_7cf53 (q_kap E) l2 (0 : Int32)) fun v11 => (q_mo_rd fun v17 => (q_mo_ca (M_J9_min_7cf53 (q_kap E) l3 (nI (q_tx.getD v17 []).length)) fun v18 => (q_mo_br (q_mo_ca (M_J1_indexOfChar_4cfef (q_kap E) l0 l1 v11 v18) fun v33 => q_mo_rt) q_mo_rt)))) q_mo_rt)) h (fun v1 σ h => ?_)
  refine q_W.st (st' := [q_I v1]) rfl ?_
  refine q_if_ne (pc := 4) (tgt := 9) C dJ1_indexOf_4cfef_4 (by decide) h (fun _ h => ?_) (fun _ h => ?_)
  · refine q_iload_n (pc := 9) C 2 rfl dJ1_indexOf_4cfef_9 rfl ?_
    refine q_iconst (pc := 10) (v := (0 : Int32)) C dJ1_indexOf_4cfef_10 (by decide) ?_
    refine q_callS (pc := 11) (As := [q_I l2, q_I (0 : Int32)]) (st := []) (ps := q_psI) C B.2.1 hT q_hpI qm_J1_92 qs_J9_max_7cf53 dJ1_indexOf_4cfef_11 rfl rfl (Nat.le_of_ble_eq_true rfl) (q_flo B.2.2.1 B.2.2.2.1 (by decide) (by decide)) (K_J9_max_7cf53 l2 (0 : Int32)) (M_J9_max_7cf53 (q_kap E) l2 (0 : Int32)) (by exact fun v11 => (q_mo_rd fun v17 => (q_mo_ca (M_J9_min_7cf53 (q_kap E) l3 (nI (q_tx.getD v17 []).length)) fun v18 => (q_mo_br (q_mo_ca (M_J1_indexOfChar_4cfef (q_kap E) l0 l1 v11 v18) fun v33 => q_mo_rt) q_mo_rt)))) h (fun v11 σ h => ?_)
    refine q_W.st (st' := [q_I v11]) rfl ?_
    refine q_istore_n (pc := 14) (l' := [(2, q_I v11), (0, q_R l0), (1, q_I l1), (3, q_I l3)]) C dJ1_indexOf_4cfef_14 rfl (by decide) rfl ?_
    refine q_iload_n (pc := 15) C 3 rfl dJ1_indexOf_4cfef_15 rfl ?_
    refine q_aload_n (pc := 16) C 1 rfl dJ1_indexOf_4cfef_16 rfl ?_
    refine q_lenS (pc := 17) C dJ1_indexOf_4cfef_17 h (fun v17 h => ?_)
    refine q_callS (pc := 18) (As := [q_I l3, q_I (nI (q_tx.getD v17 []).length)]) (st := []) (ps := q_psI) C B.2.1 hT q_hpI qm_J1_38 qs_J9_min_7cf53 dJ1_indexOf_4cfef_18 rfl rfl (Nat.le_of_ble_eq_true rfl) (q_flo B.2.2.1 B.2.2.2.1 (by decide) (by decide)) (K_J9_min_7cf53 l3 (nI (q_tx.getD v17 []).length)) (M_J9_min_7cf53 (q_kap E) l3 (nI (q_tx.getD v17 []).length)) (by exact fun v18 => (q_mo_br (q_mo_ca (M_J1_indexOfChar_4cfef (q_kap E) l0 l1 v11 v18) fun v33 => q_mo_rt) q_mo_rt)) h (fun v18 σ h => ?_)
    refine q_W.st (st' := [q_I v18]) rfl ?_
    refine q_istore_n (pc := 21) (l' := [(3, q_I v18), (2, q_I v11), (0, q_R l0), (1, q_I l1)]) C dJ1_indexOf_4cfef_21 rfl (by decide) rfl ?_
    refine q_iload_n (pc := 22) C 1 rfl dJ1_indexOf_4cfef_22 rfl ?_
    refine q_iload_n (pc := 23) C 0 rfl dJ1_indexOf_4cfef_23 rfl ?_
    refine q_icmp_lt (pc := 24) (tgt := 29) C dJ1_indexOf_4cfef_24 (by decide) h (fun _ h => ?_) (fun _ h => ?_)
    · refine q_aload_n (pc := 29) C 2 rfl dJ1_indexOf_4cfef_29 rfl ?_
      refine q_iload_n (pc := 30) C 3 rfl dJ1_indexOf_4cfef_30 rfl ?_
      refine q_iload_n (pc := 31) C 1 rfl dJ1_indexOf_4cfef_31 rfl ?_
      refine q_iload_n (pc := 32) C 0 rfl dJ1_indexOf_4cfef_32 rfl ?_
      refine q_callS (pc := 33) (As := [q_R l0, q_I l1, q_I v11, q_I v18]) (st := []) (ps := q_psI) C B.2.1 hT q_hpI qm_J1_95 qs_J1_indexOfChar_4cfef dJ1_indexOf_4cfef_33 rfl rfl (Nat.le_of_ble_eq_true rfl) (q_flo B.2.2.1 B.2.2.2.1 (by decide) (by decide)) (K_J1_indexOfChar_4cfef l0 l1 v11 v18) (M_J1_indexOfChar_4cfef (q_kap E) l0 l1 v11 v18) (by exact fun v33 => q_mo_rt) h (fun v33 σ h => ?_)
      refine q_W.st (st' := [q_I v33]) rfl ?_
      exact q_iret C B.2.2.2.2.1 dJ1_indexOf_4cfef_36 h
    · refine q_iconst (pc := 27) (v := (-1 : Int32)) C dJ1_indexOf_4cfef_27 (by decide) ?_
      exact q_iret C B.2.2.2.2.1 dJ1_indexOf_4cfef_28 h
  · refine q_iconst (pc := 7) (v := (-1 : Int32)) C dJ1_indexOf_4cfef_7 (by decide) ?_
    exact q_iret C B.2.2.2.2.1 dJ1_indexOf_4cfef_8 h
def F_J0_indexOf_7cf53_36 (κ : Nat → Nat) (s0 : Int32) : q_X Int32 :=
  q_rt s0
theorem M_J0_indexOf_7cf53_36 (κ : Nat → Nat) (s0 : Int32) : q_mo (F_J0_indexOf_7cf53_36 κ s0) := q_mo_rt
theorem N_J0_indexOf_7cf53_36 (κ : Nat → Nat) (s0 : Int32) : q_ni (F_J0_indexOf_7cf53_36 κ s0) := q_ni_rt
set_option maxRecDepth 100000 in
set_option maxHeartbeats 4000000 in
theorem S_J0_indexOf_7cf53_36 {E : q_Ev} {Γ : q_Gm} {w : (Int32 ⊕ q_Exn) × q_St} (B : q_Bd E Γ cJ0_indexOf_7cf53 yJ0_indexOf_7cf53.cls 3 2 48 (some .int) yJ0_indexOf_7cf53.name w) (hT : q_nT Γ) (s0 : Int32) (σ : q_St) (h : F_J0_indexOf_7cf53_36 (q_kap E) s0 σ = some w) : q_W E Γ (q_QF E Γ q_oI w) 3 σ 36 [] [q_I s0] := by
  have C := B.1
  unfold F_J0_indexOf_7cf53_36 at h
  exact q_iret C B.2.2.2.2.1 dJ0_indexOf_7cf53_36 h
def F_J0_indexOf_7cf53 (κ : Nat → Nat) (l0 : Option Nat) (l1 : Int32) (l2 : Int32) : q_X Int32 :=
  q_rd (q_sp l0 0) fun _ => q_ca (F_J0_isLatin1_aae02 κ l0) fun v1 => q_br (v1 = 0) (q_rd (q_sp l0 0) fun v24 => q_rd (q_sp l0 0) fun _ => q_ca (F_J0_length_8abf5 κ l0) fun v30 => q_no) (q_rd (q_sp l0 0) fun v8 => q_rd (q_sp l0 0) fun _ => q_ca (F_J0_length_8abf5 κ l0) fun v14 => q_ca (F_J1_indexOf_4cfef κ (some (κ (200 + v8))) l1 l2 v14) fun v17 => F_J0_indexOf_7cf53_36 κ v17)
theorem M_J0_indexOf_7cf53 (κ : Nat → Nat) (l0 : Option Nat) (l1 : Int32) (l2 : Int32) : q_mo (F_J0_indexOf_7cf53 κ l0 l1 l2) := (q_mo_rd fun _ => q_mo_ca (M_J0_isLatin1_aae02 κ l0) fun v1 => (q_mo_br (q_mo_rd fun v24 => (q_mo_rd fun _ => q_mo_ca (M_J0_length_8abf5 κ l0) fun v30 => q_mo_no)) (q_mo_rd fun v8 => (q_mo_rd fun _ => q_mo_ca (M_J0_length_8abf5 κ l0) fun v14 => (q_mo_ca (M_J1_indexOf_4cfef κ (some (κ (200 + v8))) l1 l2 v14) fun v17 => (M_J0_indexOf_7cf53_36 κ v17))))))
set_option maxRecDepth 100000 in
set_option maxHeartbeats 4000000 in
theorem K_J0_indexOf_7cf53 {E : q_Ev} (l0 : Option Nat) (l1 : Int32) (l2 : Int32) : q_Ct E yJ0_indexOf_7cf53 (.code yJ0_indexOf_7cf53 cJ0_indexOf_7cf53 3 (some .int)) 2 48 [q_R l0, q_I l1, q_I l2] q_oI (F_J0_indexOf_7cf53 (q_kap E) l0 l1 l2) := by
  refine q_enter (by decide) (Nat.le_of_ble_eq_true rfl) (fun Γ σ w h B hT => ?_)
  have C := B.1
  unfold F_J0_indexOf_7cf53 at h
  refine q_aload_n (pc := 0) C 0 rfl dJ0_indexOf_7cf53_0 rfl ?_
  refine q_callVS (pc := 1) (As := []) (st := []) (ps := q_psI) C B.2.1 hT q_hpI qm_J0_492 qv_J0_isLatin1_aae02 dJ0_indexOf_7cf53_1 rfl rfl (Nat.le_of_ble_eq_true rfl) (q_flo B.2.2.1 B.2.2.2.1 (by decide) (by decide)) (K_J0_isLatin1_aae02 l0) (M_J0_isLatin1_aae02 (q_kap E) l0) (by exact fun v1 => (q_mo_br (q_mo_rd fun v24 => (q_mo_rd fun _ => q_mo_ca (M_J0_length_8abf5 (q_kap E) l0) fun v30 => q_mo_no)) (q_mo_rd fun v8 => (q_mo_rd fun _ => q_mo_ca (M_J0_length_8abf5 (q_kap E) l0) fun v14 => (q_mo_ca (M_J1_indexOf_4cfef (q_kap E) (some ((q_kap E) (200 + v8))) l1 l2 v14) fun v17 => (M_J0_indexOf_7cf53_36 (q_kap E) v17)))))) h (fun v1 σ h => ?_)
  refine q_W.st (st' := [q_I v1]) rfl ?_
  refine q_if_eq (pc := 4) (tgt := 23) C dJ0_indexOf_7cf53_4 (by decide) h (fun _ h => ?_) (fun _ h => ?_)
  · refine q_aload_n (pc := 23) C 0 rfl dJ0_indexOf_7cf53_23 rfl ?_
    refine q_getSv (pc := 24) C dJ0_indexOf_7cf53_24 qz_J0_9 h (fun v24 h => ?_)
    refine q_iload_n (pc := 27) C 1 rfl dJ0_indexOf_7cf53_27 rfl ?_
    refine q_iload_n (pc := 28) C 2 rfl dJ0_indexOf_7cf53_28 rfl ?_
    refine q_aload_n (pc := 29) C 0 rfl dJ0_indexOf_7cf53_29 rfl ?_
    refine q_callVS (pc := 30) (As := []) (st := [q_I l2, q_I l1, q_R (some ((q_kap E) (200 + v24)))]) (ps := q_psI) C B.2.1 hT q_hpI qm_J0_505 qv_J0_length_8abf5 dJ0_indexOf_7cf53_30 rfl rfl (Nat.le_of_ble_eq_true rfl) (q_flo B.2.2.1 B.2.2.2.1 (by decide) (by decide)) (K_J0_length_8abf5 l0) (M_J0_length_8abf5 (q_kap E) l0) (by exact fun v30 => q_mo_no) h (fun v30 σ h => ?_)
    refine q_W.st (st' := [q_I v30, q_I l2, q_I l1, q_R (some ((q_kap E) (200 + v24)))]) rfl ?_
    cases h
  · refine q_aload_n (pc := 7) C 0 rfl dJ0_indexOf_7cf53_7 rfl ?_
    refine q_getSv (pc := 8) C dJ0_indexOf_7cf53_8 qz_J0_9 h (fun v8 h => ?_)
    refine q_iload_n (pc := 11) C 1 rfl dJ0_indexOf_7cf53_11 rfl ?_
    refine q_iload_n (pc := 12) C 2 rfl dJ0_indexOf_7cf53_12 rfl ?_
    refine q_aload_n (pc := 13) C 0 rfl dJ0_indexOf_7cf53_13 rfl ?_
    refine q_callVS (pc := 14) (As := []) (st := [q_I l2, q_I l1, q_R (some ((q_kap E) (200 + v8)))]) (ps := q_psI) C B.2.1 hT q_hpI qm_J0_505 qv_J0_length_8abf5 dJ0_indexOf_7cf53_14 rfl rfl (Nat.le_of_ble_eq_true rfl) (q_flo B.2.2.1 B.2.2.2.1 (by decide) (by decide)) (K_J0_length_8abf5 l0) (M_J0_length_8abf5 (q_kap E) l0) (by exact fun v14 => (q_mo_ca (M_J1_indexOf_4cfef (q_kap E) (some ((q_kap E) (200 + v8))) l1 l2 v14) fun v17 => (M_J0_indexOf_7cf53_36 (q_kap E) v17))) h (fun v14 σ h => ?_)
    refine q_W.st (st' := [q_I v14, q_I l2, q_I l1, q_R (some ((q_kap E) (200 + v8)))]) rfl ?_
    refine q_callS (pc := 17) (As := [q_R (some ((q_kap E) (200 + v8))), q_I l1, q_I l2, q_I v14]) (st := []) (ps := q_psI) C B.2.1 hT q_hpI qm_J0_637 qs_J1_indexOf_4cfef dJ0_indexOf_7cf53_17 rfl rfl (Nat.le_of_ble_eq_true rfl) (q_flo B.2.2.1 B.2.2.2.1 (by decide) (by decide)) (K_J1_indexOf_4cfef (some ((q_kap E) (200 + v8))) l1 l2 v14) (M_J1_indexOf_4cfef (q_kap E) (some ((q_kap E) (200 + v8))) l1 l2 v14) (by exact fun v17 => (M_J0_indexOf_7cf53_36 (q_kap E) v17)) h (fun v17 σ h => ?_)
    refine q_W.st (st' := [q_I v17]) rfl ?_
    refine q_goto (pc := 20) (tgt := 36) C dJ0_indexOf_7cf53_20 (by decide) ?_
    refine q_W.sub [] rfl ?_
    exact S_J0_indexOf_7cf53_36 B hT v17 _ h
def F_J0_indexOf_0f7a4 (κ : Nat → Nat) (l0 : Option Nat) (l1 : Int32) : q_X Int32 :=
  q_rd (q_sp l0 0) fun _ => q_ca (F_J0_indexOf_7cf53 κ l0 l1 (0 : Int32)) fun v3 => q_rt v3
theorem M_J0_indexOf_0f7a4 (κ : Nat → Nat) (l0 : Option Nat) (l1 : Int32) : q_mo (F_J0_indexOf_0f7a4 κ l0 l1) := (q_mo_rd fun _ => q_mo_ca (M_J0_indexOf_7cf53 κ l0 l1 (0 : Int32)) fun v3 => q_mo_rt)
set_option maxRecDepth 100000 in
set_option maxHeartbeats 4000000 in
theorem K_J0_indexOf_0f7a4 {E : q_Ev} (l0 : Option Nat) (l1 : Int32) : q_Ct E yJ0_indexOf_0f7a4 (.code yJ0_indexOf_0f7a4 cJ0_indexOf_0f7a4 2 (some .int)) 3 70 [q_R l0, q_I l1] q_oI (F_J0_indexOf_0f7a4 (q_kap E) l0 l1) := by
  refine q_enter (by decide) (Nat.le_of_ble_eq_true rfl) (fun Γ σ w h B hT => ?_)
  have C := B.1
  unfold F_J0_indexOf_0f7a4 at h
  refine q_aload_n (pc := 0) C 0 rfl dJ0_indexOf_0f7a4_0 rfl ?_
  refine q_iload_n (pc := 1) C 1 rfl dJ0_indexOf_0f7a4_1 rfl ?_
  refine q_iconst (pc := 2) (v := (0 : Int32)) C dJ0_indexOf_0f7a4_2 (by decide) ?_
  refine q_callVS (pc := 3) (As := [q_I l1, q_I (0 : Int32)]) (st := []) (ps := q_psI) C B.2.1 hT q_hpI qm_J0_633 qv_J0_indexOf_7cf53 dJ0_indexOf_0f7a4_3 rfl rfl (Nat.le_of_ble_eq_true rfl) (q_flo B.2.2.1 B.2.2.2.1 (by decide) (by decide)) (K_J0_indexOf_7cf53 l0 l1 (0 : Int32)) (M_J0_indexOf_7cf53 (q_kap E) l0 l1 (0 : Int32)) (by exact fun v3 => q_mo_rt) h (fun v3 σ h => ?_)
  refine q_W.st (st' := [q_I v3]) rfl ?_
  exact q_iret C B.2.2.2.2.1 dJ0_indexOf_0f7a4_6 h
def F_X0_isPartSign_41 (κ : Nat → Nat) (s0 : Int32) : q_X Int32 :=
  q_rz s0
theorem M_X0_isPartSign_41 (κ : Nat → Nat) (s0 : Int32) : q_mo (F_X0_isPartSign_41 κ s0) := q_mo_rz
set_option maxRecDepth 100000 in
set_option maxHeartbeats 4000000 in
theorem S_X0_isPartSign_41 {E : q_Ev} {Γ : q_Gm} {w : (Int32 ⊕ q_Exn) × q_St} (B : q_Bd E Γ cX0_isPartSign yX0_isPartSign.cls 2 4 91 (some .boolean) yX0_isPartSign.name w) (hT : q_nT Γ) (s0 : Int32) (σ : q_St) (h : F_X0_isPartSign_41 (q_kap E) s0 σ = some w) : q_W E Γ (q_QF E Γ q_oI w) 2 σ 41 [] [q_I s0] := by
  have C := B.1
  unfold F_X0_isPartSign_41 at h
  exact q_zret C B.2.2.2.2.1 dX0_isPartSign_41 h
def F_X0_isPartSign_40 (κ : Nat → Nat) : q_X Int32 :=
  F_X0_isPartSign_41 κ (0 : Int32)
theorem M_X0_isPartSign_40 (κ : Nat → Nat) : q_mo (F_X0_isPartSign_40 κ) := (M_X0_isPartSign_41 κ (0 : Int32))
set_option maxRecDepth 100000 in
set_option maxHeartbeats 4000000 in
theorem S_X0_isPartSign_40 {E : q_Ev} {Γ : q_Gm} {w : (Int32 ⊕ q_Exn) × q_St} (B : q_Bd E Γ cX0_isPartSign yX0_isPartSign.cls 2 4 91 (some .boolean) yX0_isPartSign.name w) (hT : q_nT Γ) (σ : q_St) (h : F_X0_isPartSign_40 (q_kap E) σ = some w) : q_W E Γ (q_QF E Γ q_oI w) 2 σ 40 [] [] := by
  have C := B.1
  unfold F_X0_isPartSign_40 at h
  refine q_iconst (pc := 40) (v := (0 : Int32)) C dX0_isPartSign_40 (by decide) ?_
  exact S_X0_isPartSign_41 B hT (0 : Int32) _ h
def F_X0_isPartSign (κ : Nat → Nat) (l0 : Option Nat) (l1 : Int32) : q_X Int32 :=
  q_rd (q_gA l0 3 1) fun v1 => q_rd (q_gA v1 13 1) fun v4 => q_rd (q_lI 0 v4 l1) fun v8 => q_br (¬ v8 = (3 : Int32)) (F_X0_isPartSign_40 κ) (q_rd (q_gA l0 3 1) fun v16 => q_rd (q_gA v16 13 4) fun v19 => q_rd (q_lL v19 l1) fun v23 => q_rd (q_sp (some (κ 10)) 0) fun _ => q_ca (F_J0_indexOf_0f7a4 κ (some (κ 10)) ((((v23 &&& (255 : Int64)).toInt32).toUInt32 % 65536).toInt32)) fun v30 => q_br (v30 < 0) (F_X0_isPartSign_40 κ) (F_X0_isPartSign_41 κ (1 : Int32)))
theorem M_X0_isPartSign (κ : Nat → Nat) (l0 : Option Nat) (l1 : Int32) : q_mo (F_X0_isPartSign κ l0 l1) := (q_mo_rd fun v1 => (q_mo_rd fun v4 => (q_mo_rd fun v8 => (q_mo_br (M_X0_isPartSign_40 κ) (q_mo_rd fun v16 => (q_mo_rd fun v19 => (q_mo_rd fun v23 => (q_mo_rd fun _ => q_mo_ca (M_J0_indexOf_0f7a4 κ (some (κ 10)) ((((v23 &&& (255 : Int64)).toInt32).toUInt32 % 65536).toInt32)) fun v30 => (q_mo_br (M_X0_isPartSign_40 κ) (M_X0_isPartSign_41 κ (1 : Int32)))))))))))
set_option maxRecDepth 100000 in
set_option maxHeartbeats 4000000 in
theorem K_X0_isPartSign {E : q_Ev} (l0 : Option Nat) (l1 : Int32) : q_Ct E yX0_isPartSign (.code yX0_isPartSign cX0_isPartSign 2 (some .boolean)) 4 91 [q_R l0, q_I l1] q_oI (F_X0_isPartSign (q_kap E) l0 l1) := by
  refine q_enter (by decide) (Nat.le_of_ble_eq_true rfl) (fun Γ σ w h B hT => ?_)
  have C := B.1
  unfold F_X0_isPartSign at h
  refine q_aload_n (pc := 0) C 0 rfl dX0_isPartSign_0 rfl ?_
  refine q_getA (pc := 1) C dX0_isPartSign_1 ql_X0_25 h (fun v1 h => ?_)
  refine q_getA (pc := 4) C dX0_isPartSign_4 ql_X0_224 h (fun v4 h => ?_)
  refine q_iload_n (pc := 7) C 1 rfl dX0_isPartSign_7 rfl ?_
  refine q_ldI (pc := 8) C dX0_isPartSign_8 (Or.inl ⟨rfl, rfl⟩) h (fun v8 h => ?_)
  refine q_iconst (pc := 9) (v := (3 : Int32)) C dX0_isPartSign_9 (by decide) ?_
  refine q_icmp_ne (pc := 10) (tgt := 40) C dX0_isPartSign_10 (by decide) h (fun _ h => ?_) (fun _ h => ?_)
  · refine q_W.sub [] rfl ?_
    exact S_X0_isPartSign_40 B hT _ h
  · refine q_ldcT (pc := 13) (k := 10) (tx := ",()[]+-@") C dX0_isPartSign_13 (by decide +kernel) (by decide) ?_
    refine q_aload_n (pc := 15) C 0 rfl dX0_isPartSign_15 rfl ?_
    refine q_getA (pc := 16) C dX0_isPartSign_16 ql_X0_25 h (fun v16 h => ?_)
    refine q_getA (pc := 19) C dX0_isPartSign_19 ql_X0_218 h (fun v19 h => ?_)
    refine q_iload_n (pc := 22) C 1 rfl dX0_isPartSign_22 rfl ?_
    refine q_ldL (pc := 23) C dX0_isPartSign_23 h (fun v23 h => ?_)
    refine q_ldc2 (pc := 24) (v := (255 : Int64)) C dX0_isPartSign_24 qc_X0_230 ?_
    refine q_land (pc := 27) C dX0_isPartSign_27 ?_
    refine q_l2i (pc := 28) C dX0_isPartSign_28 ?_
    refine q_i2c (pc := 29) C dX0_isPartSign_29 ?_
    refine q_callVS (pc := 30) (As := [q_I ((((v23 &&& (255 : Int64)).toInt32).toUInt32 % 65536).toInt32)]) (st := []) (ps := q_psI) C B.2.1 hT q_hpI qm_X0_232 qv_J0_indexOf_0f7a4 dX0_isPartSign_30 rfl rfl (Nat.le_of_ble_eq_true rfl) (q_flo B.2.2.1 B.2.2.2.1 (by decide) (by decide)) (K_J0_indexOf_0f7a4 (some ((q_kap E) 10)) ((((v23 &&& (255 : Int64)).toInt32).toUInt32 % 65536).toInt32)) (M_J0_indexOf_0f7a4 (q_kap E) (some ((q_kap E) 10)) ((((v23 &&& (255 : Int64)).toInt32).toUInt32 % 65536).toInt32)) (by exact fun v30 => (q_mo_br (M_X0_isPartSign_40 (q_kap E)) (M_X0_isPartSign_41 (q_kap E) (1 : Int32)))) h (fun v30 σ h => ?_)
    refine q_W.st (st' := [q_I v30]) rfl ?_
    refine q_if_lt (pc := 33) (tgt := 40) C dX0_isPartSign_33 (by decide) h (fun _ h => ?_) (fun _ h => ?_)
    · refine q_W.sub [] rfl ?_
      exact S_X0_isPartSign_40 B hT _ h
    · refine q_iconst (pc := 36) (v := (1 : Int32)) C dX0_isPartSign_36 (by decide) ?_
      refine q_goto (pc := 37) (tgt := 41) C dX0_isPartSign_37 (by decide) ?_
      refine q_W.sub [] rfl ?_
      exact S_X0_isPartSign_41 B hT (1 : Int32) _ h
def F_X1_addPart (κ : Nat → Nat) (l0 : Option Nat) (l1 : Int32) : q_X Unit :=
  q_rd (q_gA l0 4 1) fun v1 => q_rd (q_gI l0 4 7) fun v5 => q_wr (q_sI 1 v1 v5 l1) (q_rd (q_gI l0 4 7) fun v12 => q_wr (q_pF l0 4 7 (.int (v12 + (1 : Int32)))) (q_rt ()))
theorem M_X1_addPart (κ : Nat → Nat) (l0 : Option Nat) (l1 : Int32) : q_mo (F_X1_addPart κ l0 l1) := (q_mo_rd fun v1 => (q_mo_rd fun v5 => (q_mo_wr (q_mo_rd fun v12 => (q_mo_wr q_mo_rt)))))
theorem N_X1_addPart (κ : Nat → Nat) (l0 : Option Nat) (l1 : Int32) : q_ni (F_X1_addPart κ l0 l1) := (q_ni_rd fun v1 => (q_ni_rd fun v5 => (q_ni_wr (q_ni_rd fun v12 => (q_ni_wr q_ni_rt)))))
set_option maxRecDepth 100000 in
set_option maxHeartbeats 4000000 in
theorem K_X1_addPart {E : q_Ev} (l0 : Option Nat) (l1 : Int32) : q_Ct E yX1_addPart (.code yX1_addPart cX1_addPart 2 (none)) 0 0 [q_R l0, q_I l1] q_oV (F_X1_addPart (q_kap E) l0 l1) := by
  refine q_enter (by decide) (Nat.le_of_ble_eq_true rfl) (fun Γ σ w h B hT => ?_)
  have C := B.1
  unfold F_X1_addPart at h
  refine q_aload_n (pc := 0) C 0 rfl dX1_addPart_0 rfl ?_
  refine q_getA (pc := 1) C dX1_addPart_1 ql_X1_9 h (fun v1 h => ?_)
  refine q_aload_n (pc := 4) C 0 rfl dX1_addPart_4 rfl ?_
  refine q_getI (pc := 5) C dX1_addPart_5 ql_X1_41 h (fun v5 h => ?_)
  refine q_iload_n (pc := 8) C 1 rfl dX1_addPart_8 rfl ?_
  refine q_stI (pc := 9) C dX1_addPart_9 h (fun M9 h => ?_)
  refine q_aload_n (pc := 10) C 0 rfl dX1_addPart_10 rfl ?_
  refine q_dup (pc := 11) C dX1_addPart_11 rfl ?_
  refine q_getI (pc := 12) C dX1_addPart_12 ql_X1_41 h (fun v12 h => ?_)
  refine q_iconst (pc := 15) (v := (1 : Int32)) C dX1_addPart_15 (by decide) ?_
  refine q_iadd (pc := 16) C dX1_addPart_16 ?_
  refine q_putV (pc := 17) (v := q_I (v12 + (1 : Int32))) C dX1_addPart_17 ql_X1_41 (Or.inl rfl) rfl rfl h (fun M17 h => ?_)
  exact q_vret C B.2.2.2.2.1 dX1_addPart_20 h
def F_X1_addOperand (κ : Nat → Nat) (l0 : Option Nat) (l1 : Option Nat) (l2 : Option Nat) : q_X Unit :=
  q_rd (q_gA l0 4 2) fun v1 => q_rd (q_gI l0 4 8) fun v5 => q_wr (q_sT 6 10 v1 v5 l1) (q_rd (q_gA l0 4 3) fun v11 => q_rd (q_gI l0 4 8) fun v15 => q_wr (q_sT 5 5 v11 v15 l2) (q_rd (q_gI l0 4 8) fun v23 => q_rd (q_is l0 4) fun _ => q_ca (F_X1_addPart κ l0 ((-1 : Int32) - v23)) fun _v27 => q_rd (q_gI l0 4 8) fun v32 => q_wr (q_pF l0 4 8 (.int (v32 + (1 : Int32)))) (q_rt ())))
theorem M_X1_addOperand (κ : Nat → Nat) (l0 : Option Nat) (l1 : Option Nat) (l2 : Option Nat) : q_mo (F_X1_addOperand κ l0 l1 l2) := (q_mo_rd fun v1 => (q_mo_rd fun v5 => (q_mo_wr (q_mo_rd fun v11 => (q_mo_rd fun v15 => (q_mo_wr (q_mo_rd fun v23 => (q_mo_rd fun _ => q_mo_ca (M_X1_addPart κ l0 ((-1 : Int32) - v23)) fun _v27 => (q_mo_rd fun v32 => (q_mo_wr q_mo_rt))))))))))
theorem N_X1_addOperand (κ : Nat → Nat) (l0 : Option Nat) (l1 : Option Nat) (l2 : Option Nat) : q_ni (F_X1_addOperand κ l0 l1 l2) := (q_ni_rd fun v1 => (q_ni_rd fun v5 => (q_ni_wr (q_ni_rd fun v11 => (q_ni_rd fun v15 => (q_ni_wr (q_ni_rd fun v23 => (q_ni_rd fun _ => q_ni_ca (N_X1_addPart κ l0 ((-1 : Int32) - v23)) fun _v27 => (q_ni_rd fun v32 => (q_ni_wr q_ni_rt))))))))))
set_option maxRecDepth 100000 in
set_option maxHeartbeats 4000000 in
theorem K_X1_addOperand {E : q_Ev} (l0 : Option Nat) (l1 : Option Nat) (l2 : Option Nat) : q_Ct E yX1_addOperand (.code yX1_addOperand cX1_addOperand 3 (none)) 1 21 [q_R l0, q_R l1, q_R l2] q_oV (F_X1_addOperand (q_kap E) l0 l1 l2) := by
  refine q_enter (by decide) (Nat.le_of_ble_eq_true rfl) (fun Γ σ w h B hT => ?_)
  have C := B.1
  unfold F_X1_addOperand at h
  refine q_aload_n (pc := 0) C 0 rfl dX1_addOperand_0 rfl ?_
  refine q_getA (pc := 1) C dX1_addOperand_1 ql_X1_17 h (fun v1 h => ?_)
  refine q_aload_n (pc := 4) C 0 rfl dX1_addOperand_4 rfl ?_
  refine q_getI (pc := 5) C dX1_addOperand_5 ql_X1_45 h (fun v5 h => ?_)
  refine q_aload_n (pc := 8) C 1 rfl dX1_addOperand_8 rfl ?_
  refine q_stA (pc := 9) (t := 6) (ci := 10) C dX1_addOperand_9 rfl rfl (Or.inl rfl) h (fun M9 h => ?_)
  refine q_aload_n (pc := 10) C 0 rfl dX1_addOperand_10 rfl ?_
  refine q_getA (pc := 11) C dX1_addOperand_11 ql_X1_23 h (fun v11 h => ?_)
  refine q_aload_n (pc := 14) C 0 rfl dX1_addOperand_14 rfl ?_
  refine q_getI (pc := 15) C dX1_addOperand_15 ql_X1_45 h (fun v15 h => ?_)
  refine q_aload_n (pc := 18) C 2 rfl dX1_addOperand_18 rfl ?_
  refine q_stA (pc := 19) (t := 5) (ci := 5) C dX1_addOperand_19 rfl rfl (Or.inl rfl) h (fun M19 h => ?_)
  refine q_aload_n (pc := 20) C 0 rfl dX1_addOperand_20 rfl ?_
  refine q_iconst (pc := 21) (v := (-1 : Int32)) C dX1_addOperand_21 (by decide) ?_
  refine q_aload_n (pc := 22) C 0 rfl dX1_addOperand_22 rfl ?_
  refine q_getI (pc := 23) C dX1_addOperand_23 ql_X1_45 h (fun v23 h => ?_)
  refine q_isub (pc := 26) C dX1_addOperand_26 ?_
  refine q_callV (pc := 27) (As := [q_I ((-1 : Int32) - v23)]) (st := []) (ps := q_psV) C B.2.1 hT q_hpV qm_X1_48 qv_X1_addPart dX1_addOperand_27 rfl rfl (Nat.le_of_ble_eq_true rfl) (q_flo B.2.2.1 B.2.2.2.1 (by decide) (by decide)) (K_X1_addPart l0 ((-1 : Int32) - v23)) (M_X1_addPart (q_kap E) l0 ((-1 : Int32) - v23)) (by exact fun _v27 => (q_mo_rd fun v32 => (q_mo_wr q_mo_rt))) h (fun _v27 σ h => ?_)
  refine q_W.st (st' := []) rfl ?_
  refine q_aload_n (pc := 30) C 0 rfl dX1_addOperand_30 rfl ?_
  refine q_dup (pc := 31) C dX1_addOperand_31 rfl ?_
  refine q_getI (pc := 32) C dX1_addOperand_32 ql_X1_45 h (fun v32 h => ?_)
  refine q_iconst (pc := 35) (v := (1 : Int32)) C dX1_addOperand_35 (by decide) ?_
  refine q_iadd (pc := 36) C dX1_addOperand_36 ?_
  refine q_putV (pc := 37) (v := q_I (v32 + (1 : Int32))) C dX1_addOperand_37 ql_X1_45 (Or.inl rfl) rfl rfl h (fun M37 h => ?_)
  exact q_vret C B.2.2.2.2.1 dX1_addOperand_40 h
def F_X0_readOperand (κ : Nat → Nat) (l0 : Option Nat) : q_X Unit :=
  q_rd (q_gA l0 3 0) fun v1 => q_rd (q_gI v1 12 1) fun v4 => q_rd (q_gA l0 3 0) fun v9 => q_rd (q_gI v9 12 1) fun v13 => q_wr (q_pF v9 12 1 (.int (v13 + (1 : Int32)))) (q_rd (q_gA l0 3 0) fun v22 => q_rd (q_is v22 12) fun _ => q_ca (F_X9_take κ v22 (58 : Int32)) fun v27 => q_br (¬ v27 = 0) (q_rd (q_gA l0 3 0) fun v35 => q_rd (q_is v35 12) fun _ => q_ca (F_X9_isAtName κ v35) fun v38 => q_br (¬ v38 = 0) (q_rd (q_gA l0 3 2) fun v55 => q_rd (q_gA l0 3 1) fun v59 => q_rd (q_gA l0 3 0) fun v63 => q_rd (q_gI v63 12 1) fun v66 => q_rd (q_is v55 8) fun _ => q_ca (F_X5_kindNamed κ v55 v59 v66) fun v69 => q_br (¬ v69 = none) (q_rd (q_gA l0 3 3) fun v88 => q_mk (.inr (.inl (10, [.null]))) 1 fun a91 => q_rd (q_gA l0 3 1) fun v96 => q_gd (¬ (some a91) = none) (q_ca (F_X7_init κ (some a91) v96 v4) fun _v100 => q_rd (q_is v88 4) fun _ => q_ca (F_X1_addOperand κ v88 (some a91) v69) fun _v104 => q_rd (q_gA l0 3 0) fun v108 => q_rd (q_gI v108 12 1) fun v112 => q_wr (q_pF v108 12 1 (.int (v112 + (1 : Int32)))) (q_rt ()))) (q_rd (q_gA l0 3 0) fun v78 => q_rd (q_is v78 12) fun _ => q_ca (F_X9_fail κ v78 (2 : Int32)) fun v82 => q_rt ())) (q_rd (q_gA l0 3 0) fun v45 => q_rd (q_is v45 12) fun _ => q_ca (F_X9_fail κ v45 (1 : Int32)) fun v49 => q_rt ())) (q_rt ()))
theorem M_X0_readOperand (κ : Nat → Nat) (l0 : Option Nat) : q_mo (F_X0_readOperand κ l0) := (q_mo_rd fun v1 => (q_mo_rd fun v4 => (q_mo_rd fun v9 => (q_mo_rd fun v13 => (q_mo_wr (q_mo_rd fun v22 => (q_mo_rd fun _ => q_mo_ca (M_X9_take κ v22 (58 : Int32)) fun v27 => (q_mo_br (q_mo_rd fun v35 => (q_mo_rd fun _ => q_mo_ca (M_X9_isAtName κ v35) fun v38 => (q_mo_br (q_mo_rd fun v55 => (q_mo_rd fun v59 => (q_mo_rd fun v63 => (q_mo_rd fun v66 => (q_mo_rd fun _ => q_mo_ca (M_X5_kindNamed κ v55 v59 v66) fun v69 => (q_mo_br (q_mo_rd fun v88 => (q_mo_mk fun a91 => (q_mo_rd fun v96 => (q_mo_gd (q_mo_ca (M_X7_init κ (some a91) v96 v4) fun _v100 => (q_mo_rd fun _ => q_mo_ca (M_X1_addOperand κ v88 (some a91) v69) fun _v104 => (q_mo_rd fun v108 => (q_mo_rd fun v112 => (q_mo_wr q_mo_rt))))))))) (q_mo_rd fun v78 => (q_mo_rd fun _ => q_mo_ca (M_X9_fail κ v78 (2 : Int32)) fun v82 => q_mo_rt)))))))) (q_mo_rd fun v45 => (q_mo_rd fun _ => q_mo_ca (M_X9_fail κ v45 (1 : Int32)) fun v49 => q_mo_rt))))) q_mo_rt))))))))
set_option maxRecDepth 100000 in
set_option maxHeartbeats 4000000 in
theorem K_X0_readOperand {E : q_Ev} (l0 : Option Nat) : q_Ct E yX0_readOperand (.code yX0_readOperand cX0_readOperand 3 (none)) 4 108 [q_R l0] q_oV (F_X0_readOperand (q_kap E) l0) := by
  refine q_enter (by decide) (Nat.le_of_ble_eq_true rfl) (fun Γ σ w h B hT => ?_)
  have C := B.1
  unfold F_X0_readOperand at h
  refine q_aload_n (pc := 0) C 0 rfl dX0_readOperand_0 rfl ?_
  refine q_getA (pc := 1) C dX0_readOperand_1 ql_X0_15 h (fun v1 h => ?_)
  refine q_getI (pc := 4) C dX0_readOperand_4 ql_X0_58 h (fun v4 h => ?_)
  refine q_istore_n (pc := 7) (l' := [(1, q_I v4), (0, q_R l0)]) C dX0_readOperand_7 rfl (by decide) rfl ?_
  refine q_aload_n (pc := 8) C 1 rfl dX0_readOperand_8 rfl ?_
  refine q_getA (pc := 9) C dX0_readOperand_9 ql_X0_15 h (fun v9 h => ?_)
  refine q_dup (pc := 12) C dX0_readOperand_12 rfl ?_
  refine q_getI (pc := 13) C dX0_readOperand_13 ql_X0_58 h (fun v13 h => ?_)
  refine q_iconst (pc := 16) (v := (1 : Int32)) C dX0_readOperand_16 (by decide) ?_
  refine q_iadd (pc := 17) C dX0_readOperand_17 ?_
  refine q_putV (pc := 18) (v := q_I (v13 + (1 : Int32))) C dX0_readOperand_18 ql_X0_58 (Or.inl rfl) rfl rfl h (fun M18 h => ?_)
  refine q_aload_n (pc := 21) C 1 rfl dX0_readOperand_21 rfl ?_
  refine q_getA (pc := 22) C dX0_readOperand_22 ql_X0_15 h (fun v22 h => ?_)
  refine q_bipush (pc := 25) (v := (58 : Int32)) C dX0_readOperand_25 (by decide) ?_
  refine q_callV (pc := 27) (As := [q_I (58 : Int32)]) (st := []) (ps := q_psI) C B.2.1 hT q_hpI qm_X0_87 qv_X9_take dX0_readOperand_27 rfl rfl (Nat.le_of_ble_eq_true rfl) (q_flo B.2.2.1 B.2.2.2.1 (by decide) (by decide)) (K_X9_take v22 (58 : Int32)) (M_X9_take (q_kap E) v22 (58 : Int32)) (by exact fun v27 => (q_mo_br (q_mo_rd fun v35 => (q_mo_rd fun _ => q_mo_ca (M_X9_isAtName (q_kap E) v35) fun v38 => (q_mo_br (q_mo_rd fun v55 => (q_mo_rd fun v59 => (q_mo_rd fun v63 => (q_mo_rd fun v66 => (q_mo_rd fun _ => q_mo_ca (M_X5_kindNamed (q_kap E) v55 v59 v66) fun v69 => (q_mo_br (q_mo_rd fun v88 => (q_mo_mk fun a91 => (q_mo_rd fun v96 => (q_mo_gd (q_mo_ca (M_X7_init (q_kap E) (some a91) v96 v4) fun _v100 => (q_mo_rd fun _ => q_mo_ca (M_X1_addOperand (q_kap E) v88 (some a91) v69) fun _v104 => (q_mo_rd fun v108 => (q_mo_rd fun v112 => (q_mo_wr q_mo_rt))))))))) (q_mo_rd fun v78 => (q_mo_rd fun _ => q_mo_ca (M_X9_fail (q_kap E) v78 (2 : Int32)) fun v82 => q_mo_rt)))))))) (q_mo_rd fun v45 => (q_mo_rd fun _ => q_mo_ca (M_X9_fail (q_kap E) v45 (1 : Int32)) fun v49 => q_mo_rt))))) q_mo_rt)) h (fun v27 σ h => ?_)
  refine q_W.st (st' := [q_I v27]) rfl ?_
  refine q_if_ne (pc := 30) (tgt := 34) C dX0_readOperand_30 (by decide) h (fun _ h => ?_) (fun _ h => ?_)
  · refine q_aload_n (pc := 34) C 1 rfl dX0_readOperand_34 rfl ?_
    refine q_getA (pc := 35) C dX0_readOperand_35 ql_X0_15 h (fun v35 h => ?_)
    refine q_callV (pc := 38) (As := []) (st := []) (ps := q_psI) C B.2.1 hT q_hpI qm_X0_117 qv_X9_isAtName dX0_readOperand_38 rfl rfl (Nat.le_of_ble_eq_true rfl) (q_flo B.2.2.1 B.2.2.2.1 (by decide) (by decide)) (K_X9_isAtName v35) (M_X9_isAtName (q_kap E) v35) (by exact fun v38 => (q_mo_br (q_mo_rd fun v55 => (q_mo_rd fun v59 => (q_mo_rd fun v63 => (q_mo_rd fun v66 => (q_mo_rd fun _ => q_mo_ca (M_X5_kindNamed (q_kap E) v55 v59 v66) fun v69 => (q_mo_br (q_mo_rd fun v88 => (q_mo_mk fun a91 => (q_mo_rd fun v96 => (q_mo_gd (q_mo_ca (M_X7_init (q_kap E) (some a91) v96 v4) fun _v100 => (q_mo_rd fun _ => q_mo_ca (M_X1_addOperand (q_kap E) v88 (some a91) v69) fun _v104 => (q_mo_rd fun v108 => (q_mo_rd fun v112 => (q_mo_wr q_mo_rt))))))))) (q_mo_rd fun v78 => (q_mo_rd fun _ => q_mo_ca (M_X9_fail (q_kap E) v78 (2 : Int32)) fun v82 => q_mo_rt)))))))) (q_mo_rd fun v45 => (q_mo_rd fun _ => q_mo_ca (M_X9_fail (q_kap E) v45 (1 : Int32)) fun v49 => q_mo_rt)))) h (fun v38 σ h => ?_)
    refine q_W.st (st' := [q_I v38]) rfl ?_
    refine q_if_ne (pc := 41) (tgt := 54) C dX0_readOperand_41 (by decide) h (fun _ h => ?_) (fun _ h => ?_)
    · refine q_aload_n (pc := 54) C 1 rfl dX0_readOperand_54 rfl ?_
      refine q_getA (pc := 55) C dX0_readOperand_55 ql_X0_26 h (fun v55 h => ?_)
      refine q_aload_n (pc := 58) C 1 rfl dX0_readOperand_58 rfl ?_
      refine q_getA (pc := 59) C dX0_readOperand_59 ql_X0_25 h (fun v59 h => ?_)
      refine q_aload_n (pc := 62) C 1 rfl dX0_readOperand_62 rfl ?_
      refine q_getA (pc := 63) C dX0_readOperand_63 ql_X0_15 h (fun v63 h => ?_)
      refine q_getI (pc := 66) C dX0_readOperand_66 ql_X0_58 h (fun v66 h => ?_)
      refine q_callV (pc := 69) (As := [q_R v59, q_I v66]) (st := []) (ps := q_psR) C B.2.1 hT q_hpR qm_X0_120 qv_X5_kindNamed dX0_readOperand_69 rfl rfl (Nat.le_of_ble_eq_true rfl) (q_flo B.2.2.1 B.2.2.2.1 (by decide) (by decide)) (K_X5_kindNamed v55 v59 v66) (M_X5_kindNamed (q_kap E) v55 v59 v66) (by exact fun v69 => (q_mo_br (q_mo_rd fun v88 => (q_mo_mk fun a91 => (q_mo_rd fun v96 => (q_mo_gd (q_mo_ca (M_X7_init (q_kap E) (some a91) v96 v4) fun _v100 => (q_mo_rd fun _ => q_mo_ca (M_X1_addOperand (q_kap E) v88 (some a91) v69) fun _v104 => (q_mo_rd fun v108 => (q_mo_rd fun v112 => (q_mo_wr q_mo_rt))))))))) (q_mo_rd fun v78 => (q_mo_rd fun _ => q_mo_ca (M_X9_fail (q_kap E) v78 (2 : Int32)) fun v82 => q_mo_rt)))) h (fun v69 σ h => ?_)
      refine q_W.st (st' := [q_R v69]) rfl ?_
      refine q_astore_n (pc := 72) (l' := [(2, q_R v69), (1, q_I v4), (0, q_R l0)]) C dX0_readOperand_72 rfl (by decide) rfl ?_
      refine q_aload_n (pc := 73) C 0 rfl dX0_readOperand_73 rfl ?_
      refine q_ifnonnull (pc := 74) (tgt := 87) C dX0_readOperand_74 (by decide) h (fun _ h => ?_) (fun _ h => ?_)
      · refine q_aload_n (pc := 87) C 2 rfl dX0_readOperand_87 rfl ?_
        refine q_getA (pc := 88) C dX0_readOperand_88 ql_X0_186 h (fun v88 h => ?_)
        refine q_new (pc := 91) C dX0_readOperand_91 qn_X0_129 (by exact fun a91 => (q_mo_rd fun v96 => (q_mo_gd (q_mo_ca (M_X7_init (q_kap E) (some a91) v96 v4) fun _v100 => (q_mo_rd fun _ => q_mo_ca (M_X1_addOperand (q_kap E) v88 (some a91) v69) fun _v104 => (q_mo_rd fun v108 => (q_mo_rd fun v112 => (q_mo_wr q_mo_rt)))))))) B.2.1 h (fun a91 σ h => ?_)
        refine q_dup (pc := 94) C dX0_readOperand_94 rfl ?_
        refine q_aload_n (pc := 95) C 2 rfl dX0_readOperand_95 rfl ?_
        refine q_getA (pc := 96) C dX0_readOperand_96 ql_X0_25 h (fun v96 h => ?_)
        refine q_iload_n (pc := 99) C 1 rfl dX0_readOperand_99 rfl ?_
        refine q_callI (pc := 100) (As := [q_R v96, q_I v4]) (st := [q_R (some a91), q_R v88]) C B.2.1 (fun _ => rfl) qm_X0_131 qI_X7_init dX0_readOperand_100 rfl rfl (Nat.le_of_ble_eq_true rfl) (q_flo B.2.2.1 B.2.2.2.1 (by decide) (by decide)) (K_X7_init (some a91) v96 v4) (M_X7_init (q_kap E) (some a91) v96 v4) (N_X7_init (q_kap E) (some a91) v96 v4) (by exact fun _v100 => (q_mo_rd fun _ => q_mo_ca (M_X1_addOperand (q_kap E) v88 (some a91) v69) fun _v104 => (q_mo_rd fun v108 => (q_mo_rd fun v112 => (q_mo_wr q_mo_rt))))) h (fun _v100 σ h => ?_)
        refine q_aload_n (pc := 103) C 0 rfl dX0_readOperand_103 rfl ?_
        refine q_callV (pc := 104) (As := [q_R (some a91), q_R v69]) (st := []) (ps := q_psV) C B.2.1 hT q_hpV qm_X0_237 qv_X1_addOperand dX0_readOperand_104 rfl rfl (Nat.le_of_ble_eq_true rfl) (q_flo B.2.2.1 B.2.2.2.1 (by decide) (by decide)) (K_X1_addOperand v88 (some a91) v69) (M_X1_addOperand (q_kap E) v88 (some a91) v69) (by exact fun _v104 => (q_mo_rd fun v108 => (q_mo_rd fun v112 => (q_mo_wr q_mo_rt)))) h (fun _v104 σ h => ?_)
        refine q_W.st (st' := []) rfl ?_
        refine q_aload_n (pc := 107) C 2 rfl dX0_readOperand_107 rfl ?_
        refine q_getA (pc := 108) C dX0_readOperand_108 ql_X0_15 h (fun v108 h => ?_)
        refine q_dup (pc := 111) C dX0_readOperand_111 rfl ?_
        refine q_getI (pc := 112) C dX0_readOperand_112 ql_X0_58 h (fun v112 h => ?_)
        refine q_iconst (pc := 115) (v := (1 : Int32)) C dX0_readOperand_115 (by decide) ?_
        refine q_iadd (pc := 116) C dX0_readOperand_116 ?_
        refine q_putV (pc := 117) (v := q_I (v112 + (1 : Int32))) C dX0_readOperand_117 ql_X0_58 (Or.inl rfl) rfl rfl h (fun M117 h => ?_)
        exact q_vret C B.2.2.2.2.1 dX0_readOperand_120 h
      · refine q_aload_n (pc := 77) C 2 rfl dX0_readOperand_77 rfl ?_
        refine q_getA (pc := 78) C dX0_readOperand_78 ql_X0_15 h (fun v78 h => ?_)
        refine q_iconst (pc := 81) (v := (2 : Int32)) C dX0_readOperand_81 (by decide) ?_
        refine q_callV (pc := 82) (As := [q_I (2 : Int32)]) (st := []) (ps := q_psI) C B.2.1 hT q_hpI qm_X0_67 qv_X9_fail dX0_readOperand_82 rfl rfl (Nat.le_of_ble_eq_true rfl) (q_flo B.2.2.1 B.2.2.2.1 (by decide) (by decide)) (K_X9_fail v78 (2 : Int32)) (M_X9_fail (q_kap E) v78 (2 : Int32)) (by exact fun v82 => q_mo_rt) h (fun v82 σ h => ?_)
        refine q_W.st (st' := [q_I v82]) rfl ?_
        refine q_pop (pc := 85) C dX0_readOperand_85 rfl ?_
        exact q_vret C B.2.2.2.2.1 dX0_readOperand_86 h
    · refine q_aload_n (pc := 44) C 1 rfl dX0_readOperand_44 rfl ?_
      refine q_getA (pc := 45) C dX0_readOperand_45 ql_X0_15 h (fun v45 h => ?_)
      refine q_iconst (pc := 48) (v := (1 : Int32)) C dX0_readOperand_48 (by decide) ?_
      refine q_callV (pc := 49) (As := [q_I (1 : Int32)]) (st := []) (ps := q_psI) C B.2.1 hT q_hpI qm_X0_67 qv_X9_fail dX0_readOperand_49 rfl rfl (Nat.le_of_ble_eq_true rfl) (q_flo B.2.2.1 B.2.2.2.1 (by decide) (by decide)) (K_X9_fail v45 (1 : Int32)) (M_X9_fail (q_kap E) v45 (1 : Int32)) (by exact fun v49 => q_mo_rt) h (fun v49 σ h => ?_)
      refine q_W.st (st' := [q_I v49]) rfl ?_
      refine q_pop (pc := 52) C dX0_readOperand_52 rfl ?_
      exact q_vret C B.2.2.2.2.1 dX0_readOperand_53 h
  · exact q_vret C B.2.2.2.2.1 dX0_readOperand_33 h
def F_X0_readPart_173 (κ : Nat → Nat) : q_X Unit :=
  q_rt ()
theorem M_X0_readPart_173 (κ : Nat → Nat) : q_mo (F_X0_readPart_173 κ) := q_mo_rt
theorem N_X0_readPart_173 (κ : Nat → Nat) : q_ni (F_X0_readPart_173 κ) := q_ni_rt
set_option maxRecDepth 100000 in
set_option maxHeartbeats 4000000 in
theorem S_X0_readPart_173 {E : q_Ev} {Γ : q_Gm} {w : (Unit ⊕ q_Exn) × q_St} (B : q_Bd E Γ cX0_readPart yX0_readPart.cls 2 5 130 (none) yX0_readPart.name w) (hT : q_nT Γ) (σ : q_St) (h : F_X0_readPart_173 (q_kap E) σ = some w) : q_W E Γ (q_QF E Γ q_oV w) 2 σ 173 [] [] := by
  have C := B.1
  unfold F_X0_readPart_173 at h
  exact q_vret C B.2.2.2.2.1 dX0_readPart_173 h
def F_X0_readPart_76 (κ : Nat → Nat) (l0 : Option Nat) : q_X Unit :=
  q_rd (q_gA l0 3 0) fun v77 => q_rd (q_is v77 12) fun _ => q_ca (F_X9_fail κ v77 (3 : Int32)) fun v81 => F_X0_readPart_173 κ
theorem M_X0_readPart_76 (κ : Nat → Nat) (l0 : Option Nat) : q_mo (F_X0_readPart_76 κ l0) := (q_mo_rd fun v77 => (q_mo_rd fun _ => q_mo_ca (M_X9_fail κ v77 (3 : Int32)) fun v81 => (M_X0_readPart_173 κ)))
set_option maxRecDepth 100000 in
set_option maxHeartbeats 4000000 in
theorem S_X0_readPart_76 {E : q_Ev} {Γ : q_Gm} {w : (Unit ⊕ q_Exn) × q_St} (B : q_Bd E Γ cX0_readPart yX0_readPart.cls 2 5 130 (none) yX0_readPart.name w) (hT : q_nT Γ) (l0 : Option Nat) (σ : q_St) (h : F_X0_readPart_76 (q_kap E) l0 σ = some w) : q_W E Γ (q_QF E Γ q_oV w) 2 σ 76 [(0, q_R l0)] [] := by
  have C := B.1
  unfold F_X0_readPart_76 at h
  refine q_aload_n (pc := 76) C 0 rfl dX0_readPart_76 rfl ?_
  refine q_getA (pc := 77) C dX0_readPart_77 ql_X0_15 h (fun v77 h => ?_)
  refine q_iconst (pc := 80) (v := (3 : Int32)) C dX0_readPart_80 (by decide) ?_
  refine q_callV (pc := 81) (As := [q_I (3 : Int32)]) (st := []) (ps := q_psI) C B.2.1 hT q_hpI qm_X0_67 qv_X9_fail dX0_readPart_81 rfl rfl (Nat.le_of_ble_eq_true rfl) (q_flo B.2.2.1 B.2.2.2.1 (by decide) (by decide)) (K_X9_fail v77 (3 : Int32)) (M_X9_fail (q_kap E) v77 (3 : Int32)) (by exact fun v81 => (M_X0_readPart_173 (q_kap E))) h (fun v81 σ h => ?_)
  refine q_W.st (st' := [q_I v81]) rfl ?_
  refine q_pop (pc := 84) C dX0_readPart_84 rfl ?_
  refine q_goto (pc := 85) (tgt := 173) C dX0_readPart_85 (by decide) ?_
  refine q_W.sub [] rfl ?_
  exact S_X0_readPart_173 B hT _ h
def F_X0_readPart_17 (κ : Nat → Nat) (l0 : Option Nat) (s0 : Int32) : q_X Unit :=
  q_rd (q_gA l0 3 0) fun v19 => q_rd (q_is v19 12) fun _ => q_ca (F_X9_isAtName κ v19) fun v22 => q_br (v22 = 0) (q_rd (q_gA l0 3 0) fun v97 => q_rd (q_gI v97 12 1) fun v100 => q_rd (q_is l0 3) fun _ => q_ca (F_X0_isPartSign κ l0 v100) fun v103 => q_br (¬ v103 = 0) (q_br (s0 = 0) (q_rd (q_gA l0 3 3) fun v138 => q_rd (q_gA l0 3 1) fun v142 => q_rd (q_gA v142 13 4) fun v145 => q_rd (q_gA l0 3 0) fun v149 => q_rd (q_gI v149 12 1) fun v152 => q_rd (q_lL v145 v152) fun v155 => q_rd (q_is v138 4) fun _ => q_ca (F_X1_addPart κ v138 v155.toInt32) fun _v157 => q_rd (q_gA l0 3 0) fun v161 => q_rd (q_gI v161 12 1) fun v165 => q_wr (q_pF v161 12 1 (.int (v165 + (1 : Int32)))) (F_X0_readPart_173 κ)) (q_rd (q_gA l0 3 0) fun v126 => q_rd (q_is v126 12) fun _ => q_ca (F_X9_fail κ v126 (3 : Int32)) fun v130 => F_X0_readPart_173 κ)) (q_rd (q_gA l0 3 0) fun v110 => q_rd (q_is v110 12) fun _ => q_ca (F_X9_fail κ v110 (1 : Int32)) fun v114 => F_X0_readPart_173 κ)) (q_rd (q_gA l0 3 3) fun v29 => q_rd (q_gA l0 3 1) fun v33 => q_rd (q_gA l0 3 0) fun v37 => q_rd (q_gI v37 12 1) fun v40 => q_rd (q_is v29 4) fun _ => q_ca (F_X1_operandNamed κ v29 v33 v40) fun v43 => q_br (v43 < 0) (q_br (¬ s0 = 0) (F_X0_readPart_76 κ l0) (q_rd (q_gA l0 3 3) fun v66 => q_rd (q_gI v66 4 8) fun v69 => q_br (¬ v69 = (5 : Int32)) (q_rd (q_is l0 3) fun _ => q_ca (F_X0_readOperand κ l0) fun _v89 => F_X0_readPart_173 κ) (F_X0_readPart_76 κ l0))) (q_rd (q_gA l0 3 0) fun v50 => q_rd (q_is v50 12) fun _ => q_ca (F_X9_fail κ v50 (2 : Int32)) fun v54 => F_X0_readPart_173 κ))
theorem M_X0_readPart_17 (κ : Nat → Nat) (l0 : Option Nat) (s0 : Int32) : q_mo (F_X0_readPart_17 κ l0 s0) := (q_mo_rd fun v19 => (q_mo_rd fun _ => q_mo_ca (M_X9_isAtName κ v19) fun v22 => (q_mo_br (q_mo_rd fun v97 => (q_mo_rd fun v100 => (q_mo_rd fun _ => q_mo_ca (M_X0_isPartSign κ l0 v100) fun v103 => (q_mo_br (q_mo_br (q_mo_rd fun v138 => (q_mo_rd fun v142 => (q_mo_rd fun v145 => (q_mo_rd fun v149 => (q_mo_rd fun v152 => (q_mo_rd fun v155 => (q_mo_rd fun _ => q_mo_ca (M_X1_addPart κ v138 v155.toInt32) fun _v157 => (q_mo_rd fun v161 => (q_mo_rd fun v165 => (q_mo_wr (M_X0_readPart_173 κ))))))))))) (q_mo_rd fun v126 => (q_mo_rd fun _ => q_mo_ca (M_X9_fail κ v126 (3 : Int32)) fun v130 => (M_X0_readPart_173 κ)))) (q_mo_rd fun v110 => (q_mo_rd fun _ => q_mo_ca (M_X9_fail κ v110 (1 : Int32)) fun v114 => (M_X0_readPart_173 κ))))))) (q_mo_rd fun v29 => (q_mo_rd fun v33 => (q_mo_rd fun v37 => (q_mo_rd fun v40 => (q_mo_rd fun _ => q_mo_ca (M_X1_operandNamed κ v29 v33 v40) fun v43 => (q_mo_br (q_mo_br (M_X0_readPart_76 κ l0) (q_mo_rd fun v66 => (q_mo_rd fun v69 => (q_mo_br (q_mo_rd fun _ => q_mo_ca (M_X0_readOperand κ l0) fun _v89 => (M_X0_readPart_173 κ)) (M_X0_readPart_76 κ l0))))) (q_mo_rd fun v50 => (q_mo_rd fun _ => q_mo_ca (M_X9_fail κ v50 (2 : Int32)) fun v54 => (M_X0_readPart_173 κ))))))))))))
set_option maxRecDepth 100000 in
set_option maxHeartbeats 4000000 in
theorem S_X0_readPart_17 {E : q_Ev} {Γ : q_Gm} {w : (Unit ⊕ q_Exn) × q_St} (B : q_Bd E Γ cX0_readPart yX0_readPart.cls 2 5 130 (none) yX0_readPart.name w) (hT : q_nT Γ) (l0 : Option Nat) (s0 : Int32) (σ : q_St) (h : F_X0_readPart_17 (q_kap E) l0 s0 σ = some w) : q_W E Γ (q_QF E Γ q_oV w) 2 σ 17 [(0, q_R l0)] [q_I s0] := by
  have C := B.1
  unfold F_X0_readPart_17 at h
  refine q_istore_n (pc := 17) (l' := [(1, q_I s0), (0, q_R l0)]) C dX0_readPart_17 rfl (by decide) rfl ?_
  refine q_aload_n (pc := 18) C 1 rfl dX0_readPart_18 rfl ?_
  refine q_getA (pc := 19) C dX0_readPart_19 ql_X0_15 h (fun v19 h => ?_)
  refine q_callV (pc := 22) (As := []) (st := []) (ps := q_psI) C B.2.1 hT q_hpI qm_X0_117 qv_X9_isAtName dX0_readPart_22 rfl rfl (Nat.le_of_ble_eq_true rfl) (q_flo B.2.2.1 B.2.2.2.1 (by decide) (by decide)) (K_X9_isAtName v19) (M_X9_isAtName (q_kap E) v19) (by exact fun v22 => (q_mo_br (q_mo_rd fun v97 => (q_mo_rd fun v100 => (q_mo_rd fun _ => q_mo_ca (M_X0_isPartSign (q_kap E) l0 v100) fun v103 => (q_mo_br (q_mo_br (q_mo_rd fun v138 => (q_mo_rd fun v142 => (q_mo_rd fun v145 => (q_mo_rd fun v149 => (q_mo_rd fun v152 => (q_mo_rd fun v155 => (q_mo_rd fun _ => q_mo_ca (M_X1_addPart (q_kap E) v138 v155.toInt32) fun _v157 => (q_mo_rd fun v161 => (q_mo_rd fun v165 => (q_mo_wr (M_X0_readPart_173 (q_kap E)))))))))))) (q_mo_rd fun v126 => (q_mo_rd fun _ => q_mo_ca (M_X9_fail (q_kap E) v126 (3 : Int32)) fun v130 => (M_X0_readPart_173 (q_kap E))))) (q_mo_rd fun v110 => (q_mo_rd fun _ => q_mo_ca (M_X9_fail (q_kap E) v110 (1 : Int32)) fun v114 => (M_X0_readPart_173 (q_kap E)))))))) (q_mo_rd fun v29 => (q_mo_rd fun v33 => (q_mo_rd fun v37 => (q_mo_rd fun v40 => (q_mo_rd fun _ => q_mo_ca (M_X1_operandNamed (q_kap E) v29 v33 v40) fun v43 => (q_mo_br (q_mo_br (M_X0_readPart_76 (q_kap E) l0) (q_mo_rd fun v66 => (q_mo_rd fun v69 => (q_mo_br (q_mo_rd fun _ => q_mo_ca (M_X0_readOperand (q_kap E) l0) fun _v89 => (M_X0_readPart_173 (q_kap E))) (M_X0_readPart_76 (q_kap E) l0))))) (q_mo_rd fun v50 => (q_mo_rd fun _ => q_mo_ca (M_X9_fail (q_kap E) v50 (2 : Int32)) fun v54 => (M_X0_readPart_173 (q_kap E)))))))))))) h (fun v22 σ h => ?_)
  refine q_W.st (st' := [q_I v22]) rfl ?_
  refine q_if_eq (pc := 25) (tgt := 95) C dX0_readPart_25 (by decide) h (fun _ h => ?_) (fun _ h => ?_)
  · refine q_aload_n (pc := 95) C 1 rfl dX0_readPart_95 rfl ?_
    refine q_aload_n (pc := 96) C 1 rfl dX0_readPart_96 rfl ?_
    refine q_getA (pc := 97) C dX0_readPart_97 ql_X0_15 h (fun v97 h => ?_)
    refine q_getI (pc := 100) C dX0_readPart_100 ql_X0_58 h (fun v100 h => ?_)
    refine q_callV (pc := 103) (As := [q_I v100]) (st := []) (ps := q_psI) C B.2.1 hT q_hpI qm_X0_215 qv_X0_isPartSign dX0_readPart_103 rfl rfl (Nat.le_of_ble_eq_true rfl) (q_flo B.2.2.1 B.2.2.2.1 (by decide) (by decide)) (K_X0_isPartSign l0 v100) (M_X0_isPartSign (q_kap E) l0 v100) (by exact fun v103 => (q_mo_br (q_mo_br (q_mo_rd fun v138 => (q_mo_rd fun v142 => (q_mo_rd fun v145 => (q_mo_rd fun v149 => (q_mo_rd fun v152 => (q_mo_rd fun v155 => (q_mo_rd fun _ => q_mo_ca (M_X1_addPart (q_kap E) v138 v155.toInt32) fun _v157 => (q_mo_rd fun v161 => (q_mo_rd fun v165 => (q_mo_wr (M_X0_readPart_173 (q_kap E)))))))))))) (q_mo_rd fun v126 => (q_mo_rd fun _ => q_mo_ca (M_X9_fail (q_kap E) v126 (3 : Int32)) fun v130 => (M_X0_readPart_173 (q_kap E))))) (q_mo_rd fun v110 => (q_mo_rd fun _ => q_mo_ca (M_X9_fail (q_kap E) v110 (1 : Int32)) fun v114 => (M_X0_readPart_173 (q_kap E)))))) h (fun v103 σ h => ?_)
    refine q_W.st (st' := [q_I v103]) rfl ?_
    refine q_if_ne (pc := 106) (tgt := 121) C dX0_readPart_106 (by decide) h (fun _ h => ?_) (fun _ h => ?_)
    · refine q_iload_n (pc := 121) C 0 rfl dX0_readPart_121 rfl ?_
      refine q_if_eq (pc := 122) (tgt := 137) C dX0_readPart_122 (by decide) h (fun _ h => ?_) (fun _ h => ?_)
      · refine q_aload_n (pc := 137) C 1 rfl dX0_readPart_137 rfl ?_
        refine q_getA (pc := 138) C dX0_readPart_138 ql_X0_186 h (fun v138 h => ?_)
        refine q_aload_n (pc := 141) C 1 rfl dX0_readPart_141 rfl ?_
        refine q_getA (pc := 142) C dX0_readPart_142 ql_X0_25 h (fun v142 h => ?_)
        refine q_getA (pc := 145) C dX0_readPart_145 ql_X0_218 h (fun v145 h => ?_)
        refine q_aload_n (pc := 148) C 1 rfl dX0_readPart_148 rfl ?_
        refine q_getA (pc := 149) C dX0_readPart_149 ql_X0_15 h (fun v149 h => ?_)
        refine q_getI (pc := 152) C dX0_readPart_152 ql_X0_58 h (fun v152 h => ?_)
        refine q_ldL (pc := 155) C dX0_readPart_155 h (fun v155 h => ?_)
        refine q_l2i (pc := 156) C dX0_readPart_156 ?_
        refine q_callV (pc := 157) (As := [q_I v155.toInt32]) (st := []) (ps := q_psV) C B.2.1 hT q_hpV qm_X0_221 qv_X1_addPart dX0_readPart_157 rfl rfl (Nat.le_of_ble_eq_true rfl) (q_flo B.2.2.1 B.2.2.2.1 (by decide) (by decide)) (K_X1_addPart v138 v155.toInt32) (M_X1_addPart (q_kap E) v138 v155.toInt32) (by exact fun _v157 => (q_mo_rd fun v161 => (q_mo_rd fun v165 => (q_mo_wr (M_X0_readPart_173 (q_kap E)))))) h (fun _v157 σ h => ?_)
        refine q_W.st (st' := []) rfl ?_
        refine q_aload_n (pc := 160) C 1 rfl dX0_readPart_160 rfl ?_
        refine q_getA (pc := 161) C dX0_readPart_161 ql_X0_15 h (fun v161 h => ?_)
        refine q_dup (pc := 164) C dX0_readPart_164 rfl ?_
        refine q_getI (pc := 165) C dX0_readPart_165 ql_X0_58 h (fun v165 h => ?_)
        refine q_iconst (pc := 168) (v := (1 : Int32)) C dX0_readPart_168 (by decide) ?_
        refine q_iadd (pc := 169) C dX0_readPart_169 ?_
        refine q_putV (pc := 170) (v := q_I (v165 + (1 : Int32))) C dX0_readPart_170 ql_X0_58 (Or.inl rfl) rfl rfl h (fun M170 h => ?_)
        refine q_W.sub [] rfl ?_
        exact S_X0_readPart_173 B hT _ h
      · refine q_aload_n (pc := 125) C 1 rfl dX0_readPart_125 rfl ?_
        refine q_getA (pc := 126) C dX0_readPart_126 ql_X0_15 h (fun v126 h => ?_)
        refine q_iconst (pc := 129) (v := (3 : Int32)) C dX0_readPart_129 (by decide) ?_
        refine q_callV (pc := 130) (As := [q_I (3 : Int32)]) (st := []) (ps := q_psI) C B.2.1 hT q_hpI qm_X0_67 qv_X9_fail dX0_readPart_130 rfl rfl (Nat.le_of_ble_eq_true rfl) (q_flo B.2.2.1 B.2.2.2.1 (by decide) (by decide)) (K_X9_fail v126 (3 : Int32)) (M_X9_fail (q_kap E) v126 (3 : Int32)) (by exact fun v130 => (M_X0_readPart_173 (q_kap E))) h (fun v130 σ h => ?_)
        refine q_W.st (st' := [q_I v130]) rfl ?_
        refine q_pop (pc := 133) C dX0_readPart_133 rfl ?_
        refine q_goto (pc := 134) (tgt := 173) C dX0_readPart_134 (by decide) ?_
        refine q_W.sub [] rfl ?_
        exact S_X0_readPart_173 B hT _ h
    · refine q_aload_n (pc := 109) C 1 rfl dX0_readPart_109 rfl ?_
      refine q_getA (pc := 110) C dX0_readPart_110 ql_X0_15 h (fun v110 h => ?_)
      refine q_iconst (pc := 113) (v := (1 : Int32)) C dX0_readPart_113 (by decide) ?_
      refine q_callV (pc := 114) (As := [q_I (1 : Int32)]) (st := []) (ps := q_psI) C B.2.1 hT q_hpI qm_X0_67 qv_X9_fail dX0_readPart_114 rfl rfl (Nat.le_of_ble_eq_true rfl) (q_flo B.2.2.1 B.2.2.2.1 (by decide) (by decide)) (K_X9_fail v110 (1 : Int32)) (M_X9_fail (q_kap E) v110 (1 : Int32)) (by exact fun v114 => (M_X0_readPart_173 (q_kap E))) h (fun v114 σ h => ?_)
      refine q_W.st (st' := [q_I v114]) rfl ?_
      refine q_pop (pc := 117) C dX0_readPart_117 rfl ?_
      refine q_goto (pc := 118) (tgt := 173) C dX0_readPart_118 (by decide) ?_
      refine q_W.sub [] rfl ?_
      exact S_X0_readPart_173 B hT _ h
  · refine q_aload_n (pc := 28) C 1 rfl dX0_readPart_28 rfl ?_
    refine q_getA (pc := 29) C dX0_readPart_29 ql_X0_186 h (fun v29 h => ?_)
    refine q_aload_n (pc := 32) C 1 rfl dX0_readPart_32 rfl ?_
    refine q_getA (pc := 33) C dX0_readPart_33 ql_X0_25 h (fun v33 h => ?_)
    refine q_aload_n (pc := 36) C 1 rfl dX0_readPart_36 rfl ?_
    refine q_getA (pc := 37) C dX0_readPart_37 ql_X0_15 h (fun v37 h => ?_)
    refine q_getI (pc := 40) C dX0_readPart_40 ql_X0_58 h (fun v40 h => ?_)
    refine q_callV (pc := 43) (As := [q_R v33, q_I v40]) (st := []) (ps := q_psI) C B.2.1 hT q_hpI qm_X0_206 qv_X1_operandNamed dX0_readPart_43 rfl rfl (Nat.le_of_ble_eq_true rfl) (q_flo B.2.2.1 B.2.2.2.1 (by decide) (by decide)) (K_X1_operandNamed v29 v33 v40) (M_X1_operandNamed (q_kap E) v29 v33 v40) (by exact fun v43 => (q_mo_br (q_mo_br (M_X0_readPart_76 (q_kap E) l0) (q_mo_rd fun v66 => (q_mo_rd fun v69 => (q_mo_br (q_mo_rd fun _ => q_mo_ca (M_X0_readOperand (q_kap E) l0) fun _v89 => (M_X0_readPart_173 (q_kap E))) (M_X0_readPart_76 (q_kap E) l0))))) (q_mo_rd fun v50 => (q_mo_rd fun _ => q_mo_ca (M_X9_fail (q_kap E) v50 (2 : Int32)) fun v54 => (M_X0_readPart_173 (q_kap E)))))) h (fun v43 σ h => ?_)
    refine q_W.st (st' := [q_I v43]) rfl ?_
    refine q_if_lt (pc := 46) (tgt := 61) C dX0_readPart_46 (by decide) h (fun _ h => ?_) (fun _ h => ?_)
    · refine q_iload_n (pc := 61) C 0 rfl dX0_readPart_61 rfl ?_
      refine q_if_ne (pc := 62) (tgt := 76) C dX0_readPart_62 (by decide) h (fun _ h => ?_) (fun _ h => ?_)
      · refine q_W.sub [1] rfl ?_
        exact S_X0_readPart_76 B hT l0 _ h
      · refine q_aload_n (pc := 65) C 1 rfl dX0_readPart_65 rfl ?_
        refine q_getA (pc := 66) C dX0_readPart_66 ql_X0_186 h (fun v66 h => ?_)
        refine q_getI (pc := 69) C dX0_readPart_69 ql_X0_209 h (fun v69 h => ?_)
        refine q_iconst (pc := 72) (v := (5 : Int32)) C dX0_readPart_72 (by decide) ?_
        refine q_icmp_ne (pc := 73) (tgt := 88) C dX0_readPart_73 (by decide) h (fun _ h => ?_) (fun _ h => ?_)
        · refine q_aload_n (pc := 88) C 1 rfl dX0_readPart_88 rfl ?_
          refine q_callV (pc := 89) (As := []) (st := []) (ps := q_psV) C B.2.1 hT q_hpV qm_X0_212 qv_X0_readOperand dX0_readPart_89 rfl rfl (Nat.le_of_ble_eq_true rfl) (q_flo B.2.2.1 B.2.2.2.1 (by decide) (by decide)) (K_X0_readOperand l0) (M_X0_readOperand (q_kap E) l0) (by exact fun _v89 => (M_X0_readPart_173 (q_kap E))) h (fun _v89 σ h => ?_)
          refine q_W.st (st' := []) rfl ?_
          refine q_goto (pc := 92) (tgt := 173) C dX0_readPart_92 (by decide) ?_
          refine q_W.sub [] rfl ?_
          exact S_X0_readPart_173 B hT _ h
        · refine q_W.sub [1] rfl ?_
          exact S_X0_readPart_76 B hT l0 _ h
    · refine q_aload_n (pc := 49) C 1 rfl dX0_readPart_49 rfl ?_
      refine q_getA (pc := 50) C dX0_readPart_50 ql_X0_15 h (fun v50 h => ?_)
      refine q_iconst (pc := 53) (v := (2 : Int32)) C dX0_readPart_53 (by decide) ?_
      refine q_callV (pc := 54) (As := [q_I (2 : Int32)]) (st := []) (ps := q_psI) C B.2.1 hT q_hpI qm_X0_67 qv_X9_fail dX0_readPart_54 rfl rfl (Nat.le_of_ble_eq_true rfl) (q_flo B.2.2.1 B.2.2.2.1 (by decide) (by decide)) (K_X9_fail v50 (2 : Int32)) (M_X9_fail (q_kap E) v50 (2 : Int32)) (by exact fun v54 => (M_X0_readPart_173 (q_kap E))) h (fun v54 σ h => ?_)
      refine q_W.st (st' := [q_I v54]) rfl ?_
      refine q_pop (pc := 57) C dX0_readPart_57 rfl ?_
      refine q_goto (pc := 58) (tgt := 173) C dX0_readPart_58 (by decide) ?_
      refine q_W.sub [] rfl ?_
      exact S_X0_readPart_173 B hT _ h
def F_X0_readPart (κ : Nat → Nat) (l0 : Option Nat) : q_X Unit :=
  q_rd (q_gA l0 3 3) fun v1 => q_rd (q_gI v1 4 7) fun v4 => q_br (¬ v4 = (12 : Int32)) (F_X0_readPart_17 κ l0 (0 : Int32)) (F_X0_readPart_17 κ l0 (1 : Int32))
theorem M_X0_readPart (κ : Nat → Nat) (l0 : Option Nat) : q_mo (F_X0_readPart κ l0) := (q_mo_rd fun v1 => (q_mo_rd fun v4 => (q_mo_br (M_X0_readPart_17 κ l0 (0 : Int32)) (M_X0_readPart_17 κ l0 (1 : Int32)))))
set_option maxRecDepth 100000 in
set_option maxHeartbeats 4000000 in
theorem K_X0_readPart {E : q_Ev} (l0 : Option Nat) : q_Ct E yX0_readPart (.code yX0_readPart cX0_readPart 2 (none)) 5 130 [q_R l0] q_oV (F_X0_readPart (q_kap E) l0) := by
  refine q_enter (by decide) (Nat.le_of_ble_eq_true rfl) (fun Γ σ w h B hT => ?_)
  have C := B.1
  unfold F_X0_readPart at h
  refine q_aload_n (pc := 0) C 0 rfl dX0_readPart_0 rfl ?_
  refine q_getA (pc := 1) C dX0_readPart_1 ql_X0_186 h (fun v1 h => ?_)
  refine q_getI (pc := 4) C dX0_readPart_4 ql_X0_203 h (fun v4 h => ?_)
  refine q_bipush (pc := 7) (v := (12 : Int32)) C dX0_readPart_7 (by decide) ?_
  refine q_icmp_ne (pc := 9) (tgt := 16) C dX0_readPart_9 (by decide) h (fun _ h => ?_) (fun _ h => ?_)
  · refine q_iconst (pc := 16) (v := (0 : Int32)) C dX0_readPart_16 (by decide) ?_
    exact S_X0_readPart_17 B hT l0 (0 : Int32) _ h
  · refine q_iconst (pc := 12) (v := (1 : Int32)) C dX0_readPart_12 (by decide) ?_
    refine q_goto (pc := 13) (tgt := 17) C dX0_readPart_13 (by decide) ?_
    exact S_X0_readPart_17 B hT l0 (1 : Int32) _ h
def F_X1_init (κ : Nat → Nat) (l0 : Option Nat) (l1 : Option Nat) : q_X Unit :=
  q_gd (¬ l0 = none) (q_gd (¬ (12 : Int32) < 0 ∧ (12 : Int32).toNatClampNeg ≤ 65536) (q_mk (q_nI 1 (12 : Int32)) (12 : Int32).toNatClampNeg fun a7 => q_wr (q_pF l0 4 1 (va_rf (some a7))) (q_gd (¬ (5 : Int32) < 0 ∧ (5 : Int32).toNatClampNeg ≤ 65536) (q_mk (q_nA 6 (5 : Int32)) (5 : Int32).toNatClampNeg fun a14 => q_wr (q_pF l0 4 2 (va_rf (some a14))) (q_gd (¬ (5 : Int32) < 0 ∧ (5 : Int32).toNatClampNeg ≤ 65536) (q_mk (q_nA 5 (5 : Int32)) (5 : Int32).toNatClampNeg fun a22 => q_wr (q_pF l0 4 3 (va_rf (some a22))) (q_gd (¬ (4 : Int32) < 0 ∧ (4 : Int32).toNatClampNeg ≤ 65536) (q_mk (q_nL (4 : Int32)) (4 : Int32).toNatClampNeg fun a30 => q_wr (q_pF l0 4 4 (va_rf (some a30))) (q_gd (¬ (4 : Int32) < 0 ∧ (4 : Int32).toNatClampNeg ≤ 65536) (q_mk (q_nL (4 : Int32)) (4 : Int32).toNatClampNeg fun a37 => q_wr (q_pF l0 4 5 (va_rf (some a37))) (q_gd (¬ (128 : Int32) < 0 ∧ (128 : Int32).toNatClampNeg ≤ 65536) (q_mk (q_nI 1 (128 : Int32)) (128 : Int32).toNatClampNeg fun a46 => q_wr (q_pF l0 4 6 (va_rf (some a46))) (q_wr (q_pF l0 4 0 (va_rf l1)) (q_rt ()))))))))))))))
theorem M_X1_init (κ : Nat → Nat) (l0 : Option Nat) (l1 : Option Nat) : q_mo (F_X1_init κ l0 l1) := (q_mo_gd (q_mo_gd (q_mo_mk fun a7 => (q_mo_wr (q_mo_gd (q_mo_mk fun a14 => (q_mo_wr (q_mo_gd (q_mo_mk fun a22 => (q_mo_wr (q_mo_gd (q_mo_mk fun a30 => (q_mo_wr (q_mo_gd (q_mo_mk fun a37 => (q_mo_wr (q_mo_gd (q_mo_mk fun a46 => (q_mo_wr (q_mo_wr q_mo_rt))))))))))))))))))))
theorem N_X1_init (κ : Nat → Nat) (l0 : Option Nat) (l1 : Option Nat) : q_ni (F_X1_init κ l0 l1) := (q_ni_gd (q_ni_gd (q_ni_mk fun a7 => (q_ni_wr (q_ni_gd (q_ni_mk fun a14 => (q_ni_wr (q_ni_gd (q_ni_mk fun a22 => (q_ni_wr (q_ni_gd (q_ni_mk fun a30 => (q_ni_wr (q_ni_gd (q_ni_mk fun a37 => (q_ni_wr (q_ni_gd (q_ni_mk fun a46 => (q_ni_wr (q_ni_wr q_ni_rt))))))))))))))))))))
set_option maxRecDepth 100000 in
set_option maxHeartbeats 4000000 in
theorem K_X1_init {E : q_Ev} (l0 : Option Nat) (l1 : Option Nat) : q_Ct E yX1_init (.code yX1_init cX1_init 2 (none)) 1 20 [q_R l0, q_R l1] q_oV (F_X1_init (q_kap E) l0 l1) := by
  refine q_enter (by decide) (Nat.le_of_ble_eq_true rfl) (fun Γ σ w h B hT => ?_)
  have C := B.1
  unfold F_X1_init at h
  refine q_aload_n (pc := 0) C 0 rfl dX1_init_0 rfl ?_
  refine q_objI (pc := 1) C dX1_init_1 qo_X1_3 (q_flo B.2.2.1 B.2.2.2.1 (by decide) (by decide)) (Nat.le_of_ble_eq_true rfl) h (fun h => ?_)
  refine q_aload_n (pc := 4) C 0 rfl dX1_init_4 rfl ?_
  refine q_bipush (pc := 5) (v := (12 : Int32)) C dX1_init_5 (by decide) ?_
  refine q_newP (pc := 7) (t := 1) (A := ((12 : Int32).toNatClampNeg, .inl (fun _ => 0))) C dX1_init_7 qa_int rfl (by decide) (fun _ h => h) rfl (fun _ => rfl) (by decide) (by exact fun a7 => (q_mo_wr (q_mo_gd (q_mo_mk fun a14 => (q_mo_wr (q_mo_gd (q_mo_mk fun a22 => (q_mo_wr (q_mo_gd (q_mo_mk fun a30 => (q_mo_wr (q_mo_gd (q_mo_mk fun a37 => (q_mo_wr (q_mo_gd (q_mo_mk fun a46 => (q_mo_wr (q_mo_wr q_mo_rt)))))))))))))))))) B.2.1 h (fun a7 σ h => ?_)
  refine q_putV (pc := 9) (v := q_R (some a7)) C dX1_init_9 ql_X1_9 (Or.inr ⟨B.2.2.2.2.2, RX1, TX1, 11, rfl, rfl⟩) q_nfA q_nfA' h (fun M9 h => ?_)
  refine q_aload_n (pc := 12) C 0 rfl dX1_init_12 rfl ?_
  refine q_iconst (pc := 13) (v := (5 : Int32)) C dX1_init_13 (by decide) ?_
  refine q_newA (pc := 14) (t := 6) C dX1_init_14 qb_X1_15 (by decide +kernel) rfl (by decide) (by exact fun a14 => (q_mo_wr (q_mo_gd (q_mo_mk fun a22 => (q_mo_wr (q_mo_gd (q_mo_mk fun a30 => (q_mo_wr (q_mo_gd (q_mo_mk fun a37 => (q_mo_wr (q_mo_gd (q_mo_mk fun a46 => (q_mo_wr (q_mo_wr q_mo_rt))))))))))))))) B.2.1 h (fun a14 σ h => ?_)
  refine q_putV (pc := 17) (v := q_R (some a14)) C dX1_init_17 ql_X1_17 (Or.inr ⟨B.2.2.2.2.2, RX1, TX1, 11, rfl, rfl⟩) q_nfA q_nfA' h (fun M17 h => ?_)
  refine q_aload_n (pc := 20) C 0 rfl dX1_init_20 rfl ?_
  refine q_iconst (pc := 21) (v := (5 : Int32)) C dX1_init_21 (by decide) ?_
  refine q_newA (pc := 22) (t := 5) C dX1_init_22 qb_X1_21 (by decide +kernel) rfl (by decide) (by exact fun a22 => (q_mo_wr (q_mo_gd (q_mo_mk fun a30 => (q_mo_wr (q_mo_gd (q_mo_mk fun a37 => (q_mo_wr (q_mo_gd (q_mo_mk fun a46 => (q_mo_wr (q_mo_wr q_mo_rt)))))))))))) B.2.1 h (fun a22 σ h => ?_)
  refine q_putV (pc := 25) (v := q_R (some a22)) C dX1_init_25 ql_X1_23 (Or.inr ⟨B.2.2.2.2.2, RX1, TX1, 11, rfl, rfl⟩) q_nfA q_nfA' h (fun M25 h => ?_)
  refine q_aload_n (pc := 28) C 0 rfl dX1_init_28 rfl ?_
  refine q_iconst (pc := 29) (v := (4 : Int32)) C dX1_init_29 (by decide) ?_
  refine q_newP (pc := 30) (t := 2) (A := ((4 : Int32).toNatClampNeg, .inr (.inl (fun _ => 0)))) C dX1_init_30 qa_long rfl (by decide) (fun _ h => h) rfl (fun _ => rfl) (by decide) (by exact fun a30 => (q_mo_wr (q_mo_gd (q_mo_mk fun a37 => (q_mo_wr (q_mo_gd (q_mo_mk fun a46 => (q_mo_wr (q_mo_wr q_mo_rt))))))))) B.2.1 h (fun a30 σ h => ?_)
  refine q_putV (pc := 32) (v := q_R (some a30)) C dX1_init_32 ql_X1_27 (Or.inr ⟨B.2.2.2.2.2, RX1, TX1, 11, rfl, rfl⟩) q_nfA q_nfA' h (fun M32 h => ?_)
  refine q_aload_n (pc := 35) C 0 rfl dX1_init_35 rfl ?_
  refine q_iconst (pc := 36) (v := (4 : Int32)) C dX1_init_36 (by decide) ?_
  refine q_newP (pc := 37) (t := 2) (A := ((4 : Int32).toNatClampNeg, .inr (.inl (fun _ => 0)))) C dX1_init_37 qa_long rfl (by decide) (fun _ h => h) rfl (fun _ => rfl) (by decide) (by exact fun a37 => (q_mo_wr (q_mo_gd (q_mo_mk fun a46 => (q_mo_wr (q_mo_wr q_mo_rt)))))) B.2.1 h (fun a37 σ h => ?_)
  refine q_putV (pc := 39) (v := q_R (some a37)) C dX1_init_39 ql_X1_31 (Or.inr ⟨B.2.2.2.2.2, RX1, TX1, 11, rfl, rfl⟩) q_nfA q_nfA' h (fun M39 h => ?_)
  refine q_aload_n (pc := 42) C 0 rfl dX1_init_42 rfl ?_
  refine q_sipush (pc := 43) (v := (128 : Int32)) C dX1_init_43 (by decide) ?_
  refine q_newP (pc := 46) (t := 1) (A := ((128 : Int32).toNatClampNeg, .inl (fun _ => 0))) C dX1_init_46 qa_int rfl (by decide) (fun _ h => h) rfl (fun _ => rfl) (by decide) (by exact fun a46 => (q_mo_wr (q_mo_wr q_mo_rt))) B.2.1 h (fun a46 σ h => ?_)
  refine q_putV (pc := 48) (v := q_R (some a46)) C dX1_init_48 ql_X1_34 (Or.inr ⟨B.2.2.2.2.2, RX1, TX1, 11, rfl, rfl⟩) q_nfA q_nfA' h (fun M48 h => ?_)
  refine q_aload_n (pc := 51) C 0 rfl dX1_init_51 rfl ?_
  refine q_aload_n (pc := 52) C 1 rfl dX1_init_52 rfl ?_
  refine q_putV (pc := 53) (v := q_R l1) C dX1_init_53 ql_X1_37 (Or.inr ⟨B.2.2.2.2.2, RX1, TX1, 11, rfl, rfl⟩) q_nfO q_nfO' h (fun M53 h => ?_)
  exact q_vret C B.2.2.2.2.1 dX1_init_56 h
def F_X0_readInstruction_178 (κ : Nat → Nat) : q_X Unit :=
  q_rt ()
theorem M_X0_readInstruction_178 (κ : Nat → Nat) : q_mo (F_X0_readInstruction_178 κ) := q_mo_rt
theorem N_X0_readInstruction_178 (κ : Nat → Nat) : q_ni (F_X0_readInstruction_178 κ) := q_ni_rt
set_option maxRecDepth 100000 in
set_option maxHeartbeats 4000000 in
theorem S_X0_readInstruction_178 {E : q_Ev} {Γ : q_Gm} {w : (Unit ⊕ q_Exn) × q_St} (B : q_Bd E Γ cX0_readInstruction yX0_readInstruction.cls 2 6 151 (none) yX0_readInstruction.name w) (hT : q_nT Γ) (σ : q_St) (h : F_X0_readInstruction_178 (q_kap E) σ = some w) : q_W E Γ (q_QF E Γ q_oV w) 2 σ 178 [] [] := by
  have C := B.1
  unfold F_X0_readInstruction_178 at h
  exact q_vret C B.2.2.2.2.1 dX0_readInstruction_178 h
def F_X0_readInstruction_129 (κ : Nat → Nat) (l0 : Option Nat) : q_X Unit :=
  q_rd (q_gA l0 3 0) fun v130 => q_rd (q_is v130 12) fun _ => q_ca (F_X9_hasFault κ v130) fun v133 => q_br (v133 = 0) (q_rd (q_gA l0 3 0) fun v141 => q_rd (q_gI v141 12 1) fun v145 => q_wr (q_pF v141 12 1 (.int (v145 + (1 : Int32)))) (q_rd (q_is l0 3) fun _ => q_ca (F_X0_readBits κ l0) fun _v154 => q_rd (q_gA l0 3 0) fun v158 => q_rd (q_is v158 12) fun _ => q_ca (F_X9_hasFault κ v158) fun v161 => q_br (¬ v161 = 0) (F_X0_readInstruction_178 κ) (q_rd (q_gA l0 3 2) fun v168 => q_rd (q_gA l0 3 3) fun v172 => q_rd (q_is v168 8) fun _ => q_ca (F_X5_addInstruction κ v168 v172) fun _v175 => F_X0_readInstruction_178 κ))) (q_rt ())
theorem M_X0_readInstruction_129 (κ : Nat → Nat) (l0 : Option Nat) : q_mo (F_X0_readInstruction_129 κ l0) := (q_mo_rd fun v130 => (q_mo_rd fun _ => q_mo_ca (M_X9_hasFault κ v130) fun v133 => (q_mo_br (q_mo_rd fun v141 => (q_mo_rd fun v145 => (q_mo_wr (q_mo_rd fun _ => q_mo_ca (M_X0_readBits κ l0) fun _v154 => (q_mo_rd fun v158 => (q_mo_rd fun _ => q_mo_ca (M_X9_hasFault κ v158) fun v161 => (q_mo_br (M_X0_readInstruction_178 κ) (q_mo_rd fun v168 => (q_mo_rd fun v172 => (q_mo_rd fun _ => q_mo_ca (M_X5_addInstruction κ v168 v172) fun _v175 => (M_X0_readInstruction_178 κ))))))))))) q_mo_rt)))
set_option maxRecDepth 100000 in
set_option maxHeartbeats 4000000 in
theorem S_X0_readInstruction_129 {E : q_Ev} {Γ : q_Gm} {w : (Unit ⊕ q_Exn) × q_St} (B : q_Bd E Γ cX0_readInstruction yX0_readInstruction.cls 2 6 151 (none) yX0_readInstruction.name w) (hT : q_nT Γ) (l0 : Option Nat) (σ : q_St) (h : F_X0_readInstruction_129 (q_kap E) l0 σ = some w) : q_W E Γ (q_QF E Γ q_oV w) 2 σ 129 [(0, q_R l0)] [] := by
  have C := B.1
  unfold F_X0_readInstruction_129 at h
  refine q_aload_n (pc := 129) C 0 rfl dX0_readInstruction_129 rfl ?_
  refine q_getA (pc := 130) C dX0_readInstruction_130 ql_X0_15 h (fun v130 h => ?_)
  refine q_callV (pc := 133) (As := []) (st := []) (ps := q_psI) C B.2.1 hT q_hpI qm_X0_55 qv_X9_hasFault dX0_readInstruction_133 rfl rfl (Nat.le_of_ble_eq_true rfl) (q_flo B.2.2.1 B.2.2.2.1 (by decide) (by decide)) (K_X9_hasFault v130) (M_X9_hasFault (q_kap E) v130) (by exact fun v133 => (q_mo_br (q_mo_rd fun v141 => (q_mo_rd fun v145 => (q_mo_wr (q_mo_rd fun _ => q_mo_ca (M_X0_readBits (q_kap E) l0) fun _v154 => (q_mo_rd fun v158 => (q_mo_rd fun _ => q_mo_ca (M_X9_hasFault (q_kap E) v158) fun v161 => (q_mo_br (M_X0_readInstruction_178 (q_kap E)) (q_mo_rd fun v168 => (q_mo_rd fun v172 => (q_mo_rd fun _ => q_mo_ca (M_X5_addInstruction (q_kap E) v168 v172) fun _v175 => (M_X0_readInstruction_178 (q_kap E)))))))))))) q_mo_rt)) h (fun v133 σ h => ?_)
  refine q_W.st (st' := [q_I v133]) rfl ?_
  refine q_if_eq (pc := 136) (tgt := 140) C dX0_readInstruction_136 (by decide) h (fun _ h => ?_) (fun _ h => ?_)
  · refine q_aload_n (pc := 140) C 0 rfl dX0_readInstruction_140 rfl ?_
    refine q_getA (pc := 141) C dX0_readInstruction_141 ql_X0_15 h (fun v141 h => ?_)
    refine q_dup (pc := 144) C dX0_readInstruction_144 rfl ?_
    refine q_getI (pc := 145) C dX0_readInstruction_145 ql_X0_58 h (fun v145 h => ?_)
    refine q_iconst (pc := 148) (v := (1 : Int32)) C dX0_readInstruction_148 (by decide) ?_
    refine q_iadd (pc := 149) C dX0_readInstruction_149 ?_
    refine q_putV (pc := 150) (v := q_I (v145 + (1 : Int32))) C dX0_readInstruction_150 ql_X0_58 (Or.inl rfl) rfl rfl h (fun M150 h => ?_)
    refine q_aload_n (pc := 153) C 0 rfl dX0_readInstruction_153 rfl ?_
    refine q_callV (pc := 154) (As := []) (st := []) (ps := q_psV) C B.2.1 hT q_hpV qm_X0_196 qv_X0_readBits dX0_readInstruction_154 rfl rfl (Nat.le_of_ble_eq_true rfl) (q_flo B.2.2.1 B.2.2.2.1 (by decide) (by decide)) (K_X0_readBits l0) (M_X0_readBits (q_kap E) l0) (by exact fun _v154 => (q_mo_rd fun v158 => (q_mo_rd fun _ => q_mo_ca (M_X9_hasFault (q_kap E) v158) fun v161 => (q_mo_br (M_X0_readInstruction_178 (q_kap E)) (q_mo_rd fun v168 => (q_mo_rd fun v172 => (q_mo_rd fun _ => q_mo_ca (M_X5_addInstruction (q_kap E) v168 v172) fun _v175 => (M_X0_readInstruction_178 (q_kap E))))))))) h (fun _v154 σ h => ?_)
    refine q_W.st (st' := []) rfl ?_
    refine q_aload_n (pc := 157) C 0 rfl dX0_readInstruction_157 rfl ?_
    refine q_getA (pc := 158) C dX0_readInstruction_158 ql_X0_15 h (fun v158 h => ?_)
    refine q_callV (pc := 161) (As := []) (st := []) (ps := q_psI) C B.2.1 hT q_hpI qm_X0_55 qv_X9_hasFault dX0_readInstruction_161 rfl rfl (Nat.le_of_ble_eq_true rfl) (q_flo B.2.2.1 B.2.2.2.1 (by decide) (by decide)) (K_X9_hasFault v158) (M_X9_hasFault (q_kap E) v158) (by exact fun v161 => (q_mo_br (M_X0_readInstruction_178 (q_kap E)) (q_mo_rd fun v168 => (q_mo_rd fun v172 => (q_mo_rd fun _ => q_mo_ca (M_X5_addInstruction (q_kap E) v168 v172) fun _v175 => (M_X0_readInstruction_178 (q_kap E))))))) h (fun v161 σ h => ?_)
    refine q_W.st (st' := [q_I v161]) rfl ?_
    refine q_if_ne (pc := 164) (tgt := 178) C dX0_readInstruction_164 (by decide) h (fun _ h => ?_) (fun _ h => ?_)
    · refine q_W.sub [] rfl ?_
      exact S_X0_readInstruction_178 B hT _ h
    · refine q_aload_n (pc := 167) C 0 rfl dX0_readInstruction_167 rfl ?_
      refine q_getA (pc := 168) C dX0_readInstruction_168 ql_X0_26 h (fun v168 h => ?_)
      refine q_aload_n (pc := 171) C 0 rfl dX0_readInstruction_171 rfl ?_
      refine q_getA (pc := 172) C dX0_readInstruction_172 ql_X0_186 h (fun v172 h => ?_)
      refine q_callV (pc := 175) (As := [q_R v172]) (st := []) (ps := q_psV) C B.2.1 hT q_hpV qm_X0_199 qv_X5_addInstruction dX0_readInstruction_175 rfl rfl (Nat.le_of_ble_eq_true rfl) (q_flo B.2.2.1 B.2.2.2.1 (by decide) (by decide)) (K_X5_addInstruction v168 v172) (M_X5_addInstruction (q_kap E) v168 v172) (by exact fun _v175 => (M_X0_readInstruction_178 (q_kap E))) h (fun _v175 σ h => ?_)
      refine q_W.st (st' := []) rfl ?_
      refine q_W.sub [] rfl ?_
      exact S_X0_readInstruction_178 B hT _ h
  · exact q_vret C B.2.2.2.2.1 dX0_readInstruction_139 h
def F_X0_readInstruction_86B (κ : Nat → Nat) (r86 : Option Nat → Int32 → q_X Unit) (l0 : Option Nat) (l1 : Int32) : q_X Unit :=
  q_rd (q_gA l0 3 1) fun v88 => q_rd (q_gI v88 13 6) fun v91 => q_br (v91 < l1) (F_X0_readInstruction_129 κ l0) (q_rd (q_gA l0 3 0) fun v98 => q_rd (q_is v98 12) fun _ => q_ca (F_X9_hasFault κ v98) fun v101 => q_br (¬ v101 = 0) (F_X0_readInstruction_129 κ l0) (q_rd (q_gA l0 3 0) fun v108 => q_rd (q_is v108 12) fun _ => q_ca (F_X9_isAt κ v108 (61 : Int32)) fun v113 => q_br (¬ v113 = 0) (F_X0_readInstruction_129 κ l0) (q_rd (q_is l0 3) fun _ => q_ca (F_X0_readPart κ l0) fun _v120 => r86 l0 (l1 + (1 : Int32)))))
theorem M_X0_readInstruction_86B (κ : Nat → Nat) (r86 : Option Nat → Int32 → q_X Unit) (mr86 : ∀ (l0 : Option Nat) (l1 : Int32), q_mo (r86 l0 l1)) (l0 : Option Nat) (l1 : Int32) : q_mo (F_X0_readInstruction_86B κ r86 l0 l1) := (q_mo_rd fun v88 => (q_mo_rd fun v91 => (q_mo_br (M_X0_readInstruction_129 κ l0) (q_mo_rd fun v98 => (q_mo_rd fun _ => q_mo_ca (M_X9_hasFault κ v98) fun v101 => (q_mo_br (M_X0_readInstruction_129 κ l0) (q_mo_rd fun v108 => (q_mo_rd fun _ => q_mo_ca (M_X9_isAt κ v108 (61 : Int32)) fun v113 => (q_mo_br (M_X0_readInstruction_129 κ l0) (q_mo_rd fun _ => q_mo_ca (M_X0_readPart κ l0) fun _v120 => (mr86 l0 (l1 + (1 : Int32)))))))))))))
set_option maxRecDepth 100000 in
set_option maxHeartbeats 4000000 in
theorem S_X0_readInstruction_86B {E : q_Ev} {Γ : q_Gm} {w : (Unit ⊕ q_Exn) × q_St} (B : q_Bd E Γ cX0_readInstruction yX0_readInstruction.cls 2 6 151 (none) yX0_readInstruction.name w) (hT : q_nT Γ) (r86 : Option Nat → Int32 → q_X Unit) (hr86 : ∀ (l0 : Option Nat) (l1 : Int32) (σ : q_St), r86 l0 l1 σ = some w → q_W E Γ (q_QF E Γ q_oV w) 2 σ 86 [(0, q_R l0), (1, q_I l1)] []) (mr86 : ∀ (l0 : Option Nat) (l1 : Int32), q_mo (r86 l0 l1)) (l0 : Option Nat) (l1 : Int32) (σ : q_St) (h : F_X0_readInstruction_86B (q_kap E) r86 l0 l1 σ = some w) : q_W E Γ (q_QF E Γ q_oV w) 2 σ 86 [(0, q_R l0), (1, q_I l1)] [] := by
  have C := B.1
  unfold F_X0_readInstruction_86B at h
  refine q_iload_n (pc := 86) C 1 rfl dX0_readInstruction_86 rfl ?_
  refine q_aload_n (pc := 87) C 0 rfl dX0_readInstruction_87 rfl ?_
  refine q_getA (pc := 88) C dX0_readInstruction_88 ql_X0_25 h (fun v88 h => ?_)
  refine q_getI (pc := 91) C dX0_readInstruction_91 ql_X0_42 h (fun v91 h => ?_)
  refine q_icmp_gt (pc := 94) (tgt := 129) C dX0_readInstruction_94 (by decide) h (fun _ h => ?_) (fun _ h => ?_)
  · refine q_W.sub [0] rfl ?_
    exact S_X0_readInstruction_129 B hT l0 _ h
  · refine q_aload_n (pc := 97) C 0 rfl dX0_readInstruction_97 rfl ?_
    refine q_getA (pc := 98) C dX0_readInstruction_98 ql_X0_15 h (fun v98 h => ?_)
    refine q_callV (pc := 101) (As := []) (st := []) (ps := q_psI) C B.2.1 hT q_hpI qm_X0_55 qv_X9_hasFault dX0_readInstruction_101 rfl rfl (Nat.le_of_ble_eq_true rfl) (q_flo B.2.2.1 B.2.2.2.1 (by decide) (by decide)) (K_X9_hasFault v98) (M_X9_hasFault (q_kap E) v98) (by exact fun v101 => (q_mo_br (M_X0_readInstruction_129 (q_kap E) l0) (q_mo_rd fun v108 => (q_mo_rd fun _ => q_mo_ca (M_X9_isAt (q_kap E) v108 (61 : Int32)) fun v113 => (q_mo_br (M_X0_readInstruction_129 (q_kap E) l0) (q_mo_rd fun _ => q_mo_ca (M_X0_readPart (q_kap E) l0) fun _v120 => (mr86 l0 (l1 + (1 : Int32))))))))) h (fun v101 σ h => ?_)
    refine q_W.st (st' := [q_I v101]) rfl ?_
    refine q_if_ne (pc := 104) (tgt := 129) C dX0_readInstruction_104 (by decide) h (fun _ h => ?_) (fun _ h => ?_)
    · refine q_W.sub [0] rfl ?_
      exact S_X0_readInstruction_129 B hT l0 _ h
    · refine q_aload_n (pc := 107) C 0 rfl dX0_readInstruction_107 rfl ?_
      refine q_getA (pc := 108) C dX0_readInstruction_108 ql_X0_15 h (fun v108 h => ?_)
      refine q_bipush (pc := 111) (v := (61 : Int32)) C dX0_readInstruction_111 (by decide) ?_
      refine q_callV (pc := 113) (As := [q_I (61 : Int32)]) (st := []) (ps := q_psI) C B.2.1 hT q_hpI qm_X0_190 qv_X9_isAt dX0_readInstruction_113 rfl rfl (Nat.le_of_ble_eq_true rfl) (q_flo B.2.2.1 B.2.2.2.1 (by decide) (by decide)) (K_X9_isAt v108 (61 : Int32)) (M_X9_isAt (q_kap E) v108 (61 : Int32)) (by exact fun v113 => (q_mo_br (M_X0_readInstruction_129 (q_kap E) l0) (q_mo_rd fun _ => q_mo_ca (M_X0_readPart (q_kap E) l0) fun _v120 => (mr86 l0 (l1 + (1 : Int32)))))) h (fun v113 σ h => ?_)
      refine q_W.st (st' := [q_I v113]) rfl ?_
      refine q_if_ne (pc := 116) (tgt := 129) C dX0_readInstruction_116 (by decide) h (fun _ h => ?_) (fun _ h => ?_)
      · refine q_W.sub [0] rfl ?_
        exact S_X0_readInstruction_129 B hT l0 _ h
      · refine q_aload_n (pc := 119) C 0 rfl dX0_readInstruction_119 rfl ?_
        refine q_callV (pc := 120) (As := []) (st := []) (ps := q_psV) C B.2.1 hT q_hpV qm_X0_193 qv_X0_readPart dX0_readInstruction_120 rfl rfl (Nat.le_of_ble_eq_true rfl) (q_flo B.2.2.1 B.2.2.2.1 (by decide) (by decide)) (K_X0_readPart l0) (M_X0_readPart (q_kap E) l0) (by exact fun _v120 => (mr86 l0 (l1 + (1 : Int32)))) h (fun _v120 σ h => ?_)
        refine q_W.st (st' := []) rfl ?_
        refine q_iinc (pc := 123) (v := (1 : Int32)) (l' := [(1, q_I (l1 + (1 : Int32))), (0, q_R l0)]) C 1 rfl dX0_readInstruction_123 (by decide) (by decide) rfl ?_
        refine q_goto (pc := 126) (tgt := 86) C dX0_readInstruction_126 (by decide) ?_
        refine q_W.sub [1, 0] rfl ?_
        exact hr86 l0 (l1 + (1 : Int32)) _ h
def F_X0_readInstruction_86 (κ : Nat → Nat) : Nat → Option Nat → Int32 → q_X Unit
  | 0, _, _ => q_no
  | n + 1, l0, l1 => F_X0_readInstruction_86B κ (F_X0_readInstruction_86 κ n) l0 l1
theorem M_X0_readInstruction_86 (κ : Nat → Nat) : ∀ (n : Nat) (l0 : Option Nat) (l1 : Int32), q_mo (F_X0_readInstruction_86 κ n l0 l1)
  | 0, _, _ => q_mo_no
  | n + 1, l0, l1 => M_X0_readInstruction_86B κ (F_X0_readInstruction_86 κ n) (M_X0_readInstruction_86 κ n) l0 l1
theorem S_X0_readInstruction_86 {E : q_Ev} {Γ : q_Gm} {w : (Unit ⊕ q_Exn) × q_St} (B : q_Bd E Γ cX0_readInstruction yX0_readInstruction.cls 2 6 151 (none) yX0_readInstruction.name w) (hT : q_nT Γ) : ∀ (n : Nat) (l0 : Option Nat) (l1 : Int32) (σ : q_St), F_X0_readInstruction_86 (q_kap E) n l0 l1 σ = some w → q_W E Γ (q_QF E Γ q_oV w) 2 σ 86 [(0, q_R l0), (1, q_I l1)] []
  | 0, _, _, _, h => by cases h
  | n + 1, l0, l1, σ, h => S_X0_readInstruction_86B B hT (F_X0_readInstruction_86 (q_kap E) n) (S_X0_readInstruction_86 B hT n) (M_X0_readInstruction_86 (q_kap E) n) l0 l1 σ h
def F_X0_readInstruction (κ : Nat → Nat) (l0 : Option Nat) : q_X Unit :=
  q_rd (q_gA l0 3 0) fun v1 => q_rd (q_is v1 12) fun _ => q_ca (F_X9_isAtName κ v1) fun v4 => q_br (¬ v4 = 0) (q_rd (q_gA l0 3 2) fun v21 => q_rd (q_gI v21 8 4) fun v24 => q_br (¬ v24 = (96 : Int32)) (q_mk (.inr (.inl (4, [.null, .null, .null, .null, .null, .null, .null, .int 0, .int 0, .int 0, .int 0]))) 11 fun a43 => q_mk (.inr (.inl (10, [.null]))) 1 fun a47 => q_rd (q_gA l0 3 1) fun v52 => q_rd (q_gA l0 3 0) fun v56 => q_rd (q_gI v56 12 1) fun v59 => q_gd (¬ (some a47) = none) (q_ca (F_X7_init κ (some a47) v52 v59) fun _v62 => q_gd (¬ (some a43) = none) (q_ca (F_X1_init κ (some a43) (some a47)) fun _v65 => q_wr (q_pF l0 3 3 (va_rf (some a43))) (q_rd (q_gA l0 3 0) fun v72 => q_rd (q_gI v72 12 1) fun v76 => q_wr (q_pF v72 12 1 (.int (v76 + (1 : Int32)))) (F_X0_readInstruction_86 κ q_fu l0 (0 : Int32)))))) (q_rd (q_gA l0 3 0) fun v33 => q_rd (q_is v33 12) fun _ => q_ca (F_X9_fail κ v33 (3 : Int32)) fun v37 => q_rt ())) (q_rd (q_gA l0 3 0) fun v11 => q_rd (q_is v11 12) fun _ => q_ca (F_X9_fail κ v11 (1 : Int32)) fun v15 => q_rt ())
theorem M_X0_readInstruction (κ : Nat → Nat) (l0 : Option Nat) : q_mo (F_X0_readInstruction κ l0) := (q_mo_rd fun v1 => (q_mo_rd fun _ => q_mo_ca (M_X9_isAtName κ v1) fun v4 => (q_mo_br (q_mo_rd fun v21 => (q_mo_rd fun v24 => (q_mo_br (q_mo_mk fun a43 => (q_mo_mk fun a47 => (q_mo_rd fun v52 => (q_mo_rd fun v56 => (q_mo_rd fun v59 => (q_mo_gd (q_mo_ca (M_X7_init κ (some a47) v52 v59) fun _v62 => (q_mo_gd (q_mo_ca (M_X1_init κ (some a43) (some a47)) fun _v65 => (q_mo_wr (q_mo_rd fun v72 => (q_mo_rd fun v76 => (q_mo_wr (M_X0_readInstruction_86 κ q_fu l0 (0 : Int32))))))))))))))) (q_mo_rd fun v33 => (q_mo_rd fun _ => q_mo_ca (M_X9_fail κ v33 (3 : Int32)) fun v37 => q_mo_rt))))) (q_mo_rd fun v11 => (q_mo_rd fun _ => q_mo_ca (M_X9_fail κ v11 (1 : Int32)) fun v15 => q_mo_rt)))))
set_option maxRecDepth 100000 in
set_option maxHeartbeats 4000000 in
theorem K_X0_readInstruction {E : q_Ev} (l0 : Option Nat) : q_Ct E yX0_readInstruction (.code yX0_readInstruction cX0_readInstruction 2 (none)) 6 151 [q_R l0] q_oV (F_X0_readInstruction (q_kap E) l0) := by
  refine q_enter (by decide) (Nat.le_of_ble_eq_true rfl) (fun Γ σ w h B hT => ?_)
  have C := B.1
  unfold F_X0_readInstruction at h
  refine q_aload_n (pc := 0) C 0 rfl dX0_readInstruction_0 rfl ?_
  refine q_getA (pc := 1) C dX0_readInstruction_1 ql_X0_15 h (fun v1 h => ?_)
  refine q_callV (pc := 4) (As := []) (st := []) (ps := q_psI) C B.2.1 hT q_hpI qm_X0_117 qv_X9_isAtName dX0_readInstruction_4 rfl rfl (Nat.le_of_ble_eq_true rfl) (q_flo B.2.2.1 B.2.2.2.1 (by decide) (by decide)) (K_X9_isAtName v1) (M_X9_isAtName (q_kap E) v1) (by exact fun v4 => (q_mo_br (q_mo_rd fun v21 => (q_mo_rd fun v24 => (q_mo_br (q_mo_mk fun a43 => (q_mo_mk fun a47 => (q_mo_rd fun v52 => (q_mo_rd fun v56 => (q_mo_rd fun v59 => (q_mo_gd (q_mo_ca (M_X7_init (q_kap E) (some a47) v52 v59) fun _v62 => (q_mo_gd (q_mo_ca (M_X1_init (q_kap E) (some a43) (some a47)) fun _v65 => (q_mo_wr (q_mo_rd fun v72 => (q_mo_rd fun v76 => (q_mo_wr (M_X0_readInstruction_86 (q_kap E) q_fu l0 (0 : Int32))))))))))))))) (q_mo_rd fun v33 => (q_mo_rd fun _ => q_mo_ca (M_X9_fail (q_kap E) v33 (3 : Int32)) fun v37 => q_mo_rt))))) (q_mo_rd fun v11 => (q_mo_rd fun _ => q_mo_ca (M_X9_fail (q_kap E) v11 (1 : Int32)) fun v15 => q_mo_rt)))) h (fun v4 σ h => ?_)
  refine q_W.st (st' := [q_I v4]) rfl ?_
  refine q_if_ne (pc := 7) (tgt := 20) C dX0_readInstruction_7 (by decide) h (fun _ h => ?_) (fun _ h => ?_)
  · refine q_aload_n (pc := 20) C 0 rfl dX0_readInstruction_20 rfl ?_
    refine q_getA (pc := 21) C dX0_readInstruction_21 ql_X0_26 h (fun v21 h => ?_)
    refine q_getI (pc := 24) C dX0_readInstruction_24 ql_X0_178 h (fun v24 h => ?_)
    refine q_bipush (pc := 27) (v := (96 : Int32)) C dX0_readInstruction_27 (by decide) ?_
    refine q_icmp_ne (pc := 29) (tgt := 42) C dX0_readInstruction_29 (by decide) h (fun _ h => ?_) (fun _ h => ?_)
    · refine q_aload_n (pc := 42) C 0 rfl dX0_readInstruction_42 rfl ?_
      refine q_new (pc := 43) C dX0_readInstruction_43 qn_X0_181 (by exact fun a43 => (q_mo_mk fun a47 => (q_mo_rd fun v52 => (q_mo_rd fun v56 => (q_mo_rd fun v59 => (q_mo_gd (q_mo_ca (M_X7_init (q_kap E) (some a47) v52 v59) fun _v62 => (q_mo_gd (q_mo_ca (M_X1_init (q_kap E) (some a43) (some a47)) fun _v65 => (q_mo_wr (q_mo_rd fun v72 => (q_mo_rd fun v76 => (q_mo_wr (M_X0_readInstruction_86 (q_kap E) q_fu l0 (0 : Int32))))))))))))))) B.2.1 h (fun a43 σ h => ?_)
      refine q_dup (pc := 46) C dX0_readInstruction_46 rfl ?_
      refine q_new (pc := 47) C dX0_readInstruction_47 qn_X0_129 (by exact fun a47 => (q_mo_rd fun v52 => (q_mo_rd fun v56 => (q_mo_rd fun v59 => (q_mo_gd (q_mo_ca (M_X7_init (q_kap E) (some a47) v52 v59) fun _v62 => (q_mo_gd (q_mo_ca (M_X1_init (q_kap E) (some a43) (some a47)) fun _v65 => (q_mo_wr (q_mo_rd fun v72 => (q_mo_rd fun v76 => (q_mo_wr (M_X0_readInstruction_86 (q_kap E) q_fu l0 (0 : Int32)))))))))))))) B.2.1 h (fun a47 σ h => ?_)
      refine q_dup (pc := 50) C dX0_readInstruction_50 rfl ?_
      refine q_aload_n (pc := 51) C 0 rfl dX0_readInstruction_51 rfl ?_
      refine q_getA (pc := 52) C dX0_readInstruction_52 ql_X0_25 h (fun v52 h => ?_)
      refine q_aload_n (pc := 55) C 0 rfl dX0_readInstruction_55 rfl ?_
      refine q_getA (pc := 56) C dX0_readInstruction_56 ql_X0_15 h (fun v56 h => ?_)
      refine q_getI (pc := 59) C dX0_readInstruction_59 ql_X0_58 h (fun v59 h => ?_)
      refine q_callI (pc := 62) (As := [q_R v52, q_I v59]) (st := [q_R (some a47), q_R (some a43), q_R (some a43), q_R l0]) C B.2.1 (fun _ => rfl) qm_X0_131 qI_X7_init dX0_readInstruction_62 rfl rfl (Nat.le_of_ble_eq_true rfl) (q_flo B.2.2.1 B.2.2.2.1 (by decide) (by decide)) (K_X7_init (some a47) v52 v59) (M_X7_init (q_kap E) (some a47) v52 v59) (N_X7_init (q_kap E) (some a47) v52 v59) (by exact fun _v62 => (q_mo_gd (q_mo_ca (M_X1_init (q_kap E) (some a43) (some a47)) fun _v65 => (q_mo_wr (q_mo_rd fun v72 => (q_mo_rd fun v76 => (q_mo_wr (M_X0_readInstruction_86 (q_kap E) q_fu l0 (0 : Int32))))))))) h (fun _v62 σ h => ?_)
      refine q_callI (pc := 65) (As := [q_R (some a47)]) (st := [q_R (some a43), q_R l0]) C B.2.1 (fun _ => rfl) qm_X0_183 qI_X1_init dX0_readInstruction_65 rfl rfl (Nat.le_of_ble_eq_true rfl) (q_flo B.2.2.1 B.2.2.2.1 (by decide) (by decide)) (K_X1_init (some a43) (some a47)) (M_X1_init (q_kap E) (some a43) (some a47)) (N_X1_init (q_kap E) (some a43) (some a47)) (by exact fun _v65 => (q_mo_wr (q_mo_rd fun v72 => (q_mo_rd fun v76 => (q_mo_wr (M_X0_readInstruction_86 (q_kap E) q_fu l0 (0 : Int32))))))) h (fun _v65 σ h => ?_)
      refine q_putV (pc := 68) (v := q_R (some a43)) C dX0_readInstruction_68 ql_X0_186 (Or.inl rfl) q_nfO q_nfO' h (fun M68 h => ?_)
      refine q_aload_n (pc := 71) C 0 rfl dX0_readInstruction_71 rfl ?_
      refine q_getA (pc := 72) C dX0_readInstruction_72 ql_X0_15 h (fun v72 h => ?_)
      refine q_dup (pc := 75) C dX0_readInstruction_75 rfl ?_
      refine q_getI (pc := 76) C dX0_readInstruction_76 ql_X0_58 h (fun v76 h => ?_)
      refine q_iconst (pc := 79) (v := (1 : Int32)) C dX0_readInstruction_79 (by decide) ?_
      refine q_iadd (pc := 80) C dX0_readInstruction_80 ?_
      refine q_putV (pc := 81) (v := q_I (v76 + (1 : Int32))) C dX0_readInstruction_81 ql_X0_58 (Or.inl rfl) rfl rfl h (fun M81 h => ?_)
      refine q_iconst (pc := 84) (v := (0 : Int32)) C dX0_readInstruction_84 (by decide) ?_
      refine q_istore_n (pc := 85) (l' := [(1, q_I (0 : Int32)), (0, q_R l0)]) C dX0_readInstruction_85 rfl (by decide) rfl ?_
      refine q_W.sub [1, 0] rfl ?_
      exact S_X0_readInstruction_86 B hT q_fu l0 (0 : Int32) _ h
    · refine q_aload_n (pc := 32) C 0 rfl dX0_readInstruction_32 rfl ?_
      refine q_getA (pc := 33) C dX0_readInstruction_33 ql_X0_15 h (fun v33 h => ?_)
      refine q_iconst (pc := 36) (v := (3 : Int32)) C dX0_readInstruction_36 (by decide) ?_
      refine q_callV (pc := 37) (As := [q_I (3 : Int32)]) (st := []) (ps := q_psI) C B.2.1 hT q_hpI qm_X0_67 qv_X9_fail dX0_readInstruction_37 rfl rfl (Nat.le_of_ble_eq_true rfl) (q_flo B.2.2.1 B.2.2.2.1 (by decide) (by decide)) (K_X9_fail v33 (3 : Int32)) (M_X9_fail (q_kap E) v33 (3 : Int32)) (by exact fun v37 => q_mo_rt) h (fun v37 σ h => ?_)
      refine q_W.st (st' := [q_I v37]) rfl ?_
      refine q_pop (pc := 40) C dX0_readInstruction_40 rfl ?_
      exact q_vret C B.2.2.2.2.1 dX0_readInstruction_41 h
  · refine q_aload_n (pc := 10) C 0 rfl dX0_readInstruction_10 rfl ?_
    refine q_getA (pc := 11) C dX0_readInstruction_11 ql_X0_15 h (fun v11 h => ?_)
    refine q_iconst (pc := 14) (v := (1 : Int32)) C dX0_readInstruction_14 (by decide) ?_
    refine q_callV (pc := 15) (As := [q_I (1 : Int32)]) (st := []) (ps := q_psI) C B.2.1 hT q_hpI qm_X0_67 qv_X9_fail dX0_readInstruction_15 rfl rfl (Nat.le_of_ble_eq_true rfl) (q_flo B.2.2.1 B.2.2.2.1 (by decide) (by decide)) (K_X9_fail v11 (1 : Int32)) (M_X9_fail (q_kap E) v11 (1 : Int32)) (by exact fun v15 => q_mo_rt) h (fun v15 σ h => ?_)
    refine q_W.st (st' := [q_I v15]) rfl ?_
    refine q_pop (pc := 18) C dX0_readInstruction_18 rfl ?_
    exact q_vret C B.2.2.2.2.1 dX0_readInstruction_19 h
def F_J3_checkIndex_8e157_9 (κ : Nat → Nat) (l0 : Int32) (l1 : Int32) (l2 : Option Nat) : q_X Int32 :=
  q_no
theorem M_J3_checkIndex_8e157_9 (κ : Nat → Nat) (l0 : Int32) (l1 : Int32) (l2 : Option Nat) : q_mo (F_J3_checkIndex_8e157_9 κ l0 l1 l2) := q_mo_no
theorem N_J3_checkIndex_8e157_9 (κ : Nat → Nat) (l0 : Int32) (l1 : Int32) (l2 : Option Nat) : q_ni (F_J3_checkIndex_8e157_9 κ l0 l1 l2) := q_ni_no
set_option maxRecDepth 100000 in
set_option maxHeartbeats 4000000 in
theorem S_J3_checkIndex_8e157_9 {E : q_Ev} {Γ : q_Gm} {w : (Int32 ⊕ q_Exn) × q_St} (B : q_Bd E Γ cJ3_checkIndex_8e157 yJ3_checkIndex_8e157.cls 3 0 0 (some .int) yJ3_checkIndex_8e157.name w) (hT : q_nT Γ) (l0 : Int32) (l1 : Int32) (l2 : Option Nat) (σ : q_St) (h : F_J3_checkIndex_8e157_9 (q_kap E) l0 l1 l2 σ = some w) : q_W E Γ (q_QF E Γ q_oI w) 3 σ 9 [(0, q_I l0), (1, q_I l1), (2, q_R l2)] [] := by
  have C := B.1
  unfold F_J3_checkIndex_8e157_9 at h
  refine q_aload_n (pc := 9) C 2 rfl dJ3_checkIndex_8e157_9 rfl ?_
  refine q_iload_n (pc := 10) C 0 rfl dJ3_checkIndex_8e157_10 rfl ?_
  refine q_iload_n (pc := 11) C 1 rfl dJ3_checkIndex_8e157_11 rfl ?_
  cases h
def F_J3_checkIndex_8e157 (κ : Nat → Nat) (l0 : Int32) (l1 : Int32) (l2 : Option Nat) : q_X Int32 :=
  q_br (l0 < 0) (F_J3_checkIndex_8e157_9 κ l0 l1 l2) (q_br (l0 < l1) (q_rt l0) (F_J3_checkIndex_8e157_9 κ l0 l1 l2))
theorem M_J3_checkIndex_8e157 (κ : Nat → Nat) (l0 : Int32) (l1 : Int32) (l2 : Option Nat) : q_mo (F_J3_checkIndex_8e157 κ l0 l1 l2) := (q_mo_br (M_J3_checkIndex_8e157_9 κ l0 l1 l2) (q_mo_br q_mo_rt (M_J3_checkIndex_8e157_9 κ l0 l1 l2)))
theorem N_J3_checkIndex_8e157 (κ : Nat → Nat) (l0 : Int32) (l1 : Int32) (l2 : Option Nat) : q_ni (F_J3_checkIndex_8e157 κ l0 l1 l2) := (q_ni_br (N_J3_checkIndex_8e157_9 κ l0 l1 l2) (q_ni_br q_ni_rt (N_J3_checkIndex_8e157_9 κ l0 l1 l2)))
set_option maxRecDepth 100000 in
set_option maxHeartbeats 4000000 in
theorem K_J3_checkIndex_8e157 {E : q_Ev} (l0 : Int32) (l1 : Int32) (l2 : Option Nat) : q_Ct E yJ3_checkIndex_8e157 (.code yJ3_checkIndex_8e157 cJ3_checkIndex_8e157 3 (some .int)) 0 0 [q_I l0, q_I l1, q_R l2] q_oI (F_J3_checkIndex_8e157 (q_kap E) l0 l1 l2) := by
  refine q_enter (by decide) (Nat.le_of_ble_eq_true rfl) (fun Γ σ w h B hT => ?_)
  have C := B.1
  unfold F_J3_checkIndex_8e157 at h
  refine q_iload_n (pc := 0) C 0 rfl dJ3_checkIndex_8e157_0 rfl ?_
  refine q_if_lt (pc := 1) (tgt := 9) C dJ3_checkIndex_8e157_1 (by decide) h (fun _ h => ?_) (fun _ h => ?_)
  · exact S_J3_checkIndex_8e157_9 B hT l0 l1 l2 _ h
  · refine q_iload_n (pc := 4) C 0 rfl dJ3_checkIndex_8e157_4 rfl ?_
    refine q_iload_n (pc := 5) C 1 rfl dJ3_checkIndex_8e157_5 rfl ?_
    refine q_icmp_lt (pc := 6) (tgt := 16) C dJ3_checkIndex_8e157_6 (by decide) h (fun _ h => ?_) (fun _ h => ?_)
    · refine q_iload_n (pc := 16) C 0 rfl dJ3_checkIndex_8e157_16 rfl ?_
      exact q_iret C B.2.2.2.2.1 dJ3_checkIndex_8e157_17 h
    · exact S_J3_checkIndex_8e157_9 B hT l0 l1 l2 _ h
def F_J0_checkIndex_df160 (κ : Nat → Nat) (l0 : Int32) (l1 : Int32) : q_X Unit :=
  q_ca (F_J3_checkIndex_8e157 κ l0 l1 (q_on (κ 95))) fun v5 => q_rt ()
theorem M_J0_checkIndex_df160 (κ : Nat → Nat) (l0 : Int32) (l1 : Int32) : q_mo (F_J0_checkIndex_df160 κ l0 l1) := (q_mo_ca (M_J3_checkIndex_8e157 κ l0 l1 (q_on (κ 95))) fun v5 => q_mo_rt)
theorem N_J0_checkIndex_df160 (κ : Nat → Nat) (l0 : Int32) (l1 : Int32) : q_ni (F_J0_checkIndex_df160 κ l0 l1) := (q_ni_ca (N_J3_checkIndex_8e157 κ l0 l1 (q_on (κ 95))) fun v5 => q_ni_rt)
set_option maxRecDepth 100000 in
set_option maxHeartbeats 4000000 in
theorem K_J0_checkIndex_df160 {E : q_Ev} (l0 : Int32) (l1 : Int32) : q_Ct E yJ0_checkIndex_df160 (.code yJ0_checkIndex_df160 cJ0_checkIndex_df160 2 (none)) 1 22 [q_I l0, q_I l1] q_oV (F_J0_checkIndex_df160 (q_kap E) l0 l1) := by
  refine q_enter (by decide) (Nat.le_of_ble_eq_true rfl) (fun Γ σ w h B hT => ?_)
  have C := B.1
  unfold F_J0_checkIndex_df160 at h
  refine q_iload_n (pc := 0) C 0 rfl dJ0_checkIndex_df160_0 rfl ?_
  refine q_iload_n (pc := 1) C 1 rfl dJ0_checkIndex_df160_1 rfl ?_
  refine q_getsF (pc := 2) C dJ0_checkIndex_df160_2 qz_J0_1053 ?_
  refine q_callS (pc := 5) (As := [q_I l0, q_I l1, q_R (q_on ((q_kap E) 95))]) (st := []) (ps := q_psI) C B.2.1 hT q_hpI qm_J0_1059 qs_J3_checkIndex_8e157 dJ0_checkIndex_df160_5 rfl rfl (Nat.le_of_ble_eq_true rfl) (q_flo B.2.2.1 B.2.2.2.1 (by decide) (by decide)) (K_J3_checkIndex_8e157 l0 l1 (q_on ((q_kap E) 95))) (M_J3_checkIndex_8e157 (q_kap E) l0 l1 (q_on ((q_kap E) 95))) (by exact fun v5 => q_mo_rt) h (fun v5 σ h => ?_)
  refine q_W.st (st' := [q_I v5]) rfl ?_
  refine q_pop (pc := 8) C dJ0_checkIndex_df160_8 rfl ?_
  exact q_vret C B.2.2.2.2.1 dJ0_checkIndex_df160_9 h
def F_J1_charAt_3b067 (κ : Nat → Nat) (l0 : Option Nat) (l1 : Int32) : q_X Int32 :=
  q_rd (q_sp l0 1) fun v2 => q_ca (F_J0_checkIndex_df160 κ l1 (nI (q_tx.getD v2 []).length)) fun _v3 => q_rd (q_lS l0 l1) fun v8 => q_rc (((v8 &&& (255 : Int32)).toUInt32 % 65536).toInt32)
theorem M_J1_charAt_3b067 (κ : Nat → Nat) (l0 : Option Nat) (l1 : Int32) : q_mo (F_J1_charAt_3b067 κ l0 l1) := (q_mo_rd fun v2 => (q_mo_ca (M_J0_checkIndex_df160 κ l1 (nI (q_tx.getD v2 []).length)) fun _v3 => (q_mo_rd fun v8 => q_mo_rc)))
set_option maxRecDepth 100000 in
set_option maxHeartbeats 4000000 in
theorem K_J1_charAt_3b067 {E : q_Ev} (l0 : Option Nat) (l1 : Int32) : q_Ct E yJ1_charAt_3b067 (.code yJ1_charAt_3b067 cJ1_charAt_3b067 2 (some .char)) 2 43 [q_R l0, q_I l1] q_oI (F_J1_charAt_3b067 (q_kap E) l0 l1) := by
  refine q_enter (by decide) (Nat.le_of_ble_eq_true rfl) (fun Γ σ w h B hT => ?_)
  have C := B.1
  unfold F_J1_charAt_3b067 at h
  refine q_iload_n (pc := 0) C 1 rfl dJ1_charAt_3b067_0 rfl ?_
  refine q_aload_n (pc := 1) C 0 rfl dJ1_charAt_3b067_1 rfl ?_
  refine q_lenS (pc := 2) C dJ1_charAt_3b067_2 h (fun v2 h => ?_)
  refine q_callS (pc := 3) (As := [q_I l1, q_I (nI (q_tx.getD v2 []).length)]) (st := []) (ps := q_psV) C B.2.1 hT q_hpV qm_J1_9 qs_J0_checkIndex_df160 dJ1_charAt_3b067_3 rfl rfl (Nat.le_of_ble_eq_true rfl) (q_flo B.2.2.1 B.2.2.2.1 (by decide) (by decide)) (K_J0_checkIndex_df160 l1 (nI (q_tx.getD v2 []).length)) (M_J0_checkIndex_df160 (q_kap E) l1 (nI (q_tx.getD v2 []).length)) (by exact fun _v3 => (q_mo_rd fun v8 => q_mo_rc)) h (fun _v3 σ h => ?_)
  refine q_W.st (st' := []) rfl ?_
  refine q_aload_n (pc := 6) C 0 rfl dJ1_charAt_3b067_6 rfl ?_
  refine q_iload_n (pc := 7) C 1 rfl dJ1_charAt_3b067_7 rfl ?_
  refine q_ldS (pc := 8) C dJ1_charAt_3b067_8 h (fun v8 h => ?_)
  refine q_sipush (pc := 9) (v := (255 : Int32)) C dJ1_charAt_3b067_9 (by decide) ?_
  refine q_iand (pc := 12) C dJ1_charAt_3b067_12 ?_
  refine q_i2c (pc := 13) C dJ1_charAt_3b067_13 ?_
  exact q_cret C B.2.2.2.2.1 dJ1_charAt_3b067_14 h
def F_J0_charAt_5068e (κ : Nat → Nat) (l0 : Option Nat) (l1 : Int32) : q_X Int32 :=
  q_rd (q_sp l0 0) fun _ => q_ca (F_J0_isLatin1_aae02 κ l0) fun v1 => q_br (v1 = 0) (q_rd (q_sp l0 0) fun v17 => q_no) (q_rd (q_sp l0 0) fun v8 => q_ca (F_J1_charAt_3b067 κ (some (κ (200 + v8))) l1) fun v12 => q_rc v12)
theorem M_J0_charAt_5068e (κ : Nat → Nat) (l0 : Option Nat) (l1 : Int32) : q_mo (F_J0_charAt_5068e κ l0 l1) := (q_mo_rd fun _ => q_mo_ca (M_J0_isLatin1_aae02 κ l0) fun v1 => (q_mo_br (q_mo_rd fun v17 => q_mo_no) (q_mo_rd fun v8 => (q_mo_ca (M_J1_charAt_3b067 κ (some (κ (200 + v8))) l1) fun v12 => q_mo_rc))))
set_option maxRecDepth 100000 in
set_option maxHeartbeats 4000000 in
theorem K_J0_charAt_5068e {E : q_Ev} (l0 : Option Nat) (l1 : Int32) : q_Ct E yJ0_charAt_5068e (.code yJ0_charAt_5068e cJ0_charAt_5068e 2 (some .char)) 3 64 [q_R l0, q_I l1] q_oI (F_J0_charAt_5068e (q_kap E) l0 l1) := by
  refine q_enter (by decide) (Nat.le_of_ble_eq_true rfl) (fun Γ σ w h B hT => ?_)
  have C := B.1
  unfold F_J0_charAt_5068e at h
  refine q_aload_n (pc := 0) C 0 rfl dJ0_charAt_5068e_0 rfl ?_
  refine q_callVS (pc := 1) (As := []) (st := []) (ps := q_psI) C B.2.1 hT q_hpI qm_J0_492 qv_J0_isLatin1_aae02 dJ0_charAt_5068e_1 rfl rfl (Nat.le_of_ble_eq_true rfl) (q_flo B.2.2.1 B.2.2.2.1 (by decide) (by decide)) (K_J0_isLatin1_aae02 l0) (M_J0_isLatin1_aae02 (q_kap E) l0) (by exact fun v1 => (q_mo_br (q_mo_rd fun v17 => q_mo_no) (q_mo_rd fun v8 => (q_mo_ca (M_J1_charAt_3b067 (q_kap E) (some ((q_kap E) (200 + v8))) l1) fun v12 => q_mo_rc)))) h (fun v1 σ h => ?_)
  refine q_W.st (st' := [q_I v1]) rfl ?_
  refine q_if_eq (pc := 4) (tgt := 16) C dJ0_charAt_5068e_4 (by decide) h (fun _ h => ?_) (fun _ h => ?_)
  · refine q_aload_n (pc := 16) C 0 rfl dJ0_charAt_5068e_16 rfl ?_
    refine q_getSv (pc := 17) C dJ0_charAt_5068e_17 qz_J0_9 h (fun v17 h => ?_)
    refine q_iload_n (pc := 20) C 1 rfl dJ0_charAt_5068e_20 rfl ?_
    cases h
  · refine q_aload_n (pc := 7) C 0 rfl dJ0_charAt_5068e_7 rfl ?_
    refine q_getSv (pc := 8) C dJ0_charAt_5068e_8 qz_J0_9 h (fun v8 h => ?_)
    refine q_iload_n (pc := 11) C 1 rfl dJ0_charAt_5068e_11 rfl ?_
    refine q_callS (pc := 12) (As := [q_R (some ((q_kap E) (200 + v8))), q_I l1]) (st := []) (ps := q_psI) C B.2.1 hT q_hpI qm_J0_495 qs_J1_charAt_3b067 dJ0_charAt_5068e_12 rfl rfl (Nat.le_of_ble_eq_true rfl) (q_flo B.2.2.1 B.2.2.2.1 (by decide) (by decide)) (K_J1_charAt_3b067 (some ((q_kap E) (200 + v8))) l1) (M_J1_charAt_3b067 (q_kap E) (some ((q_kap E) (200 + v8))) l1) (by exact fun v12 => q_mo_rc) h (fun v12 σ h => ?_)
    refine q_W.st (st' := [q_I v12]) rfl ?_
    exact q_cret C B.2.2.2.2.1 dJ0_charAt_5068e_15 h
def F_X10_says_30 (κ : Nat → Nat) : q_X Int32 :=
  q_rz (0 : Int32)
theorem M_X10_says_30 (κ : Nat → Nat) : q_mo (F_X10_says_30 κ) := q_mo_rz
set_option maxRecDepth 100000 in
set_option maxHeartbeats 4000000 in
theorem S_X10_says_30 {E : q_Ev} {Γ : q_Gm} {w : (Int32 ⊕ q_Exn) × q_St} (B : q_Bd E Γ cX10_says yX10_says.cls 4 4 85 (some .boolean) yX10_says.name w) (hT : q_nT Γ) (σ : q_St) (h : F_X10_says_30 (q_kap E) σ = some w) : q_W E Γ (q_QF E Γ q_oI w) 4 σ 30 [] [] := by
  have C := B.1
  unfold F_X10_says_30 at h
  refine q_iconst (pc := 30) (v := (0 : Int32)) C dX10_says_30 (by decide) ?_
  exact q_zret C B.2.2.2.2.1 dX10_says_31 h
def F_X10_says_34B (κ : Nat → Nat) (r34 : Option Nat → Int32 → Option Nat → Int32 → q_X Int32) (l0 : Option Nat) (l1 : Int32) (l2 : Option Nat) (l3 : Int32) : q_X Int32 :=
  q_rd (q_sp l2 0) fun _ => q_ca (F_J0_length_8abf5 κ l2) fun v36 => q_br (v36 ≤ l3) (q_rz (1 : Int32)) (q_rd (q_gA l0 13 0) fun v43 => q_rd (q_gA l0 13 2) fun v47 => q_rd (q_lI 1 v47 l1) fun v51 => q_rd (q_lI 0 v43 (v51 + l3)) fun v54 => q_rd (q_sp l2 0) fun _ => q_ca (F_J0_charAt_5068e κ l2 l3) fun v57 => q_br (v54 = v57) (r34 l0 l1 l2 (l3 + (1 : Int32))) (q_rz (0 : Int32)))
theorem M_X10_says_34B (κ : Nat → Nat) (r34 : Option Nat → Int32 → Option Nat → Int32 → q_X Int32) (mr34 : ∀ (l0 : Option Nat) (l1 : Int32) (l2 : Option Nat) (l3 : Int32), q_mo (r34 l0 l1 l2 l3)) (l0 : Option Nat) (l1 : Int32) (l2 : Option Nat) (l3 : Int32) : q_mo (F_X10_says_34B κ r34 l0 l1 l2 l3) := (q_mo_rd fun _ => q_mo_ca (M_J0_length_8abf5 κ l2) fun v36 => (q_mo_br q_mo_rz (q_mo_rd fun v43 => (q_mo_rd fun v47 => (q_mo_rd fun v51 => (q_mo_rd fun v54 => (q_mo_rd fun _ => q_mo_ca (M_J0_charAt_5068e κ l2 l3) fun v57 => (q_mo_br (mr34 l0 l1 l2 (l3 + (1 : Int32))) q_mo_rz))))))))
set_option maxRecDepth 100000 in
set_option maxHeartbeats 4000000 in
theorem S_X10_says_34B {E : q_Ev} {Γ : q_Gm} {w : (Int32 ⊕ q_Exn) × q_St} (B : q_Bd E Γ cX10_says yX10_says.cls 4 4 85 (some .boolean) yX10_says.name w) (hT : q_nT Γ) (r34 : Option Nat → Int32 → Option Nat → Int32 → q_X Int32) (hr34 : ∀ (l0 : Option Nat) (l1 : Int32) (l2 : Option Nat) (l3 : Int32) (σ : q_St), r34 l0 l1 l2 l3 σ = some w → q_W E Γ (q_QF E Γ q_oI w) 4 σ 34 [(0, q_R l0), (1, q_I l1), (2, q_R l2), (3, q_I l3)] []) (mr34 : ∀ (l0 : Option Nat) (l1 : Int32) (l2 : Option Nat) (l3 : Int32), q_mo (r34 l0 l1 l2 l3)) (l0 : Option Nat) (l1 : Int32) (l2 : Option Nat) (l3 : Int32) (σ : q_St) (h : F_X10_says_34B (q_kap E) r34 l0 l1 l2 l3 σ = some w) : q_W E Γ (q_QF E Γ q_oI w) 4 σ 34 [(0, q_R l0), (1, q_I l1), (2, q_R l2), (3, q_I l3)] [] := by
  have C := B.1
  unfold F_X10_says_34B at h
  refine q_iload_n (pc := 34) C 3 rfl dX10_says_34 rfl ?_
  refine q_aload_n (pc := 35) C 2 rfl dX10_says_35 rfl ?_
  refine q_callVS (pc := 36) (As := []) (st := [q_I l3]) (ps := q_psI) C B.2.1 hT q_hpI qm_X10_89 qv_J0_length_8abf5 dX10_says_36 rfl rfl (Nat.le_of_ble_eq_true rfl) (q_flo B.2.2.1 B.2.2.2.1 (by decide) (by decide)) (K_J0_length_8abf5 l2) (M_J0_length_8abf5 (q_kap E) l2) (by exact fun v36 => (q_mo_br q_mo_rz (q_mo_rd fun v43 => (q_mo_rd fun v47 => (q_mo_rd fun v51 => (q_mo_rd fun v54 => (q_mo_rd fun _ => q_mo_ca (M_J0_charAt_5068e (q_kap E) l2 l3) fun v57 => (q_mo_br (mr34 l0 l1 l2 (l3 + (1 : Int32))) q_mo_rz)))))))) h (fun v36 σ h => ?_)
  refine q_W.st (st' := [q_I v36, q_I l3]) rfl ?_
  refine q_icmp_ge (pc := 39) (tgt := 71) C dX10_says_39 (by decide) h (fun _ h => ?_) (fun _ h => ?_)
  · refine q_iconst (pc := 71) (v := (1 : Int32)) C dX10_says_71 (by decide) ?_
    exact q_zret C B.2.2.2.2.1 dX10_says_72 h
  · refine q_aload_n (pc := 42) C 0 rfl dX10_says_42 rfl ?_
    refine q_getA (pc := 43) C dX10_says_43 ql_X10_9 h (fun v43 h => ?_)
    refine q_aload_n (pc := 46) C 0 rfl dX10_says_46 rfl ?_
    refine q_getA (pc := 47) C dX10_says_47 ql_X10_18 h (fun v47 h => ?_)
    refine q_iload_n (pc := 50) C 1 rfl dX10_says_50 rfl ?_
    refine q_ldI (pc := 51) C dX10_says_51 (Or.inr (Or.inl ⟨rfl, rfl⟩)) h (fun v51 h => ?_)
    refine q_iload_n (pc := 52) C 3 rfl dX10_says_52 rfl ?_
    refine q_iadd (pc := 53) C dX10_says_53 ?_
    refine q_ldI (pc := 54) C dX10_says_54 (Or.inl ⟨rfl, rfl⟩) h (fun v54 h => ?_)
    refine q_aload_n (pc := 55) C 2 rfl dX10_says_55 rfl ?_
    refine q_iload_n (pc := 56) C 3 rfl dX10_says_56 rfl ?_
    refine q_callVS (pc := 57) (As := [q_I l3]) (st := [q_I v54]) (ps := q_psI) C B.2.1 hT q_hpI qm_X10_93 qv_J0_charAt_5068e dX10_says_57 rfl rfl (Nat.le_of_ble_eq_true rfl) (q_flo B.2.2.1 B.2.2.2.1 (by decide) (by decide)) (K_J0_charAt_5068e l2 l3) (M_J0_charAt_5068e (q_kap E) l2 l3) (by exact fun v57 => (q_mo_br (mr34 l0 l1 l2 (l3 + (1 : Int32))) q_mo_rz)) h (fun v57 σ h => ?_)
    refine q_W.st (st' := [q_I v57, q_I v54]) rfl ?_
    refine q_icmp_eq (pc := 60) (tgt := 65) C dX10_says_60 (by decide) h (fun _ h => ?_) (fun _ h => ?_)
    · refine q_iinc (pc := 65) (v := (1 : Int32)) (l' := [(3, q_I (l3 + (1 : Int32))), (0, q_R l0), (1, q_I l1), (2, q_R l2)]) C 3 rfl dX10_says_65 (by decide) (by decide) rfl ?_
      refine q_goto (pc := 68) (tgt := 34) C dX10_says_68 (by decide) ?_
      refine q_W.sub [1, 2, 3, 0] rfl ?_
      exact hr34 l0 l1 l2 (l3 + (1 : Int32)) _ h
    · refine q_iconst (pc := 63) (v := (0 : Int32)) C dX10_says_63 (by decide) ?_
      exact q_zret C B.2.2.2.2.1 dX10_says_64 h
def F_X10_says_34 (κ : Nat → Nat) : Nat → Option Nat → Int32 → Option Nat → Int32 → q_X Int32
  | 0, _, _, _, _ => q_no
  | n + 1, l0, l1, l2, l3 => F_X10_says_34B κ (F_X10_says_34 κ n) l0 l1 l2 l3
theorem M_X10_says_34 (κ : Nat → Nat) : ∀ (n : Nat) (l0 : Option Nat) (l1 : Int32) (l2 : Option Nat) (l3 : Int32), q_mo (F_X10_says_34 κ n l0 l1 l2 l3)
  | 0, _, _, _, _ => q_mo_no
  | n + 1, l0, l1, l2, l3 => M_X10_says_34B κ (F_X10_says_34 κ n) (M_X10_says_34 κ n) l0 l1 l2 l3
theorem S_X10_says_34 {E : q_Ev} {Γ : q_Gm} {w : (Int32 ⊕ q_Exn) × q_St} (B : q_Bd E Γ cX10_says yX10_says.cls 4 4 85 (some .boolean) yX10_says.name w) (hT : q_nT Γ) : ∀ (n : Nat) (l0 : Option Nat) (l1 : Int32) (l2 : Option Nat) (l3 : Int32) (σ : q_St), F_X10_says_34 (q_kap E) n l0 l1 l2 l3 σ = some w → q_W E Γ (q_QF E Γ q_oI w) 4 σ 34 [(0, q_R l0), (1, q_I l1), (2, q_R l2), (3, q_I l3)] []
  | 0, _, _, _, _, _, h => by cases h
  | n + 1, l0, l1, l2, l3, σ, h => S_X10_says_34B B hT (F_X10_says_34 (q_kap E) n) (S_X10_says_34 B hT n) (M_X10_says_34 (q_kap E) n) l0 l1 l2 l3 σ h
def F_X10_says (κ : Nat → Nat) (l0 : Option Nat) (l1 : Int32) (l2 : Option Nat) : q_X Int32 :=
  q_rd (q_gA l0 13 1) fun v1 => q_rd (q_lI 0 v1 l1) fun v5 => q_br (¬ v5 = (1 : Int32)) (F_X10_says_30 κ) (q_rd (q_gA l0 13 3) fun v11 => q_rd (q_lI 1 v11 l1) fun v15 => q_rd (q_gA l0 13 2) fun v17 => q_rd (q_lI 1 v17 l1) fun v21 => q_rd (q_sp l2 0) fun _ => q_ca (F_J0_length_8abf5 κ l2) fun v24 => q_br ((v15 - v21) = v24) (F_X10_says_34 κ q_fu l0 l1 l2 (0 : Int32)) (F_X10_says_30 κ))
theorem M_X10_says (κ : Nat → Nat) (l0 : Option Nat) (l1 : Int32) (l2 : Option Nat) : q_mo (F_X10_says κ l0 l1 l2) := (q_mo_rd fun v1 => (q_mo_rd fun v5 => (q_mo_br (M_X10_says_30 κ) (q_mo_rd fun v11 => (q_mo_rd fun v15 => (q_mo_rd fun v17 => (q_mo_rd fun v21 => (q_mo_rd fun _ => q_mo_ca (M_J0_length_8abf5 κ l2) fun v24 => (q_mo_br (M_X10_says_34 κ q_fu l0 l1 l2 (0 : Int32)) (M_X10_says_30 κ))))))))))
set_option maxRecDepth 100000 in
set_option maxHeartbeats 4000000 in
theorem K_X10_says {E : q_Ev} (l0 : Option Nat) (l1 : Int32) (l2 : Option Nat) : q_Ct E yX10_says (.code yX10_says cX10_says 4 (some .boolean)) 4 85 [q_R l0, q_I l1, q_R l2] q_oI (F_X10_says (q_kap E) l0 l1 l2) := by
  refine q_enter (by decide) (Nat.le_of_ble_eq_true rfl) (fun Γ σ w h B hT => ?_)
  have C := B.1
  unfold F_X10_says at h
  refine q_aload_n (pc := 0) C 0 rfl dX10_says_0 rfl ?_
  refine q_getA (pc := 1) C dX10_says_1 ql_X10_15 h (fun v1 h => ?_)
  refine q_iload_n (pc := 4) C 1 rfl dX10_says_4 rfl ?_
  refine q_ldI (pc := 5) C dX10_says_5 (Or.inl ⟨rfl, rfl⟩) h (fun v5 h => ?_)
  refine q_iconst (pc := 6) (v := (1 : Int32)) C dX10_says_6 (by decide) ?_
  refine q_icmp_ne (pc := 7) (tgt := 30) C dX10_says_7 (by decide) h (fun _ h => ?_) (fun _ h => ?_)
  · refine q_W.sub [] rfl ?_
    exact S_X10_says_30 B hT _ h
  · refine q_aload_n (pc := 10) C 0 rfl dX10_says_10 rfl ?_
    refine q_getA (pc := 11) C dX10_says_11 ql_X10_22 h (fun v11 h => ?_)
    refine q_iload_n (pc := 14) C 1 rfl dX10_says_14 rfl ?_
    refine q_ldI (pc := 15) C dX10_says_15 (Or.inr (Or.inl ⟨rfl, rfl⟩)) h (fun v15 h => ?_)
    refine q_aload_n (pc := 16) C 0 rfl dX10_says_16 rfl ?_
    refine q_getA (pc := 17) C dX10_says_17 ql_X10_18 h (fun v17 h => ?_)
    refine q_iload_n (pc := 20) C 1 rfl dX10_says_20 rfl ?_
    refine q_ldI (pc := 21) C dX10_says_21 (Or.inr (Or.inl ⟨rfl, rfl⟩)) h (fun v21 h => ?_)
    refine q_isub (pc := 22) C dX10_says_22 ?_
    refine q_aload_n (pc := 23) C 2 rfl dX10_says_23 rfl ?_
    refine q_callVS (pc := 24) (As := []) (st := [q_I (v15 - v21)]) (ps := q_psI) C B.2.1 hT q_hpI qm_X10_89 qv_J0_length_8abf5 dX10_says_24 rfl rfl (Nat.le_of_ble_eq_true rfl) (q_flo B.2.2.1 B.2.2.2.1 (by decide) (by decide)) (K_J0_length_8abf5 l2) (M_J0_length_8abf5 (q_kap E) l2) (by exact fun v24 => (q_mo_br (M_X10_says_34 (q_kap E) q_fu l0 l1 l2 (0 : Int32)) (M_X10_says_30 (q_kap E)))) h (fun v24 σ h => ?_)
    refine q_W.st (st' := [q_I v24, q_I (v15 - v21)]) rfl ?_
    refine q_icmp_eq (pc := 27) (tgt := 32) C dX10_says_27 (by decide) h (fun _ h => ?_) (fun _ h => ?_)
    · refine q_iconst (pc := 32) (v := (0 : Int32)) C dX10_says_32 (by decide) ?_
      refine q_istore_n (pc := 33) (l' := [(3, q_I (0 : Int32)), (0, q_R l0), (1, q_I l1), (2, q_R l2)]) C dX10_says_33 rfl (by decide) rfl ?_
      refine q_W.sub [1, 2, 3, 0] rfl ?_
      exact S_X10_says_34 B hT q_fu l0 l1 l2 (0 : Int32) _ h
    · refine q_W.sub [] rfl ?_
      exact S_X10_says_30 B hT _ h
def F_X0_sortOf_78 (κ : Nat → Nat) (s0 : Int32) : q_X Int32 :=
  q_rt s0
theorem M_X0_sortOf_78 (κ : Nat → Nat) (s0 : Int32) : q_mo (F_X0_sortOf_78 κ s0) := q_mo_rt
theorem N_X0_sortOf_78 (κ : Nat → Nat) (s0 : Int32) : q_ni (F_X0_sortOf_78 κ s0) := q_ni_rt
set_option maxRecDepth 100000 in
set_option maxHeartbeats 4000000 in
theorem S_X0_sortOf_78 {E : q_Ev} {Γ : q_Gm} {w : (Int32 ⊕ q_Exn) × q_St} (B : q_Bd E Γ cX0_sortOf yX0_sortOf.cls 2 5 108 (some .int) yX0_sortOf.name w) (hT : q_nT Γ) (s0 : Int32) (σ : q_St) (h : F_X0_sortOf_78 (q_kap E) s0 σ = some w) : q_W E Γ (q_QF E Γ q_oI w) 2 σ 78 [] [q_I s0] := by
  have C := B.1
  unfold F_X0_sortOf_78 at h
  exact q_iret C B.2.2.2.2.1 dX0_sortOf_78 h
def F_X0_sortOf (κ : Nat → Nat) (l0 : Option Nat) (l1 : Int32) : q_X Int32 :=
  q_rd (q_gA l0 3 1) fun v1 => q_rd (q_is v1 13) fun _ => q_ca (F_X10_says κ v1 l1 (some (κ 4))) fun v7 => q_br (v7 = 0) (q_rd (q_gA l0 3 1) fun v16 => q_rd (q_is v16 13) fun _ => q_ca (F_X10_says κ v16 l1 (some (κ 5))) fun v22 => q_br (v22 = 0) (q_rd (q_gA l0 3 1) fun v31 => q_rd (q_is v31 13) fun _ => q_ca (F_X10_says κ v31 l1 (some (κ 6))) fun v37 => q_br (v37 = 0) (q_rd (q_gA l0 3 1) fun v46 => q_rd (q_is v46 13) fun _ => q_ca (F_X10_says κ v46 l1 (some (κ 7))) fun v52 => q_br (v52 = 0) (q_rd (q_gA l0 3 1) fun v61 => q_rd (q_is v61 13) fun _ => q_ca (F_X10_says κ v61 l1 (some (κ 8))) fun v67 => q_br (v67 = 0) (F_X0_sortOf_78 κ (-1 : Int32)) (F_X0_sortOf_78 κ (4 : Int32))) (q_rt (3 : Int32))) (q_rt (2 : Int32))) (q_rt (1 : Int32))) (q_rt (0 : Int32))
theorem M_X0_sortOf (κ : Nat → Nat) (l0 : Option Nat) (l1 : Int32) : q_mo (F_X0_sortOf κ l0 l1) := (q_mo_rd fun v1 => (q_mo_rd fun _ => q_mo_ca (M_X10_says κ v1 l1 (some (κ 4))) fun v7 => (q_mo_br (q_mo_rd fun v16 => (q_mo_rd fun _ => q_mo_ca (M_X10_says κ v16 l1 (some (κ 5))) fun v22 => (q_mo_br (q_mo_rd fun v31 => (q_mo_rd fun _ => q_mo_ca (M_X10_says κ v31 l1 (some (κ 6))) fun v37 => (q_mo_br (q_mo_rd fun v46 => (q_mo_rd fun _ => q_mo_ca (M_X10_says κ v46 l1 (some (κ 7))) fun v52 => (q_mo_br (q_mo_rd fun v61 => (q_mo_rd fun _ => q_mo_ca (M_X10_says κ v61 l1 (some (κ 8))) fun v67 => (q_mo_br (M_X0_sortOf_78 κ (-1 : Int32)) (M_X0_sortOf_78 κ (4 : Int32))))) q_mo_rt))) q_mo_rt))) q_mo_rt))) q_mo_rt)))
set_option maxRecDepth 100000 in
set_option maxHeartbeats 4000000 in
theorem K_X0_sortOf {E : q_Ev} (l0 : Option Nat) (l1 : Int32) : q_Ct E yX0_sortOf (.code yX0_sortOf cX0_sortOf 2 (some .int)) 5 108 [q_R l0, q_I l1] q_oI (F_X0_sortOf (q_kap E) l0 l1) := by
  refine q_enter (by decide) (Nat.le_of_ble_eq_true rfl) (fun Γ σ w h B hT => ?_)
  have C := B.1
  unfold F_X0_sortOf at h
  refine q_aload_n (pc := 0) C 0 rfl dX0_sortOf_0 rfl ?_
  refine q_getA (pc := 1) C dX0_sortOf_1 ql_X0_25 h (fun v1 h => ?_)
  refine q_iload_n (pc := 4) C 1 rfl dX0_sortOf_4 rfl ?_
  refine q_ldcT (pc := 5) (k := 4) (tx := "reg") C dX0_sortOf_5 (by decide +kernel) (by decide) ?_
  refine q_callV (pc := 7) (As := [q_I l1, q_R (some ((q_kap E) 4))]) (st := []) (ps := q_psI) C B.2.1 hT q_hpI qm_X0_63 qv_X10_says dX0_sortOf_7 rfl rfl (Nat.le_of_ble_eq_true rfl) (q_flo B.2.2.1 B.2.2.2.1 (by decide) (by decide)) (K_X10_says v1 l1 (some ((q_kap E) 4))) (M_X10_says (q_kap E) v1 l1 (some ((q_kap E) 4))) (by exact fun v7 => (q_mo_br (q_mo_rd fun v16 => (q_mo_rd fun _ => q_mo_ca (M_X10_says (q_kap E) v16 l1 (some ((q_kap E) 5))) fun v22 => (q_mo_br (q_mo_rd fun v31 => (q_mo_rd fun _ => q_mo_ca (M_X10_says (q_kap E) v31 l1 (some ((q_kap E) 6))) fun v37 => (q_mo_br (q_mo_rd fun v46 => (q_mo_rd fun _ => q_mo_ca (M_X10_says (q_kap E) v46 l1 (some ((q_kap E) 7))) fun v52 => (q_mo_br (q_mo_rd fun v61 => (q_mo_rd fun _ => q_mo_ca (M_X10_says (q_kap E) v61 l1 (some ((q_kap E) 8))) fun v67 => (q_mo_br (M_X0_sortOf_78 (q_kap E) (-1 : Int32)) (M_X0_sortOf_78 (q_kap E) (4 : Int32))))) q_mo_rt))) q_mo_rt))) q_mo_rt))) q_mo_rt)) h (fun v7 σ h => ?_)
  refine q_W.st (st' := [q_I v7]) rfl ?_
  refine q_if_eq (pc := 10) (tgt := 15) C dX0_sortOf_10 (by decide) h (fun _ h => ?_) (fun _ h => ?_)
  · refine q_aload_n (pc := 15) C 0 rfl dX0_sortOf_15 rfl ?_
    refine q_getA (pc := 16) C dX0_sortOf_16 ql_X0_25 h (fun v16 h => ?_)
    refine q_iload_n (pc := 19) C 1 rfl dX0_sortOf_19 rfl ?_
    refine q_ldcT (pc := 20) (k := 5) (tx := "num") C dX0_sortOf_20 (by decide +kernel) (by decide) ?_
    refine q_callV (pc := 22) (As := [q_I l1, q_R (some ((q_kap E) 5))]) (st := []) (ps := q_psI) C B.2.1 hT q_hpI qm_X0_63 qv_X10_says dX0_sortOf_22 rfl rfl (Nat.le_of_ble_eq_true rfl) (q_flo B.2.2.1 B.2.2.2.1 (by decide) (by decide)) (K_X10_says v16 l1 (some ((q_kap E) 5))) (M_X10_says (q_kap E) v16 l1 (some ((q_kap E) 5))) (by exact fun v22 => (q_mo_br (q_mo_rd fun v31 => (q_mo_rd fun _ => q_mo_ca (M_X10_says (q_kap E) v31 l1 (some ((q_kap E) 6))) fun v37 => (q_mo_br (q_mo_rd fun v46 => (q_mo_rd fun _ => q_mo_ca (M_X10_says (q_kap E) v46 l1 (some ((q_kap E) 7))) fun v52 => (q_mo_br (q_mo_rd fun v61 => (q_mo_rd fun _ => q_mo_ca (M_X10_says (q_kap E) v61 l1 (some ((q_kap E) 8))) fun v67 => (q_mo_br (M_X0_sortOf_78 (q_kap E) (-1 : Int32)) (M_X0_sortOf_78 (q_kap E) (4 : Int32))))) q_mo_rt))) q_mo_rt))) q_mo_rt)) h (fun v22 σ h => ?_)
    refine q_W.st (st' := [q_I v22]) rfl ?_
    refine q_if_eq (pc := 25) (tgt := 30) C dX0_sortOf_25 (by decide) h (fun _ h => ?_) (fun _ h => ?_)
    · refine q_aload_n (pc := 30) C 0 rfl dX0_sortOf_30 rfl ?_
      refine q_getA (pc := 31) C dX0_sortOf_31 ql_X0_25 h (fun v31 h => ?_)
      refine q_iload_n (pc := 34) C 1 rfl dX0_sortOf_34 rfl ?_
      refine q_ldcT (pc := 35) (k := 6) (tx := "int") C dX0_sortOf_35 (by decide +kernel) (by decide) ?_
      refine q_callV (pc := 37) (As := [q_I l1, q_R (some ((q_kap E) 6))]) (st := []) (ps := q_psI) C B.2.1 hT q_hpI qm_X0_63 qv_X10_says dX0_sortOf_37 rfl rfl (Nat.le_of_ble_eq_true rfl) (q_flo B.2.2.1 B.2.2.2.1 (by decide) (by decide)) (K_X10_says v31 l1 (some ((q_kap E) 6))) (M_X10_says (q_kap E) v31 l1 (some ((q_kap E) 6))) (by exact fun v37 => (q_mo_br (q_mo_rd fun v46 => (q_mo_rd fun _ => q_mo_ca (M_X10_says (q_kap E) v46 l1 (some ((q_kap E) 7))) fun v52 => (q_mo_br (q_mo_rd fun v61 => (q_mo_rd fun _ => q_mo_ca (M_X10_says (q_kap E) v61 l1 (some ((q_kap E) 8))) fun v67 => (q_mo_br (M_X0_sortOf_78 (q_kap E) (-1 : Int32)) (M_X0_sortOf_78 (q_kap E) (4 : Int32))))) q_mo_rt))) q_mo_rt)) h (fun v37 σ h => ?_)
      refine q_W.st (st' := [q_I v37]) rfl ?_
      refine q_if_eq (pc := 40) (tgt := 45) C dX0_sortOf_40 (by decide) h (fun _ h => ?_) (fun _ h => ?_)
      · refine q_aload_n (pc := 45) C 0 rfl dX0_sortOf_45 rfl ?_
        refine q_getA (pc := 46) C dX0_sortOf_46 ql_X0_25 h (fun v46 h => ?_)
        refine q_iload_n (pc := 49) C 1 rfl dX0_sortOf_49 rfl ?_
        refine q_ldcT (pc := 50) (k := 7) (tx := "rel") C dX0_sortOf_50 (by decide +kernel) (by decide) ?_
        refine q_callV (pc := 52) (As := [q_I l1, q_R (some ((q_kap E) 7))]) (st := []) (ps := q_psI) C B.2.1 hT q_hpI qm_X0_63 qv_X10_says dX0_sortOf_52 rfl rfl (Nat.le_of_ble_eq_true rfl) (q_flo B.2.2.1 B.2.2.2.1 (by decide) (by decide)) (K_X10_says v46 l1 (some ((q_kap E) 7))) (M_X10_says (q_kap E) v46 l1 (some ((q_kap E) 7))) (by exact fun v52 => (q_mo_br (q_mo_rd fun v61 => (q_mo_rd fun _ => q_mo_ca (M_X10_says (q_kap E) v61 l1 (some ((q_kap E) 8))) fun v67 => (q_mo_br (M_X0_sortOf_78 (q_kap E) (-1 : Int32)) (M_X0_sortOf_78 (q_kap E) (4 : Int32))))) q_mo_rt)) h (fun v52 σ h => ?_)
        refine q_W.st (st' := [q_I v52]) rfl ?_
        refine q_if_eq (pc := 55) (tgt := 60) C dX0_sortOf_55 (by decide) h (fun _ h => ?_) (fun _ h => ?_)
        · refine q_aload_n (pc := 60) C 0 rfl dX0_sortOf_60 rfl ?_
          refine q_getA (pc := 61) C dX0_sortOf_61 ql_X0_25 h (fun v61 h => ?_)
          refine q_iload_n (pc := 64) C 1 rfl dX0_sortOf_64 rfl ?_
          refine q_ldcT (pc := 65) (k := 8) (tx := "set") C dX0_sortOf_65 (by decide +kernel) (by decide) ?_
          refine q_callV (pc := 67) (As := [q_I l1, q_R (some ((q_kap E) 8))]) (st := []) (ps := q_psI) C B.2.1 hT q_hpI qm_X0_63 qv_X10_says dX0_sortOf_67 rfl rfl (Nat.le_of_ble_eq_true rfl) (q_flo B.2.2.1 B.2.2.2.1 (by decide) (by decide)) (K_X10_says v61 l1 (some ((q_kap E) 8))) (M_X10_says (q_kap E) v61 l1 (some ((q_kap E) 8))) (by exact fun v67 => (q_mo_br (M_X0_sortOf_78 (q_kap E) (-1 : Int32)) (M_X0_sortOf_78 (q_kap E) (4 : Int32)))) h (fun v67 σ h => ?_)
          refine q_W.st (st' := [q_I v67]) rfl ?_
          refine q_if_eq (pc := 70) (tgt := 77) C dX0_sortOf_70 (by decide) h (fun _ h => ?_) (fun _ h => ?_)
          · refine q_iconst (pc := 77) (v := (-1 : Int32)) C dX0_sortOf_77 (by decide) ?_
            refine q_W.sub [] rfl ?_
            exact S_X0_sortOf_78 B hT (-1 : Int32) _ h
          · refine q_iconst (pc := 73) (v := (4 : Int32)) C dX0_sortOf_73 (by decide) ?_
            refine q_goto (pc := 74) (tgt := 78) C dX0_sortOf_74 (by decide) ?_
            refine q_W.sub [] rfl ?_
            exact S_X0_sortOf_78 B hT (4 : Int32) _ h
        · refine q_iconst (pc := 58) (v := (3 : Int32)) C dX0_sortOf_58 (by decide) ?_
          exact q_iret C B.2.2.2.2.1 dX0_sortOf_59 h
      · refine q_iconst (pc := 43) (v := (2 : Int32)) C dX0_sortOf_43 (by decide) ?_
        exact q_iret C B.2.2.2.2.1 dX0_sortOf_44 h
    · refine q_iconst (pc := 28) (v := (1 : Int32)) C dX0_sortOf_28 (by decide) ?_
      exact q_iret C B.2.2.2.2.1 dX0_sortOf_29 h
  · refine q_iconst (pc := 13) (v := (0 : Int32)) C dX0_sortOf_13 (by decide) ?_
    exact q_iret C B.2.2.2.2.1 dX0_sortOf_14 h
def F_X0_readStatement_70 (κ : Nat → Nat) : q_X Unit :=
  q_rt ()
theorem M_X0_readStatement_70 (κ : Nat → Nat) : q_mo (F_X0_readStatement_70 κ) := q_mo_rt
theorem N_X0_readStatement_70 (κ : Nat → Nat) : q_ni (F_X0_readStatement_70 κ) := q_ni_rt
set_option maxRecDepth 100000 in
set_option maxHeartbeats 4000000 in
theorem S_X0_readStatement_70 {E : q_Ev} {Γ : q_Gm} {w : (Unit ⊕ q_Exn) × q_St} (B : q_Bd E Γ cX0_readStatement yX0_readStatement.cls 3 7 173 (none) yX0_readStatement.name w) (hT : q_nT Γ) (σ : q_St) (h : F_X0_readStatement_70 (q_kap E) σ = some w) : q_W E Γ (q_QF E Γ q_oV w) 3 σ 70 [] [] := by
  have C := B.1
  unfold F_X0_readStatement_70 at h
  exact q_vret C B.2.2.2.2.1 dX0_readStatement_70 h
def F_X0_readStatement_41 (κ : Nat → Nat) (l0 : Option Nat) (l2 : Int32) : q_X Unit :=
  q_rd (q_gA l0 3 0) fun v42 => q_rd (q_gI v42 12 1) fun v46 => q_wr (q_pF v42 12 1 (.int (v46 + (1 : Int32)))) (q_br (0 ≤ l2) (q_rd (q_is l0 3) fun _ => q_ca (F_X0_readKind κ l0 l2) fun _v67 => F_X0_readStatement_70 κ) (q_rd (q_is l0 3) fun _ => q_ca (F_X0_readInstruction κ l0) fun _v59 => F_X0_readStatement_70 κ))
theorem M_X0_readStatement_41 (κ : Nat → Nat) (l0 : Option Nat) (l2 : Int32) : q_mo (F_X0_readStatement_41 κ l0 l2) := (q_mo_rd fun v42 => (q_mo_rd fun v46 => (q_mo_wr (q_mo_br (q_mo_rd fun _ => q_mo_ca (M_X0_readKind κ l0 l2) fun _v67 => (M_X0_readStatement_70 κ)) (q_mo_rd fun _ => q_mo_ca (M_X0_readInstruction κ l0) fun _v59 => (M_X0_readStatement_70 κ))))))
set_option maxRecDepth 100000 in
set_option maxHeartbeats 4000000 in
theorem S_X0_readStatement_41 {E : q_Ev} {Γ : q_Gm} {w : (Unit ⊕ q_Exn) × q_St} (B : q_Bd E Γ cX0_readStatement yX0_readStatement.cls 3 7 173 (none) yX0_readStatement.name w) (hT : q_nT Γ) (l0 : Option Nat) (l2 : Int32) (σ : q_St) (h : F_X0_readStatement_41 (q_kap E) l0 l2 σ = some w) : q_W E Γ (q_QF E Γ q_oV w) 3 σ 41 [(0, q_R l0), (2, q_I l2)] [] := by
  have C := B.1
  unfold F_X0_readStatement_41 at h
  refine q_aload_n (pc := 41) C 0 rfl dX0_readStatement_41 rfl ?_
  refine q_getA (pc := 42) C dX0_readStatement_42 ql_X0_15 h (fun v42 h => ?_)
  refine q_dup (pc := 45) C dX0_readStatement_45 rfl ?_
  refine q_getI (pc := 46) C dX0_readStatement_46 ql_X0_58 h (fun v46 h => ?_)
  refine q_iconst (pc := 49) (v := (1 : Int32)) C dX0_readStatement_49 (by decide) ?_
  refine q_iadd (pc := 50) C dX0_readStatement_50 ?_
  refine q_putV (pc := 51) (v := q_I (v46 + (1 : Int32))) C dX0_readStatement_51 ql_X0_58 (Or.inl rfl) rfl rfl h (fun M51 h => ?_)
  refine q_iload_n (pc := 54) C 1 rfl dX0_readStatement_54 rfl ?_
  refine q_if_ge (pc := 55) (tgt := 65) C dX0_readStatement_55 (by decide) h (fun _ h => ?_) (fun _ h => ?_)
  · refine q_aload_n (pc := 65) C 0 rfl dX0_readStatement_65 rfl ?_
    refine q_iload_n (pc := 66) C 1 rfl dX0_readStatement_66 rfl ?_
    refine q_callV (pc := 67) (As := [q_I l2]) (st := []) (ps := q_psV) C B.2.1 hT q_hpV qm_X0_103 qv_X0_readKind dX0_readStatement_67 rfl rfl (Nat.le_of_ble_eq_true rfl) (q_flo B.2.2.1 B.2.2.2.1 (by decide) (by decide)) (K_X0_readKind l0 l2) (M_X0_readKind (q_kap E) l0 l2) (by exact fun _v67 => (M_X0_readStatement_70 (q_kap E))) h (fun _v67 σ h => ?_)
    refine q_W.st (st' := []) rfl ?_
    refine q_W.sub [] rfl ?_
    exact S_X0_readStatement_70 B hT _ h
  · refine q_aload_n (pc := 58) C 0 rfl dX0_readStatement_58 rfl ?_
    refine q_callV (pc := 59) (As := []) (st := []) (ps := q_psV) C B.2.1 hT q_hpV qm_X0_100 qv_X0_readInstruction dX0_readStatement_59 rfl rfl (Nat.le_of_ble_eq_true rfl) (q_flo B.2.2.1 B.2.2.2.1 (by decide) (by decide)) (K_X0_readInstruction l0) (M_X0_readInstruction (q_kap E) l0) (by exact fun _v59 => (M_X0_readStatement_70 (q_kap E))) h (fun _v59 σ h => ?_)
    refine q_W.st (st' := []) rfl ?_
    refine q_goto (pc := 62) (tgt := 70) C dX0_readStatement_62 (by decide) ?_
    refine q_W.sub [] rfl ?_
    exact S_X0_readStatement_70 B hT _ h
def F_X0_readStatement (κ : Nat → Nat) (l0 : Option Nat) : q_X Unit :=
  q_rd (q_gA l0 3 0) fun v1 => q_rd (q_gI v1 12 1) fun v4 => q_rd (q_is l0 3) fun _ => q_ca (F_X0_sortOf κ l0 v4) fun v10 => q_br (0 ≤ v10) (F_X0_readStatement_41 κ l0 v10) (q_rd (q_gA l0 3 1) fun v19 => q_rd (q_is v19 13) fun _ => q_ca (F_X10_says κ v19 v4 (some (κ 9))) fun v25 => q_br (¬ v25 = 0) (F_X0_readStatement_41 κ l0 v10) (q_rd (q_gA l0 3 0) fun v32 => q_rd (q_is v32 12) fun _ => q_ca (F_X9_fail κ v32 (1 : Int32)) fun v36 => q_rt ()))
theorem M_X0_readStatement (κ : Nat → Nat) (l0 : Option Nat) : q_mo (F_X0_readStatement κ l0) := (q_mo_rd fun v1 => (q_mo_rd fun v4 => (q_mo_rd fun _ => q_mo_ca (M_X0_sortOf κ l0 v4) fun v10 => (q_mo_br (M_X0_readStatement_41 κ l0 v10) (q_mo_rd fun v19 => (q_mo_rd fun _ => q_mo_ca (M_X10_says κ v19 v4 (some (κ 9))) fun v25 => (q_mo_br (M_X0_readStatement_41 κ l0 v10) (q_mo_rd fun v32 => (q_mo_rd fun _ => q_mo_ca (M_X9_fail κ v32 (1 : Int32)) fun v36 => q_mo_rt)))))))))
set_option maxRecDepth 100000 in
set_option maxHeartbeats 4000000 in
theorem K_X0_readStatement {E : q_Ev} (l0 : Option Nat) : q_Ct E yX0_readStatement (.code yX0_readStatement cX0_readStatement 3 (none)) 7 173 [q_R l0] q_oV (F_X0_readStatement (q_kap E) l0) := by
  refine q_enter (by decide) (Nat.le_of_ble_eq_true rfl) (fun Γ σ w h B hT => ?_)
  have C := B.1
  unfold F_X0_readStatement at h
  refine q_aload_n (pc := 0) C 0 rfl dX0_readStatement_0 rfl ?_
  refine q_getA (pc := 1) C dX0_readStatement_1 ql_X0_15 h (fun v1 h => ?_)
  refine q_getI (pc := 4) C dX0_readStatement_4 ql_X0_58 h (fun v4 h => ?_)
  refine q_istore_n (pc := 7) (l' := [(1, q_I v4), (0, q_R l0)]) C dX0_readStatement_7 rfl (by decide) rfl ?_
  refine q_aload_n (pc := 8) C 1 rfl dX0_readStatement_8 rfl ?_
  refine q_iload_n (pc := 9) C 0 rfl dX0_readStatement_9 rfl ?_
  refine q_callV (pc := 10) (As := [q_I v4]) (st := []) (ps := q_psI) C B.2.1 hT q_hpI qm_X0_94 qv_X0_sortOf dX0_readStatement_10 rfl rfl (Nat.le_of_ble_eq_true rfl) (q_flo B.2.2.1 B.2.2.2.1 (by decide) (by decide)) (K_X0_sortOf l0 v4) (M_X0_sortOf (q_kap E) l0 v4) (by exact fun v10 => (q_mo_br (M_X0_readStatement_41 (q_kap E) l0 v10) (q_mo_rd fun v19 => (q_mo_rd fun _ => q_mo_ca (M_X10_says (q_kap E) v19 v4 (some ((q_kap E) 9))) fun v25 => (q_mo_br (M_X0_readStatement_41 (q_kap E) l0 v10) (q_mo_rd fun v32 => (q_mo_rd fun _ => q_mo_ca (M_X9_fail (q_kap E) v32 (1 : Int32)) fun v36 => q_mo_rt))))))) h (fun v10 σ h => ?_)
  refine q_W.st (st' := [q_I v10]) rfl ?_
  refine q_istore_n (pc := 13) (l' := [(2, q_I v10), (1, q_I v4), (0, q_R l0)]) C dX0_readStatement_13 rfl (by decide) rfl ?_
  refine q_iload_n (pc := 14) C 0 rfl dX0_readStatement_14 rfl ?_
  refine q_if_ge (pc := 15) (tgt := 41) C dX0_readStatement_15 (by decide) h (fun _ h => ?_) (fun _ h => ?_)
  · refine q_W.sub [2, 0] rfl ?_
    exact S_X0_readStatement_41 B hT l0 v10 _ h
  · refine q_aload_n (pc := 18) C 2 rfl dX0_readStatement_18 rfl ?_
    refine q_getA (pc := 19) C dX0_readStatement_19 ql_X0_25 h (fun v19 h => ?_)
    refine q_iload_n (pc := 22) C 1 rfl dX0_readStatement_22 rfl ?_
    refine q_ldcT (pc := 23) (k := 9) (tx := "ins") C dX0_readStatement_23 (by decide +kernel) (by decide) ?_
    refine q_callV (pc := 25) (As := [q_I v4, q_R (some ((q_kap E) 9))]) (st := []) (ps := q_psI) C B.2.1 hT q_hpI qm_X0_63 qv_X10_says dX0_readStatement_25 rfl rfl (Nat.le_of_ble_eq_true rfl) (q_flo B.2.2.1 B.2.2.2.1 (by decide) (by decide)) (K_X10_says v19 v4 (some ((q_kap E) 9))) (M_X10_says (q_kap E) v19 v4 (some ((q_kap E) 9))) (by exact fun v25 => (q_mo_br (M_X0_readStatement_41 (q_kap E) l0 v10) (q_mo_rd fun v32 => (q_mo_rd fun _ => q_mo_ca (M_X9_fail (q_kap E) v32 (1 : Int32)) fun v36 => q_mo_rt)))) h (fun v25 σ h => ?_)
    refine q_W.st (st' := [q_I v25]) rfl ?_
    refine q_if_ne (pc := 28) (tgt := 41) C dX0_readStatement_28 (by decide) h (fun _ h => ?_) (fun _ h => ?_)
    · refine q_W.sub [2, 0] rfl ?_
      exact S_X0_readStatement_41 B hT l0 v10 _ h
    · refine q_aload_n (pc := 31) C 2 rfl dX0_readStatement_31 rfl ?_
      refine q_getA (pc := 32) C dX0_readStatement_32 ql_X0_15 h (fun v32 h => ?_)
      refine q_iconst (pc := 35) (v := (1 : Int32)) C dX0_readStatement_35 (by decide) ?_
      refine q_callV (pc := 36) (As := [q_I (1 : Int32)]) (st := []) (ps := q_psI) C B.2.1 hT q_hpI qm_X0_67 qv_X9_fail dX0_readStatement_36 rfl rfl (Nat.le_of_ble_eq_true rfl) (q_flo B.2.2.1 B.2.2.2.1 (by decide) (by decide)) (K_X9_fail v32 (1 : Int32)) (M_X9_fail (q_kap E) v32 (1 : Int32)) (by exact fun v36 => q_mo_rt) h (fun v36 σ h => ?_)
      refine q_W.st (st' := [q_I v36]) rfl ?_
      refine q_pop (pc := 39) C dX0_readStatement_39 rfl ?_
      exact q_vret C B.2.2.2.2.1 dX0_readStatement_40 h
def F_X10_addToken (κ : Nat → Nat) (l0 : Option Nat) (l1 : Int32) (l2 : Int32) (l3 : Int32) (l4 : Int64) : q_X Unit :=
  q_rd (q_gA l0 13 1) fun v1 => q_rd (q_gI l0 13 6) fun v5 => q_wr (q_sI 0 v1 v5 (vp_nar .byte l1.toInt8.toInt32)) (q_rd (q_gA l0 13 2) fun v12 => q_rd (q_gI l0 13 6) fun v16 => q_wr (q_sI 1 v12 v16 l2) (q_rd (q_gA l0 13 3) fun v22 => q_rd (q_gI l0 13 6) fun v26 => q_wr (q_sI 1 v22 v26 l3) (q_rd (q_gA l0 13 4) fun v32 => q_rd (q_gI l0 13 6) fun v36 => q_wr (q_sL v32 v36 l4) (q_rd (q_gI l0 13 6) fun v44 => q_wr (q_pF l0 13 6 (.int (v44 + (1 : Int32)))) (q_rt ())))))
theorem M_X10_addToken (κ : Nat → Nat) (l0 : Option Nat) (l1 : Int32) (l2 : Int32) (l3 : Int32) (l4 : Int64) : q_mo (F_X10_addToken κ l0 l1 l2 l3 l4) := (q_mo_rd fun v1 => (q_mo_rd fun v5 => (q_mo_wr (q_mo_rd fun v12 => (q_mo_rd fun v16 => (q_mo_wr (q_mo_rd fun v22 => (q_mo_rd fun v26 => (q_mo_wr (q_mo_rd fun v32 => (q_mo_rd fun v36 => (q_mo_wr (q_mo_rd fun v44 => (q_mo_wr q_mo_rt))))))))))))))
theorem N_X10_addToken (κ : Nat → Nat) (l0 : Option Nat) (l1 : Int32) (l2 : Int32) (l3 : Int32) (l4 : Int64) : q_ni (F_X10_addToken κ l0 l1 l2 l3 l4) := (q_ni_rd fun v1 => (q_ni_rd fun v5 => (q_ni_wr (q_ni_rd fun v12 => (q_ni_rd fun v16 => (q_ni_wr (q_ni_rd fun v22 => (q_ni_rd fun v26 => (q_ni_wr (q_ni_rd fun v32 => (q_ni_rd fun v36 => (q_ni_wr (q_ni_rd fun v44 => (q_ni_wr q_ni_rt))))))))))))))
set_option maxRecDepth 100000 in
set_option maxHeartbeats 4000000 in
theorem K_X10_addToken {E : q_Ev} (l0 : Option Nat) (l1 : Int32) (l2 : Int32) (l3 : Int32) (l4 : Int64) : q_Ct E yX10_addToken (.code yX10_addToken cX10_addToken 6 (none)) 0 0 [q_R l0, q_I l1, q_I l2, q_I l3, q_L l4] q_oV (F_X10_addToken (q_kap E) l0 l1 l2 l3 l4) := by
  refine q_enter (by decide) (Nat.le_of_ble_eq_true rfl) (fun Γ σ w h B hT => ?_)
  have C := B.1
  unfold F_X10_addToken at h
  refine q_aload_n (pc := 0) C 0 rfl dX10_addToken_0 rfl ?_
  refine q_getA (pc := 1) C dX10_addToken_1 ql_X10_15 h (fun v1 h => ?_)
  refine q_aload_n (pc := 4) C 0 rfl dX10_addToken_4 rfl ?_
  refine q_getI (pc := 5) C dX10_addToken_5 ql_X10_37 h (fun v5 h => ?_)
  refine q_iload_n (pc := 8) C 1 rfl dX10_addToken_8 rfl ?_
  refine q_i2b (pc := 9) C dX10_addToken_9 ?_
  refine q_stB (pc := 10) C dX10_addToken_10 h (fun M10 h => ?_)
  refine q_aload_n (pc := 11) C 0 rfl dX10_addToken_11 rfl ?_
  refine q_getA (pc := 12) C dX10_addToken_12 ql_X10_18 h (fun v12 h => ?_)
  refine q_aload_n (pc := 15) C 0 rfl dX10_addToken_15 rfl ?_
  refine q_getI (pc := 16) C dX10_addToken_16 ql_X10_37 h (fun v16 h => ?_)
  refine q_iload_n (pc := 19) C 2 rfl dX10_addToken_19 rfl ?_
  refine q_stI (pc := 20) C dX10_addToken_20 h (fun M20 h => ?_)
  refine q_aload_n (pc := 21) C 0 rfl dX10_addToken_21 rfl ?_
  refine q_getA (pc := 22) C dX10_addToken_22 ql_X10_22 h (fun v22 h => ?_)
  refine q_aload_n (pc := 25) C 0 rfl dX10_addToken_25 rfl ?_
  refine q_getI (pc := 26) C dX10_addToken_26 ql_X10_37 h (fun v26 h => ?_)
  refine q_iload_n (pc := 29) C 3 rfl dX10_addToken_29 rfl ?_
  refine q_stI (pc := 30) C dX10_addToken_30 h (fun M30 h => ?_)
  refine q_aload_n (pc := 31) C 0 rfl dX10_addToken_31 rfl ?_
  refine q_getA (pc := 32) C dX10_addToken_32 ql_X10_25 h (fun v32 h => ?_)
  refine q_aload_n (pc := 35) C 0 rfl dX10_addToken_35 rfl ?_
  refine q_getI (pc := 36) C dX10_addToken_36 ql_X10_37 h (fun v36 h => ?_)
  refine q_lload (pc := 39) C 4 rfl dX10_addToken_39 ?_
  refine q_stL (pc := 41) C dX10_addToken_41 h (fun M41 h => ?_)
  refine q_aload_n (pc := 42) C 0 rfl dX10_addToken_42 rfl ?_
  refine q_dup (pc := 43) C dX10_addToken_43 rfl ?_
  refine q_getI (pc := 44) C dX10_addToken_44 ql_X10_37 h (fun v44 h => ?_)
  refine q_iconst (pc := 47) (v := (1 : Int32)) C dX10_addToken_47 (by decide) ?_
  refine q_iadd (pc := 48) C dX10_addToken_48 ?_
  refine q_putV (pc := 49) (v := q_I (v44 + (1 : Int32))) C dX10_addToken_49 ql_X10_37 (Or.inl rfl) rfl rfl h (fun M49 h => ?_)
  exact q_vret C B.2.2.2.2.1 dX10_addToken_52 h
def F_X10_isDigit_17 (κ : Nat → Nat) (s0 : Int32) : q_X Int32 :=
  q_rz s0
theorem M_X10_isDigit_17 (κ : Nat → Nat) (s0 : Int32) : q_mo (F_X10_isDigit_17 κ s0) := q_mo_rz
set_option maxRecDepth 100000 in
set_option maxHeartbeats 4000000 in
theorem S_X10_isDigit_17 {E : q_Ev} {Γ : q_Gm} {w : (Int32 ⊕ q_Exn) × q_St} (B : q_Bd E Γ cX10_isDigit yX10_isDigit.cls 1 0 0 (some .boolean) yX10_isDigit.name w) (hT : q_nT Γ) (s0 : Int32) (σ : q_St) (h : F_X10_isDigit_17 (q_kap E) s0 σ = some w) : q_W E Γ (q_QF E Γ q_oI w) 1 σ 17 [] [q_I s0] := by
  have C := B.1
  unfold F_X10_isDigit_17 at h
  exact q_zret C B.2.2.2.2.1 dX10_isDigit_17 h
def F_X10_isDigit_16 (κ : Nat → Nat) : q_X Int32 :=
  F_X10_isDigit_17 κ (0 : Int32)
theorem M_X10_isDigit_16 (κ : Nat → Nat) : q_mo (F_X10_isDigit_16 κ) := (M_X10_isDigit_17 κ (0 : Int32))
set_option maxRecDepth 100000 in
set_option maxHeartbeats 4000000 in
theorem S_X10_isDigit_16 {E : q_Ev} {Γ : q_Gm} {w : (Int32 ⊕ q_Exn) × q_St} (B : q_Bd E Γ cX10_isDigit yX10_isDigit.cls 1 0 0 (some .boolean) yX10_isDigit.name w) (hT : q_nT Γ) (σ : q_St) (h : F_X10_isDigit_16 (q_kap E) σ = some w) : q_W E Γ (q_QF E Γ q_oI w) 1 σ 16 [] [] := by
  have C := B.1
  unfold F_X10_isDigit_16 at h
  refine q_iconst (pc := 16) (v := (0 : Int32)) C dX10_isDigit_16 (by decide) ?_
  exact S_X10_isDigit_17 B hT (0 : Int32) _ h
def F_X10_isDigit (κ : Nat → Nat) (l0 : Int32) : q_X Int32 :=
  q_br (l0 < (48 : Int32)) (F_X10_isDigit_16 κ) (q_br ((57 : Int32) < l0) (F_X10_isDigit_16 κ) (F_X10_isDigit_17 κ (1 : Int32)))
theorem M_X10_isDigit (κ : Nat → Nat) (l0 : Int32) : q_mo (F_X10_isDigit κ l0) := (q_mo_br (M_X10_isDigit_16 κ) (q_mo_br (M_X10_isDigit_16 κ) (M_X10_isDigit_17 κ (1 : Int32))))
set_option maxRecDepth 100000 in
set_option maxHeartbeats 4000000 in
theorem K_X10_isDigit {E : q_Ev} (l0 : Int32) : q_Ct E yX10_isDigit (.code yX10_isDigit cX10_isDigit 1 (some .boolean)) 0 0 [q_I l0] q_oI (F_X10_isDigit (q_kap E) l0) := by
  refine q_enter (by decide) (Nat.le_of_ble_eq_true rfl) (fun Γ σ w h B hT => ?_)
  have C := B.1
  unfold F_X10_isDigit at h
  refine q_iload_n (pc := 0) C 0 rfl dX10_isDigit_0 rfl ?_
  refine q_bipush (pc := 1) (v := (48 : Int32)) C dX10_isDigit_1 (by decide) ?_
  refine q_icmp_lt (pc := 3) (tgt := 16) C dX10_isDigit_3 (by decide) h (fun _ h => ?_) (fun _ h => ?_)
  · refine q_W.sub [] rfl ?_
    exact S_X10_isDigit_16 B hT _ h
  · refine q_iload_n (pc := 6) C 0 rfl dX10_isDigit_6 rfl ?_
    refine q_bipush (pc := 7) (v := (57 : Int32)) C dX10_isDigit_7 (by decide) ?_
    refine q_icmp_gt (pc := 9) (tgt := 16) C dX10_isDigit_9 (by decide) h (fun _ h => ?_) (fun _ h => ?_)
    · refine q_W.sub [] rfl ?_
      exact S_X10_isDigit_16 B hT _ h
    · refine q_iconst (pc := 12) (v := (1 : Int32)) C dX10_isDigit_12 (by decide) ?_
      refine q_goto (pc := 13) (tgt := 17) C dX10_isDigit_13 (by decide) ?_
      refine q_W.sub [] rfl ?_
      exact S_X10_isDigit_17 B hT (1 : Int32) _ h
def F_X10_isRowByte_25 (κ : Nat → Nat) (s0 : Int32) : q_X Int32 :=
  q_rz s0
theorem M_X10_isRowByte_25 (κ : Nat → Nat) (s0 : Int32) : q_mo (F_X10_isRowByte_25 κ s0) := q_mo_rz
set_option maxRecDepth 100000 in
set_option maxHeartbeats 4000000 in
theorem S_X10_isRowByte_25 {E : q_Ev} {Γ : q_Gm} {w : (Int32 ⊕ q_Exn) × q_St} (B : q_Bd E Γ cX10_isRowByte yX10_isRowByte.cls 1 1 20 (some .boolean) yX10_isRowByte.name w) (hT : q_nT Γ) (s0 : Int32) (σ : q_St) (h : F_X10_isRowByte_25 (q_kap E) s0 σ = some w) : q_W E Γ (q_QF E Γ q_oI w) 1 σ 25 [] [q_I s0] := by
  have C := B.1
  unfold F_X10_isRowByte_25 at h
  exact q_zret C B.2.2.2.2.1 dX10_isRowByte_25 h
def F_X10_isRowByte_20 (κ : Nat → Nat) : q_X Int32 :=
  F_X10_isRowByte_25 κ (1 : Int32)
theorem M_X10_isRowByte_20 (κ : Nat → Nat) : q_mo (F_X10_isRowByte_20 κ) := (M_X10_isRowByte_25 κ (1 : Int32))
set_option maxRecDepth 100000 in
set_option maxHeartbeats 4000000 in
theorem S_X10_isRowByte_20 {E : q_Ev} {Γ : q_Gm} {w : (Int32 ⊕ q_Exn) × q_St} (B : q_Bd E Γ cX10_isRowByte yX10_isRowByte.cls 1 1 20 (some .boolean) yX10_isRowByte.name w) (hT : q_nT Γ) (σ : q_St) (h : F_X10_isRowByte_20 (q_kap E) σ = some w) : q_W E Γ (q_QF E Γ q_oI w) 1 σ 20 [] [] := by
  have C := B.1
  unfold F_X10_isRowByte_20 at h
  refine q_iconst (pc := 20) (v := (1 : Int32)) C dX10_isRowByte_20 (by decide) ?_
  refine q_goto (pc := 21) (tgt := 25) C dX10_isRowByte_21 (by decide) ?_
  exact S_X10_isRowByte_25 B hT (1 : Int32) _ h
def F_X10_isRowByte (κ : Nat → Nat) (l0 : Int32) : q_X Int32 :=
  q_ca (F_X10_isLetter κ l0) fun v1 => q_br (¬ v1 = 0) (F_X10_isRowByte_20 κ) (q_ca (F_X10_isDigit κ l0) fun v8 => q_br (¬ v8 = 0) (F_X10_isRowByte_20 κ) (q_br (¬ l0 = (95 : Int32)) (F_X10_isRowByte_25 κ (0 : Int32)) (F_X10_isRowByte_20 κ)))
theorem M_X10_isRowByte (κ : Nat → Nat) (l0 : Int32) : q_mo (F_X10_isRowByte κ l0) := (q_mo_ca (M_X10_isLetter κ l0) fun v1 => (q_mo_br (M_X10_isRowByte_20 κ) (q_mo_ca (M_X10_isDigit κ l0) fun v8 => (q_mo_br (M_X10_isRowByte_20 κ) (q_mo_br (M_X10_isRowByte_25 κ (0 : Int32)) (M_X10_isRowByte_20 κ))))))
set_option maxRecDepth 100000 in
set_option maxHeartbeats 4000000 in
theorem K_X10_isRowByte {E : q_Ev} (l0 : Int32) : q_Ct E yX10_isRowByte (.code yX10_isRowByte cX10_isRowByte 1 (some .boolean)) 1 20 [q_I l0] q_oI (F_X10_isRowByte (q_kap E) l0) := by
  refine q_enter (by decide) (Nat.le_of_ble_eq_true rfl) (fun Γ σ w h B hT => ?_)
  have C := B.1
  unfold F_X10_isRowByte at h
  refine q_iload_n (pc := 0) C 0 rfl dX10_isRowByte_0 rfl ?_
  refine q_callS (pc := 1) (As := [q_I l0]) (st := []) (ps := q_psI) C B.2.1 hT q_hpI qm_X10_86 qs_X10_isLetter dX10_isRowByte_1 rfl rfl (Nat.le_of_ble_eq_true rfl) (q_flo B.2.2.1 B.2.2.2.1 (by decide) (by decide)) (K_X10_isLetter l0) (M_X10_isLetter (q_kap E) l0) (by exact fun v1 => (q_mo_br (M_X10_isRowByte_20 (q_kap E)) (q_mo_ca (M_X10_isDigit (q_kap E) l0) fun v8 => (q_mo_br (M_X10_isRowByte_20 (q_kap E)) (q_mo_br (M_X10_isRowByte_25 (q_kap E) (0 : Int32)) (M_X10_isRowByte_20 (q_kap E))))))) h (fun v1 σ h => ?_)
  refine q_W.st (st' := [q_I v1]) rfl ?_
  refine q_if_ne (pc := 4) (tgt := 20) C dX10_isRowByte_4 (by decide) h (fun _ h => ?_) (fun _ h => ?_)
  · refine q_W.sub [] rfl ?_
    exact S_X10_isRowByte_20 B hT _ h
  · refine q_iload_n (pc := 7) C 0 rfl dX10_isRowByte_7 rfl ?_
    refine q_callS (pc := 8) (As := [q_I l0]) (st := []) (ps := q_psI) C B.2.1 hT q_hpI qm_X10_72 qs_X10_isDigit dX10_isRowByte_8 rfl rfl (Nat.le_of_ble_eq_true rfl) (q_flo B.2.2.1 B.2.2.2.1 (by decide) (by decide)) (K_X10_isDigit l0) (M_X10_isDigit (q_kap E) l0) (by exact fun v8 => (q_mo_br (M_X10_isRowByte_20 (q_kap E)) (q_mo_br (M_X10_isRowByte_25 (q_kap E) (0 : Int32)) (M_X10_isRowByte_20 (q_kap E))))) h (fun v8 σ h => ?_)
    refine q_W.st (st' := [q_I v8]) rfl ?_
    refine q_if_ne (pc := 11) (tgt := 20) C dX10_isRowByte_11 (by decide) h (fun _ h => ?_) (fun _ h => ?_)
    · refine q_W.sub [] rfl ?_
      exact S_X10_isRowByte_20 B hT _ h
    · refine q_iload_n (pc := 14) C 0 rfl dX10_isRowByte_14 rfl ?_
      refine q_bipush (pc := 15) (v := (95 : Int32)) C dX10_isRowByte_15 (by decide) ?_
      refine q_icmp_ne (pc := 17) (tgt := 24) C dX10_isRowByte_17 (by decide) h (fun _ h => ?_) (fun _ h => ?_)
      · refine q_iconst (pc := 24) (v := (0 : Int32)) C dX10_isRowByte_24 (by decide) ?_
        refine q_W.sub [] rfl ?_
        exact S_X10_isRowByte_25 B hT (0 : Int32) _ h
      · refine q_W.sub [] rfl ?_
        exact S_X10_isRowByte_20 B hT _ h
def F_X10_rowEnd_28 (κ : Nat → Nat) (l2 : Int32) : q_X Int32 :=
  q_rt l2
theorem M_X10_rowEnd_28 (κ : Nat → Nat) (l2 : Int32) : q_mo (F_X10_rowEnd_28 κ l2) := q_mo_rt
theorem N_X10_rowEnd_28 (κ : Nat → Nat) (l2 : Int32) : q_ni (F_X10_rowEnd_28 κ l2) := q_ni_rt
set_option maxRecDepth 100000 in
set_option maxHeartbeats 4000000 in
theorem S_X10_rowEnd_28 {E : q_Ev} {Γ : q_Gm} {w : (Int32 ⊕ q_Exn) × q_St} (B : q_Bd E Γ cX10_rowEnd yX10_rowEnd.cls 3 2 40 (some .int) yX10_rowEnd.name w) (hT : q_nT Γ) (l2 : Int32) (σ : q_St) (h : F_X10_rowEnd_28 (q_kap E) l2 σ = some w) : q_W E Γ (q_QF E Γ q_oI w) 3 σ 28 [(2, q_I l2)] [] := by
  have C := B.1
  unfold F_X10_rowEnd_28 at h
  refine q_iload_n (pc := 28) C 0 rfl dX10_rowEnd_28 rfl ?_
  exact q_iret C B.2.2.2.2.1 dX10_rowEnd_29 h
def F_X10_rowEnd_2B (κ : Nat → Nat) (r2 : Option Nat → Int32 → q_X Int32) (l0 : Option Nat) (l2 : Int32) : q_X Int32 :=
  q_rd (q_gI l0 13 5) fun v4 => q_br (v4 ≤ l2) (F_X10_rowEnd_28 κ l2) (q_rd (q_gA l0 13 0) fun v11 => q_rd (q_lI 0 v11 l2) fun v15 => q_ca (F_X10_isRowByte κ v15) fun v16 => q_br (v16 = 0) (F_X10_rowEnd_28 κ l2) (r2 l0 (l2 + (1 : Int32))))
theorem M_X10_rowEnd_2B (κ : Nat → Nat) (r2 : Option Nat → Int32 → q_X Int32) (mr2 : ∀ (l0 : Option Nat) (l2 : Int32), q_mo (r2 l0 l2)) (l0 : Option Nat) (l2 : Int32) : q_mo (F_X10_rowEnd_2B κ r2 l0 l2) := (q_mo_rd fun v4 => (q_mo_br (M_X10_rowEnd_28 κ l2) (q_mo_rd fun v11 => (q_mo_rd fun v15 => (q_mo_ca (M_X10_isRowByte κ v15) fun v16 => (q_mo_br (M_X10_rowEnd_28 κ l2) (mr2 l0 (l2 + (1 : Int32)))))))))
set_option maxRecDepth 100000 in
set_option maxHeartbeats 4000000 in
theorem S_X10_rowEnd_2B {E : q_Ev} {Γ : q_Gm} {w : (Int32 ⊕ q_Exn) × q_St} (B : q_Bd E Γ cX10_rowEnd yX10_rowEnd.cls 3 2 40 (some .int) yX10_rowEnd.name w) (hT : q_nT Γ) (r2 : Option Nat → Int32 → q_X Int32) (hr2 : ∀ (l0 : Option Nat) (l2 : Int32) (σ : q_St), r2 l0 l2 σ = some w → q_W E Γ (q_QF E Γ q_oI w) 3 σ 2 [(0, q_R l0), (2, q_I l2)] []) (mr2 : ∀ (l0 : Option Nat) (l2 : Int32), q_mo (r2 l0 l2)) (l0 : Option Nat) (l2 : Int32) (σ : q_St) (h : F_X10_rowEnd_2B (q_kap E) r2 l0 l2 σ = some w) : q_W E Γ (q_QF E Γ q_oI w) 3 σ 2 [(0, q_R l0), (2, q_I l2)] [] := by
  have C := B.1
  unfold F_X10_rowEnd_2B at h
  refine q_iload_n (pc := 2) C 1 rfl dX10_rowEnd_2 rfl ?_
  refine q_aload_n (pc := 3) C 0 rfl dX10_rowEnd_3 rfl ?_
  refine q_getI (pc := 4) C dX10_rowEnd_4 ql_X10_29 h (fun v4 h => ?_)
  refine q_icmp_ge (pc := 7) (tgt := 28) C dX10_rowEnd_7 (by decide) h (fun _ h => ?_) (fun _ h => ?_)
  · refine q_W.sub [1] rfl ?_
    exact S_X10_rowEnd_28 B hT l2 _ h
  · refine q_aload_n (pc := 10) C 0 rfl dX10_rowEnd_10 rfl ?_
    refine q_getA (pc := 11) C dX10_rowEnd_11 ql_X10_9 h (fun v11 h => ?_)
    refine q_iload_n (pc := 14) C 1 rfl dX10_rowEnd_14 rfl ?_
    refine q_ldI (pc := 15) C dX10_rowEnd_15 (Or.inl ⟨rfl, rfl⟩) h (fun v15 h => ?_)
    refine q_callS (pc := 16) (As := [q_I v15]) (st := []) (ps := q_psI) C B.2.1 hT q_hpI qm_X10_44 qs_X10_isRowByte dX10_rowEnd_16 rfl rfl (Nat.le_of_ble_eq_true rfl) (q_flo B.2.2.1 B.2.2.2.1 (by decide) (by decide)) (K_X10_isRowByte v15) (M_X10_isRowByte (q_kap E) v15) (by exact fun v16 => (q_mo_br (M_X10_rowEnd_28 (q_kap E) l2) (mr2 l0 (l2 + (1 : Int32))))) h (fun v16 σ h => ?_)
    refine q_W.st (st' := [q_I v16]) rfl ?_
    refine q_if_eq (pc := 19) (tgt := 28) C dX10_rowEnd_19 (by decide) h (fun _ h => ?_) (fun _ h => ?_)
    · refine q_W.sub [1] rfl ?_
      exact S_X10_rowEnd_28 B hT l2 _ h
    · refine q_iinc (pc := 22) (v := (1 : Int32)) (l' := [(2, q_I (l2 + (1 : Int32))), (0, q_R l0)]) C 1 rfl dX10_rowEnd_22 (by decide) (by decide) rfl ?_
      refine q_goto (pc := 25) (tgt := 2) C dX10_rowEnd_25 (by decide) ?_
      refine q_W.sub [1, 0] rfl ?_
      exact hr2 l0 (l2 + (1 : Int32)) _ h
def F_X10_rowEnd_2 (κ : Nat → Nat) : Nat → Option Nat → Int32 → q_X Int32
  | 0, _, _ => q_no
  | n + 1, l0, l2 => F_X10_rowEnd_2B κ (F_X10_rowEnd_2 κ n) l0 l2
theorem M_X10_rowEnd_2 (κ : Nat → Nat) : ∀ (n : Nat) (l0 : Option Nat) (l2 : Int32), q_mo (F_X10_rowEnd_2 κ n l0 l2)
  | 0, _, _ => q_mo_no
  | n + 1, l0, l2 => M_X10_rowEnd_2B κ (F_X10_rowEnd_2 κ n) (M_X10_rowEnd_2 κ n) l0 l2
theorem S_X10_rowEnd_2 {E : q_Ev} {Γ : q_Gm} {w : (Int32 ⊕ q_Exn) × q_St} (B : q_Bd E Γ cX10_rowEnd yX10_rowEnd.cls 3 2 40 (some .int) yX10_rowEnd.name w) (hT : q_nT Γ) : ∀ (n : Nat) (l0 : Option Nat) (l2 : Int32) (σ : q_St), F_X10_rowEnd_2 (q_kap E) n l0 l2 σ = some w → q_W E Γ (q_QF E Γ q_oI w) 3 σ 2 [(0, q_R l0), (2, q_I l2)] []
  | 0, _, _, _, h => by cases h
  | n + 1, l0, l2, σ, h => S_X10_rowEnd_2B B hT (F_X10_rowEnd_2 (q_kap E) n) (S_X10_rowEnd_2 B hT n) (M_X10_rowEnd_2 (q_kap E) n) l0 l2 σ h
def F_X10_rowEnd (κ : Nat → Nat) (l0 : Option Nat) (l1 : Int32) : q_X Int32 :=
  F_X10_rowEnd_2 κ q_fu l0 l1
theorem M_X10_rowEnd (κ : Nat → Nat) (l0 : Option Nat) (l1 : Int32) : q_mo (F_X10_rowEnd κ l0 l1) := (M_X10_rowEnd_2 κ q_fu l0 l1)
set_option maxRecDepth 100000 in
set_option maxHeartbeats 4000000 in
theorem K_X10_rowEnd {E : q_Ev} (l0 : Option Nat) (l1 : Int32) : q_Ct E yX10_rowEnd (.code yX10_rowEnd cX10_rowEnd 3 (some .int)) 2 40 [q_R l0, q_I l1] q_oI (F_X10_rowEnd (q_kap E) l0 l1) := by
  refine q_enter (by decide) (Nat.le_of_ble_eq_true rfl) (fun Γ σ w h B hT => ?_)
  have C := B.1
  unfold F_X10_rowEnd at h
  refine q_iload_n (pc := 0) C 1 rfl dX10_rowEnd_0 rfl ?_
  refine q_istore_n (pc := 1) (l' := [(2, q_I l1), (0, q_R l0), (1, q_I l1)]) C dX10_rowEnd_1 rfl (by decide) rfl ?_
  refine q_W.sub [1, 0] rfl ?_
  exact S_X10_rowEnd_2 B hT q_fu l0 l1 _ h
def F_X10_digitValue_61 (κ : Nat → Nat) (s0 : Int32) : q_X Int32 :=
  q_rt s0
theorem M_X10_digitValue_61 (κ : Nat → Nat) (s0 : Int32) : q_mo (F_X10_digitValue_61 κ s0) := q_mo_rt
theorem N_X10_digitValue_61 (κ : Nat → Nat) (s0 : Int32) : q_ni (F_X10_digitValue_61 κ s0) := q_ni_rt
set_option maxRecDepth 100000 in
set_option maxHeartbeats 4000000 in
theorem S_X10_digitValue_61 {E : q_Ev} {Γ : q_Gm} {w : (Int32 ⊕ q_Exn) × q_St} (B : q_Bd E Γ cX10_digitValue yX10_digitValue.cls 1 0 0 (some .int) yX10_digitValue.name w) (hT : q_nT Γ) (s0 : Int32) (σ : q_St) (h : F_X10_digitValue_61 (q_kap E) s0 σ = some w) : q_W E Γ (q_QF E Γ q_oI w) 1 σ 61 [] [q_I s0] := by
  have C := B.1
  unfold F_X10_digitValue_61 at h
  exact q_iret C B.2.2.2.2.1 dX10_digitValue_61 h
def F_X10_digitValue_59 (κ : Nat → Nat) : q_X Int32 :=
  F_X10_digitValue_61 κ (16 : Int32)
theorem M_X10_digitValue_59 (κ : Nat → Nat) : q_mo (F_X10_digitValue_59 κ) := (M_X10_digitValue_61 κ (16 : Int32))
theorem N_X10_digitValue_59 (κ : Nat → Nat) : q_ni (F_X10_digitValue_59 κ) := (N_X10_digitValue_61 κ (16 : Int32))
set_option maxRecDepth 100000 in
set_option maxHeartbeats 4000000 in
theorem S_X10_digitValue_59 {E : q_Ev} {Γ : q_Gm} {w : (Int32 ⊕ q_Exn) × q_St} (B : q_Bd E Γ cX10_digitValue yX10_digitValue.cls 1 0 0 (some .int) yX10_digitValue.name w) (hT : q_nT Γ) (σ : q_St) (h : F_X10_digitValue_59 (q_kap E) σ = some w) : q_W E Γ (q_QF E Γ q_oI w) 1 σ 59 [] [] := by
  have C := B.1
  unfold F_X10_digitValue_59 at h
  refine q_bipush (pc := 59) (v := (16 : Int32)) C dX10_digitValue_59 (by decide) ?_
  exact S_X10_digitValue_61 B hT (16 : Int32) _ h
def F_X10_digitValue_37 (κ : Nat → Nat) (l0 : Int32) : q_X Int32 :=
  q_br (l0 < (65 : Int32)) (F_X10_digitValue_59 κ) (q_br ((70 : Int32) < l0) (F_X10_digitValue_59 κ) (F_X10_digitValue_61 κ ((l0 - (65 : Int32)) + (10 : Int32))))
theorem M_X10_digitValue_37 (κ : Nat → Nat) (l0 : Int32) : q_mo (F_X10_digitValue_37 κ l0) := (q_mo_br (M_X10_digitValue_59 κ) (q_mo_br (M_X10_digitValue_59 κ) (M_X10_digitValue_61 κ ((l0 - (65 : Int32)) + (10 : Int32)))))
theorem N_X10_digitValue_37 (κ : Nat → Nat) (l0 : Int32) : q_ni (F_X10_digitValue_37 κ l0) := (q_ni_br (N_X10_digitValue_59 κ) (q_ni_br (N_X10_digitValue_59 κ) (N_X10_digitValue_61 κ ((l0 - (65 : Int32)) + (10 : Int32)))))
set_option maxRecDepth 100000 in
set_option maxHeartbeats 4000000 in
theorem S_X10_digitValue_37 {E : q_Ev} {Γ : q_Gm} {w : (Int32 ⊕ q_Exn) × q_St} (B : q_Bd E Γ cX10_digitValue yX10_digitValue.cls 1 0 0 (some .int) yX10_digitValue.name w) (hT : q_nT Γ) (l0 : Int32) (σ : q_St) (h : F_X10_digitValue_37 (q_kap E) l0 σ = some w) : q_W E Γ (q_QF E Γ q_oI w) 1 σ 37 [(0, q_I l0)] [] := by
  have C := B.1
  unfold F_X10_digitValue_37 at h
  refine q_iload_n (pc := 37) C 0 rfl dX10_digitValue_37 rfl ?_
  refine q_bipush (pc := 38) (v := (65 : Int32)) C dX10_digitValue_38 (by decide) ?_
  refine q_icmp_lt (pc := 40) (tgt := 59) C dX10_digitValue_40 (by decide) h (fun _ h => ?_) (fun _ h => ?_)
  · refine q_W.sub [] rfl ?_
    exact S_X10_digitValue_59 B hT _ h
  · refine q_iload_n (pc := 43) C 0 rfl dX10_digitValue_43 rfl ?_
    refine q_bipush (pc := 44) (v := (70 : Int32)) C dX10_digitValue_44 (by decide) ?_
    refine q_icmp_gt (pc := 46) (tgt := 59) C dX10_digitValue_46 (by decide) h (fun _ h => ?_) (fun _ h => ?_)
    · refine q_W.sub [] rfl ?_
      exact S_X10_digitValue_59 B hT _ h
    · refine q_iload_n (pc := 49) C 0 rfl dX10_digitValue_49 rfl ?_
      refine q_bipush (pc := 50) (v := (65 : Int32)) C dX10_digitValue_50 (by decide) ?_
      refine q_isub (pc := 52) C dX10_digitValue_52 ?_
      refine q_bipush (pc := 53) (v := (10 : Int32)) C dX10_digitValue_53 (by decide) ?_
      refine q_iadd (pc := 55) C dX10_digitValue_55 ?_
      refine q_goto (pc := 56) (tgt := 61) C dX10_digitValue_56 (by decide) ?_
      refine q_W.sub [] rfl ?_
      exact S_X10_digitValue_61 B hT ((l0 - (65 : Int32)) + (10 : Int32)) _ h
def F_X10_digitValue_17 (κ : Nat → Nat) (l0 : Int32) : q_X Int32 :=
  q_br (l0 < (97 : Int32)) (F_X10_digitValue_37 κ l0) (q_br ((102 : Int32) < l0) (F_X10_digitValue_37 κ l0) (q_rt ((l0 - (97 : Int32)) + (10 : Int32))))
theorem M_X10_digitValue_17 (κ : Nat → Nat) (l0 : Int32) : q_mo (F_X10_digitValue_17 κ l0) := (q_mo_br (M_X10_digitValue_37 κ l0) (q_mo_br (M_X10_digitValue_37 κ l0) q_mo_rt))
theorem N_X10_digitValue_17 (κ : Nat → Nat) (l0 : Int32) : q_ni (F_X10_digitValue_17 κ l0) := (q_ni_br (N_X10_digitValue_37 κ l0) (q_ni_br (N_X10_digitValue_37 κ l0) q_ni_rt))
set_option maxRecDepth 100000 in
set_option maxHeartbeats 4000000 in
theorem S_X10_digitValue_17 {E : q_Ev} {Γ : q_Gm} {w : (Int32 ⊕ q_Exn) × q_St} (B : q_Bd E Γ cX10_digitValue yX10_digitValue.cls 1 0 0 (some .int) yX10_digitValue.name w) (hT : q_nT Γ) (l0 : Int32) (σ : q_St) (h : F_X10_digitValue_17 (q_kap E) l0 σ = some w) : q_W E Γ (q_QF E Γ q_oI w) 1 σ 17 [(0, q_I l0)] [] := by
  have C := B.1
  unfold F_X10_digitValue_17 at h
  refine q_iload_n (pc := 17) C 0 rfl dX10_digitValue_17 rfl ?_
  refine q_bipush (pc := 18) (v := (97 : Int32)) C dX10_digitValue_18 (by decide) ?_
  refine q_icmp_lt (pc := 20) (tgt := 37) C dX10_digitValue_20 (by decide) h (fun _ h => ?_) (fun _ h => ?_)
  · exact S_X10_digitValue_37 B hT l0 _ h
  · refine q_iload_n (pc := 23) C 0 rfl dX10_digitValue_23 rfl ?_
    refine q_bipush (pc := 24) (v := (102 : Int32)) C dX10_digitValue_24 (by decide) ?_
    refine q_icmp_gt (pc := 26) (tgt := 37) C dX10_digitValue_26 (by decide) h (fun _ h => ?_) (fun _ h => ?_)
    · exact S_X10_digitValue_37 B hT l0 _ h
    · refine q_iload_n (pc := 29) C 0 rfl dX10_digitValue_29 rfl ?_
      refine q_bipush (pc := 30) (v := (97 : Int32)) C dX10_digitValue_30 (by decide) ?_
      refine q_isub (pc := 32) C dX10_digitValue_32 ?_
      refine q_bipush (pc := 33) (v := (10 : Int32)) C dX10_digitValue_33 (by decide) ?_
      refine q_iadd (pc := 35) C dX10_digitValue_35 ?_
      exact q_iret C B.2.2.2.2.1 dX10_digitValue_36 h
def F_X10_digitValue (κ : Nat → Nat) (l0 : Int32) : q_X Int32 :=
  q_br (l0 < (48 : Int32)) (F_X10_digitValue_17 κ l0) (q_br ((57 : Int32) < l0) (F_X10_digitValue_17 κ l0) (q_rt (l0 - (48 : Int32))))
theorem M_X10_digitValue (κ : Nat → Nat) (l0 : Int32) : q_mo (F_X10_digitValue κ l0) := (q_mo_br (M_X10_digitValue_17 κ l0) (q_mo_br (M_X10_digitValue_17 κ l0) q_mo_rt))
theorem N_X10_digitValue (κ : Nat → Nat) (l0 : Int32) : q_ni (F_X10_digitValue κ l0) := (q_ni_br (N_X10_digitValue_17 κ l0) (q_ni_br (N_X10_digitValue_17 κ l0) q_ni_rt))
set_option maxRecDepth 100000 in
set_option maxHeartbeats 4000000 in
theorem K_X10_digitValue {E : q_Ev} (l0 : Int32) : q_Ct E yX10_digitValue (.code yX10_digitValue cX10_digitValue 1 (some .int)) 0 0 [q_I l0] q_oI (F_X10_digitValue (q_kap E) l0) := by
  refine q_enter (by decide) (Nat.le_of_ble_eq_true rfl) (fun Γ σ w h B hT => ?_)
  have C := B.1
  unfold F_X10_digitValue at h
  refine q_iload_n (pc := 0) C 0 rfl dX10_digitValue_0 rfl ?_
  refine q_bipush (pc := 1) (v := (48 : Int32)) C dX10_digitValue_1 (by decide) ?_
  refine q_icmp_lt (pc := 3) (tgt := 17) C dX10_digitValue_3 (by decide) h (fun _ h => ?_) (fun _ h => ?_)
  · exact S_X10_digitValue_17 B hT l0 _ h
  · refine q_iload_n (pc := 6) C 0 rfl dX10_digitValue_6 rfl ?_
    refine q_bipush (pc := 7) (v := (57 : Int32)) C dX10_digitValue_7 (by decide) ?_
    refine q_icmp_gt (pc := 9) (tgt := 17) C dX10_digitValue_9 (by decide) h (fun _ h => ?_) (fun _ h => ?_)
    · exact S_X10_digitValue_17 B hT l0 _ h
    · refine q_iload_n (pc := 12) C 0 rfl dX10_digitValue_12 rfl ?_
      refine q_bipush (pc := 13) (v := (48 : Int32)) C dX10_digitValue_13 (by decide) ?_
      refine q_isub (pc := 15) C dX10_digitValue_15 ?_
      exact q_iret C B.2.2.2.2.1 dX10_digitValue_16 h
def F_X10_valueOf_80 (κ : Nat → Nat) (s0 : Int64) : q_X Int64 :=
  q_rt s0
theorem M_X10_valueOf_80 (κ : Nat → Nat) (s0 : Int64) : q_mo (F_X10_valueOf_80 κ s0) := q_mo_rt
theorem N_X10_valueOf_80 (κ : Nat → Nat) (s0 : Int64) : q_ni (F_X10_valueOf_80 κ s0) := q_ni_rt
set_option maxRecDepth 100000 in
set_option maxHeartbeats 4000000 in
theorem S_X10_valueOf_80 {E : q_Ev} {Γ : q_Gm} {w : (Int64 ⊕ q_Exn) × q_St} (B : q_Bd E Γ cX10_valueOf yX10_valueOf.cls 9 1 20 (some .long) yX10_valueOf.name w) (hT : q_nT Γ) (s0 : Int64) (σ : q_St) (h : F_X10_valueOf_80 (q_kap E) s0 σ = some w) : q_W E Γ (q_QF E Γ q_oL w) 9 σ 80 [] [q_L s0] := by
  have C := B.1
  unfold F_X10_valueOf_80 at h
  exact q_lret C B.2.2.2.2.1 dX10_valueOf_80 h
def F_X10_valueOf_18B (κ : Nat → Nat) (r18 : Option Nat → Int32 → Int32 → Int64 → Int32 → q_X Int64) (l0 : Option Nat) (l2 : Int32) (l3 : Int32) (l5 : Int64) (l7 : Int32) : q_X Int64 :=
  q_br (l2 ≤ l7) (q_br (0 ≤ (lg_cmp l5 (4294967296 : Int64))) (F_X10_valueOf_80 κ (-1 : Int64)) (F_X10_valueOf_80 κ l5)) (q_rd (q_gA l0 13 0) fun v25 => q_rd (q_lI 0 v25 l7) fun v30 => q_ca (F_X10_digitValue κ v30) fun v31 => q_br (v31 < l3) (r18 l0 l2 l3 ((l5 * l3.toInt64) + v31.toInt64) (l7 + (1 : Int32))) (q_rt (-1 : Int64)))
theorem M_X10_valueOf_18B (κ : Nat → Nat) (r18 : Option Nat → Int32 → Int32 → Int64 → Int32 → q_X Int64) (mr18 : ∀ (l0 : Option Nat) (l2 : Int32) (l3 : Int32) (l5 : Int64) (l7 : Int32), q_mo (r18 l0 l2 l3 l5 l7)) (l0 : Option Nat) (l2 : Int32) (l3 : Int32) (l5 : Int64) (l7 : Int32) : q_mo (F_X10_valueOf_18B κ r18 l0 l2 l3 l5 l7) := (q_mo_br (q_mo_br (M_X10_valueOf_80 κ (-1 : Int64)) (M_X10_valueOf_80 κ l5)) (q_mo_rd fun v25 => (q_mo_rd fun v30 => (q_mo_ca (M_X10_digitValue κ v30) fun v31 => (q_mo_br (mr18 l0 l2 l3 ((l5 * l3.toInt64) + v31.toInt64) (l7 + (1 : Int32))) q_mo_rt)))))
set_option maxRecDepth 100000 in
set_option maxHeartbeats 4000000 in
theorem S_X10_valueOf_18B {E : q_Ev} {Γ : q_Gm} {w : (Int64 ⊕ q_Exn) × q_St} (B : q_Bd E Γ cX10_valueOf yX10_valueOf.cls 9 1 20 (some .long) yX10_valueOf.name w) (hT : q_nT Γ) (r18 : Option Nat → Int32 → Int32 → Int64 → Int32 → q_X Int64) (hr18 : ∀ (l0 : Option Nat) (l2 : Int32) (l3 : Int32) (l5 : Int64) (l7 : Int32) (σ : q_St), r18 l0 l2 l3 l5 l7 σ = some w → q_W E Γ (q_QF E Γ q_oL w) 9 σ 18 [(0, q_R l0), (2, q_I l2), (3, q_I l3), (5, q_L l5), (7, q_I l7)] []) (mr18 : ∀ (l0 : Option Nat) (l2 : Int32) (l3 : Int32) (l5 : Int64) (l7 : Int32), q_mo (r18 l0 l2 l3 l5 l7)) (l0 : Option Nat) (l2 : Int32) (l3 : Int32) (l5 : Int64) (l7 : Int32) (σ : q_St) (h : F_X10_valueOf_18B (q_kap E) r18 l0 l2 l3 l5 l7 σ = some w) : q_W E Γ (q_QF E Γ q_oL w) 9 σ 18 [(0, q_R l0), (2, q_I l2), (3, q_I l3), (5, q_L l5), (7, q_I l7)] [] := by
  have C := B.1
  unfold F_X10_valueOf_18B at h
  refine q_iload (pc := 18) C 4 rfl dX10_valueOf_18 ?_
  refine q_iload_n (pc := 20) C 1 rfl dX10_valueOf_20 rfl ?_
  refine q_icmp_ge (pc := 21) (tgt := 63) C dX10_valueOf_21 (by decide) h (fun _ h => ?_) (fun _ h => ?_)
  · refine q_lload (pc := 63) C 3 rfl dX10_valueOf_63 ?_
    refine q_ldc2 (pc := 65) (v := (4294967296 : Int64)) C dX10_valueOf_65 qc_X10_84 ?_
    refine q_lcmp (pc := 68) C dX10_valueOf_68 ?_
    refine q_if_ge (pc := 69) (tgt := 77) C dX10_valueOf_69 (by decide) h (fun _ h => ?_) (fun _ h => ?_)
    · refine q_ldc2 (pc := 77) (v := (-1 : Int64)) C dX10_valueOf_77 qc_X10_75 ?_
      refine q_W.sub [] rfl ?_
      exact S_X10_valueOf_80 B hT (-1 : Int64) _ h
    · refine q_lload (pc := 72) C 3 rfl dX10_valueOf_72 ?_
      refine q_goto (pc := 74) (tgt := 80) C dX10_valueOf_74 (by decide) ?_
      refine q_W.sub [] rfl ?_
      exact S_X10_valueOf_80 B hT l5 _ h
  · refine q_aload_n (pc := 24) C 0 rfl dX10_valueOf_24 rfl ?_
    refine q_getA (pc := 25) C dX10_valueOf_25 ql_X10_9 h (fun v25 h => ?_)
    refine q_iload (pc := 28) C 4 rfl dX10_valueOf_28 ?_
    refine q_ldI (pc := 30) C dX10_valueOf_30 (Or.inl ⟨rfl, rfl⟩) h (fun v30 h => ?_)
    refine q_callS (pc := 31) (As := [q_I v30]) (st := []) (ps := q_psI) C B.2.1 hT q_hpI qm_X10_81 qs_X10_digitValue dX10_valueOf_31 rfl rfl (Nat.le_of_ble_eq_true rfl) (q_flo B.2.2.1 B.2.2.2.1 (by decide) (by decide)) (K_X10_digitValue v30) (M_X10_digitValue (q_kap E) v30) (by exact fun v31 => (q_mo_br (mr18 l0 l2 l3 ((l5 * l3.toInt64) + v31.toInt64) (l7 + (1 : Int32))) q_mo_rt)) h (fun v31 σ h => ?_)
    refine q_W.st (st' := [q_I v31]) rfl ?_
    refine q_istore (pc := 34) (l' := [(8, q_I v31), (0, q_R l0), (2, q_I l2), (3, q_I l3), (5, q_L l5), (7, q_I l7)]) C dX10_valueOf_34 (by decide) rfl ?_
    refine q_iload (pc := 36) C 0 rfl dX10_valueOf_36 ?_
    refine q_iload_n (pc := 38) C 3 rfl dX10_valueOf_38 rfl ?_
    refine q_icmp_lt (pc := 39) (tgt := 46) C dX10_valueOf_39 (by decide) h (fun _ h => ?_) (fun _ h => ?_)
    · refine q_lload (pc := 46) C 4 rfl dX10_valueOf_46 ?_
      refine q_iload_n (pc := 48) C 3 rfl dX10_valueOf_48 rfl ?_
      refine q_i2l (pc := 49) C dX10_valueOf_49 ?_
      refine q_lmul (pc := 50) C dX10_valueOf_50 ?_
      refine q_iload (pc := 51) C 0 rfl dX10_valueOf_51 ?_
      refine q_i2l (pc := 53) C dX10_valueOf_53 ?_
      refine q_ladd (pc := 54) C dX10_valueOf_54 ?_
      refine q_lstore (pc := 55) (l' := [(5, q_L ((l5 * l3.toInt64) + v31.toInt64)), (8, q_I v31), (0, q_R l0), (2, q_I l2), (3, q_I l3), (7, q_I l7)]) C dX10_valueOf_55 (by decide) rfl ?_
      refine q_iinc (pc := 57) (v := (1 : Int32)) (l' := [(7, q_I (l7 + (1 : Int32))), (5, q_L ((l5 * l3.toInt64) + v31.toInt64)), (8, q_I v31), (0, q_R l0), (2, q_I l2), (3, q_I l3)]) C 5 rfl dX10_valueOf_57 (by decide) (by decide) rfl ?_
      refine q_goto (pc := 60) (tgt := 18) C dX10_valueOf_60 (by decide) ?_
      refine q_W.sub [3, 4, 5, 1, 0] rfl ?_
      exact hr18 l0 l2 l3 ((l5 * l3.toInt64) + v31.toInt64) (l7 + (1 : Int32)) _ h
    · refine q_ldc2 (pc := 42) (v := (-1 : Int64)) C dX10_valueOf_42 qc_X10_75 ?_
      exact q_lret C B.2.2.2.2.1 dX10_valueOf_45 h
def F_X10_valueOf_18 (κ : Nat → Nat) : Nat → Option Nat → Int32 → Int32 → Int64 → Int32 → q_X Int64
  | 0, _, _, _, _, _ => q_no
  | n + 1, l0, l2, l3, l5, l7 => F_X10_valueOf_18B κ (F_X10_valueOf_18 κ n) l0 l2 l3 l5 l7
theorem M_X10_valueOf_18 (κ : Nat → Nat) : ∀ (n : Nat) (l0 : Option Nat) (l2 : Int32) (l3 : Int32) (l5 : Int64) (l7 : Int32), q_mo (F_X10_valueOf_18 κ n l0 l2 l3 l5 l7)
  | 0, _, _, _, _, _ => q_mo_no
  | n + 1, l0, l2, l3, l5, l7 => M_X10_valueOf_18B κ (F_X10_valueOf_18 κ n) (M_X10_valueOf_18 κ n) l0 l2 l3 l5 l7
theorem S_X10_valueOf_18 {E : q_Ev} {Γ : q_Gm} {w : (Int64 ⊕ q_Exn) × q_St} (B : q_Bd E Γ cX10_valueOf yX10_valueOf.cls 9 1 20 (some .long) yX10_valueOf.name w) (hT : q_nT Γ) : ∀ (n : Nat) (l0 : Option Nat) (l2 : Int32) (l3 : Int32) (l5 : Int64) (l7 : Int32) (σ : q_St), F_X10_valueOf_18 (q_kap E) n l0 l2 l3 l5 l7 σ = some w → q_W E Γ (q_QF E Γ q_oL w) 9 σ 18 [(0, q_R l0), (2, q_I l2), (3, q_I l3), (5, q_L l5), (7, q_I l7)] []
  | 0, _, _, _, _, _, _, h => by cases h
  | n + 1, l0, l2, l3, l5, l7, σ, h => S_X10_valueOf_18B B hT (F_X10_valueOf_18 (q_kap E) n) (S_X10_valueOf_18 B hT n) (M_X10_valueOf_18 (q_kap E) n) l0 l2 l3 l5 l7 σ h
def F_X10_valueOf (κ : Nat → Nat) (l0 : Option Nat) (l1 : Int32) (l2 : Int32) (l3 : Int32) (l4 : Int32) : q_X Int64 :=
  q_br ((l2 - l1) ≤ l4) (F_X10_valueOf_18 κ q_fu l0 l2 l3 (0 : Int64) l1) (q_rt (-1 : Int64))
theorem M_X10_valueOf (κ : Nat → Nat) (l0 : Option Nat) (l1 : Int32) (l2 : Int32) (l3 : Int32) (l4 : Int32) : q_mo (F_X10_valueOf κ l0 l1 l2 l3 l4) := (q_mo_br (M_X10_valueOf_18 κ q_fu l0 l2 l3 (0 : Int64) l1) q_mo_rt)
set_option maxRecDepth 100000 in
set_option maxHeartbeats 4000000 in
theorem K_X10_valueOf {E : q_Ev} (l0 : Option Nat) (l1 : Int32) (l2 : Int32) (l3 : Int32) (l4 : Int32) : q_Ct E yX10_valueOf (.code yX10_valueOf cX10_valueOf 9 (some .long)) 1 20 [q_R l0, q_I l1, q_I l2, q_I l3, q_I l4] q_oL (F_X10_valueOf (q_kap E) l0 l1 l2 l3 l4) := by
  refine q_enter (by decide) (Nat.le_of_ble_eq_true rfl) (fun Γ σ w h B hT => ?_)
  have C := B.1
  unfold F_X10_valueOf at h
  refine q_iload_n (pc := 0) C 2 rfl dX10_valueOf_0 rfl ?_
  refine q_iload_n (pc := 1) C 1 rfl dX10_valueOf_1 rfl ?_
  refine q_isub (pc := 2) C dX10_valueOf_2 ?_
  refine q_iload (pc := 3) C 4 rfl dX10_valueOf_3 ?_
  refine q_icmp_le (pc := 5) (tgt := 12) C dX10_valueOf_5 (by decide) h (fun _ h => ?_) (fun _ h => ?_)
  · refine q_lconst (pc := 12) (v := (0 : Int64)) C dX10_valueOf_12 (by decide) ?_
    refine q_lstore (pc := 13) (l' := [(5, q_L (0 : Int64)), (0, q_R l0), (1, q_I l1), (2, q_I l2), (3, q_I l3), (4, q_I l4)]) C dX10_valueOf_13 (by decide) rfl ?_
    refine q_iload_n (pc := 15) C 2 rfl dX10_valueOf_15 rfl ?_
    refine q_istore (pc := 16) (l' := [(7, q_I l1), (5, q_L (0 : Int64)), (0, q_R l0), (1, q_I l1), (2, q_I l2), (3, q_I l3), (4, q_I l4)]) C dX10_valueOf_16 (by decide) rfl ?_
    refine q_W.sub [2, 4, 5, 1, 0] rfl ?_
    exact S_X10_valueOf_18 B hT q_fu l0 l2 l3 (0 : Int64) l1 _ h
  · refine q_ldc2 (pc := 8) (v := (-1 : Int64)) C dX10_valueOf_8 qc_X10_75 ?_
    exact q_lret C B.2.2.2.2.1 dX10_valueOf_11 h
