def F_X4_show_91B (κ : Nat → Nat) (r91 : Option Nat → Int32 → Option Nat → Int32 → q_X Int32) (l0 : Option Nat) (l1 : Int32) (l3 : Option Nat) (l4 : Int32) : q_X Int32 :=
  q_rd (q_gI l3 4 7) fun v94 => q_br (v94 ≤ l4) (q_rd (q_gI l3 4 9) fun v120 => q_rt v120) (q_rd (q_gA l3 4 1) fun v103 => q_rd (q_lI 1 v103 l4) fun v108 => q_rd (q_is l0 7) fun _ => q_ca (F_X4_addPart κ l0 l3 v108 l1) fun _v110 => r91 l0 l1 l3 (l4 + (1 : Int32)))
theorem M_X4_show_91B (κ : Nat → Nat) (r91 : Option Nat → Int32 → Option Nat → Int32 → q_X Int32) (mr91 : ∀ (l0 : Option Nat) (l1 : Int32) (l3 : Option Nat) (l4 : Int32), q_mo (r91 l0 l1 l3 l4)) (l0 : Option Nat) (l1 : Int32) (l3 : Option Nat) (l4 : Int32) : q_mo (F_X4_show_91B κ r91 l0 l1 l3 l4) := (q_mo_rd fun v94 => (q_mo_br (q_mo_rd fun v120 => q_mo_rt) (q_mo_rd fun v103 => (q_mo_rd fun v108 => (q_mo_rd fun _ => q_mo_ca (M_X4_addPart κ l0 l3 v108 l1) fun _v110 => (mr91 l0 l1 l3 (l4 + (1 : Int32))))))))
set_option maxRecDepth 100000 in
set_option maxHeartbeats 4000000 in
theorem S_X4_show_91B {E : q_Ev} {Γ : q_Gm} {w : (Int32 ⊕ q_Exn) × q_St} (B : q_Bd E Γ cX4_show yX4_show.cls 5 5 107 (some .int) yX4_show.name w) (hT : q_nT Γ) (r91 : Option Nat → Int32 → Option Nat → Int32 → q_X Int32) (hr91 : ∀ (l0 : Option Nat) (l1 : Int32) (l3 : Option Nat) (l4 : Int32) (σ : q_St), r91 l0 l1 l3 l4 σ = some w → q_W E Γ (q_QF E Γ q_oI w) 5 σ 91 [(0, q_R l0), (1, q_I l1), (3, q_R l3), (4, q_I l4)] []) (mr91 : ∀ (l0 : Option Nat) (l1 : Int32) (l3 : Option Nat) (l4 : Int32), q_mo (r91 l0 l1 l3 l4)) (l0 : Option Nat) (l1 : Int32) (l3 : Option Nat) (l4 : Int32) (σ : q_St) (h : F_X4_show_91B (q_kap E) r91 l0 l1 l3 l4 σ = some w) : q_W E Γ (q_QF E Γ q_oI w) 5 σ 91 [(0, q_R l0), (1, q_I l1), (3, q_R l3), (4, q_I l4)] [] := by
  have C := B.1
  unfold F_X4_show_91B at h
  refine q_iload (pc := 91) C 3 rfl dX4_show_91 ?_
  refine q_aload_n (pc := 93) C 2 rfl dX4_show_93 rfl ?_
  refine q_getI (pc := 94) C dX4_show_94 ql_X4_98 h (fun v94 h => ?_)
  refine q_icmp_ge (pc := 97) (tgt := 119) C dX4_show_97 (by decide) h (fun _ h => ?_) (fun _ h => ?_)
  · refine q_aload_n (pc := 119) C 2 rfl dX4_show_119 rfl ?_
    refine q_getI (pc := 120) C dX4_show_120 ql_X4_109 h (fun v120 h => ?_)
    exact q_iret C B.2.2.2.2.1 dX4_show_123 h
  · refine q_aload_n (pc := 100) C 0 rfl dX4_show_100 rfl ?_
    refine q_aload_n (pc := 101) C 2 rfl dX4_show_101 rfl ?_
    refine q_aload_n (pc := 102) C 2 rfl dX4_show_102 rfl ?_
    refine q_getA (pc := 103) C dX4_show_103 ql_X4_101 h (fun v103 h => ?_)
    refine q_iload (pc := 106) C 3 rfl dX4_show_106 ?_
    refine q_ldI (pc := 108) C dX4_show_108 (Or.inr (Or.inl ⟨rfl, rfl⟩)) h (fun v108 h => ?_)
    refine q_iload_n (pc := 109) C 1 rfl dX4_show_109 rfl ?_
    refine q_callV (pc := 110) (As := [q_R l3, q_I v108, q_I l1]) (st := []) (ps := q_psV) C B.2.1 hT q_hpV qm_X4_105 qv_X4_addPart dX4_show_110 rfl rfl (Nat.le_of_ble_eq_true rfl) (q_flo B.2.2.1 B.2.2.2.1 (by decide) (by decide)) (K_X4_addPart l0 l3 v108 l1) (M_X4_addPart (q_kap E) l0 l3 v108 l1) (by exact fun _v110 => (mr91 l0 l1 l3 (l4 + (1 : Int32)))) h (fun _v110 σ h => ?_)
    refine q_W.st (st' := []) rfl ?_
    refine q_iinc (pc := 113) (v := (1 : Int32)) (l' := [(4, q_I (l4 + (1 : Int32))), (0, q_R l0), (1, q_I l1), (3, q_R l3)]) C 3 rfl dX4_show_113 (by decide) (by decide) rfl ?_
    refine q_goto (pc := 116) (tgt := 91) C dX4_show_116 (by decide) ?_
    refine q_W.sub [1, 2, 3, 0] rfl ?_
    exact hr91 l0 l1 l3 (l4 + (1 : Int32)) _ h
def F_X4_show_91 (κ : Nat → Nat) : Nat → Option Nat → Int32 → Option Nat → Int32 → q_X Int32
  | 0, _, _, _, _ => q_no
  | n + 1, l0, l1, l3, l4 => F_X4_show_91B κ (F_X4_show_91 κ n) l0 l1 l3 l4
theorem M_X4_show_91 (κ : Nat → Nat) : ∀ (n : Nat) (l0 : Option Nat) (l1 : Int32) (l3 : Option Nat) (l4 : Int32), q_mo (F_X4_show_91 κ n l0 l1 l3 l4)
  | 0, _, _, _, _ => q_mo_no
  | n + 1, l0, l1, l3, l4 => M_X4_show_91B κ (F_X4_show_91 κ n) (M_X4_show_91 κ n) l0 l1 l3 l4
theorem S_X4_show_91 {E : q_Ev} {Γ : q_Gm} {w : (Int32 ⊕ q_Exn) × q_St} (B : q_Bd E Γ cX4_show yX4_show.cls 5 5 107 (some .int) yX4_show.name w) (hT : q_nT Γ) : ∀ (n : Nat) (l0 : Option Nat) (l1 : Int32) (l3 : Option Nat) (l4 : Int32) (σ : q_St), F_X4_show_91 (q_kap E) n l0 l1 l3 l4 σ = some w → q_W E Γ (q_QF E Γ q_oI w) 5 σ 91 [(0, q_R l0), (1, q_I l1), (3, q_R l3), (4, q_I l4)] []
  | 0, _, _, _, _, _, h => by cases h
  | n + 1, l0, l1, l3, l4, σ, h => S_X4_show_91B B hT (F_X4_show_91 (q_kap E) n) (S_X4_show_91 B hT n) (M_X4_show_91 (q_kap E) n) l0 l1 l3 l4 σ h
def F_X4_show_88 (κ : Nat → Nat) (l0 : Option Nat) (l1 : Int32) (l3 : Option Nat) : q_X Int32 :=
  F_X4_show_91 κ q_fu l0 l1 l3 (0 : Int32)
theorem M_X4_show_88 (κ : Nat → Nat) (l0 : Option Nat) (l1 : Int32) (l3 : Option Nat) : q_mo (F_X4_show_88 κ l0 l1 l3) := (M_X4_show_91 κ q_fu l0 l1 l3 (0 : Int32))
set_option maxRecDepth 100000 in
set_option maxHeartbeats 4000000 in
theorem S_X4_show_88 {E : q_Ev} {Γ : q_Gm} {w : (Int32 ⊕ q_Exn) × q_St} (B : q_Bd E Γ cX4_show yX4_show.cls 5 5 107 (some .int) yX4_show.name w) (hT : q_nT Γ) (l0 : Option Nat) (l1 : Int32) (l3 : Option Nat) (σ : q_St) (h : F_X4_show_88 (q_kap E) l0 l1 l3 σ = some w) : q_W E Γ (q_QF E Γ q_oI w) 5 σ 88 [(0, q_R l0), (1, q_I l1), (3, q_R l3)] [] := by
  have C := B.1
  unfold F_X4_show_88 at h
  refine q_iconst (pc := 88) (v := (0 : Int32)) C dX4_show_88 (by decide) ?_
  refine q_istore (pc := 89) (l' := [(4, q_I (0 : Int32)), (0, q_R l0), (1, q_I l1), (3, q_R l3)]) C dX4_show_89 (by decide) rfl ?_
  refine q_W.sub [1, 2, 3, 0] rfl ?_
  exact S_X4_show_91 B hT q_fu l0 l1 l3 (0 : Int32) _ h
def F_X4_show (κ : Nat → Nat) (l0 : Option Nat) (l1 : Int32) : q_X Int32 :=
  q_rd (q_is l0 7) fun _ => q_ca (F_X4_bestFor κ l0 l1) fun v2 => q_wr (q_pF l0 7 5 (.int (0 : Int32))) (q_wr (q_pF l0 7 6 (.int v2)) (q_br (0 ≤ v2) (q_rd (q_gA l0 7 0) fun v42 => q_rd (q_gA v42 8 1) fun v45 => q_rd (q_lA 4 v45 v2) fun v49 => q_rd (q_gA l0 7 1) fun v53 => q_rd (q_gA v53 9 0) fun v56 => q_rd (q_gA l0 7 2) fun v61 => q_rd (q_is v49 4) fun _ => q_ca (F_X1_decode κ v49 v56 l1 v61) fun _v64 => q_rd (q_gA v49 4 0) fun v69 => q_rd (q_is l0 7) fun _ => q_ca (F_X4_addName κ l0 v69) fun _v72 => q_rd (q_gI v49 4 7) fun v76 => q_br (v76 ≤ 0) (F_X4_show_88 κ l0 l1 v49) (q_rd (q_is l0 7) fun _ => q_ca (F_X4_addByte κ l0 (32 : Int32)) fun _v85 => F_X4_show_88 κ l0 l1 v49)) (q_rd (q_is l0 7) fun _ => q_ca (F_X4_addText κ l0 (some (κ 17))) fun _v23 => q_rd (q_gA l0 7 1) fun v28 => q_rd (q_gA v28 9 0) fun v31 => q_rd (q_lL v31 l1) fun v35 => q_rd (q_is l0 7) fun _ => q_ca (F_X4_addNumber κ l0 v35) fun _v36 => q_rt (1 : Int32))))
theorem M_X4_show (κ : Nat → Nat) (l0 : Option Nat) (l1 : Int32) : q_mo (F_X4_show κ l0 l1) := (q_mo_rd fun _ => q_mo_ca (M_X4_bestFor κ l0 l1) fun v2 => (q_mo_wr (q_mo_wr (q_mo_br (q_mo_rd fun v42 => (q_mo_rd fun v45 => (q_mo_rd fun v49 => (q_mo_rd fun v53 => (q_mo_rd fun v56 => (q_mo_rd fun v61 => (q_mo_rd fun _ => q_mo_ca (M_X1_decode κ v49 v56 l1 v61) fun _v64 => (q_mo_rd fun v69 => (q_mo_rd fun _ => q_mo_ca (M_X4_addName κ l0 v69) fun _v72 => (q_mo_rd fun v76 => (q_mo_br (M_X4_show_88 κ l0 l1 v49) (q_mo_rd fun _ => q_mo_ca (M_X4_addByte κ l0 (32 : Int32)) fun _v85 => (M_X4_show_88 κ l0 l1 v49))))))))))))) (q_mo_rd fun _ => q_mo_ca (M_X4_addText κ l0 (some (κ 17))) fun _v23 => (q_mo_rd fun v28 => (q_mo_rd fun v31 => (q_mo_rd fun v35 => (q_mo_rd fun _ => q_mo_ca (M_X4_addNumber κ l0 v35) fun _v36 => q_mo_rt)))))))))
set_option maxRecDepth 100000 in
set_option maxHeartbeats 4000000 in
theorem K_X4_show {E : q_Ev} (l0 : Option Nat) (l1 : Int32) : q_Ct E yX4_show (.code yX4_show cX4_show 5 (some .int)) 5 107 [q_R l0, q_I l1] q_oI (F_X4_show (q_kap E) l0 l1) := by
  refine q_enter (by decide) (Nat.le_of_ble_eq_true rfl) (fun Γ σ w h B hT => ?_)
  have C := B.1
  unfold F_X4_show at h
  refine q_aload_n (pc := 0) C 0 rfl dX4_show_0 rfl ?_
  refine q_iload_n (pc := 1) C 1 rfl dX4_show_1 rfl ?_
  refine q_callV (pc := 2) (As := [q_I l1]) (st := []) (ps := q_psI) C B.2.1 hT q_hpI qm_X4_59 qv_X4_bestFor dX4_show_2 rfl rfl (Nat.le_of_ble_eq_true rfl) (q_flo B.2.2.1 B.2.2.2.1 (by decide) (by decide)) (K_X4_bestFor l0 l1) (M_X4_bestFor (q_kap E) l0 l1) (by exact fun v2 => (q_mo_wr (q_mo_wr (q_mo_br (q_mo_rd fun v42 => (q_mo_rd fun v45 => (q_mo_rd fun v49 => (q_mo_rd fun v53 => (q_mo_rd fun v56 => (q_mo_rd fun v61 => (q_mo_rd fun _ => q_mo_ca (M_X1_decode (q_kap E) v49 v56 l1 v61) fun _v64 => (q_mo_rd fun v69 => (q_mo_rd fun _ => q_mo_ca (M_X4_addName (q_kap E) l0 v69) fun _v72 => (q_mo_rd fun v76 => (q_mo_br (M_X4_show_88 (q_kap E) l0 l1 v49) (q_mo_rd fun _ => q_mo_ca (M_X4_addByte (q_kap E) l0 (32 : Int32)) fun _v85 => (M_X4_show_88 (q_kap E) l0 l1 v49))))))))))))) (q_mo_rd fun _ => q_mo_ca (M_X4_addText (q_kap E) l0 (some ((q_kap E) 17))) fun _v23 => (q_mo_rd fun v28 => (q_mo_rd fun v31 => (q_mo_rd fun v35 => (q_mo_rd fun _ => q_mo_ca (M_X4_addNumber (q_kap E) l0 v35) fun _v36 => q_mo_rt))))))))) h (fun v2 σ h => ?_)
  refine q_W.st (st' := [q_I v2]) rfl ?_
  refine q_istore_n (pc := 5) (l' := [(2, q_I v2), (0, q_R l0), (1, q_I l1)]) C dX4_show_5 rfl (by decide) rfl ?_
  refine q_aload_n (pc := 6) C 1 rfl dX4_show_6 rfl ?_
  refine q_iconst (pc := 7) (v := (0 : Int32)) C dX4_show_7 (by decide) ?_
  refine q_putV (pc := 8) (v := q_I (0 : Int32)) C dX4_show_8 ql_X4_34 (Or.inl rfl) rfl rfl h (fun M8 h => ?_)
  refine q_aload_n (pc := 11) C 1 rfl dX4_show_11 rfl ?_
  refine q_iload_n (pc := 12) C 0 rfl dX4_show_12 rfl ?_
  refine q_putV (pc := 13) (v := q_I v2) C dX4_show_13 ql_X4_22 (Or.inl rfl) rfl rfl h (fun M13 h => ?_)
  refine q_iload_n (pc := 16) C 0 rfl dX4_show_16 rfl ?_
  refine q_if_ge (pc := 17) (tgt := 41) C dX4_show_17 (by decide) h (fun _ h => ?_) (fun _ h => ?_)
  · refine q_aload_n (pc := 41) C 1 rfl dX4_show_41 rfl ?_
    refine q_getA (pc := 42) C dX4_show_42 ql_X4_26 h (fun v42 h => ?_)
    refine q_getA (pc := 45) C dX4_show_45 ql_X4_78 h (fun v45 h => ?_)
    refine q_iload_n (pc := 48) C 0 rfl dX4_show_48 rfl ?_
    refine q_ldA (pc := 49) C dX4_show_49 ⟨_, rfl⟩ h (fun v49 h => ?_)
    refine q_astore_n (pc := 50) (l' := [(3, q_R v49), (2, q_I v2), (0, q_R l0), (1, q_I l1)]) C dX4_show_50 rfl (by decide) rfl ?_
    refine q_aload_n (pc := 51) C 0 rfl dX4_show_51 rfl ?_
    refine q_aload_n (pc := 52) C 2 rfl dX4_show_52 rfl ?_
    refine q_getA (pc := 53) C dX4_show_53 ql_X4_30 h (fun v53 h => ?_)
    refine q_getA (pc := 56) C dX4_show_56 ql_X4_69 h (fun v56 h => ?_)
    refine q_iload_n (pc := 59) C 3 rfl dX4_show_59 rfl ?_
    refine q_aload_n (pc := 60) C 2 rfl dX4_show_60 rfl ?_
    refine q_getA (pc := 61) C dX4_show_61 ql_X4_9 h (fun v61 h => ?_)
    refine q_callV (pc := 64) (As := [q_R v56, q_I l1, q_R v61]) (st := []) (ps := q_psV) C B.2.1 hT q_hpV qm_X4_84 qv_X1_decode dX4_show_64 rfl rfl (Nat.le_of_ble_eq_true rfl) (q_flo B.2.2.1 B.2.2.2.1 (by decide) (by decide)) (K_X1_decode v49 v56 l1 v61) (M_X1_decode (q_kap E) v49 v56 l1 v61) (by exact fun _v64 => (q_mo_rd fun v69 => (q_mo_rd fun _ => q_mo_ca (M_X4_addName (q_kap E) l0 v69) fun _v72 => (q_mo_rd fun v76 => (q_mo_br (M_X4_show_88 (q_kap E) l0 l1 v49) (q_mo_rd fun _ => q_mo_ca (M_X4_addByte (q_kap E) l0 (32 : Int32)) fun _v85 => (M_X4_show_88 (q_kap E) l0 l1 v49))))))) h (fun _v64 σ h => ?_)
    refine q_W.st (st' := []) rfl ?_
    refine q_aload_n (pc := 67) C 2 rfl dX4_show_67 rfl ?_
    refine q_aload_n (pc := 68) C 0 rfl dX4_show_68 rfl ?_
    refine q_getA (pc := 69) C dX4_show_69 ql_X4_90 h (fun v69 h => ?_)
    refine q_callV (pc := 72) (As := [q_R v69]) (st := []) (ps := q_psV) C B.2.1 hT q_hpV qm_X4_94 qv_X4_addName dX4_show_72 rfl rfl (Nat.le_of_ble_eq_true rfl) (q_flo B.2.2.1 B.2.2.2.1 (by decide) (by decide)) (K_X4_addName l0 v69) (M_X4_addName (q_kap E) l0 v69) (by exact fun _v72 => (q_mo_rd fun v76 => (q_mo_br (M_X4_show_88 (q_kap E) l0 l1 v49) (q_mo_rd fun _ => q_mo_ca (M_X4_addByte (q_kap E) l0 (32 : Int32)) fun _v85 => (M_X4_show_88 (q_kap E) l0 l1 v49))))) h (fun _v72 σ h => ?_)
    refine q_W.st (st' := []) rfl ?_
    refine q_aload_n (pc := 75) C 0 rfl dX4_show_75 rfl ?_
    refine q_getI (pc := 76) C dX4_show_76 ql_X4_98 h (fun v76 h => ?_)
    refine q_if_le (pc := 79) (tgt := 88) C dX4_show_79 (by decide) h (fun _ h => ?_) (fun _ h => ?_)
    · refine q_W.sub [2, 3, 0] rfl ?_
      exact S_X4_show_88 B hT l0 l1 v49 _ h
    · refine q_aload_n (pc := 82) C 2 rfl dX4_show_82 rfl ?_
      refine q_bipush (pc := 83) (v := (32 : Int32)) C dX4_show_83 (by decide) ?_
      refine q_callV (pc := 85) (As := [q_I (32 : Int32)]) (st := []) (ps := q_psV) C B.2.1 hT q_hpV qm_X4_46 qv_X4_addByte dX4_show_85 rfl rfl (Nat.le_of_ble_eq_true rfl) (q_flo B.2.2.1 B.2.2.2.1 (by decide) (by decide)) (K_X4_addByte l0 (32 : Int32)) (M_X4_addByte (q_kap E) l0 (32 : Int32)) (by exact fun _v85 => (M_X4_show_88 (q_kap E) l0 l1 v49)) h (fun _v85 σ h => ?_)
      refine q_W.st (st' := []) rfl ?_
      refine q_W.sub [2, 3, 0] rfl ?_
      exact S_X4_show_88 B hT l0 l1 v49 _ h
  · refine q_aload_n (pc := 20) C 1 rfl dX4_show_20 rfl ?_
    refine q_ldcT (pc := 21) (k := 17) (tx := ".word ") C dX4_show_21 (by decide +kernel) (by decide) ?_
    refine q_callV (pc := 23) (As := [q_R (some ((q_kap E) 17))]) (st := []) (ps := q_psV) C B.2.1 hT q_hpV qm_X4_65 qv_X4_addText dX4_show_23 rfl rfl (Nat.le_of_ble_eq_true rfl) (q_flo B.2.2.1 B.2.2.2.1 (by decide) (by decide)) (K_X4_addText l0 (some ((q_kap E) 17))) (M_X4_addText (q_kap E) l0 (some ((q_kap E) 17))) (by exact fun _v23 => (q_mo_rd fun v28 => (q_mo_rd fun v31 => (q_mo_rd fun v35 => (q_mo_rd fun _ => q_mo_ca (M_X4_addNumber (q_kap E) l0 v35) fun _v36 => q_mo_rt))))) h (fun _v23 σ h => ?_)
    refine q_W.st (st' := []) rfl ?_
    refine q_aload_n (pc := 26) C 1 rfl dX4_show_26 rfl ?_
    refine q_aload_n (pc := 27) C 1 rfl dX4_show_27 rfl ?_
    refine q_getA (pc := 28) C dX4_show_28 ql_X4_30 h (fun v28 h => ?_)
    refine q_getA (pc := 31) C dX4_show_31 ql_X4_69 h (fun v31 h => ?_)
    refine q_iload_n (pc := 34) C 2 rfl dX4_show_34 rfl ?_
    refine q_ldL (pc := 35) C dX4_show_35 h (fun v35 h => ?_)
    refine q_callV (pc := 36) (As := [q_L v35]) (st := []) (ps := q_psV) C B.2.1 hT q_hpV qm_X4_74 qv_X4_addNumber dX4_show_36 rfl rfl (Nat.le_of_ble_eq_true rfl) (q_flo B.2.2.1 B.2.2.2.1 (by decide) (by decide)) (K_X4_addNumber l0 v35) (M_X4_addNumber (q_kap E) l0 v35) (by exact fun _v36 => q_mo_rt) h (fun _v36 σ h => ?_)
    refine q_W.st (st' := []) rfl ?_
    refine q_iconst (pc := 39) (v := (1 : Int32)) C dX4_show_39 (by decide) ?_
    exact q_iret C B.2.2.2.2.1 dX4_show_40 h
def F_X5_init (κ : Nat → Nat) (l0 : Option Nat) : q_X Unit :=
  q_gd (¬ l0 = none) (q_gd (¬ (40 : Int32) < 0 ∧ (40 : Int32).toNatClampNeg ≤ 65536) (q_mk (q_nA 5 (40 : Int32)) (40 : Int32).toNatClampNeg fun a7 => q_wr (q_pF l0 8 0 (va_rf (some a7))) (q_gd (¬ (96 : Int32) < 0 ∧ (96 : Int32).toNatClampNeg ≤ 65536) (q_mk (q_nA 4 (96 : Int32)) (96 : Int32).toNatClampNeg fun a16 => q_wr (q_pF l0 8 1 (va_rf (some a16))) (q_rt ())))))
theorem M_X5_init (κ : Nat → Nat) (l0 : Option Nat) : q_mo (F_X5_init κ l0) := (q_mo_gd (q_mo_gd (q_mo_mk fun a7 => (q_mo_wr (q_mo_gd (q_mo_mk fun a16 => (q_mo_wr q_mo_rt)))))))
theorem N_X5_init (κ : Nat → Nat) (l0 : Option Nat) : q_ni (F_X5_init κ l0) := (q_ni_gd (q_ni_gd (q_ni_mk fun a7 => (q_ni_wr (q_ni_gd (q_ni_mk fun a16 => (q_ni_wr q_ni_rt)))))))
set_option maxRecDepth 100000 in
set_option maxHeartbeats 4000000 in
theorem K_X5_init {E : q_Ev} (l0 : Option Nat) : q_Ct E yX5_init (.code yX5_init cX5_init 1 (none)) 1 20 [q_R l0] q_oV (F_X5_init (q_kap E) l0) := by
  refine q_enter (by decide) (Nat.le_of_ble_eq_true rfl) (fun Γ σ w h B hT => ?_)
  have C := B.1
  unfold F_X5_init at h
  refine q_aload_n (pc := 0) C 0 rfl dX5_init_0 rfl ?_
  refine q_objI (pc := 1) C dX5_init_1 qo_X5_3 (q_flo B.2.2.1 B.2.2.2.1 (by decide) (by decide)) (Nat.le_of_ble_eq_true rfl) h (fun h => ?_)
  refine q_aload_n (pc := 4) C 0 rfl dX5_init_4 rfl ?_
  refine q_bipush (pc := 5) (v := (40 : Int32)) C dX5_init_5 (by decide) ?_
  refine q_newA (pc := 7) (t := 5) C dX5_init_7 qb_X5_9 (by decide +kernel) rfl (by decide) (by exact fun a7 => (q_mo_wr (q_mo_gd (q_mo_mk fun a16 => (q_mo_wr q_mo_rt))))) B.2.1 h (fun a7 σ h => ?_)
  refine q_putV (pc := 10) (v := q_R (some a7)) C dX5_init_10 ql_X5_11 (Or.inr ⟨B.2.2.2.2.2, RX5, TX5, 5, rfl, rfl⟩) q_nfA q_nfA' h (fun M10 h => ?_)
  refine q_aload_n (pc := 13) C 0 rfl dX5_init_13 rfl ?_
  refine q_bipush (pc := 14) (v := (96 : Int32)) C dX5_init_14 (by decide) ?_
  refine q_newA (pc := 16) (t := 4) C dX5_init_16 qb_X5_17 (by decide +kernel) rfl (by decide) (by exact fun a16 => (q_mo_wr q_mo_rt)) B.2.1 h (fun a16 σ h => ?_)
  refine q_putV (pc := 19) (v := q_R (some a16)) C dX5_init_19 ql_X5_19 (Or.inr ⟨B.2.2.2.2.2, RX5, TX5, 5, rfl, rfl⟩) q_nfA q_nfA' h (fun M19 h => ?_)
  exact q_vret C B.2.2.2.2.1 dX5_init_22 h
def F_X5_highestWord (κ : Nat → Nat) (l0 : Option Nat) : q_X Int64 :=
  q_rd (q_gI l0 8 2) fun v2 => q_rt (((1 : Int64) <<< (v2.toInt64 &&& 63)) - (1 : Int64))
theorem M_X5_highestWord (κ : Nat → Nat) (l0 : Option Nat) : q_mo (F_X5_highestWord κ l0) := (q_mo_rd fun v2 => q_mo_rt)
theorem N_X5_highestWord (κ : Nat → Nat) (l0 : Option Nat) : q_ni (F_X5_highestWord κ l0) := (q_ni_rd fun v2 => q_ni_rt)
set_option maxRecDepth 100000 in
set_option maxHeartbeats 4000000 in
theorem K_X5_highestWord {E : q_Ev} (l0 : Option Nat) : q_Ct E yX5_highestWord (.code yX5_highestWord cX5_highestWord 1 (some .long)) 0 0 [q_R l0] q_oL (F_X5_highestWord (q_kap E) l0) := by
  refine q_enter (by decide) (Nat.le_of_ble_eq_true rfl) (fun Γ σ w h B hT => ?_)
  have C := B.1
  unfold F_X5_highestWord at h
  refine q_lconst (pc := 0) (v := (1 : Int64)) C dX5_highestWord_0 (by decide) ?_
  refine q_aload_n (pc := 1) C 0 rfl dX5_highestWord_1 rfl ?_
  refine q_getI (pc := 2) C dX5_highestWord_2 ql_X5_23 h (fun v2 h => ?_)
  refine q_lshl (pc := 5) C dX5_highestWord_5 ?_
  refine q_lconst (pc := 6) (v := (1 : Int64)) C dX5_highestWord_6 (by decide) ?_
  refine q_lsub (pc := 7) C dX5_highestWord_7 ?_
  exact q_lret C B.2.2.2.2.1 dX5_highestWord_8 h
def F_X5_hasInstruction_17 (κ : Nat → Nat) (s0 : Int32) : q_X Int32 :=
  q_rz s0
theorem M_X5_hasInstruction_17 (κ : Nat → Nat) (s0 : Int32) : q_mo (F_X5_hasInstruction_17 κ s0) := q_mo_rz
set_option maxRecDepth 100000 in
set_option maxHeartbeats 4000000 in
theorem S_X5_hasInstruction_17 {E : q_Ev} {Γ : q_Gm} {w : (Int32 ⊕ q_Exn) × q_St} (B : q_Bd E Γ cX5_hasInstruction yX5_hasInstruction.cls 2 0 0 (some .boolean) yX5_hasInstruction.name w) (hT : q_nT Γ) (s0 : Int32) (σ : q_St) (h : F_X5_hasInstruction_17 (q_kap E) s0 σ = some w) : q_W E Γ (q_QF E Γ q_oI w) 2 σ 17 [] [q_I s0] := by
  have C := B.1
  unfold F_X5_hasInstruction_17 at h
  exact q_zret C B.2.2.2.2.1 dX5_hasInstruction_17 h
def F_X5_hasInstruction_16 (κ : Nat → Nat) : q_X Int32 :=
  F_X5_hasInstruction_17 κ (0 : Int32)
theorem M_X5_hasInstruction_16 (κ : Nat → Nat) : q_mo (F_X5_hasInstruction_16 κ) := (M_X5_hasInstruction_17 κ (0 : Int32))
set_option maxRecDepth 100000 in
set_option maxHeartbeats 4000000 in
theorem S_X5_hasInstruction_16 {E : q_Ev} {Γ : q_Gm} {w : (Int32 ⊕ q_Exn) × q_St} (B : q_Bd E Γ cX5_hasInstruction yX5_hasInstruction.cls 2 0 0 (some .boolean) yX5_hasInstruction.name w) (hT : q_nT Γ) (σ : q_St) (h : F_X5_hasInstruction_16 (q_kap E) σ = some w) : q_W E Γ (q_QF E Γ q_oI w) 2 σ 16 [] [] := by
  have C := B.1
  unfold F_X5_hasInstruction_16 at h
  refine q_iconst (pc := 16) (v := (0 : Int32)) C dX5_hasInstruction_16 (by decide) ?_
  exact S_X5_hasInstruction_17 B hT (0 : Int32) _ h
def F_X5_hasInstruction (κ : Nat → Nat) (l0 : Option Nat) (l1 : Int32) : q_X Int32 :=
  q_br (l1 < 0) (F_X5_hasInstruction_16 κ) (q_rd (q_gI l0 8 4) fun v6 => q_br (v6 ≤ l1) (F_X5_hasInstruction_16 κ) (F_X5_hasInstruction_17 κ (1 : Int32)))
theorem M_X5_hasInstruction (κ : Nat → Nat) (l0 : Option Nat) (l1 : Int32) : q_mo (F_X5_hasInstruction κ l0 l1) := (q_mo_br (M_X5_hasInstruction_16 κ) (q_mo_rd fun v6 => (q_mo_br (M_X5_hasInstruction_16 κ) (M_X5_hasInstruction_17 κ (1 : Int32)))))
set_option maxRecDepth 100000 in
set_option maxHeartbeats 4000000 in
theorem K_X5_hasInstruction {E : q_Ev} (l0 : Option Nat) (l1 : Int32) : q_Ct E yX5_hasInstruction (.code yX5_hasInstruction cX5_hasInstruction 2 (some .boolean)) 0 0 [q_R l0, q_I l1] q_oI (F_X5_hasInstruction (q_kap E) l0 l1) := by
  refine q_enter (by decide) (Nat.le_of_ble_eq_true rfl) (fun Γ σ w h B hT => ?_)
  have C := B.1
  unfold F_X5_hasInstruction at h
  refine q_iload_n (pc := 0) C 1 rfl dX5_hasInstruction_0 rfl ?_
  refine q_if_lt (pc := 1) (tgt := 16) C dX5_hasInstruction_1 (by decide) h (fun _ h => ?_) (fun _ h => ?_)
  · refine q_W.sub [] rfl ?_
    exact S_X5_hasInstruction_16 B hT _ h
  · refine q_iload_n (pc := 4) C 1 rfl dX5_hasInstruction_4 rfl ?_
    refine q_aload_n (pc := 5) C 0 rfl dX5_hasInstruction_5 rfl ?_
    refine q_getI (pc := 6) C dX5_hasInstruction_6 ql_X5_30 h (fun v6 h => ?_)
    refine q_icmp_ge (pc := 9) (tgt := 16) C dX5_hasInstruction_9 (by decide) h (fun _ h => ?_) (fun _ h => ?_)
    · refine q_W.sub [] rfl ?_
      exact S_X5_hasInstruction_16 B hT _ h
    · refine q_iconst (pc := 12) (v := (1 : Int32)) C dX5_hasInstruction_12 (by decide) ?_
      refine q_goto (pc := 13) (tgt := 17) C dX5_hasInstruction_13 (by decide) ?_
      refine q_W.sub [] rfl ?_
      exact S_X5_hasInstruction_17 B hT (1 : Int32) _ h
def F_X6_init (κ : Nat → Nat) (l0 : Option Nat) : q_X Unit :=
  q_gd (¬ l0 = none) (q_gd (¬ (4096 : Int32) < 0 ∧ (4096 : Int32).toNatClampNeg ≤ 65536) (q_mk (q_nL (4096 : Int32)) (4096 : Int32).toNatClampNeg fun a8 => q_wr (q_pF l0 9 0 (va_rf (some a8))) (q_gd (¬ (4096 : Int32) < 0 ∧ (4096 : Int32).toNatClampNeg ≤ 65536) (q_mk (q_nI 3 (4096 : Int32)) (4096 : Int32).toNatClampNeg fun a17 => q_wr (q_pF l0 9 1 (va_rf (some a17))) (q_rt ())))))
theorem M_X6_init (κ : Nat → Nat) (l0 : Option Nat) : q_mo (F_X6_init κ l0) := (q_mo_gd (q_mo_gd (q_mo_mk fun a8 => (q_mo_wr (q_mo_gd (q_mo_mk fun a17 => (q_mo_wr q_mo_rt)))))))
theorem N_X6_init (κ : Nat → Nat) (l0 : Option Nat) : q_ni (F_X6_init κ l0) := (q_ni_gd (q_ni_gd (q_ni_mk fun a8 => (q_ni_wr (q_ni_gd (q_ni_mk fun a17 => (q_ni_wr q_ni_rt)))))))
set_option maxRecDepth 100000 in
set_option maxHeartbeats 4000000 in
theorem K_X6_init {E : q_Ev} (l0 : Option Nat) : q_Ct E yX6_init (.code yX6_init cX6_init 1 (none)) 1 20 [q_R l0] q_oV (F_X6_init (q_kap E) l0) := by
  refine q_enter (by decide) (Nat.le_of_ble_eq_true rfl) (fun Γ σ w h B hT => ?_)
  have C := B.1
  unfold F_X6_init at h
  refine q_aload_n (pc := 0) C 0 rfl dX6_init_0 rfl ?_
  refine q_objI (pc := 1) C dX6_init_1 qo_X6_3 (q_flo B.2.2.1 B.2.2.2.1 (by decide) (by decide)) (Nat.le_of_ble_eq_true rfl) h (fun h => ?_)
  refine q_aload_n (pc := 4) C 0 rfl dX6_init_4 rfl ?_
  refine q_sipush (pc := 5) (v := (4096 : Int32)) C dX6_init_5 (by decide) ?_
  refine q_newP (pc := 8) (t := 2) (A := ((4096 : Int32).toNatClampNeg, .inr (.inl (fun _ => 0)))) C dX6_init_8 qa_long rfl (by decide) (fun _ h => h) rfl (fun _ => rfl) (by decide) (by exact fun a8 => (q_mo_wr (q_mo_gd (q_mo_mk fun a17 => (q_mo_wr q_mo_rt))))) B.2.1 h (fun a8 σ h => ?_)
  refine q_putV (pc := 10) (v := q_R (some a8)) C dX6_init_10 ql_X6_9 (Or.inr ⟨B.2.2.2.2.2, RX6, TX6, 3, rfl, rfl⟩) q_nfA q_nfA' h (fun M10 h => ?_)
  refine q_aload_n (pc := 13) C 0 rfl dX6_init_13 rfl ?_
  refine q_sipush (pc := 14) (v := (4096 : Int32)) C dX6_init_14 (by decide) ?_
  refine q_newP (pc := 17) (t := 3) (A := ((4096 : Int32).toNatClampNeg, .inl (fun _ => 0))) C dX6_init_17 qa_boolean rfl (by decide) (fun _ h => h) rfl (fun _ => rfl) (by decide) (by exact fun a17 => (q_mo_wr q_mo_rt)) B.2.1 h (fun a17 σ h => ?_)
  refine q_putV (pc := 19) (v := q_R (some a17)) C dX6_init_19 ql_X6_15 (Or.inr ⟨B.2.2.2.2.2, RX6, TX6, 3, rfl, rfl⟩) q_nfA q_nfA' h (fun M19 h => ?_)
  exact q_vret C B.2.2.2.2.1 dX6_init_22 h
def F_X6_clear_29 (κ : Nat → Nat) (l0 : Option Nat) : q_X Unit :=
  q_wr (q_pF l0 9 2 (.int (0 : Int32))) (q_rt ())
theorem M_X6_clear_29 (κ : Nat → Nat) (l0 : Option Nat) : q_mo (F_X6_clear_29 κ l0) := (q_mo_wr q_mo_rt)
theorem N_X6_clear_29 (κ : Nat → Nat) (l0 : Option Nat) : q_ni (F_X6_clear_29 κ l0) := (q_ni_wr q_ni_rt)
set_option maxRecDepth 100000 in
set_option maxHeartbeats 4000000 in
theorem S_X6_clear_29 {E : q_Ev} {Γ : q_Gm} {w : (Unit ⊕ q_Exn) × q_St} (B : q_Bd E Γ cX6_clear yX6_clear.cls 2 0 0 (none) yX6_clear.name w) (hT : q_nT Γ) (l0 : Option Nat) (σ : q_St) (h : F_X6_clear_29 (q_kap E) l0 σ = some w) : q_W E Γ (q_QF E Γ q_oV w) 2 σ 29 [(0, q_R l0)] [] := by
  have C := B.1
  unfold F_X6_clear_29 at h
  refine q_aload_n (pc := 29) C 0 rfl dX6_clear_29 rfl ?_
  refine q_iconst (pc := 30) (v := (0 : Int32)) C dX6_clear_30 (by decide) ?_
  refine q_putV (pc := 31) (v := q_I (0 : Int32)) C dX6_clear_31 ql_X6_19 (Or.inl rfl) rfl rfl h (fun M31 h => ?_)
  exact q_vret C B.2.2.2.2.1 dX6_clear_34 h
def F_X6_clear_2B (κ : Nat → Nat) (r2 : Option Nat → Int32 → q_X Unit) (l0 : Option Nat) (l1 : Int32) : q_X Unit :=
  q_rd (q_gI l0 9 2) fun v3 => q_br (v3 ≤ 0) (F_X6_clear_29 κ l0) (q_br ((4096 : Int32) ≤ l1) (F_X6_clear_29 κ l0) (q_rd (q_gA l0 9 1) fun v17 => q_wr (q_sI 3 v17 l1 (vp_nar .boolean (0 : Int32))) (r2 l0 (l1 + (1 : Int32)))))
theorem M_X6_clear_2B (κ : Nat → Nat) (r2 : Option Nat → Int32 → q_X Unit) (mr2 : ∀ (l0 : Option Nat) (l1 : Int32), q_mo (r2 l0 l1)) (l0 : Option Nat) (l1 : Int32) : q_mo (F_X6_clear_2B κ r2 l0 l1) := (q_mo_rd fun v3 => (q_mo_br (M_X6_clear_29 κ l0) (q_mo_br (M_X6_clear_29 κ l0) (q_mo_rd fun v17 => (q_mo_wr (mr2 l0 (l1 + (1 : Int32))))))))
set_option maxRecDepth 100000 in
set_option maxHeartbeats 4000000 in
theorem S_X6_clear_2B {E : q_Ev} {Γ : q_Gm} {w : (Unit ⊕ q_Exn) × q_St} (B : q_Bd E Γ cX6_clear yX6_clear.cls 2 0 0 (none) yX6_clear.name w) (hT : q_nT Γ) (r2 : Option Nat → Int32 → q_X Unit) (hr2 : ∀ (l0 : Option Nat) (l1 : Int32) (σ : q_St), r2 l0 l1 σ = some w → q_W E Γ (q_QF E Γ q_oV w) 2 σ 2 [(0, q_R l0), (1, q_I l1)] []) (mr2 : ∀ (l0 : Option Nat) (l1 : Int32), q_mo (r2 l0 l1)) (l0 : Option Nat) (l1 : Int32) (σ : q_St) (h : F_X6_clear_2B (q_kap E) r2 l0 l1 σ = some w) : q_W E Γ (q_QF E Γ q_oV w) 2 σ 2 [(0, q_R l0), (1, q_I l1)] [] := by
  have C := B.1
  unfold F_X6_clear_2B at h
  refine q_aload_n (pc := 2) C 0 rfl dX6_clear_2 rfl ?_
  refine q_getI (pc := 3) C dX6_clear_3 ql_X6_19 h (fun v3 h => ?_)
  refine q_if_le (pc := 6) (tgt := 29) C dX6_clear_6 (by decide) h (fun _ h => ?_) (fun _ h => ?_)
  · refine q_W.sub [0] rfl ?_
    exact S_X6_clear_29 B hT l0 _ h
  · refine q_iload_n (pc := 9) C 1 rfl dX6_clear_9 rfl ?_
    refine q_sipush (pc := 10) (v := (4096 : Int32)) C dX6_clear_10 (by decide) ?_
    refine q_icmp_ge (pc := 13) (tgt := 29) C dX6_clear_13 (by decide) h (fun _ h => ?_) (fun _ h => ?_)
    · refine q_W.sub [0] rfl ?_
      exact S_X6_clear_29 B hT l0 _ h
    · refine q_aload_n (pc := 16) C 0 rfl dX6_clear_16 rfl ?_
      refine q_getA (pc := 17) C dX6_clear_17 ql_X6_15 h (fun v17 h => ?_)
      refine q_iload_n (pc := 20) C 1 rfl dX6_clear_20 rfl ?_
      refine q_iconst (pc := 21) (v := (0 : Int32)) C dX6_clear_21 (by decide) ?_
      refine q_stZ (pc := 22) C dX6_clear_22 h (fun M22 h => ?_)
      refine q_iinc (pc := 23) (v := (1 : Int32)) (l' := [(1, q_I (l1 + (1 : Int32))), (0, q_R l0)]) C 1 rfl dX6_clear_23 (by decide) (by decide) rfl ?_
      refine q_goto (pc := 26) (tgt := 2) C dX6_clear_26 (by decide) ?_
      refine q_W.sub [1, 0] rfl ?_
      exact hr2 l0 (l1 + (1 : Int32)) _ h
def F_X6_clear_2 (κ : Nat → Nat) : Nat → Option Nat → Int32 → q_X Unit
  | 0, _, _ => q_no
  | n + 1, l0, l1 => F_X6_clear_2B κ (F_X6_clear_2 κ n) l0 l1
theorem M_X6_clear_2 (κ : Nat → Nat) : ∀ (n : Nat) (l0 : Option Nat) (l1 : Int32), q_mo (F_X6_clear_2 κ n l0 l1)
  | 0, _, _ => q_mo_no
  | n + 1, l0, l1 => M_X6_clear_2B κ (F_X6_clear_2 κ n) (M_X6_clear_2 κ n) l0 l1
theorem S_X6_clear_2 {E : q_Ev} {Γ : q_Gm} {w : (Unit ⊕ q_Exn) × q_St} (B : q_Bd E Γ cX6_clear yX6_clear.cls 2 0 0 (none) yX6_clear.name w) (hT : q_nT Γ) : ∀ (n : Nat) (l0 : Option Nat) (l1 : Int32) (σ : q_St), F_X6_clear_2 (q_kap E) n l0 l1 σ = some w → q_W E Γ (q_QF E Γ q_oV w) 2 σ 2 [(0, q_R l0), (1, q_I l1)] []
  | 0, _, _, _, h => by cases h
  | n + 1, l0, l1, σ, h => S_X6_clear_2B B hT (F_X6_clear_2 (q_kap E) n) (S_X6_clear_2 B hT n) (M_X6_clear_2 (q_kap E) n) l0 l1 σ h
def F_X6_clear (κ : Nat → Nat) (l0 : Option Nat) : q_X Unit :=
  F_X6_clear_2 κ q_fu l0 (0 : Int32)
theorem M_X6_clear (κ : Nat → Nat) (l0 : Option Nat) : q_mo (F_X6_clear κ l0) := (M_X6_clear_2 κ q_fu l0 (0 : Int32))
set_option maxRecDepth 100000 in
set_option maxHeartbeats 4000000 in
theorem K_X6_clear {E : q_Ev} (l0 : Option Nat) : q_Ct E yX6_clear (.code yX6_clear cX6_clear 2 (none)) 0 0 [q_R l0] q_oV (F_X6_clear (q_kap E) l0) := by
  refine q_enter (by decide) (Nat.le_of_ble_eq_true rfl) (fun Γ σ w h B hT => ?_)
  have C := B.1
  unfold F_X6_clear at h
  refine q_iconst (pc := 0) (v := (0 : Int32)) C dX6_clear_0 (by decide) ?_
  refine q_istore_n (pc := 1) (l' := [(1, q_I (0 : Int32)), (0, q_R l0)]) C dX6_clear_1 rfl (by decide) rfl ?_
  refine q_W.sub [1, 0] rfl ?_
  exact S_X6_clear_2 B hT q_fu l0 (0 : Int32) _ h
def F_X6_put_26 (κ : Nat → Nat) (l0 : Option Nat) (l1 : Int32) (l2 : Int64) : q_X Unit :=
  q_rd (q_gA l0 9 0) fun v27 => q_wr (q_sL v27 l1 l2) (q_rt ())
theorem M_X6_put_26 (κ : Nat → Nat) (l0 : Option Nat) (l1 : Int32) (l2 : Int64) : q_mo (F_X6_put_26 κ l0 l1 l2) := (q_mo_rd fun v27 => (q_mo_wr q_mo_rt))
theorem N_X6_put_26 (κ : Nat → Nat) (l0 : Option Nat) (l1 : Int32) (l2 : Int64) : q_ni (F_X6_put_26 κ l0 l1 l2) := (q_ni_rd fun v27 => (q_ni_wr q_ni_rt))
set_option maxRecDepth 100000 in
set_option maxHeartbeats 4000000 in
theorem S_X6_put_26 {E : q_Ev} {Γ : q_Gm} {w : (Unit ⊕ q_Exn) × q_St} (B : q_Bd E Γ cX6_put yX6_put.cls 4 0 0 (none) yX6_put.name w) (hT : q_nT Γ) (l0 : Option Nat) (l1 : Int32) (l2 : Int64) (σ : q_St) (h : F_X6_put_26 (q_kap E) l0 l1 l2 σ = some w) : q_W E Γ (q_QF E Γ q_oV w) 4 σ 26 [(0, q_R l0), (1, q_I l1), (2, q_L l2)] [] := by
  have C := B.1
  unfold F_X6_put_26 at h
  refine q_aload_n (pc := 26) C 0 rfl dX6_put_26 rfl ?_
  refine q_getA (pc := 27) C dX6_put_27 ql_X6_9 h (fun v27 h => ?_)
  refine q_iload_n (pc := 30) C 1 rfl dX6_put_30 rfl ?_
  refine q_lload_n (pc := 31) C 2 rfl dX6_put_31 rfl ?_
  refine q_stL (pc := 32) C dX6_put_32 h (fun M32 h => ?_)
  exact q_vret C B.2.2.2.2.1 dX6_put_33 h
def F_X6_put (κ : Nat → Nat) (l0 : Option Nat) (l1 : Int32) (l2 : Int64) : q_X Unit :=
  q_rd (q_gA l0 9 1) fun v1 => q_rd (q_lI 3 v1 l1) fun v5 => q_br (¬ v5 = 0) (F_X6_put_26 κ l0 l1 l2) (q_rd (q_gA l0 9 1) fun v10 => q_wr (q_sI 3 v10 l1 (vp_nar .boolean (1 : Int32))) (q_rd (q_gI l0 9 2) fun v18 => q_wr (q_pF l0 9 2 (.int (v18 + (1 : Int32)))) (F_X6_put_26 κ l0 l1 l2)))
theorem M_X6_put (κ : Nat → Nat) (l0 : Option Nat) (l1 : Int32) (l2 : Int64) : q_mo (F_X6_put κ l0 l1 l2) := (q_mo_rd fun v1 => (q_mo_rd fun v5 => (q_mo_br (M_X6_put_26 κ l0 l1 l2) (q_mo_rd fun v10 => (q_mo_wr (q_mo_rd fun v18 => (q_mo_wr (M_X6_put_26 κ l0 l1 l2))))))))
theorem N_X6_put (κ : Nat → Nat) (l0 : Option Nat) (l1 : Int32) (l2 : Int64) : q_ni (F_X6_put κ l0 l1 l2) := (q_ni_rd fun v1 => (q_ni_rd fun v5 => (q_ni_br (N_X6_put_26 κ l0 l1 l2) (q_ni_rd fun v10 => (q_ni_wr (q_ni_rd fun v18 => (q_ni_wr (N_X6_put_26 κ l0 l1 l2))))))))
set_option maxRecDepth 100000 in
set_option maxHeartbeats 4000000 in
theorem K_X6_put {E : q_Ev} (l0 : Option Nat) (l1 : Int32) (l2 : Int64) : q_Ct E yX6_put (.code yX6_put cX6_put 4 (none)) 0 0 [q_R l0, q_I l1, q_L l2] q_oV (F_X6_put (q_kap E) l0 l1 l2) := by
  refine q_enter (by decide) (Nat.le_of_ble_eq_true rfl) (fun Γ σ w h B hT => ?_)
  have C := B.1
  unfold F_X6_put at h
  refine q_aload_n (pc := 0) C 0 rfl dX6_put_0 rfl ?_
  refine q_getA (pc := 1) C dX6_put_1 ql_X6_15 h (fun v1 h => ?_)
  refine q_iload_n (pc := 4) C 1 rfl dX6_put_4 rfl ?_
  refine q_ldI (pc := 5) C dX6_put_5 (Or.inr (Or.inr ⟨rfl, rfl⟩)) h (fun v5 h => ?_)
  refine q_if_ne (pc := 6) (tgt := 26) C dX6_put_6 (by decide) h (fun _ h => ?_) (fun _ h => ?_)
  · exact S_X6_put_26 B hT l0 l1 l2 _ h
  · refine q_aload_n (pc := 9) C 0 rfl dX6_put_9 rfl ?_
    refine q_getA (pc := 10) C dX6_put_10 ql_X6_15 h (fun v10 h => ?_)
    refine q_iload_n (pc := 13) C 1 rfl dX6_put_13 rfl ?_
    refine q_iconst (pc := 14) (v := (1 : Int32)) C dX6_put_14 (by decide) ?_
    refine q_stZ (pc := 15) C dX6_put_15 h (fun M15 h => ?_)
    refine q_aload_n (pc := 16) C 0 rfl dX6_put_16 rfl ?_
    refine q_dup (pc := 17) C dX6_put_17 rfl ?_
    refine q_getI (pc := 18) C dX6_put_18 ql_X6_19 h (fun v18 h => ?_)
    refine q_iconst (pc := 21) (v := (1 : Int32)) C dX6_put_21 (by decide) ?_
    refine q_iadd (pc := 22) C dX6_put_22 ?_
    refine q_putV (pc := 23) (v := q_I (v18 + (1 : Int32))) C dX6_put_23 ql_X6_19 (Or.inl rfl) rfl rfl h (fun M23 h => ?_)
    exact S_X6_put_26 B hT l0 l1 l2 _ h
def F_Jxa1e45_init_da8c8 (κ : Nat → Nat) (l0 : Option Nat) : q_X Unit :=
  q_gd (¬ l0 = none) (q_rt ())
theorem M_Jxa1e45_init_da8c8 (κ : Nat → Nat) (l0 : Option Nat) : q_mo (F_Jxa1e45_init_da8c8 κ l0) := (q_mo_gd q_mo_rt)
theorem N_Jxa1e45_init_da8c8 (κ : Nat → Nat) (l0 : Option Nat) : q_ni (F_Jxa1e45_init_da8c8 κ l0) := (q_ni_gd q_ni_rt)
set_option maxRecDepth 100000 in
set_option maxHeartbeats 4000000 in
theorem K_Jxa1e45_init_da8c8 {E : q_Ev} (l0 : Option Nat) : q_Ct E yJxa1e45_init_da8c8 (.code yJxa1e45_init_da8c8 cJxa1e45_init_da8c8 1 (none)) 1 20 [q_R l0] q_oV (F_Jxa1e45_init_da8c8 (q_kap E) l0) := by
  refine q_enter (by decide) (Nat.le_of_ble_eq_true rfl) (fun Γ σ w h B hT => ?_)
  have C := B.1
  unfold F_Jxa1e45_init_da8c8 at h
  refine q_aload_n (pc := 0) C 0 rfl dJxa1e45_init_da8c8_0 rfl ?_
  refine q_objI (pc := 1) C dJxa1e45_init_da8c8_1 qo_Jxa1e45_1 (q_flo B.2.2.1 B.2.2.2.1 (by decide) (by decide)) (Nat.le_of_ble_eq_true rfl) h (fun h => ?_)
  exact q_vret C B.2.2.2.2.1 dJxa1e45_init_da8c8_4 h
def F_Jxc12de_init_da8c8 (κ : Nat → Nat) (l0 : Option Nat) : q_X Unit :=
  q_gd (¬ l0 = none) (q_ca (F_Jxa1e45_init_da8c8 κ l0) fun _v1 => q_wr (q_pF l0 2 0 (.int (0 : Int32))) (q_rt ()))
theorem M_Jxc12de_init_da8c8 (κ : Nat → Nat) (l0 : Option Nat) : q_mo (F_Jxc12de_init_da8c8 κ l0) := (q_mo_gd (q_mo_ca (M_Jxa1e45_init_da8c8 κ l0) fun _v1 => (q_mo_wr q_mo_rt)))
theorem N_Jxc12de_init_da8c8 (κ : Nat → Nat) (l0 : Option Nat) : q_ni (F_Jxc12de_init_da8c8 κ l0) := (q_ni_gd (q_ni_ca (N_Jxa1e45_init_da8c8 κ l0) fun _v1 => (q_ni_wr q_ni_rt)))
set_option maxRecDepth 100000 in
set_option maxHeartbeats 4000000 in
theorem K_Jxc12de_init_da8c8 {E : q_Ev} (l0 : Option Nat) : q_Ct E yJxc12de_init_da8c8 (.code yJxc12de_init_da8c8 cJxc12de_init_da8c8 1 (none)) 2 40 [q_R l0] q_oV (F_Jxc12de_init_da8c8 (q_kap E) l0) := by
  refine q_enter (by decide) (Nat.le_of_ble_eq_true rfl) (fun Γ σ w h B hT => ?_)
  have C := B.1
  unfold F_Jxc12de_init_da8c8 at h
  refine q_aload_n (pc := 0) C 0 rfl dJxc12de_init_da8c8_0 rfl ?_
  refine q_callI (pc := 1) (As := []) (st := []) C B.2.1 (fun _ => rfl) qm_Jxc12de_1 qI_Jxa1e45_init_da8c8 dJxc12de_init_da8c8_1 rfl rfl (Nat.le_of_ble_eq_true rfl) (q_flo B.2.2.1 B.2.2.2.1 (by decide) (by decide)) (K_Jxa1e45_init_da8c8 l0) (M_Jxa1e45_init_da8c8 (q_kap E) l0) (N_Jxa1e45_init_da8c8 (q_kap E) l0) (by exact fun _v1 => (q_mo_wr q_mo_rt)) h (fun _v1 σ h => ?_)
  refine q_aload_n (pc := 4) C 0 rfl dJxc12de_init_da8c8_4 rfl ?_
  refine q_iconst (pc := 5) (v := (0 : Int32)) C dJxc12de_init_da8c8_5 (by decide) ?_
  refine q_putV (pc := 6) (v := q_I (0 : Int32)) C dJxc12de_init_da8c8_6 ql_Jxc12de_7 (Or.inl rfl) rfl rfl h (fun M6 h => ?_)
  exact q_vret C B.2.2.2.2.1 dJxc12de_init_da8c8_9 h
def F_Jx4a65c_init_da8c8 (κ : Nat → Nat) (l0 : Option Nat) : q_X Unit :=
  q_gd (¬ l0 = none) (q_ca (F_Jxc12de_init_da8c8 κ l0) fun _v1 => q_wr (q_pF l0 2 1 (va_rf (some (κ 99)))) (q_rt ()))
theorem M_Jx4a65c_init_da8c8 (κ : Nat → Nat) (l0 : Option Nat) : q_mo (F_Jx4a65c_init_da8c8 κ l0) := (q_mo_gd (q_mo_ca (M_Jxc12de_init_da8c8 κ l0) fun _v1 => (q_mo_wr q_mo_rt)))
theorem N_Jx4a65c_init_da8c8 (κ : Nat → Nat) (l0 : Option Nat) : q_ni (F_Jx4a65c_init_da8c8 κ l0) := (q_ni_gd (q_ni_ca (N_Jxc12de_init_da8c8 κ l0) fun _v1 => (q_ni_wr q_ni_rt)))
set_option maxRecDepth 100000 in
set_option maxHeartbeats 4000000 in
theorem K_Jx4a65c_init_da8c8 {E : q_Ev} (l0 : Option Nat) : q_Ct E yJx4a65c_init_da8c8 (.code yJx4a65c_init_da8c8 cJx4a65c_init_da8c8 1 (none)) 3 60 [q_R l0] q_oV (F_Jx4a65c_init_da8c8 (q_kap E) l0) := by
  refine q_enter (by decide) (Nat.le_of_ble_eq_true rfl) (fun Γ σ w h B hT => ?_)
  have C := B.1
  unfold F_Jx4a65c_init_da8c8 at h
  refine q_aload_n (pc := 0) C 0 rfl dJx4a65c_init_da8c8_0 rfl ?_
  refine q_callI (pc := 1) (As := []) (st := []) C B.2.1 (fun _ => rfl) qm_Jx4a65c_1 qI_Jxc12de_init_da8c8 dJx4a65c_init_da8c8_1 rfl rfl (Nat.le_of_ble_eq_true rfl) (q_flo B.2.2.1 B.2.2.2.1 (by decide) (by decide)) (K_Jxc12de_init_da8c8 l0) (M_Jxc12de_init_da8c8 (q_kap E) l0) (N_Jxc12de_init_da8c8 (q_kap E) l0) (by exact fun _v1 => (q_mo_wr q_mo_rt)) h (fun _v1 σ h => ?_)
  refine q_aload_n (pc := 4) C 0 rfl dJx4a65c_init_da8c8_4 rfl ?_
  refine q_getsD (pc := 5) C dJx4a65c_init_da8c8_5 qz_Jx4a65c_39 ?_
  refine q_putV (pc := 8) (v := q_R (some ((q_kap E) 99))) C dJx4a65c_init_da8c8_8 ql_Jx4a65c_9 (Or.inl rfl) q_nfA q_nfA' h (fun M8 h => ?_)
  exact q_vret C B.2.2.2.2.1 dJx4a65c_init_da8c8_11 h
def F_X8_init (κ : Nat → Nat) (l0 : Option Nat) (l1 : Option Nat) (l2 : Option Nat) (l3 : Option Nat) : q_X Unit :=
  q_gd (¬ l0 = none) (q_mk (.inr (.inl (2, [.int 0, .null, .int 0]))) 3 fun a5 => q_gd (¬ (some a5) = none) (q_ca (F_Jx4a65c_init_da8c8 κ (some a5)) fun _v9 => q_wr (q_pF l0 11 4 (va_rf (some a5))) (q_mk (.inr (.inl (2, [.int 0, .null, .int 0]))) 3 fun a16 => q_gd (¬ (some a16) = none) (q_ca (F_Jx4a65c_init_da8c8 κ (some a16)) fun _v20 => q_wr (q_pF l0 11 5 (va_rf (some a16))) (q_gd (¬ (256 : Int32) < 0 ∧ (256 : Int32).toNatClampNeg ≤ 65536) (q_mk (q_nI 1 (256 : Int32)) (256 : Int32).toNatClampNeg fun a30 => q_wr (q_pF l0 11 6 (va_rf (some a30))) (q_gd (¬ (5 : Int32) < 0 ∧ (5 : Int32).toNatClampNeg ≤ 65536) (q_mk (q_nL (5 : Int32)) (5 : Int32).toNatClampNeg fun a37 => q_wr (q_pF l0 11 7 (va_rf (some a37))) (q_wr (q_pF l0 11 0 (va_rf l1)) (q_rd (q_gA l1 12 0) fun v49 => q_wr (q_pF l0 11 1 (va_rf v49)) (q_wr (q_pF l0 11 2 (va_rf l2)) (q_wr (q_pF l0 11 3 (va_rf l3)) (q_rt ())))))))))))))
theorem M_X8_init (κ : Nat → Nat) (l0 : Option Nat) (l1 : Option Nat) (l2 : Option Nat) (l3 : Option Nat) : q_mo (F_X8_init κ l0 l1 l2 l3) := (q_mo_gd (q_mo_mk fun a5 => (q_mo_gd (q_mo_ca (M_Jx4a65c_init_da8c8 κ (some a5)) fun _v9 => (q_mo_wr (q_mo_mk fun a16 => (q_mo_gd (q_mo_ca (M_Jx4a65c_init_da8c8 κ (some a16)) fun _v20 => (q_mo_wr (q_mo_gd (q_mo_mk fun a30 => (q_mo_wr (q_mo_gd (q_mo_mk fun a37 => (q_mo_wr (q_mo_wr (q_mo_rd fun v49 => (q_mo_wr (q_mo_wr (q_mo_wr q_mo_rt))))))))))))))))))))
theorem N_X8_init (κ : Nat → Nat) (l0 : Option Nat) (l1 : Option Nat) (l2 : Option Nat) (l3 : Option Nat) : q_ni (F_X8_init κ l0 l1 l2 l3) := (q_ni_gd (q_ni_mk fun a5 => (q_ni_gd (q_ni_ca (N_Jx4a65c_init_da8c8 κ (some a5)) fun _v9 => (q_ni_wr (q_ni_mk fun a16 => (q_ni_gd (q_ni_ca (N_Jx4a65c_init_da8c8 κ (some a16)) fun _v20 => (q_ni_wr (q_ni_gd (q_ni_mk fun a30 => (q_ni_wr (q_ni_gd (q_ni_mk fun a37 => (q_ni_wr (q_ni_wr (q_ni_rd fun v49 => (q_ni_wr (q_ni_wr (q_ni_wr q_ni_rt))))))))))))))))))))
set_option maxRecDepth 100000 in
set_option maxHeartbeats 4000000 in
theorem K_X8_init {E : q_Ev} (l0 : Option Nat) (l1 : Option Nat) (l2 : Option Nat) (l3 : Option Nat) : q_Ct E yX8_init (.code yX8_init cX8_init 4 (none)) 4 80 [q_R l0, q_R l1, q_R l2, q_R l3] q_oV (F_X8_init (q_kap E) l0 l1 l2 l3) := by
  refine q_enter (by decide) (Nat.le_of_ble_eq_true rfl) (fun Γ σ w h B hT => ?_)
  have C := B.1
  unfold F_X8_init at h
  refine q_aload_n (pc := 0) C 0 rfl dX8_init_0 rfl ?_
  refine q_objI (pc := 1) C dX8_init_1 qo_X8_3 (q_flo B.2.2.1 B.2.2.2.1 (by decide) (by decide)) (Nat.le_of_ble_eq_true rfl) h (fun h => ?_)
  refine q_aload_n (pc := 4) C 0 rfl dX8_init_4 rfl ?_
  refine q_new (pc := 5) C dX8_init_5 qn_X8_9 (by exact fun a5 => (q_mo_gd (q_mo_ca (M_Jx4a65c_init_da8c8 (q_kap E) (some a5)) fun _v9 => (q_mo_wr (q_mo_mk fun a16 => (q_mo_gd (q_mo_ca (M_Jx4a65c_init_da8c8 (q_kap E) (some a16)) fun _v20 => (q_mo_wr (q_mo_gd (q_mo_mk fun a30 => (q_mo_wr (q_mo_gd (q_mo_mk fun a37 => (q_mo_wr (q_mo_wr (q_mo_rd fun v49 => (q_mo_wr (q_mo_wr (q_mo_wr q_mo_rt))))))))))))))))))) B.2.1 h (fun a5 σ h => ?_)
  refine q_dup (pc := 8) C dX8_init_8 rfl ?_
  refine q_callI (pc := 9) (As := []) (st := [q_R (some a5), q_R l0]) C B.2.1 (fun _ => rfl) qm_X8_11 qI_Jx4a65c_init_da8c8 dX8_init_9 rfl rfl (Nat.le_of_ble_eq_true rfl) (q_flo B.2.2.1 B.2.2.2.1 (by decide) (by decide)) (K_Jx4a65c_init_da8c8 (some a5)) (M_Jx4a65c_init_da8c8 (q_kap E) (some a5)) (N_Jx4a65c_init_da8c8 (q_kap E) (some a5)) (by exact fun _v9 => (q_mo_wr (q_mo_mk fun a16 => (q_mo_gd (q_mo_ca (M_Jx4a65c_init_da8c8 (q_kap E) (some a16)) fun _v20 => (q_mo_wr (q_mo_gd (q_mo_mk fun a30 => (q_mo_wr (q_mo_gd (q_mo_mk fun a37 => (q_mo_wr (q_mo_wr (q_mo_rd fun v49 => (q_mo_wr (q_mo_wr (q_mo_wr q_mo_rt))))))))))))))))) h (fun _v9 σ h => ?_)
  refine q_putV (pc := 12) (v := q_R (some a5)) C dX8_init_12 ql_X8_12 (Or.inr ⟨B.2.2.2.2.2, RX8, TX8, 9, rfl, rfl⟩) q_nfO q_nfO' h (fun M12 h => ?_)
  refine q_aload_n (pc := 15) C 0 rfl dX8_init_15 rfl ?_
  refine q_new (pc := 16) C dX8_init_16 qn_X8_9 (by exact fun a16 => (q_mo_gd (q_mo_ca (M_Jx4a65c_init_da8c8 (q_kap E) (some a16)) fun _v20 => (q_mo_wr (q_mo_gd (q_mo_mk fun a30 => (q_mo_wr (q_mo_gd (q_mo_mk fun a37 => (q_mo_wr (q_mo_wr (q_mo_rd fun v49 => (q_mo_wr (q_mo_wr (q_mo_wr q_mo_rt))))))))))))))) B.2.1 h (fun a16 σ h => ?_)
  refine q_dup (pc := 19) C dX8_init_19 rfl ?_
  refine q_callI (pc := 20) (As := []) (st := [q_R (some a16), q_R l0]) C B.2.1 (fun _ => rfl) qm_X8_11 qI_Jx4a65c_init_da8c8 dX8_init_20 rfl rfl (Nat.le_of_ble_eq_true rfl) (q_flo B.2.2.1 B.2.2.2.1 (by decide) (by decide)) (K_Jx4a65c_init_da8c8 (some a16)) (M_Jx4a65c_init_da8c8 (q_kap E) (some a16)) (N_Jx4a65c_init_da8c8 (q_kap E) (some a16)) (by exact fun _v20 => (q_mo_wr (q_mo_gd (q_mo_mk fun a30 => (q_mo_wr (q_mo_gd (q_mo_mk fun a37 => (q_mo_wr (q_mo_wr (q_mo_rd fun v49 => (q_mo_wr (q_mo_wr (q_mo_wr q_mo_rt))))))))))))) h (fun _v20 σ h => ?_)
  refine q_putV (pc := 23) (v := q_R (some a16)) C dX8_init_23 ql_X8_18 (Or.inr ⟨B.2.2.2.2.2, RX8, TX8, 9, rfl, rfl⟩) q_nfO q_nfO' h (fun M23 h => ?_)
  refine q_aload_n (pc := 26) C 0 rfl dX8_init_26 rfl ?_
  refine q_sipush (pc := 27) (v := (256 : Int32)) C dX8_init_27 (by decide) ?_
  refine q_newP (pc := 30) (t := 1) (A := ((256 : Int32).toNatClampNeg, .inl (fun _ => 0))) C dX8_init_30 qa_int rfl (by decide) (fun _ h => h) rfl (fun _ => rfl) (by decide) (by exact fun a30 => (q_mo_wr (q_mo_gd (q_mo_mk fun a37 => (q_mo_wr (q_mo_wr (q_mo_rd fun v49 => (q_mo_wr (q_mo_wr (q_mo_wr q_mo_rt)))))))))) B.2.1 h (fun a30 σ h => ?_)
  refine q_putV (pc := 32) (v := q_R (some a30)) C dX8_init_32 ql_X8_21 (Or.inr ⟨B.2.2.2.2.2, RX8, TX8, 9, rfl, rfl⟩) q_nfA q_nfA' h (fun M32 h => ?_)
  refine q_aload_n (pc := 35) C 0 rfl dX8_init_35 rfl ?_
  refine q_iconst (pc := 36) (v := (5 : Int32)) C dX8_init_36 (by decide) ?_
  refine q_newP (pc := 37) (t := 2) (A := ((5 : Int32).toNatClampNeg, .inr (.inl (fun _ => 0)))) C dX8_init_37 qa_long rfl (by decide) (fun _ h => h) rfl (fun _ => rfl) (by decide) (by exact fun a37 => (q_mo_wr (q_mo_wr (q_mo_rd fun v49 => (q_mo_wr (q_mo_wr (q_mo_wr q_mo_rt))))))) B.2.1 h (fun a37 σ h => ?_)
  refine q_putV (pc := 39) (v := q_R (some a37)) C dX8_init_39 ql_X8_25 (Or.inr ⟨B.2.2.2.2.2, RX8, TX8, 9, rfl, rfl⟩) q_nfA q_nfA' h (fun M39 h => ?_)
  refine q_aload_n (pc := 42) C 0 rfl dX8_init_42 rfl ?_
  refine q_aload_n (pc := 43) C 1 rfl dX8_init_43 rfl ?_
  refine q_putV (pc := 44) (v := q_R l1) C dX8_init_44 ql_X8_29 (Or.inr ⟨B.2.2.2.2.2, RX8, TX8, 9, rfl, rfl⟩) q_nfO q_nfO' h (fun M44 h => ?_)
  refine q_aload_n (pc := 47) C 0 rfl dX8_init_47 rfl ?_
  refine q_aload_n (pc := 48) C 1 rfl dX8_init_48 rfl ?_
  refine q_getA (pc := 49) C dX8_init_49 ql_X8_33 h (fun v49 h => ?_)
  refine q_putV (pc := 52) (v := q_R v49) C dX8_init_52 ql_X8_39 (Or.inr ⟨B.2.2.2.2.2, RX8, TX8, 9, rfl, rfl⟩) q_nfO q_nfO' h (fun M52 h => ?_)
  refine q_aload_n (pc := 55) C 0 rfl dX8_init_55 rfl ?_
  refine q_aload_n (pc := 56) C 2 rfl dX8_init_56 rfl ?_
  refine q_putV (pc := 57) (v := q_R l2) C dX8_init_57 ql_X8_40 (Or.inr ⟨B.2.2.2.2.2, RX8, TX8, 9, rfl, rfl⟩) q_nfO q_nfO' h (fun M57 h => ?_)
  refine q_aload_n (pc := 60) C 0 rfl dX8_init_60 rfl ?_
  refine q_aload_n (pc := 61) C 3 rfl dX8_init_61 rfl ?_
  refine q_putV (pc := 62) (v := q_R l3) C dX8_init_62 ql_X8_44 (Or.inr ⟨B.2.2.2.2.2, RX8, TX8, 9, rfl, rfl⟩) q_nfO q_nfO' h (fun M62 h => ?_)
  exact q_vret C B.2.2.2.2.1 dX8_init_65 h
def F_Jx4a65c_clear_da8c8_27B (κ : Nat → Nat) (r27 : Option Nat → Int32 → Int32 → q_X Unit) (l1 : Option Nat) (l2 : Int32) (l3 : Int32) : q_X Unit :=
  q_br (l2 ≤ l3) (q_rt ()) (q_wr (q_sT 7 6 l1 l3 none) (r27 l1 l2 (l3 + (1 : Int32))))
theorem M_Jx4a65c_clear_da8c8_27B (κ : Nat → Nat) (r27 : Option Nat → Int32 → Int32 → q_X Unit) (mr27 : ∀ (l1 : Option Nat) (l2 : Int32) (l3 : Int32), q_mo (r27 l1 l2 l3)) (l1 : Option Nat) (l2 : Int32) (l3 : Int32) : q_mo (F_Jx4a65c_clear_da8c8_27B κ r27 l1 l2 l3) := (q_mo_br q_mo_rt (q_mo_wr (mr27 l1 l2 (l3 + (1 : Int32)))))
set_option maxRecDepth 100000 in
set_option maxHeartbeats 4000000 in
theorem S_Jx4a65c_clear_da8c8_27B {E : q_Ev} {Γ : q_Gm} {w : (Unit ⊕ q_Exn) × q_St} (B : q_Bd E Γ cJx4a65c_clear_da8c8 yJx4a65c_clear_da8c8.cls 4 0 0 (none) yJx4a65c_clear_da8c8.name w) (hT : q_nT Γ) (r27 : Option Nat → Int32 → Int32 → q_X Unit) (hr27 : ∀ (l1 : Option Nat) (l2 : Int32) (l3 : Int32) (σ : q_St), r27 l1 l2 l3 σ = some w → q_W E Γ (q_QF E Γ q_oV w) 4 σ 27 [(1, q_R l1), (2, q_I l2), (3, q_I l3)] []) (mr27 : ∀ (l1 : Option Nat) (l2 : Int32) (l3 : Int32), q_mo (r27 l1 l2 l3)) (l1 : Option Nat) (l2 : Int32) (l3 : Int32) (σ : q_St) (h : F_Jx4a65c_clear_da8c8_27B (q_kap E) r27 l1 l2 l3 σ = some w) : q_W E Γ (q_QF E Γ q_oV w) 4 σ 27 [(1, q_R l1), (2, q_I l2), (3, q_I l3)] [] := by
  have C := B.1
  unfold F_Jx4a65c_clear_da8c8_27B at h
  refine q_iload_n (pc := 27) C 2 rfl dJx4a65c_clear_da8c8_27 rfl ?_
  refine q_iload_n (pc := 28) C 1 rfl dJx4a65c_clear_da8c8_28 rfl ?_
  refine q_icmp_ge (pc := 29) (tgt := 42) C dJx4a65c_clear_da8c8_29 (by decide) h (fun _ h => ?_) (fun _ h => ?_)
  · exact q_vret C B.2.2.2.2.1 dJx4a65c_clear_da8c8_42 h
  · refine q_aload_n (pc := 32) C 0 rfl dJx4a65c_clear_da8c8_32 rfl ?_
    refine q_iload_n (pc := 33) C 2 rfl dJx4a65c_clear_da8c8_33 rfl ?_
    refine q_null (pc := 34) C dJx4a65c_clear_da8c8_34 ?_
    refine q_stA (pc := 35) (t := 7) (ci := 6) C dJx4a65c_clear_da8c8_35 rfl rfl (Or.inr (by decide +kernel)) h (fun M35 h => ?_)
    refine q_iinc (pc := 36) (v := (1 : Int32)) (l' := [(3, q_I (l3 + (1 : Int32))), (1, q_R l1), (2, q_I l2)]) C 2 rfl dJx4a65c_clear_da8c8_36 (by decide) (by decide) rfl ?_
    refine q_goto (pc := 39) (tgt := 27) C dJx4a65c_clear_da8c8_39 (by decide) ?_
    refine q_W.sub [1, 2, 0] rfl ?_
    exact hr27 l1 l2 (l3 + (1 : Int32)) _ h
def F_Jx4a65c_clear_da8c8_27 (κ : Nat → Nat) : Nat → Option Nat → Int32 → Int32 → q_X Unit
  | 0, _, _, _ => q_no
  | n + 1, l1, l2, l3 => F_Jx4a65c_clear_da8c8_27B κ (F_Jx4a65c_clear_da8c8_27 κ n) l1 l2 l3
theorem M_Jx4a65c_clear_da8c8_27 (κ : Nat → Nat) : ∀ (n : Nat) (l1 : Option Nat) (l2 : Int32) (l3 : Int32), q_mo (F_Jx4a65c_clear_da8c8_27 κ n l1 l2 l3)
  | 0, _, _, _ => q_mo_no
  | n + 1, l1, l2, l3 => M_Jx4a65c_clear_da8c8_27B κ (F_Jx4a65c_clear_da8c8_27 κ n) (M_Jx4a65c_clear_da8c8_27 κ n) l1 l2 l3
theorem S_Jx4a65c_clear_da8c8_27 {E : q_Ev} {Γ : q_Gm} {w : (Unit ⊕ q_Exn) × q_St} (B : q_Bd E Γ cJx4a65c_clear_da8c8 yJx4a65c_clear_da8c8.cls 4 0 0 (none) yJx4a65c_clear_da8c8.name w) (hT : q_nT Γ) : ∀ (n : Nat) (l1 : Option Nat) (l2 : Int32) (l3 : Int32) (σ : q_St), F_Jx4a65c_clear_da8c8_27 (q_kap E) n l1 l2 l3 σ = some w → q_W E Γ (q_QF E Γ q_oV w) 4 σ 27 [(1, q_R l1), (2, q_I l2), (3, q_I l3)] []
  | 0, _, _, _, _, h => by cases h
  | n + 1, l1, l2, l3, σ, h => S_Jx4a65c_clear_da8c8_27B B hT (F_Jx4a65c_clear_da8c8_27 (q_kap E) n) (S_Jx4a65c_clear_da8c8_27 B hT n) (M_Jx4a65c_clear_da8c8_27 (q_kap E) n) l1 l2 l3 σ h
def F_Jx4a65c_clear_da8c8 (κ : Nat → Nat) (l0 : Option Nat) : q_X Unit :=
  q_rd (q_gI l0 2 0) fun v2 => q_wr (q_pF l0 2 0 (.int (v2 + (1 : Int32)))) (q_rd (q_gA l0 2 1) fun v11 => q_rd (q_gI l0 2 2) fun v16 => q_wr (q_pF l0 2 2 (.int (0 : Int32))) (F_Jx4a65c_clear_da8c8_27 κ q_fu v11 v16 (0 : Int32)))
theorem M_Jx4a65c_clear_da8c8 (κ : Nat → Nat) (l0 : Option Nat) : q_mo (F_Jx4a65c_clear_da8c8 κ l0) := (q_mo_rd fun v2 => (q_mo_wr (q_mo_rd fun v11 => (q_mo_rd fun v16 => (q_mo_wr (M_Jx4a65c_clear_da8c8_27 κ q_fu v11 v16 (0 : Int32)))))))
set_option maxRecDepth 100000 in
set_option maxHeartbeats 4000000 in
theorem K_Jx4a65c_clear_da8c8 {E : q_Ev} (l0 : Option Nat) : q_Ct E yJx4a65c_clear_da8c8 (.code yJx4a65c_clear_da8c8 cJx4a65c_clear_da8c8 4 (none)) 0 0 [q_R l0] q_oV (F_Jx4a65c_clear_da8c8 (q_kap E) l0) := by
  refine q_enter (by decide) (Nat.le_of_ble_eq_true rfl) (fun Γ σ w h B hT => ?_)
  have C := B.1
  unfold F_Jx4a65c_clear_da8c8 at h
  refine q_aload_n (pc := 0) C 0 rfl dJx4a65c_clear_da8c8_0 rfl ?_
  refine q_dup (pc := 1) C dJx4a65c_clear_da8c8_1 rfl ?_
  refine q_getI (pc := 2) C dJx4a65c_clear_da8c8_2 ql_Jx4a65c_63 h (fun v2 h => ?_)
  refine q_iconst (pc := 5) (v := (1 : Int32)) C dJx4a65c_clear_da8c8_5 (by decide) ?_
  refine q_iadd (pc := 6) C dJx4a65c_clear_da8c8_6 ?_
  refine q_putV (pc := 7) (v := q_I (v2 + (1 : Int32))) C dJx4a65c_clear_da8c8_7 ql_Jx4a65c_63 (Or.inl rfl) rfl rfl h (fun M7 h => ?_)
  refine q_aload_n (pc := 10) C 0 rfl dJx4a65c_clear_da8c8_10 rfl ?_
  refine q_getA (pc := 11) C dJx4a65c_clear_da8c8_11 ql_Jx4a65c_9 h (fun v11 h => ?_)
  refine q_astore_n (pc := 14) (l' := [(1, q_R v11), (0, q_R l0)]) C dJx4a65c_clear_da8c8_14 rfl (by decide) rfl ?_
  refine q_aload_n (pc := 15) C 1 rfl dJx4a65c_clear_da8c8_15 rfl ?_
  refine q_getI (pc := 16) C dJx4a65c_clear_da8c8_16 ql_Jx4a65c_48 h (fun v16 h => ?_)
  refine q_istore_n (pc := 19) (l' := [(2, q_I v16), (1, q_R v11), (0, q_R l0)]) C dJx4a65c_clear_da8c8_19 rfl (by decide) rfl ?_
  refine q_aload_n (pc := 20) C 2 rfl dJx4a65c_clear_da8c8_20 rfl ?_
  refine q_iconst (pc := 21) (v := (0 : Int32)) C dJx4a65c_clear_da8c8_21 (by decide) ?_
  refine q_dup_x1 (pc := 22) C dJx4a65c_clear_da8c8_22 rfl rfl ?_
  refine q_putV (pc := 23) (v := q_I (0 : Int32)) C dJx4a65c_clear_da8c8_23 ql_Jx4a65c_48 (Or.inl rfl) rfl rfl h (fun M23 h => ?_)
  refine q_istore_n (pc := 26) (l' := [(3, q_I (0 : Int32)), (2, q_I v16), (1, q_R v11), (0, q_R l0)]) C dJx4a65c_clear_da8c8_26 rfl (by decide) rfl ?_
  refine q_W.sub [2, 1, 0] rfl ?_
  exact S_Jx4a65c_clear_da8c8_27 B hT q_fu v11 v16 (0 : Int32) _ h
def F_J7_fill_53178_5B (κ : Nat → Nat) (r5 : Option Nat → Int32 → Int32 → Int32 → q_X Unit) (l0 : Option Nat) (l1 : Int32) (l2 : Int32) (l3 : Int32) : q_X Unit :=
  q_br (l3 ≤ l2) (q_rt ()) (q_wr (q_sI 1 l0 l2 l1) (r5 l0 l1 (l2 + (1 : Int32)) l3))
theorem M_J7_fill_53178_5B (κ : Nat → Nat) (r5 : Option Nat → Int32 → Int32 → Int32 → q_X Unit) (mr5 : ∀ (l0 : Option Nat) (l1 : Int32) (l2 : Int32) (l3 : Int32), q_mo (r5 l0 l1 l2 l3)) (l0 : Option Nat) (l1 : Int32) (l2 : Int32) (l3 : Int32) : q_mo (F_J7_fill_53178_5B κ r5 l0 l1 l2 l3) := (q_mo_br q_mo_rt (q_mo_wr (mr5 l0 l1 (l2 + (1 : Int32)) l3)))
set_option maxRecDepth 100000 in
set_option maxHeartbeats 4000000 in
theorem S_J7_fill_53178_5B {E : q_Ev} {Γ : q_Gm} {w : (Unit ⊕ q_Exn) × q_St} (B : q_Bd E Γ cJ7_fill_53178 yJ7_fill_53178.cls 4 0 0 (none) yJ7_fill_53178.name w) (hT : q_nT Γ) (r5 : Option Nat → Int32 → Int32 → Int32 → q_X Unit) (hr5 : ∀ (l0 : Option Nat) (l1 : Int32) (l2 : Int32) (l3 : Int32) (σ : q_St), r5 l0 l1 l2 l3 σ = some w → q_W E Γ (q_QF E Γ q_oV w) 4 σ 5 [(0, q_R l0), (1, q_I l1), (2, q_I l2), (3, q_I l3)] []) (mr5 : ∀ (l0 : Option Nat) (l1 : Int32) (l2 : Int32) (l3 : Int32), q_mo (r5 l0 l1 l2 l3)) (l0 : Option Nat) (l1 : Int32) (l2 : Int32) (l3 : Int32) (σ : q_St) (h : F_J7_fill_53178_5B (q_kap E) r5 l0 l1 l2 l3 σ = some w) : q_W E Γ (q_QF E Γ q_oV w) 4 σ 5 [(0, q_R l0), (1, q_I l1), (2, q_I l2), (3, q_I l3)] [] := by
  have C := B.1
  unfold F_J7_fill_53178_5B at h
  refine q_iload_n (pc := 5) C 2 rfl dJ7_fill_53178_5 rfl ?_
  refine q_iload_n (pc := 6) C 3 rfl dJ7_fill_53178_6 rfl ?_
  refine q_icmp_ge (pc := 7) (tgt := 20) C dJ7_fill_53178_7 (by decide) h (fun _ h => ?_) (fun _ h => ?_)
  · exact q_vret C B.2.2.2.2.1 dJ7_fill_53178_20 h
  · refine q_aload_n (pc := 10) C 0 rfl dJ7_fill_53178_10 rfl ?_
    refine q_iload_n (pc := 11) C 2 rfl dJ7_fill_53178_11 rfl ?_
    refine q_iload_n (pc := 12) C 1 rfl dJ7_fill_53178_12 rfl ?_
    refine q_stI (pc := 13) C dJ7_fill_53178_13 h (fun M13 h => ?_)
    refine q_iinc (pc := 14) (v := (1 : Int32)) (l' := [(2, q_I (l2 + (1 : Int32))), (0, q_R l0), (1, q_I l1), (3, q_I l3)]) C 2 rfl dJ7_fill_53178_14 (by decide) (by decide) rfl ?_
    refine q_goto (pc := 17) (tgt := 5) C dJ7_fill_53178_17 (by decide) ?_
    refine q_W.sub [1, 2, 0, 3] rfl ?_
    exact hr5 l0 l1 (l2 + (1 : Int32)) l3 _ h
def F_J7_fill_53178_5 (κ : Nat → Nat) : Nat → Option Nat → Int32 → Int32 → Int32 → q_X Unit
  | 0, _, _, _, _ => q_no
  | n + 1, l0, l1, l2, l3 => F_J7_fill_53178_5B κ (F_J7_fill_53178_5 κ n) l0 l1 l2 l3
theorem M_J7_fill_53178_5 (κ : Nat → Nat) : ∀ (n : Nat) (l0 : Option Nat) (l1 : Int32) (l2 : Int32) (l3 : Int32), q_mo (F_J7_fill_53178_5 κ n l0 l1 l2 l3)
  | 0, _, _, _, _ => q_mo_no
  | n + 1, l0, l1, l2, l3 => M_J7_fill_53178_5B κ (F_J7_fill_53178_5 κ n) (M_J7_fill_53178_5 κ n) l0 l1 l2 l3
theorem S_J7_fill_53178_5 {E : q_Ev} {Γ : q_Gm} {w : (Unit ⊕ q_Exn) × q_St} (B : q_Bd E Γ cJ7_fill_53178 yJ7_fill_53178.cls 4 0 0 (none) yJ7_fill_53178.name w) (hT : q_nT Γ) : ∀ (n : Nat) (l0 : Option Nat) (l1 : Int32) (l2 : Int32) (l3 : Int32) (σ : q_St), F_J7_fill_53178_5 (q_kap E) n l0 l1 l2 l3 σ = some w → q_W E Γ (q_QF E Γ q_oV w) 4 σ 5 [(0, q_R l0), (1, q_I l1), (2, q_I l2), (3, q_I l3)] []
  | 0, _, _, _, _, _, h => by cases h
  | n + 1, l0, l1, l2, l3, σ, h => S_J7_fill_53178_5B B hT (F_J7_fill_53178_5 (q_kap E) n) (S_J7_fill_53178_5 B hT n) (M_J7_fill_53178_5 (q_kap E) n) l0 l1 l2 l3 σ h
def F_J7_fill_53178 (κ : Nat → Nat) (l0 : Option Nat) (l1 : Int32) : q_X Unit :=
  q_rd (q_ln l0) fun v3 => F_J7_fill_53178_5 κ q_fu l0 l1 (0 : Int32) v3
theorem M_J7_fill_53178 (κ : Nat → Nat) (l0 : Option Nat) (l1 : Int32) : q_mo (F_J7_fill_53178 κ l0 l1) := (q_mo_rd fun v3 => (M_J7_fill_53178_5 κ q_fu l0 l1 (0 : Int32) v3))
set_option maxRecDepth 100000 in
set_option maxHeartbeats 4000000 in
theorem K_J7_fill_53178 {E : q_Ev} (l0 : Option Nat) (l1 : Int32) : q_Ct E yJ7_fill_53178 (.code yJ7_fill_53178 cJ7_fill_53178 4 (none)) 0 0 [q_R l0, q_I l1] q_oV (F_J7_fill_53178 (q_kap E) l0 l1) := by
  refine q_enter (by decide) (Nat.le_of_ble_eq_true rfl) (fun Γ σ w h B hT => ?_)
  have C := B.1
  unfold F_J7_fill_53178 at h
  refine q_iconst (pc := 0) (v := (0 : Int32)) C dJ7_fill_53178_0 (by decide) ?_
  refine q_istore_n (pc := 1) (l' := [(2, q_I (0 : Int32)), (0, q_R l0), (1, q_I l1)]) C dJ7_fill_53178_1 rfl (by decide) rfl ?_
  refine q_aload_n (pc := 2) C 1 rfl dJ7_fill_53178_2 rfl ?_
  refine q_aln (pc := 3) C dJ7_fill_53178_3 h (fun v3 h => ?_)
  refine q_istore_n (pc := 4) (l' := [(3, q_I v3), (2, q_I (0 : Int32)), (0, q_R l0), (1, q_I l1)]) C dJ7_fill_53178_4 rfl (by decide) rfl ?_
  refine q_W.sub [2, 3, 1, 0] rfl ?_
  exact S_J7_fill_53178_5 B hT q_fu l0 l1 (0 : Int32) v3 _ h
def F_X8_forget (κ : Nat → Nat) (l0 : Option Nat) : q_X Unit :=
  q_rd (q_gA l0 11 3) fun v1 => q_rd (q_is v1 9) fun _ => q_ca (F_X6_clear κ v1) fun _v4 => q_rd (q_gA l0 11 4) fun v8 => q_rd (q_is v8 2) fun _ => q_ca (F_Jx4a65c_clear_da8c8 κ v8) fun _v11 => q_rd (q_gA l0 11 5) fun v15 => q_rd (q_is v15 2) fun _ => q_ca (F_Jx4a65c_clear_da8c8 κ v15) fun _v18 => q_rd (q_gA l0 11 6) fun v22 => q_ca (F_J7_fill_53178 κ v22 (-1 : Int32)) fun _v26 => q_wr (q_pF l0 11 8 (.int (0 : Int32))) (q_rt ())
theorem M_X8_forget (κ : Nat → Nat) (l0 : Option Nat) : q_mo (F_X8_forget κ l0) := (q_mo_rd fun v1 => (q_mo_rd fun _ => q_mo_ca (M_X6_clear κ v1) fun _v4 => (q_mo_rd fun v8 => (q_mo_rd fun _ => q_mo_ca (M_Jx4a65c_clear_da8c8 κ v8) fun _v11 => (q_mo_rd fun v15 => (q_mo_rd fun _ => q_mo_ca (M_Jx4a65c_clear_da8c8 κ v15) fun _v18 => (q_mo_rd fun v22 => (q_mo_ca (M_J7_fill_53178 κ v22 (-1 : Int32)) fun _v26 => (q_mo_wr q_mo_rt)))))))))
set_option maxRecDepth 100000 in
set_option maxHeartbeats 4000000 in
theorem K_X8_forget {E : q_Ev} (l0 : Option Nat) : q_Ct E yX8_forget (.code yX8_forget cX8_forget 1 (none)) 1 23 [q_R l0] q_oV (F_X8_forget (q_kap E) l0) := by
  refine q_enter (by decide) (Nat.le_of_ble_eq_true rfl) (fun Γ σ w h B hT => ?_)
  have C := B.1
  unfold F_X8_forget at h
  refine q_aload_n (pc := 0) C 0 rfl dX8_forget_0 rfl ?_
  refine q_getA (pc := 1) C dX8_forget_1 ql_X8_44 h (fun v1 h => ?_)
  refine q_callV (pc := 4) (As := []) (st := []) (ps := q_psV) C B.2.1 hT q_hpV qm_X8_48 qv_X6_clear dX8_forget_4 rfl rfl (Nat.le_of_ble_eq_true rfl) (q_flo B.2.2.1 B.2.2.2.1 (by decide) (by decide)) (K_X6_clear v1) (M_X6_clear (q_kap E) v1) (by exact fun _v4 => (q_mo_rd fun v8 => (q_mo_rd fun _ => q_mo_ca (M_Jx4a65c_clear_da8c8 (q_kap E) v8) fun _v11 => (q_mo_rd fun v15 => (q_mo_rd fun _ => q_mo_ca (M_Jx4a65c_clear_da8c8 (q_kap E) v15) fun _v18 => (q_mo_rd fun v22 => (q_mo_ca (M_J7_fill_53178 (q_kap E) v22 (-1 : Int32)) fun _v26 => (q_mo_wr q_mo_rt)))))))) h (fun _v4 σ h => ?_)
  refine q_W.st (st' := []) rfl ?_
  refine q_aload_n (pc := 7) C 0 rfl dX8_forget_7 rfl ?_
  refine q_getA (pc := 8) C dX8_forget_8 ql_X8_12 h (fun v8 h => ?_)
  refine q_callV (pc := 11) (As := []) (st := []) (ps := q_psV) C B.2.1 hT q_hpV qm_X8_53 qv_Jx4a65c_clear_da8c8 dX8_forget_11 rfl rfl (Nat.le_of_ble_eq_true rfl) (q_flo B.2.2.1 B.2.2.2.1 (by decide) (by decide)) (K_Jx4a65c_clear_da8c8 v8) (M_Jx4a65c_clear_da8c8 (q_kap E) v8) (by exact fun _v11 => (q_mo_rd fun v15 => (q_mo_rd fun _ => q_mo_ca (M_Jx4a65c_clear_da8c8 (q_kap E) v15) fun _v18 => (q_mo_rd fun v22 => (q_mo_ca (M_J7_fill_53178 (q_kap E) v22 (-1 : Int32)) fun _v26 => (q_mo_wr q_mo_rt)))))) h (fun _v11 σ h => ?_)
  refine q_W.st (st' := []) rfl ?_
  refine q_aload_n (pc := 14) C 0 rfl dX8_forget_14 rfl ?_
  refine q_getA (pc := 15) C dX8_forget_15 ql_X8_18 h (fun v15 h => ?_)
  refine q_callV (pc := 18) (As := []) (st := []) (ps := q_psV) C B.2.1 hT q_hpV qm_X8_53 qv_Jx4a65c_clear_da8c8 dX8_forget_18 rfl rfl (Nat.le_of_ble_eq_true rfl) (q_flo B.2.2.1 B.2.2.2.1 (by decide) (by decide)) (K_Jx4a65c_clear_da8c8 v15) (M_Jx4a65c_clear_da8c8 (q_kap E) v15) (by exact fun _v18 => (q_mo_rd fun v22 => (q_mo_ca (M_J7_fill_53178 (q_kap E) v22 (-1 : Int32)) fun _v26 => (q_mo_wr q_mo_rt)))) h (fun _v18 σ h => ?_)
  refine q_W.st (st' := []) rfl ?_
  refine q_aload_n (pc := 21) C 0 rfl dX8_forget_21 rfl ?_
  refine q_getA (pc := 22) C dX8_forget_22 ql_X8_21 h (fun v22 h => ?_)
  refine q_iconst (pc := 25) (v := (-1 : Int32)) C dX8_forget_25 (by decide) ?_
  refine q_callS (pc := 26) (As := [q_R v22, q_I (-1 : Int32)]) (st := []) (ps := q_psV) C B.2.1 hT q_hpV qm_X8_54 qs_J7_fill_53178 dX8_forget_26 rfl rfl (Nat.le_of_ble_eq_true rfl) (q_flo B.2.2.1 B.2.2.2.1 (by decide) (by decide)) (K_J7_fill_53178 v22 (-1 : Int32)) (M_J7_fill_53178 (q_kap E) v22 (-1 : Int32)) (by exact fun _v26 => (q_mo_wr q_mo_rt)) h (fun _v26 σ h => ?_)
  refine q_W.st (st' := []) rfl ?_
  refine q_aload_n (pc := 29) C 0 rfl dX8_forget_29 rfl ?_
  refine q_iconst (pc := 30) (v := (0 : Int32)) C dX8_forget_30 (by decide) ?_
  refine q_putV (pc := 31) (v := q_I (0 : Int32)) C dX8_forget_31 ql_X8_60 (Or.inl rfl) rfl rfl h (fun M31 h => ?_)
  exact q_vret C B.2.2.2.2.1 dX8_forget_34 h
def F_Jx4a65c_size_8abf5 (κ : Nat → Nat) (l0 : Option Nat) : q_X Int32 :=
  q_rd (q_gI l0 2 2) fun v1 => q_rt v1
theorem M_Jx4a65c_size_8abf5 (κ : Nat → Nat) (l0 : Option Nat) : q_mo (F_Jx4a65c_size_8abf5 κ l0) := (q_mo_rd fun v1 => q_mo_rt)
theorem N_Jx4a65c_size_8abf5 (κ : Nat → Nat) (l0 : Option Nat) : q_ni (F_Jx4a65c_size_8abf5 κ l0) := (q_ni_rd fun v1 => q_ni_rt)
set_option maxRecDepth 100000 in
set_option maxHeartbeats 4000000 in
theorem K_Jx4a65c_size_8abf5 {E : q_Ev} (l0 : Option Nat) : q_Ct E yJx4a65c_size_8abf5 (.code yJx4a65c_size_8abf5 cJx4a65c_size_8abf5 1 (some .int)) 0 0 [q_R l0] q_oI (F_Jx4a65c_size_8abf5 (q_kap E) l0) := by
  refine q_enter (by decide) (Nat.le_of_ble_eq_true rfl) (fun Γ σ w h B hT => ?_)
  have C := B.1
  unfold F_Jx4a65c_size_8abf5 at h
  refine q_aload_n (pc := 0) C 0 rfl dJx4a65c_size_8abf5_0 rfl ?_
  refine q_getI (pc := 1) C dJx4a65c_size_8abf5_1 ql_Jx4a65c_48 h (fun v1 h => ?_)
  exact q_iret C B.2.2.2.2.1 dJx4a65c_size_8abf5_4 h
def F_J15_checkIndex_7cf53 (κ : Nat → Nat) (l0 : Int32) (l1 : Int32) : q_X Int32 :=
  q_ca (F_J3_checkIndex_8e157 κ l0 l1 none) fun v3 => q_rt v3
theorem M_J15_checkIndex_7cf53 (κ : Nat → Nat) (l0 : Int32) (l1 : Int32) : q_mo (F_J15_checkIndex_7cf53 κ l0 l1) := (q_mo_ca (M_J3_checkIndex_8e157 κ l0 l1 none) fun v3 => q_mo_rt)
theorem N_J15_checkIndex_7cf53 (κ : Nat → Nat) (l0 : Int32) (l1 : Int32) : q_ni (F_J15_checkIndex_7cf53 κ l0 l1) := (q_ni_ca (N_J3_checkIndex_8e157 κ l0 l1 none) fun v3 => q_ni_rt)
set_option maxRecDepth 100000 in
set_option maxHeartbeats 4000000 in
theorem K_J15_checkIndex_7cf53 {E : q_Ev} (l0 : Int32) (l1 : Int32) : q_Ct E yJ15_checkIndex_7cf53 (.code yJ15_checkIndex_7cf53 cJ15_checkIndex_7cf53 2 (some .int)) 1 22 [q_I l0, q_I l1] q_oI (F_J15_checkIndex_7cf53 (q_kap E) l0 l1) := by
  refine q_enter (by decide) (Nat.le_of_ble_eq_true rfl) (fun Γ σ w h B hT => ?_)
  have C := B.1
  unfold F_J15_checkIndex_7cf53 at h
  refine q_iload_n (pc := 0) C 0 rfl dJ15_checkIndex_7cf53_0 rfl ?_
  refine q_iload_n (pc := 1) C 1 rfl dJ15_checkIndex_7cf53_1 rfl ?_
  refine q_null (pc := 2) C dJ15_checkIndex_7cf53_2 ?_
  refine q_callS (pc := 3) (As := [q_I l0, q_I l1, q_R none]) (st := []) (ps := q_psI) C B.2.1 hT q_hpI qm_J15_105 qs_J3_checkIndex_8e157 dJ15_checkIndex_7cf53_3 rfl rfl (Nat.le_of_ble_eq_true rfl) (q_flo B.2.2.1 B.2.2.2.1 (by decide) (by decide)) (K_J3_checkIndex_8e157 l0 l1 none) (M_J3_checkIndex_8e157 (q_kap E) l0 l1 none) (by exact fun v3 => q_mo_rt) h (fun v3 σ h => ?_)
  refine q_W.st (st' := [q_I v3]) rfl ?_
  exact q_iret C B.2.2.2.2.1 dJ15_checkIndex_7cf53_6 h
def F_Jx4a65c_elementData_915e3 (κ : Nat → Nat) (l0 : Option Nat) (l1 : Int32) : q_X (Option Nat) :=
  q_rd (q_gA l0 2 1) fun v1 => q_rd (q_lA 7 v1 l1) fun v5 => q_rt v5
theorem M_Jx4a65c_elementData_915e3 (κ : Nat → Nat) (l0 : Option Nat) (l1 : Int32) : q_mo (F_Jx4a65c_elementData_915e3 κ l0 l1) := (q_mo_rd fun v1 => (q_mo_rd fun v5 => q_mo_rt))
theorem N_Jx4a65c_elementData_915e3 (κ : Nat → Nat) (l0 : Option Nat) (l1 : Int32) : q_ni (F_Jx4a65c_elementData_915e3 κ l0 l1) := (q_ni_rd fun v1 => (q_ni_rd fun v5 => q_ni_rt))
set_option maxRecDepth 100000 in
set_option maxHeartbeats 4000000 in
theorem K_Jx4a65c_elementData_915e3 {E : q_Ev} (l0 : Option Nat) (l1 : Int32) : q_Ct E yJx4a65c_elementData_915e3 (.code yJx4a65c_elementData_915e3 cJx4a65c_elementData_915e3 2 (some (.object "java/lang/Object"))) 0 0 [q_R l0, q_I l1] q_oR (F_Jx4a65c_elementData_915e3 (q_kap E) l0 l1) := by
  refine q_enter (by decide) (Nat.le_of_ble_eq_true rfl) (fun Γ σ w h B hT => ?_)
  have C := B.1
  unfold F_Jx4a65c_elementData_915e3 at h
  refine q_aload_n (pc := 0) C 0 rfl dJx4a65c_elementData_915e3_0 rfl ?_
  refine q_getA (pc := 1) C dJx4a65c_elementData_915e3_1 ql_Jx4a65c_9 h (fun v1 h => ?_)
  refine q_iload_n (pc := 4) C 1 rfl dJx4a65c_elementData_915e3_4 rfl ?_
  refine q_ldA (pc := 5) C dJx4a65c_elementData_915e3_5 ⟨_, rfl⟩ h (fun v5 h => ?_)
  exact q_aret C B.2.2.2.2.1 (Or.inl ⟨_, rfl⟩) dJx4a65c_elementData_915e3_6 h
def F_Jx4a65c_get_915e3 (κ : Nat → Nat) (l0 : Option Nat) (l1 : Int32) : q_X (Option Nat) :=
  q_rd (q_gI l0 2 2) fun v2 => q_ca (F_J15_checkIndex_7cf53 κ l1 v2) fun v5 => q_rd (q_is l0 2) fun _ => q_ca (F_Jx4a65c_elementData_915e3 κ l0 l1) fun v11 => q_rt v11
theorem M_Jx4a65c_get_915e3 (κ : Nat → Nat) (l0 : Option Nat) (l1 : Int32) : q_mo (F_Jx4a65c_get_915e3 κ l0 l1) := (q_mo_rd fun v2 => (q_mo_ca (M_J15_checkIndex_7cf53 κ l1 v2) fun v5 => (q_mo_rd fun _ => q_mo_ca (M_Jx4a65c_elementData_915e3 κ l0 l1) fun v11 => q_mo_rt)))
theorem N_Jx4a65c_get_915e3 (κ : Nat → Nat) (l0 : Option Nat) (l1 : Int32) : q_ni (F_Jx4a65c_get_915e3 κ l0 l1) := (q_ni_rd fun v2 => (q_ni_ca (N_J15_checkIndex_7cf53 κ l1 v2) fun v5 => (q_ni_rd fun _ => q_ni_ca (N_Jx4a65c_elementData_915e3 κ l0 l1) fun v11 => q_ni_rt)))
set_option maxRecDepth 100000 in
set_option maxHeartbeats 4000000 in
theorem K_Jx4a65c_get_915e3 {E : q_Ev} (l0 : Option Nat) (l1 : Int32) : q_Ct E yJx4a65c_get_915e3 (.code yJx4a65c_get_915e3 cJx4a65c_get_915e3 2 (some (.object "java/lang/Object"))) 2 43 [q_R l0, q_I l1] q_oR (F_Jx4a65c_get_915e3 (q_kap E) l0 l1) := by
  refine q_enter (by decide) (Nat.le_of_ble_eq_true rfl) (fun Γ σ w h B hT => ?_)
  have C := B.1
  unfold F_Jx4a65c_get_915e3 at h
  refine q_iload_n (pc := 0) C 1 rfl dJx4a65c_get_915e3_0 rfl ?_
  refine q_aload_n (pc := 1) C 0 rfl dJx4a65c_get_915e3_1 rfl ?_
  refine q_getI (pc := 2) C dJx4a65c_get_915e3_2 ql_Jx4a65c_48 h (fun v2 h => ?_)
  refine q_callS (pc := 5) (As := [q_I l1, q_I v2]) (st := []) (ps := q_psI) C B.2.1 hT q_hpI qm_Jx4a65c_118 qs_J15_checkIndex_7cf53 dJx4a65c_get_915e3_5 rfl rfl (Nat.le_of_ble_eq_true rfl) (q_flo B.2.2.1 B.2.2.2.1 (by decide) (by decide)) (K_J15_checkIndex_7cf53 l1 v2) (M_J15_checkIndex_7cf53 (q_kap E) l1 v2) (by exact fun v5 => (q_mo_rd fun _ => q_mo_ca (M_Jx4a65c_elementData_915e3 (q_kap E) l0 l1) fun v11 => q_mo_rt)) h (fun v5 σ h => ?_)
  refine q_W.st (st' := [q_I v5]) rfl ?_
  refine q_pop (pc := 8) C dJx4a65c_get_915e3_8 rfl ?_
  refine q_aload_n (pc := 9) C 0 rfl dJx4a65c_get_915e3_9 rfl ?_
  refine q_iload_n (pc := 10) C 1 rfl dJx4a65c_get_915e3_10 rfl ?_
  refine q_callV (pc := 11) (As := [q_I l1]) (st := []) (ps := q_psR) C B.2.1 hT q_hpR qm_Jx4a65c_123 qv_Jx4a65c_elementData_915e3 dJx4a65c_get_915e3_11 rfl rfl (Nat.le_of_ble_eq_true rfl) (q_flo B.2.2.1 B.2.2.2.1 (by decide) (by decide)) (K_Jx4a65c_elementData_915e3 l0 l1) (M_Jx4a65c_elementData_915e3 (q_kap E) l0 l1) (by exact fun v11 => q_mo_rt) h (fun v11 σ h => ?_)
  refine q_W.st (st' := [q_R v11]) rfl ?_
  exact q_aret C B.2.2.2.2.1 (Or.inl ⟨_, rfl⟩) dJx4a65c_get_915e3_14 h
def F_X10_isSame_36B (κ : Nat → Nat) (r36 : Option Nat → Int32 → Int32 → Int32 → Int32 → q_X Int32) (l0 : Option Nat) (l1 : Int32) (l2 : Int32) (l3 : Int32) (l4 : Int32) : q_X Int32 :=
  q_br (l3 ≤ l4) (q_rz (1 : Int32)) (q_rd (q_gA l0 13 0) fun v43 => q_rd (q_gA l0 13 2) fun v47 => q_rd (q_lI 1 v47 l1) fun v51 => q_rd (q_lI 0 v43 (v51 + l4)) fun v55 => q_rd (q_gA l0 13 0) fun v57 => q_rd (q_gA l0 13 2) fun v61 => q_rd (q_lI 1 v61 l2) fun v65 => q_rd (q_lI 0 v57 (v65 + l4)) fun v69 => q_br (v55 = v69) (r36 l0 l1 l2 l3 (l4 + (1 : Int32))) (q_rz (0 : Int32)))
theorem M_X10_isSame_36B (κ : Nat → Nat) (r36 : Option Nat → Int32 → Int32 → Int32 → Int32 → q_X Int32) (mr36 : ∀ (l0 : Option Nat) (l1 : Int32) (l2 : Int32) (l3 : Int32) (l4 : Int32), q_mo (r36 l0 l1 l2 l3 l4)) (l0 : Option Nat) (l1 : Int32) (l2 : Int32) (l3 : Int32) (l4 : Int32) : q_mo (F_X10_isSame_36B κ r36 l0 l1 l2 l3 l4) := (q_mo_br q_mo_rz (q_mo_rd fun v43 => (q_mo_rd fun v47 => (q_mo_rd fun v51 => (q_mo_rd fun v55 => (q_mo_rd fun v57 => (q_mo_rd fun v61 => (q_mo_rd fun v65 => (q_mo_rd fun v69 => (q_mo_br (mr36 l0 l1 l2 l3 (l4 + (1 : Int32))) q_mo_rz))))))))))
set_option maxRecDepth 100000 in
set_option maxHeartbeats 4000000 in
theorem S_X10_isSame_36B {E : q_Ev} {Γ : q_Gm} {w : (Int32 ⊕ q_Exn) × q_St} (B : q_Bd E Γ cX10_isSame yX10_isSame.cls 5 0 0 (some .boolean) yX10_isSame.name w) (hT : q_nT Γ) (r36 : Option Nat → Int32 → Int32 → Int32 → Int32 → q_X Int32) (hr36 : ∀ (l0 : Option Nat) (l1 : Int32) (l2 : Int32) (l3 : Int32) (l4 : Int32) (σ : q_St), r36 l0 l1 l2 l3 l4 σ = some w → q_W E Γ (q_QF E Γ q_oI w) 5 σ 36 [(0, q_R l0), (1, q_I l1), (2, q_I l2), (3, q_I l3), (4, q_I l4)] []) (mr36 : ∀ (l0 : Option Nat) (l1 : Int32) (l2 : Int32) (l3 : Int32) (l4 : Int32), q_mo (r36 l0 l1 l2 l3 l4)) (l0 : Option Nat) (l1 : Int32) (l2 : Int32) (l3 : Int32) (l4 : Int32) (σ : q_St) (h : F_X10_isSame_36B (q_kap E) r36 l0 l1 l2 l3 l4 σ = some w) : q_W E Γ (q_QF E Γ q_oI w) 5 σ 36 [(0, q_R l0), (1, q_I l1), (2, q_I l2), (3, q_I l3), (4, q_I l4)] [] := by
  have C := B.1
  unfold F_X10_isSame_36B at h
  refine q_iload (pc := 36) C 4 rfl dX10_isSame_36 ?_
  refine q_iload_n (pc := 38) C 3 rfl dX10_isSame_38 rfl ?_
  refine q_icmp_ge (pc := 39) (tgt := 81) C dX10_isSame_39 (by decide) h (fun _ h => ?_) (fun _ h => ?_)
  · refine q_iconst (pc := 81) (v := (1 : Int32)) C dX10_isSame_81 (by decide) ?_
    exact q_zret C B.2.2.2.2.1 dX10_isSame_82 h
  · refine q_aload_n (pc := 42) C 0 rfl dX10_isSame_42 rfl ?_
    refine q_getA (pc := 43) C dX10_isSame_43 ql_X10_9 h (fun v43 h => ?_)
    refine q_aload_n (pc := 46) C 0 rfl dX10_isSame_46 rfl ?_
    refine q_getA (pc := 47) C dX10_isSame_47 ql_X10_18 h (fun v47 h => ?_)
    refine q_iload_n (pc := 50) C 1 rfl dX10_isSame_50 rfl ?_
    refine q_ldI (pc := 51) C dX10_isSame_51 (Or.inr (Or.inl ⟨rfl, rfl⟩)) h (fun v51 h => ?_)
    refine q_iload (pc := 52) C 4 rfl dX10_isSame_52 ?_
    refine q_iadd (pc := 54) C dX10_isSame_54 ?_
    refine q_ldI (pc := 55) C dX10_isSame_55 (Or.inl ⟨rfl, rfl⟩) h (fun v55 h => ?_)
    refine q_aload_n (pc := 56) C 0 rfl dX10_isSame_56 rfl ?_
    refine q_getA (pc := 57) C dX10_isSame_57 ql_X10_9 h (fun v57 h => ?_)
    refine q_aload_n (pc := 60) C 0 rfl dX10_isSame_60 rfl ?_
    refine q_getA (pc := 61) C dX10_isSame_61 ql_X10_18 h (fun v61 h => ?_)
    refine q_iload_n (pc := 64) C 2 rfl dX10_isSame_64 rfl ?_
    refine q_ldI (pc := 65) C dX10_isSame_65 (Or.inr (Or.inl ⟨rfl, rfl⟩)) h (fun v65 h => ?_)
    refine q_iload (pc := 66) C 4 rfl dX10_isSame_66 ?_
    refine q_iadd (pc := 68) C dX10_isSame_68 ?_
    refine q_ldI (pc := 69) C dX10_isSame_69 (Or.inl ⟨rfl, rfl⟩) h (fun v69 h => ?_)
    refine q_icmp_eq (pc := 70) (tgt := 75) C dX10_isSame_70 (by decide) h (fun _ h => ?_) (fun _ h => ?_)
    · refine q_iinc (pc := 75) (v := (1 : Int32)) (l' := [(4, q_I (l4 + (1 : Int32))), (0, q_R l0), (1, q_I l1), (2, q_I l2), (3, q_I l3)]) C 4 rfl dX10_isSame_75 (by decide) (by decide) rfl ?_
      refine q_goto (pc := 78) (tgt := 36) C dX10_isSame_78 (by decide) ?_
      refine q_W.sub [1, 2, 3, 4, 0] rfl ?_
      exact hr36 l0 l1 l2 l3 (l4 + (1 : Int32)) _ h
    · refine q_iconst (pc := 73) (v := (0 : Int32)) C dX10_isSame_73 (by decide) ?_
      exact q_zret C B.2.2.2.2.1 dX10_isSame_74 h
def F_X10_isSame_36 (κ : Nat → Nat) : Nat → Option Nat → Int32 → Int32 → Int32 → Int32 → q_X Int32
  | 0, _, _, _, _, _ => q_no
  | n + 1, l0, l1, l2, l3, l4 => F_X10_isSame_36B κ (F_X10_isSame_36 κ n) l0 l1 l2 l3 l4
theorem M_X10_isSame_36 (κ : Nat → Nat) : ∀ (n : Nat) (l0 : Option Nat) (l1 : Int32) (l2 : Int32) (l3 : Int32) (l4 : Int32), q_mo (F_X10_isSame_36 κ n l0 l1 l2 l3 l4)
  | 0, _, _, _, _, _ => q_mo_no
  | n + 1, l0, l1, l2, l3, l4 => M_X10_isSame_36B κ (F_X10_isSame_36 κ n) (M_X10_isSame_36 κ n) l0 l1 l2 l3 l4
theorem S_X10_isSame_36 {E : q_Ev} {Γ : q_Gm} {w : (Int32 ⊕ q_Exn) × q_St} (B : q_Bd E Γ cX10_isSame yX10_isSame.cls 5 0 0 (some .boolean) yX10_isSame.name w) (hT : q_nT Γ) : ∀ (n : Nat) (l0 : Option Nat) (l1 : Int32) (l2 : Int32) (l3 : Int32) (l4 : Int32) (σ : q_St), F_X10_isSame_36 (q_kap E) n l0 l1 l2 l3 l4 σ = some w → q_W E Γ (q_QF E Γ q_oI w) 5 σ 36 [(0, q_R l0), (1, q_I l1), (2, q_I l2), (3, q_I l3), (4, q_I l4)] []
  | 0, _, _, _, _, _, _, h => by cases h
  | n + 1, l0, l1, l2, l3, l4, σ, h => S_X10_isSame_36B B hT (F_X10_isSame_36 (q_kap E) n) (S_X10_isSame_36 B hT n) (M_X10_isSame_36 (q_kap E) n) l0 l1 l2 l3 l4 σ h
def F_X10_isSame (κ : Nat → Nat) (l0 : Option Nat) (l1 : Int32) (l2 : Int32) : q_X Int32 :=
  q_rd (q_gA l0 13 3) fun v1 => q_rd (q_lI 1 v1 l1) fun v5 => q_rd (q_gA l0 13 2) fun v7 => q_rd (q_lI 1 v7 l1) fun v11 => q_rd (q_gA l0 13 3) fun v16 => q_rd (q_lI 1 v16 l2) fun v20 => q_rd (q_gA l0 13 2) fun v22 => q_rd (q_lI 1 v22 l2) fun v26 => q_br ((v5 - v11) = (v20 - v26)) (F_X10_isSame_36 κ q_fu l0 l1 l2 (v5 - v11) (0 : Int32)) (q_rz (0 : Int32))
theorem M_X10_isSame (κ : Nat → Nat) (l0 : Option Nat) (l1 : Int32) (l2 : Int32) : q_mo (F_X10_isSame κ l0 l1 l2) := (q_mo_rd fun v1 => (q_mo_rd fun v5 => (q_mo_rd fun v7 => (q_mo_rd fun v11 => (q_mo_rd fun v16 => (q_mo_rd fun v20 => (q_mo_rd fun v22 => (q_mo_rd fun v26 => (q_mo_br (M_X10_isSame_36 κ q_fu l0 l1 l2 (v5 - v11) (0 : Int32)) q_mo_rz)))))))))
set_option maxRecDepth 100000 in
set_option maxHeartbeats 4000000 in
theorem K_X10_isSame {E : q_Ev} (l0 : Option Nat) (l1 : Int32) (l2 : Int32) : q_Ct E yX10_isSame (.code yX10_isSame cX10_isSame 5 (some .boolean)) 0 0 [q_R l0, q_I l1, q_I l2] q_oI (F_X10_isSame (q_kap E) l0 l1 l2) := by
  refine q_enter (by decide) (Nat.le_of_ble_eq_true rfl) (fun Γ σ w h B hT => ?_)
  have C := B.1
  unfold F_X10_isSame at h
  refine q_aload_n (pc := 0) C 0 rfl dX10_isSame_0 rfl ?_
  refine q_getA (pc := 1) C dX10_isSame_1 ql_X10_22 h (fun v1 h => ?_)
  refine q_iload_n (pc := 4) C 1 rfl dX10_isSame_4 rfl ?_
  refine q_ldI (pc := 5) C dX10_isSame_5 (Or.inr (Or.inl ⟨rfl, rfl⟩)) h (fun v5 h => ?_)
  refine q_aload_n (pc := 6) C 0 rfl dX10_isSame_6 rfl ?_
  refine q_getA (pc := 7) C dX10_isSame_7 ql_X10_18 h (fun v7 h => ?_)
  refine q_iload_n (pc := 10) C 1 rfl dX10_isSame_10 rfl ?_
  refine q_ldI (pc := 11) C dX10_isSame_11 (Or.inr (Or.inl ⟨rfl, rfl⟩)) h (fun v11 h => ?_)
  refine q_isub (pc := 12) C dX10_isSame_12 ?_
  refine q_istore_n (pc := 13) (l' := [(3, q_I (v5 - v11)), (0, q_R l0), (1, q_I l1), (2, q_I l2)]) C dX10_isSame_13 rfl (by decide) rfl ?_
  refine q_iload_n (pc := 14) C 0 rfl dX10_isSame_14 rfl ?_
  refine q_aload_n (pc := 15) C 1 rfl dX10_isSame_15 rfl ?_
  refine q_getA (pc := 16) C dX10_isSame_16 ql_X10_22 h (fun v16 h => ?_)
  refine q_iload_n (pc := 19) C 3 rfl dX10_isSame_19 rfl ?_
  refine q_ldI (pc := 20) C dX10_isSame_20 (Or.inr (Or.inl ⟨rfl, rfl⟩)) h (fun v20 h => ?_)
  refine q_aload_n (pc := 21) C 1 rfl dX10_isSame_21 rfl ?_
  refine q_getA (pc := 22) C dX10_isSame_22 ql_X10_18 h (fun v22 h => ?_)
  refine q_iload_n (pc := 25) C 3 rfl dX10_isSame_25 rfl ?_
  refine q_ldI (pc := 26) C dX10_isSame_26 (Or.inr (Or.inl ⟨rfl, rfl⟩)) h (fun v26 h => ?_)
  refine q_isub (pc := 27) C dX10_isSame_27 ?_
  refine q_icmp_eq (pc := 28) (tgt := 33) C dX10_isSame_28 (by decide) h (fun _ h => ?_) (fun _ h => ?_)
  · refine q_iconst (pc := 33) (v := (0 : Int32)) C dX10_isSame_33 (by decide) ?_
    refine q_istore (pc := 34) (l' := [(4, q_I (0 : Int32)), (3, q_I (v5 - v11)), (0, q_R l0), (1, q_I l1), (2, q_I l2)]) C dX10_isSame_34 (by decide) rfl ?_
    refine q_W.sub [2, 3, 4, 1, 0] rfl ?_
    exact S_X10_isSame_36 B hT q_fu l0 l1 l2 (v5 - v11) (0 : Int32) _ h
  · refine q_iconst (pc := 31) (v := (0 : Int32)) C dX10_isSame_31 (by decide) ?_
    exact q_zret C B.2.2.2.2.1 dX10_isSame_32 h
def F_X10_hash_9B (κ : Nat → Nat) (r9 : Option Nat → Int32 → Int32 → Int32 → q_X Int32) (l0 : Option Nat) (l1 : Int32) (l2 : Int32) (l3 : Int32) : q_X Int32 :=
  q_rd (q_gA l0 13 3) fun v11 => q_rd (q_lI 1 v11 l1) fun v15 => q_br (v15 ≤ l3) (q_rt l2) (q_rd (q_gA l0 13 0) fun v24 => q_rd (q_lI 0 v24 l3) fun v28 => r9 l0 l1 ((l2 * (31 : Int32)) + v28) (l3 + (1 : Int32)))
theorem M_X10_hash_9B (κ : Nat → Nat) (r9 : Option Nat → Int32 → Int32 → Int32 → q_X Int32) (mr9 : ∀ (l0 : Option Nat) (l1 : Int32) (l2 : Int32) (l3 : Int32), q_mo (r9 l0 l1 l2 l3)) (l0 : Option Nat) (l1 : Int32) (l2 : Int32) (l3 : Int32) : q_mo (F_X10_hash_9B κ r9 l0 l1 l2 l3) := (q_mo_rd fun v11 => (q_mo_rd fun v15 => (q_mo_br q_mo_rt (q_mo_rd fun v24 => (q_mo_rd fun v28 => (mr9 l0 l1 ((l2 * (31 : Int32)) + v28) (l3 + (1 : Int32))))))))
set_option maxRecDepth 100000 in
set_option maxHeartbeats 4000000 in
theorem S_X10_hash_9B {E : q_Ev} {Γ : q_Gm} {w : (Int32 ⊕ q_Exn) × q_St} (B : q_Bd E Γ cX10_hash yX10_hash.cls 4 0 0 (some .int) yX10_hash.name w) (hT : q_nT Γ) (r9 : Option Nat → Int32 → Int32 → Int32 → q_X Int32) (hr9 : ∀ (l0 : Option Nat) (l1 : Int32) (l2 : Int32) (l3 : Int32) (σ : q_St), r9 l0 l1 l2 l3 σ = some w → q_W E Γ (q_QF E Γ q_oI w) 4 σ 9 [(0, q_R l0), (1, q_I l1), (2, q_I l2), (3, q_I l3)] []) (mr9 : ∀ (l0 : Option Nat) (l1 : Int32) (l2 : Int32) (l3 : Int32), q_mo (r9 l0 l1 l2 l3)) (l0 : Option Nat) (l1 : Int32) (l2 : Int32) (l3 : Int32) (σ : q_St) (h : F_X10_hash_9B (q_kap E) r9 l0 l1 l2 l3 σ = some w) : q_W E Γ (q_QF E Γ q_oI w) 4 σ 9 [(0, q_R l0), (1, q_I l1), (2, q_I l2), (3, q_I l3)] [] := by
  have C := B.1
  unfold F_X10_hash_9B at h
  refine q_iload_n (pc := 9) C 3 rfl dX10_hash_9 rfl ?_
  refine q_aload_n (pc := 10) C 0 rfl dX10_hash_10 rfl ?_
  refine q_getA (pc := 11) C dX10_hash_11 ql_X10_22 h (fun v11 h => ?_)
  refine q_iload_n (pc := 14) C 1 rfl dX10_hash_14 rfl ?_
  refine q_ldI (pc := 15) C dX10_hash_15 (Or.inr (Or.inl ⟨rfl, rfl⟩)) h (fun v15 h => ?_)
  refine q_icmp_ge (pc := 16) (tgt := 37) C dX10_hash_16 (by decide) h (fun _ h => ?_) (fun _ h => ?_)
  · refine q_iload_n (pc := 37) C 2 rfl dX10_hash_37 rfl ?_
    exact q_iret C B.2.2.2.2.1 dX10_hash_38 h
  · refine q_iload_n (pc := 19) C 2 rfl dX10_hash_19 rfl ?_
    refine q_bipush (pc := 20) (v := (31 : Int32)) C dX10_hash_20 (by decide) ?_
    refine q_imul (pc := 22) C dX10_hash_22 ?_
    refine q_aload_n (pc := 23) C 0 rfl dX10_hash_23 rfl ?_
    refine q_getA (pc := 24) C dX10_hash_24 ql_X10_9 h (fun v24 h => ?_)
    refine q_iload_n (pc := 27) C 3 rfl dX10_hash_27 rfl ?_
    refine q_ldI (pc := 28) C dX10_hash_28 (Or.inl ⟨rfl, rfl⟩) h (fun v28 h => ?_)
    refine q_iadd (pc := 29) C dX10_hash_29 ?_
    refine q_istore_n (pc := 30) (l' := [(2, q_I ((l2 * (31 : Int32)) + v28)), (0, q_R l0), (1, q_I l1), (3, q_I l3)]) C dX10_hash_30 rfl (by decide) rfl ?_
    refine q_iinc (pc := 31) (v := (1 : Int32)) (l' := [(3, q_I (l3 + (1 : Int32))), (2, q_I ((l2 * (31 : Int32)) + v28)), (0, q_R l0), (1, q_I l1)]) C 3 rfl dX10_hash_31 (by decide) (by decide) rfl ?_
    refine q_goto (pc := 34) (tgt := 9) C dX10_hash_34 (by decide) ?_
    refine q_W.sub [2, 3, 1, 0] rfl ?_
    exact hr9 l0 l1 ((l2 * (31 : Int32)) + v28) (l3 + (1 : Int32)) _ h
def F_X10_hash_9 (κ : Nat → Nat) : Nat → Option Nat → Int32 → Int32 → Int32 → q_X Int32
  | 0, _, _, _, _ => q_no
  | n + 1, l0, l1, l2, l3 => F_X10_hash_9B κ (F_X10_hash_9 κ n) l0 l1 l2 l3
theorem M_X10_hash_9 (κ : Nat → Nat) : ∀ (n : Nat) (l0 : Option Nat) (l1 : Int32) (l2 : Int32) (l3 : Int32), q_mo (F_X10_hash_9 κ n l0 l1 l2 l3)
  | 0, _, _, _, _ => q_mo_no
  | n + 1, l0, l1, l2, l3 => M_X10_hash_9B κ (F_X10_hash_9 κ n) (M_X10_hash_9 κ n) l0 l1 l2 l3
theorem S_X10_hash_9 {E : q_Ev} {Γ : q_Gm} {w : (Int32 ⊕ q_Exn) × q_St} (B : q_Bd E Γ cX10_hash yX10_hash.cls 4 0 0 (some .int) yX10_hash.name w) (hT : q_nT Γ) : ∀ (n : Nat) (l0 : Option Nat) (l1 : Int32) (l2 : Int32) (l3 : Int32) (σ : q_St), F_X10_hash_9 (q_kap E) n l0 l1 l2 l3 σ = some w → q_W E Γ (q_QF E Γ q_oI w) 4 σ 9 [(0, q_R l0), (1, q_I l1), (2, q_I l2), (3, q_I l3)] []
  | 0, _, _, _, _, _, h => by cases h
  | n + 1, l0, l1, l2, l3, σ, h => S_X10_hash_9B B hT (F_X10_hash_9 (q_kap E) n) (S_X10_hash_9 B hT n) (M_X10_hash_9 (q_kap E) n) l0 l1 l2 l3 σ h
def F_X10_hash (κ : Nat → Nat) (l0 : Option Nat) (l1 : Int32) : q_X Int32 :=
  q_rd (q_gA l0 13 2) fun v3 => q_rd (q_lI 1 v3 l1) fun v7 => F_X10_hash_9 κ q_fu l0 l1 (0 : Int32) v7
theorem M_X10_hash (κ : Nat → Nat) (l0 : Option Nat) (l1 : Int32) : q_mo (F_X10_hash κ l0 l1) := (q_mo_rd fun v3 => (q_mo_rd fun v7 => (M_X10_hash_9 κ q_fu l0 l1 (0 : Int32) v7)))
set_option maxRecDepth 100000 in
set_option maxHeartbeats 4000000 in
theorem K_X10_hash {E : q_Ev} (l0 : Option Nat) (l1 : Int32) : q_Ct E yX10_hash (.code yX10_hash cX10_hash 4 (some .int)) 0 0 [q_R l0, q_I l1] q_oI (F_X10_hash (q_kap E) l0 l1) := by
  refine q_enter (by decide) (Nat.le_of_ble_eq_true rfl) (fun Γ σ w h B hT => ?_)
  have C := B.1
  unfold F_X10_hash at h
  refine q_iconst (pc := 0) (v := (0 : Int32)) C dX10_hash_0 (by decide) ?_
  refine q_istore_n (pc := 1) (l' := [(2, q_I (0 : Int32)), (0, q_R l0), (1, q_I l1)]) C dX10_hash_1 rfl (by decide) rfl ?_
  refine q_aload_n (pc := 2) C 1 rfl dX10_hash_2 rfl ?_
  refine q_getA (pc := 3) C dX10_hash_3 ql_X10_18 h (fun v3 h => ?_)
  refine q_iload_n (pc := 6) C 2 rfl dX10_hash_6 rfl ?_
  refine q_ldI (pc := 7) C dX10_hash_7 (Or.inr (Or.inl ⟨rfl, rfl⟩)) h (fun v7 h => ?_)
  refine q_istore_n (pc := 8) (l' := [(3, q_I v7), (2, q_I (0 : Int32)), (0, q_R l0), (1, q_I l1)]) C dX10_hash_8 rfl (by decide) rfl ?_
  refine q_W.sub [2, 3, 1, 0] rfl ?_
  exact S_X10_hash_9 B hT q_fu l0 l1 (0 : Int32) v7 _ h
def F_X8_labelAt_76 (κ : Nat → Nat) : q_X Int32 :=
  q_rt (-1 : Int32)
theorem M_X8_labelAt_76 (κ : Nat → Nat) : q_mo (F_X8_labelAt_76 κ) := q_mo_rt
theorem N_X8_labelAt_76 (κ : Nat → Nat) : q_ni (F_X8_labelAt_76 κ) := q_ni_rt
set_option maxRecDepth 100000 in
set_option maxHeartbeats 4000000 in
theorem S_X8_labelAt_76 {E : q_Ev} {Γ : q_Gm} {w : (Int32 ⊕ q_Exn) × q_St} (B : q_Bd E Γ cX8_labelAt yX8_labelAt.cls 4 3 64 (some .int) yX8_labelAt.name w) (hT : q_nT Γ) (σ : q_St) (h : F_X8_labelAt_76 (q_kap E) σ = some w) : q_W E Γ (q_QF E Γ q_oI w) 4 σ 76 [] [] := by
  have C := B.1
  unfold F_X8_labelAt_76 at h
  refine q_iconst (pc := 76) (v := (-1 : Int32)) C dX8_labelAt_76 (by decide) ?_
  exact q_iret C B.2.2.2.2.1 dX8_labelAt_77 h
def F_X8_labelAt_18B (κ : Nat → Nat) (r18 : Option Nat → Int32 → Int32 → q_X Int32) (l0 : Option Nat) (l1 : Int32) (l2 : Int32) : q_X Int32 :=
  q_br (l2 < 0) (F_X8_labelAt_76 κ) (q_rd (q_gA l0 11 5) fun v24 => q_rd (q_is v24 2) fun _ => q_ca (F_Jx4a65c_size_8abf5 κ v24) fun v27 => q_br (v27 ≤ l2) (F_X8_labelAt_76 κ) (q_rd (q_gA l0 11 5) fun v34 => q_rd (q_is v34 2) fun _ => q_ca (F_Jx4a65c_get_915e3 κ v34 l2) fun v38 => q_rd (q_is v38 6) fun _ => q_rd (q_gA l0 11 1) fun v46 => q_rd (q_gI v38 6 1) fun v50 => q_rd (q_is v46 13) fun _ => q_ca (F_X10_isSame κ v46 v50 l1) fun v54 => q_br (v54 = 0) (q_rd (q_gI v38 6 3) fun v66 => q_ca (F_J9_min_7cf53 κ (l2 - (1 : Int32)) v66) fun v69 => r18 l0 l1 v69) (q_rt l2)))
theorem M_X8_labelAt_18B (κ : Nat → Nat) (r18 : Option Nat → Int32 → Int32 → q_X Int32) (mr18 : ∀ (l0 : Option Nat) (l1 : Int32) (l2 : Int32), q_mo (r18 l0 l1 l2)) (l0 : Option Nat) (l1 : Int32) (l2 : Int32) : q_mo (F_X8_labelAt_18B κ r18 l0 l1 l2) := (q_mo_br (M_X8_labelAt_76 κ) (q_mo_rd fun v24 => (q_mo_rd fun _ => q_mo_ca (M_Jx4a65c_size_8abf5 κ v24) fun v27 => (q_mo_br (M_X8_labelAt_76 κ) (q_mo_rd fun v34 => (q_mo_rd fun _ => q_mo_ca (M_Jx4a65c_get_915e3 κ v34 l2) fun v38 => (q_mo_rd fun _ => (q_mo_rd fun v46 => (q_mo_rd fun v50 => (q_mo_rd fun _ => q_mo_ca (M_X10_isSame κ v46 v50 l1) fun v54 => (q_mo_br (q_mo_rd fun v66 => (q_mo_ca (M_J9_min_7cf53 κ (l2 - (1 : Int32)) v66) fun v69 => (mr18 l0 l1 v69))) q_mo_rt)))))))))))
set_option maxRecDepth 100000 in
set_option maxHeartbeats 4000000 in
theorem S_X8_labelAt_18B {E : q_Ev} {Γ : q_Gm} {w : (Int32 ⊕ q_Exn) × q_St} (B : q_Bd E Γ cX8_labelAt yX8_labelAt.cls 4 3 64 (some .int) yX8_labelAt.name w) (hT : q_nT Γ) (r18 : Option Nat → Int32 → Int32 → q_X Int32) (hr18 : ∀ (l0 : Option Nat) (l1 : Int32) (l2 : Int32) (σ : q_St), r18 l0 l1 l2 σ = some w → q_W E Γ (q_QF E Γ q_oI w) 4 σ 18 [(0, q_R l0), (1, q_I l1), (2, q_I l2)] []) (mr18 : ∀ (l0 : Option Nat) (l1 : Int32) (l2 : Int32), q_mo (r18 l0 l1 l2)) (l0 : Option Nat) (l1 : Int32) (l2 : Int32) (σ : q_St) (h : F_X8_labelAt_18B (q_kap E) r18 l0 l1 l2 σ = some w) : q_W E Γ (q_QF E Γ q_oI w) 4 σ 18 [(0, q_R l0), (1, q_I l1), (2, q_I l2)] [] := by
  have C := B.1
  unfold F_X8_labelAt_18B at h
  refine q_iload_n (pc := 18) C 2 rfl dX8_labelAt_18 rfl ?_
  refine q_if_lt (pc := 19) (tgt := 76) C dX8_labelAt_19 (by decide) h (fun _ h => ?_) (fun _ h => ?_)
  · refine q_W.sub [] rfl ?_
    exact S_X8_labelAt_76 B hT _ h
  · refine q_iload_n (pc := 22) C 2 rfl dX8_labelAt_22 rfl ?_
    refine q_aload_n (pc := 23) C 0 rfl dX8_labelAt_23 rfl ?_
    refine q_getA (pc := 24) C dX8_labelAt_24 ql_X8_18 h (fun v24 h => ?_)
    refine q_callV (pc := 27) (As := []) (st := [q_I l2]) (ps := q_psI) C B.2.1 hT q_hpI qm_X8_80 qv_Jx4a65c_size_8abf5 dX8_labelAt_27 rfl rfl (Nat.le_of_ble_eq_true rfl) (q_flo B.2.2.1 B.2.2.2.1 (by decide) (by decide)) (K_Jx4a65c_size_8abf5 v24) (M_Jx4a65c_size_8abf5 (q_kap E) v24) (by exact fun v27 => (q_mo_br (M_X8_labelAt_76 (q_kap E)) (q_mo_rd fun v34 => (q_mo_rd fun _ => q_mo_ca (M_Jx4a65c_get_915e3 (q_kap E) v34 l2) fun v38 => (q_mo_rd fun _ => (q_mo_rd fun v46 => (q_mo_rd fun v50 => (q_mo_rd fun _ => q_mo_ca (M_X10_isSame (q_kap E) v46 v50 l1) fun v54 => (q_mo_br (q_mo_rd fun v66 => (q_mo_ca (M_J9_min_7cf53 (q_kap E) (l2 - (1 : Int32)) v66) fun v69 => (mr18 l0 l1 v69))) q_mo_rt))))))))) h (fun v27 σ h => ?_)
    refine q_W.st (st' := [q_I v27, q_I l2]) rfl ?_
    refine q_icmp_ge (pc := 30) (tgt := 76) C dX8_labelAt_30 (by decide) h (fun _ h => ?_) (fun _ h => ?_)
    · refine q_W.sub [] rfl ?_
      exact S_X8_labelAt_76 B hT _ h
    · refine q_aload_n (pc := 33) C 0 rfl dX8_labelAt_33 rfl ?_
      refine q_getA (pc := 34) C dX8_labelAt_34 ql_X8_18 h (fun v34 h => ?_)
      refine q_iload_n (pc := 37) C 2 rfl dX8_labelAt_37 rfl ?_
      refine q_callV (pc := 38) (As := [q_I l2]) (st := []) (ps := q_psR) C B.2.1 hT q_hpR qm_X8_87 qv_Jx4a65c_get_915e3 dX8_labelAt_38 rfl rfl (Nat.le_of_ble_eq_true rfl) (q_flo B.2.2.1 B.2.2.2.1 (by decide) (by decide)) (K_Jx4a65c_get_915e3 v34 l2) (M_Jx4a65c_get_915e3 (q_kap E) v34 l2) (by exact fun v38 => (q_mo_rd fun _ => (q_mo_rd fun v46 => (q_mo_rd fun v50 => (q_mo_rd fun _ => q_mo_ca (M_X10_isSame (q_kap E) v46 v50 l1) fun v54 => (q_mo_br (q_mo_rd fun v66 => (q_mo_ca (M_J9_min_7cf53 (q_kap E) (l2 - (1 : Int32)) v66) fun v69 => (mr18 l0 l1 v69))) q_mo_rt)))))) h (fun v38 σ h => ?_)
      refine q_W.st (st' := [q_R v38]) rfl ?_
      refine q_cast (pc := 41) (ci := 6) C dX8_labelAt_41 rfl qb_X8_91 (by decide +kernel) h (fun h => ?_)
      refine q_astore_n (pc := 44) (l' := [(3, q_R v38), (0, q_R l0), (1, q_I l1), (2, q_I l2)]) C dX8_labelAt_44 rfl (by decide) rfl ?_
      refine q_aload_n (pc := 45) C 1 rfl dX8_labelAt_45 rfl ?_
      refine q_getA (pc := 46) C dX8_labelAt_46 ql_X8_39 h (fun v46 h => ?_)
      refine q_aload_n (pc := 49) C 0 rfl dX8_labelAt_49 rfl ?_
      refine q_getI (pc := 50) C dX8_labelAt_50 ql_X8_184 h (fun v50 h => ?_)
      refine q_iload_n (pc := 53) C 2 rfl dX8_labelAt_53 rfl ?_
      refine q_callV (pc := 54) (As := [q_I v50, q_I l1]) (st := []) (ps := q_psI) C B.2.1 hT q_hpI qm_X8_193 qv_X10_isSame dX8_labelAt_54 rfl rfl (Nat.le_of_ble_eq_true rfl) (q_flo B.2.2.1 B.2.2.2.1 (by decide) (by decide)) (K_X10_isSame v46 v50 l1) (M_X10_isSame (q_kap E) v46 v50 l1) (by exact fun v54 => (q_mo_br (q_mo_rd fun v66 => (q_mo_ca (M_J9_min_7cf53 (q_kap E) (l2 - (1 : Int32)) v66) fun v69 => (mr18 l0 l1 v69))) q_mo_rt)) h (fun v54 σ h => ?_)
      refine q_W.st (st' := [q_I v54]) rfl ?_
      refine q_if_eq (pc := 57) (tgt := 62) C dX8_labelAt_57 (by decide) h (fun _ h => ?_) (fun _ h => ?_)
      · refine q_iload_n (pc := 62) C 3 rfl dX8_labelAt_62 rfl ?_
        refine q_iconst (pc := 63) (v := (1 : Int32)) C dX8_labelAt_63 (by decide) ?_
        refine q_isub (pc := 64) C dX8_labelAt_64 ?_
        refine q_aload_n (pc := 65) C 0 rfl dX8_labelAt_65 rfl ?_
        refine q_getI (pc := 66) C dX8_labelAt_66 ql_X8_190 h (fun v66 h => ?_)
        refine q_callS (pc := 69) (As := [q_I (l2 - (1 : Int32)), q_I v66]) (st := []) (ps := q_psI) C B.2.1 hT q_hpI qm_X8_196 qs_J9_min_7cf53 dX8_labelAt_69 rfl rfl (Nat.le_of_ble_eq_true rfl) (q_flo B.2.2.1 B.2.2.2.1 (by decide) (by decide)) (K_J9_min_7cf53 (l2 - (1 : Int32)) v66) (M_J9_min_7cf53 (q_kap E) (l2 - (1 : Int32)) v66) (by exact fun v69 => (mr18 l0 l1 v69)) h (fun v69 σ h => ?_)
        refine q_W.st (st' := [q_I v69]) rfl ?_
        refine q_istore_n (pc := 72) (l' := [(2, q_I v69), (3, q_R v38), (0, q_R l0), (1, q_I l1)]) C dX8_labelAt_72 rfl (by decide) rfl ?_
        refine q_goto (pc := 73) (tgt := 18) C dX8_labelAt_73 (by decide) ?_
        refine q_W.sub [2, 3, 0] rfl ?_
        exact hr18 l0 l1 v69 _ h
      · refine q_iload_n (pc := 60) C 3 rfl dX8_labelAt_60 rfl ?_
        exact q_iret C B.2.2.2.2.1 dX8_labelAt_61 h
def F_X8_labelAt_18 (κ : Nat → Nat) : Nat → Option Nat → Int32 → Int32 → q_X Int32
  | 0, _, _, _ => q_no
  | n + 1, l0, l1, l2 => F_X8_labelAt_18B κ (F_X8_labelAt_18 κ n) l0 l1 l2
theorem M_X8_labelAt_18 (κ : Nat → Nat) : ∀ (n : Nat) (l0 : Option Nat) (l1 : Int32) (l2 : Int32), q_mo (F_X8_labelAt_18 κ n l0 l1 l2)
  | 0, _, _, _ => q_mo_no
  | n + 1, l0, l1, l2 => M_X8_labelAt_18B κ (F_X8_labelAt_18 κ n) (M_X8_labelAt_18 κ n) l0 l1 l2
theorem S_X8_labelAt_18 {E : q_Ev} {Γ : q_Gm} {w : (Int32 ⊕ q_Exn) × q_St} (B : q_Bd E Γ cX8_labelAt yX8_labelAt.cls 4 3 64 (some .int) yX8_labelAt.name w) (hT : q_nT Γ) : ∀ (n : Nat) (l0 : Option Nat) (l1 : Int32) (l2 : Int32) (σ : q_St), F_X8_labelAt_18 (q_kap E) n l0 l1 l2 σ = some w → q_W E Γ (q_QF E Γ q_oI w) 4 σ 18 [(0, q_R l0), (1, q_I l1), (2, q_I l2)] []
  | 0, _, _, _, _, h => by cases h
  | n + 1, l0, l1, l2, σ, h => S_X8_labelAt_18B B hT (F_X8_labelAt_18 (q_kap E) n) (S_X8_labelAt_18 B hT n) (M_X8_labelAt_18 (q_kap E) n) l0 l1 l2 σ h
def F_X8_labelAt (κ : Nat → Nat) (l0 : Option Nat) (l1 : Int32) : q_X Int32 :=
  q_rd (q_gA l0 11 6) fun v1 => q_rd (q_gA l0 11 1) fun v5 => q_rd (q_is v5 13) fun _ => q_ca (F_X10_hash κ v5 l1) fun v9 => q_rd (q_lI 1 v1 (v9 &&& (255 : Int32))) fun v16 => F_X8_labelAt_18 κ q_fu l0 l1 v16
theorem M_X8_labelAt (κ : Nat → Nat) (l0 : Option Nat) (l1 : Int32) : q_mo (F_X8_labelAt κ l0 l1) := (q_mo_rd fun v1 => (q_mo_rd fun v5 => (q_mo_rd fun _ => q_mo_ca (M_X10_hash κ v5 l1) fun v9 => (q_mo_rd fun v16 => (M_X8_labelAt_18 κ q_fu l0 l1 v16)))))
set_option maxRecDepth 100000 in
set_option maxHeartbeats 4000000 in
theorem K_X8_labelAt {E : q_Ev} (l0 : Option Nat) (l1 : Int32) : q_Ct E yX8_labelAt (.code yX8_labelAt cX8_labelAt 4 (some .int)) 3 64 [q_R l0, q_I l1] q_oI (F_X8_labelAt (q_kap E) l0 l1) := by
  refine q_enter (by decide) (Nat.le_of_ble_eq_true rfl) (fun Γ σ w h B hT => ?_)
  have C := B.1
  unfold F_X8_labelAt at h
  refine q_aload_n (pc := 0) C 0 rfl dX8_labelAt_0 rfl ?_
  refine q_getA (pc := 1) C dX8_labelAt_1 ql_X8_21 h (fun v1 h => ?_)
  refine q_aload_n (pc := 4) C 0 rfl dX8_labelAt_4 rfl ?_
  refine q_getA (pc := 5) C dX8_labelAt_5 ql_X8_39 h (fun v5 h => ?_)
  refine q_iload_n (pc := 8) C 1 rfl dX8_labelAt_8 rfl ?_
  refine q_callV (pc := 9) (As := [q_I l1]) (st := [q_R v1]) (ps := q_psI) C B.2.1 hT q_hpI qm_X8_187 qv_X10_hash dX8_labelAt_9 rfl rfl (Nat.le_of_ble_eq_true rfl) (q_flo B.2.2.1 B.2.2.2.1 (by decide) (by decide)) (K_X10_hash v5 l1) (M_X10_hash (q_kap E) v5 l1) (by exact fun v9 => (q_mo_rd fun v16 => (M_X8_labelAt_18 (q_kap E) q_fu l0 l1 v16))) h (fun v9 σ h => ?_)
  refine q_W.st (st' := [q_I v9, q_R v1]) rfl ?_
  refine q_sipush (pc := 12) (v := (255 : Int32)) C dX8_labelAt_12 (by decide) ?_
  refine q_iand (pc := 15) C dX8_labelAt_15 ?_
  refine q_ldI (pc := 16) C dX8_labelAt_16 (Or.inr (Or.inl ⟨rfl, rfl⟩)) h (fun v16 h => ?_)
  refine q_istore_n (pc := 17) (l' := [(2, q_I v16), (0, q_R l0), (1, q_I l1)]) C dX8_labelAt_17 rfl (by decide) rfl ?_
  refine q_W.sub [1, 2, 0] rfl ?_
  exact S_X8_labelAt_18 B hT q_fu l0 l1 v16 _ h
def F_X8_findLabelsOf_65 (κ : Nat → Nat) : q_X Unit :=
  q_rt ()
theorem M_X8_findLabelsOf_65 (κ : Nat → Nat) : q_mo (F_X8_findLabelsOf_65 κ) := q_mo_rt
theorem N_X8_findLabelsOf_65 (κ : Nat → Nat) : q_ni (F_X8_findLabelsOf_65 κ) := q_ni_rt
set_option maxRecDepth 100000 in
set_option maxHeartbeats 4000000 in
theorem S_X8_findLabelsOf_65 {E : q_Ev} {Γ : q_Gm} {w : (Unit ⊕ q_Exn) × q_St} (B : q_Bd E Γ cX8_findLabelsOf yX8_findLabelsOf.cls 3 4 87 (none) yX8_findLabelsOf.name w) (hT : q_nT Γ) (σ : q_St) (h : F_X8_findLabelsOf_65 (q_kap E) σ = some w) : q_W E Γ (q_QF E Γ q_oV w) 3 σ 65 [] [] := by
  have C := B.1
  unfold F_X8_findLabelsOf_65 at h
  exact q_vret C B.2.2.2.2.1 dX8_findLabelsOf_65 h
def F_X8_findLabelsOf_59 (κ : Nat → Nat) (r7 : Option Nat → Int32 → q_X Unit) (l0 : Option Nat) (l2 : Int32) : q_X Unit :=
  r7 l0 (l2 + (1 : Int32))
theorem M_X8_findLabelsOf_59 (κ : Nat → Nat) (r7 : Option Nat → Int32 → q_X Unit) (mr7 : ∀ (l0 : Option Nat) (l2 : Int32), q_mo (r7 l0 l2)) (l0 : Option Nat) (l2 : Int32) : q_mo (F_X8_findLabelsOf_59 κ r7 l0 l2) := (mr7 l0 (l2 + (1 : Int32)))
set_option maxRecDepth 100000 in
set_option maxHeartbeats 4000000 in
theorem S_X8_findLabelsOf_59 {E : q_Ev} {Γ : q_Gm} {w : (Unit ⊕ q_Exn) × q_St} (B : q_Bd E Γ cX8_findLabelsOf yX8_findLabelsOf.cls 3 4 87 (none) yX8_findLabelsOf.name w) (hT : q_nT Γ) (r7 : Option Nat → Int32 → q_X Unit) (hr7 : ∀ (l0 : Option Nat) (l2 : Int32) (σ : q_St), r7 l0 l2 σ = some w → q_W E Γ (q_QF E Γ q_oV w) 3 σ 7 [(0, q_R l0), (2, q_I l2)] []) (mr7 : ∀ (l0 : Option Nat) (l2 : Int32), q_mo (r7 l0 l2)) (l0 : Option Nat) (l2 : Int32) (σ : q_St) (h : F_X8_findLabelsOf_59 (q_kap E) r7 l0 l2 σ = some w) : q_W E Γ (q_QF E Γ q_oV w) 3 σ 59 [(0, q_R l0), (2, q_I l2)] [] := by
  have C := B.1
  unfold F_X8_findLabelsOf_59 at h
  refine q_iinc (pc := 59) (v := (1 : Int32)) (l' := [(2, q_I (l2 + (1 : Int32))), (0, q_R l0)]) C 1 rfl dX8_findLabelsOf_59 (by decide) (by decide) rfl ?_
  refine q_goto (pc := 62) (tgt := 7) C dX8_findLabelsOf_62 (by decide) ?_
  refine q_W.sub [1, 0] rfl ?_
  exact hr7 l0 (l2 + (1 : Int32)) _ h
def F_X8_findLabelsOf_7B (κ : Nat → Nat) (r7 : Option Nat → Int32 → q_X Unit) (l0 : Option Nat) (l2 : Int32) : q_X Unit :=
  q_rd (q_gA l0 11 1) fun v9 => q_rd (q_gI v9 13 6) fun v12 => q_br (v12 ≤ l2) (F_X8_findLabelsOf_65 κ) (q_rd (q_gA l0 11 1) fun v19 => q_rd (q_gA v19 13 1) fun v22 => q_rd (q_lI 0 v22 l2) fun v26 => q_br (v26 = (4 : Int32)) (F_X8_findLabelsOf_65 κ) (q_rd (q_gA l0 11 1) fun v32 => q_rd (q_gA v32 13 1) fun v35 => q_rd (q_lI 0 v35 l2) fun v39 => q_br (¬ v39 = (1 : Int32)) (F_X8_findLabelsOf_59 κ r7 l0 l2) (q_rd (q_gA l0 11 1) fun v45 => q_rd (q_gA v45 13 4) fun v48 => q_rd (q_is l0 11) fun _ => q_ca (F_X8_labelAt κ l0 l2) fun v54 => q_wr (q_sL v48 l2 v54.toInt64) (F_X8_findLabelsOf_59 κ r7 l0 l2))))
theorem M_X8_findLabelsOf_7B (κ : Nat → Nat) (r7 : Option Nat → Int32 → q_X Unit) (mr7 : ∀ (l0 : Option Nat) (l2 : Int32), q_mo (r7 l0 l2)) (l0 : Option Nat) (l2 : Int32) : q_mo (F_X8_findLabelsOf_7B κ r7 l0 l2) := (q_mo_rd fun v9 => (q_mo_rd fun v12 => (q_mo_br (M_X8_findLabelsOf_65 κ) (q_mo_rd fun v19 => (q_mo_rd fun v22 => (q_mo_rd fun v26 => (q_mo_br (M_X8_findLabelsOf_65 κ) (q_mo_rd fun v32 => (q_mo_rd fun v35 => (q_mo_rd fun v39 => (q_mo_br (M_X8_findLabelsOf_59 κ r7 mr7 l0 l2) (q_mo_rd fun v45 => (q_mo_rd fun v48 => (q_mo_rd fun _ => q_mo_ca (M_X8_labelAt κ l0 l2) fun v54 => (q_mo_wr (M_X8_findLabelsOf_59 κ r7 mr7 l0 l2))))))))))))))))
set_option maxRecDepth 100000 in
set_option maxHeartbeats 4000000 in
theorem S_X8_findLabelsOf_7B {E : q_Ev} {Γ : q_Gm} {w : (Unit ⊕ q_Exn) × q_St} (B : q_Bd E Γ cX8_findLabelsOf yX8_findLabelsOf.cls 3 4 87 (none) yX8_findLabelsOf.name w) (hT : q_nT Γ) (r7 : Option Nat → Int32 → q_X Unit) (hr7 : ∀ (l0 : Option Nat) (l2 : Int32) (σ : q_St), r7 l0 l2 σ = some w → q_W E Γ (q_QF E Γ q_oV w) 3 σ 7 [(0, q_R l0), (2, q_I l2)] []) (mr7 : ∀ (l0 : Option Nat) (l2 : Int32), q_mo (r7 l0 l2)) (l0 : Option Nat) (l2 : Int32) (σ : q_St) (h : F_X8_findLabelsOf_7B (q_kap E) r7 l0 l2 σ = some w) : q_W E Γ (q_QF E Γ q_oV w) 3 σ 7 [(0, q_R l0), (2, q_I l2)] [] := by
  have C := B.1
  unfold F_X8_findLabelsOf_7B at h
  refine q_iload_n (pc := 7) C 1 rfl dX8_findLabelsOf_7 rfl ?_
  refine q_aload_n (pc := 8) C 0 rfl dX8_findLabelsOf_8 rfl ?_
  refine q_getA (pc := 9) C dX8_findLabelsOf_9 ql_X8_39 h (fun v9 h => ?_)
  refine q_getI (pc := 12) C dX8_findLabelsOf_12 ql_X8_68 h (fun v12 h => ?_)
  refine q_icmp_ge (pc := 15) (tgt := 65) C dX8_findLabelsOf_15 (by decide) h (fun _ h => ?_) (fun _ h => ?_)
  · refine q_W.sub [] rfl ?_
    exact S_X8_findLabelsOf_65 B hT _ h
  · refine q_aload_n (pc := 18) C 0 rfl dX8_findLabelsOf_18 rfl ?_
    refine q_getA (pc := 19) C dX8_findLabelsOf_19 ql_X8_39 h (fun v19 h => ?_)
    refine q_getA (pc := 22) C dX8_findLabelsOf_22 ql_X8_148 h (fun v22 h => ?_)
    refine q_iload_n (pc := 25) C 1 rfl dX8_findLabelsOf_25 rfl ?_
    refine q_ldI (pc := 26) C dX8_findLabelsOf_26 (Or.inl ⟨rfl, rfl⟩) h (fun v26 h => ?_)
    refine q_iconst (pc := 27) (v := (4 : Int32)) C dX8_findLabelsOf_27 (by decide) ?_
    refine q_icmp_eq (pc := 28) (tgt := 65) C dX8_findLabelsOf_28 (by decide) h (fun _ h => ?_) (fun _ h => ?_)
    · refine q_W.sub [] rfl ?_
      exact S_X8_findLabelsOf_65 B hT _ h
    · refine q_aload_n (pc := 31) C 0 rfl dX8_findLabelsOf_31 rfl ?_
      refine q_getA (pc := 32) C dX8_findLabelsOf_32 ql_X8_39 h (fun v32 h => ?_)
      refine q_getA (pc := 35) C dX8_findLabelsOf_35 ql_X8_148 h (fun v35 h => ?_)
      refine q_iload_n (pc := 38) C 1 rfl dX8_findLabelsOf_38 rfl ?_
      refine q_ldI (pc := 39) C dX8_findLabelsOf_39 (Or.inl ⟨rfl, rfl⟩) h (fun v39 h => ?_)
      refine q_iconst (pc := 40) (v := (1 : Int32)) C dX8_findLabelsOf_40 (by decide) ?_
      refine q_icmp_ne (pc := 41) (tgt := 59) C dX8_findLabelsOf_41 (by decide) h (fun _ h => ?_) (fun _ h => ?_)
      · exact S_X8_findLabelsOf_59 B hT r7 hr7 mr7 l0 l2 _ h
      · refine q_aload_n (pc := 44) C 0 rfl dX8_findLabelsOf_44 rfl ?_
        refine q_getA (pc := 45) C dX8_findLabelsOf_45 ql_X8_39 h (fun v45 h => ?_)
        refine q_getA (pc := 48) C dX8_findLabelsOf_48 ql_X8_202 h (fun v48 h => ?_)
        refine q_iload_n (pc := 51) C 1 rfl dX8_findLabelsOf_51 rfl ?_
        refine q_aload_n (pc := 52) C 0 rfl dX8_findLabelsOf_52 rfl ?_
        refine q_iload_n (pc := 53) C 1 rfl dX8_findLabelsOf_53 rfl ?_
        refine q_callV (pc := 54) (As := [q_I l2]) (st := [q_I l2, q_R v48]) (ps := q_psI) C B.2.1 hT q_hpI qm_X8_121 qv_X8_labelAt dX8_findLabelsOf_54 rfl rfl (Nat.le_of_ble_eq_true rfl) (q_flo B.2.2.1 B.2.2.2.1 (by decide) (by decide)) (K_X8_labelAt l0 l2) (M_X8_labelAt (q_kap E) l0 l2) (by exact fun v54 => (q_mo_wr (M_X8_findLabelsOf_59 (q_kap E) r7 mr7 l0 l2))) h (fun v54 σ h => ?_)
        refine q_W.st (st' := [q_I v54, q_I l2, q_R v48]) rfl ?_
        refine q_i2l (pc := 57) C dX8_findLabelsOf_57 ?_
        refine q_stL (pc := 58) C dX8_findLabelsOf_58 h (fun M58 h => ?_)
        exact S_X8_findLabelsOf_59 B hT r7 hr7 mr7 l0 l2 _ h
def F_X8_findLabelsOf_7 (κ : Nat → Nat) : Nat → Option Nat → Int32 → q_X Unit
  | 0, _, _ => q_no
  | n + 1, l0, l2 => F_X8_findLabelsOf_7B κ (F_X8_findLabelsOf_7 κ n) l0 l2
theorem M_X8_findLabelsOf_7 (κ : Nat → Nat) : ∀ (n : Nat) (l0 : Option Nat) (l2 : Int32), q_mo (F_X8_findLabelsOf_7 κ n l0 l2)
  | 0, _, _ => q_mo_no
  | n + 1, l0, l2 => M_X8_findLabelsOf_7B κ (F_X8_findLabelsOf_7 κ n) (M_X8_findLabelsOf_7 κ n) l0 l2
theorem S_X8_findLabelsOf_7 {E : q_Ev} {Γ : q_Gm} {w : (Unit ⊕ q_Exn) × q_St} (B : q_Bd E Γ cX8_findLabelsOf yX8_findLabelsOf.cls 3 4 87 (none) yX8_findLabelsOf.name w) (hT : q_nT Γ) : ∀ (n : Nat) (l0 : Option Nat) (l2 : Int32) (σ : q_St), F_X8_findLabelsOf_7 (q_kap E) n l0 l2 σ = some w → q_W E Γ (q_QF E Γ q_oV w) 3 σ 7 [(0, q_R l0), (2, q_I l2)] []
  | 0, _, _, _, h => by cases h
  | n + 1, l0, l2, σ, h => S_X8_findLabelsOf_7B B hT (F_X8_findLabelsOf_7 (q_kap E) n) (S_X8_findLabelsOf_7 B hT n) (M_X8_findLabelsOf_7 (q_kap E) n) l0 l2 σ h
def F_X8_findLabelsOf (κ : Nat → Nat) (l0 : Option Nat) (l1 : Option Nat) : q_X Unit :=
  q_rd (q_gI l1 6 2) fun v1 => F_X8_findLabelsOf_7 κ q_fu l0 (v1 + (1 : Int32))
theorem M_X8_findLabelsOf (κ : Nat → Nat) (l0 : Option Nat) (l1 : Option Nat) : q_mo (F_X8_findLabelsOf κ l0 l1) := (q_mo_rd fun v1 => (M_X8_findLabelsOf_7 κ q_fu l0 (v1 + (1 : Int32))))
set_option maxRecDepth 100000 in
set_option maxHeartbeats 4000000 in
theorem K_X8_findLabelsOf {E : q_Ev} (l0 : Option Nat) (l1 : Option Nat) : q_Ct E yX8_findLabelsOf (.code yX8_findLabelsOf cX8_findLabelsOf 3 (none)) 4 87 [q_R l0, q_R l1] q_oV (F_X8_findLabelsOf (q_kap E) l0 l1) := by
  refine q_enter (by decide) (Nat.le_of_ble_eq_true rfl) (fun Γ σ w h B hT => ?_)
  have C := B.1
  unfold F_X8_findLabelsOf at h
  refine q_aload_n (pc := 0) C 1 rfl dX8_findLabelsOf_0 rfl ?_
  refine q_getI (pc := 1) C dX8_findLabelsOf_1 ql_X8_104 h (fun v1 h => ?_)
  refine q_iconst (pc := 4) (v := (1 : Int32)) C dX8_findLabelsOf_4 (by decide) ?_
  refine q_iadd (pc := 5) C dX8_findLabelsOf_5 ?_
  refine q_istore_n (pc := 6) (l' := [(2, q_I (v1 + (1 : Int32))), (0, q_R l0), (1, q_R l1)]) C dX8_findLabelsOf_6 rfl (by decide) rfl ?_
  refine q_W.sub [1, 0] rfl ?_
  exact S_X8_findLabelsOf_7 B hT q_fu l0 (v1 + (1 : Int32)) _ h
def F_X10_isLineEnd_25 (κ : Nat → Nat) (s0 : Int32) : q_X Int32 :=
  q_rz s0
theorem M_X10_isLineEnd_25 (κ : Nat → Nat) (s0 : Int32) : q_mo (F_X10_isLineEnd_25 κ s0) := q_mo_rz
set_option maxRecDepth 100000 in
set_option maxHeartbeats 4000000 in
theorem S_X10_isLineEnd_25 {E : q_Ev} {Γ : q_Gm} {w : (Int32 ⊕ q_Exn) × q_St} (B : q_Bd E Γ cX10_isLineEnd yX10_isLineEnd.cls 2 0 0 (some .boolean) yX10_isLineEnd.name w) (hT : q_nT Γ) (s0 : Int32) (σ : q_St) (h : F_X10_isLineEnd_25 (q_kap E) s0 σ = some w) : q_W E Γ (q_QF E Γ q_oI w) 2 σ 25 [] [q_I s0] := by
  have C := B.1
  unfold F_X10_isLineEnd_25 at h
  exact q_zret C B.2.2.2.2.1 dX10_isLineEnd_25 h
def F_X10_isLineEnd_20 (κ : Nat → Nat) : q_X Int32 :=
  F_X10_isLineEnd_25 κ (1 : Int32)
theorem M_X10_isLineEnd_20 (κ : Nat → Nat) : q_mo (F_X10_isLineEnd_20 κ) := (M_X10_isLineEnd_25 κ (1 : Int32))
set_option maxRecDepth 100000 in
set_option maxHeartbeats 4000000 in
theorem S_X10_isLineEnd_20 {E : q_Ev} {Γ : q_Gm} {w : (Int32 ⊕ q_Exn) × q_St} (B : q_Bd E Γ cX10_isLineEnd yX10_isLineEnd.cls 2 0 0 (some .boolean) yX10_isLineEnd.name w) (hT : q_nT Γ) (σ : q_St) (h : F_X10_isLineEnd_20 (q_kap E) σ = some w) : q_W E Γ (q_QF E Γ q_oI w) 2 σ 20 [] [] := by
  have C := B.1
  unfold F_X10_isLineEnd_20 at h
  refine q_iconst (pc := 20) (v := (1 : Int32)) C dX10_isLineEnd_20 (by decide) ?_
  refine q_goto (pc := 21) (tgt := 25) C dX10_isLineEnd_21 (by decide) ?_
  exact S_X10_isLineEnd_25 B hT (1 : Int32) _ h
def F_X10_isLineEnd (κ : Nat → Nat) (l0 : Option Nat) (l1 : Int32) : q_X Int32 :=
  q_rd (q_gA l0 13 1) fun v1 => q_rd (q_lI 0 v1 l1) fun v5 => q_br (v5 = (4 : Int32)) (F_X10_isLineEnd_20 κ) (q_rd (q_gA l0 13 1) fun v11 => q_rd (q_lI 0 v11 l1) fun v15 => q_br (¬ v15 = (5 : Int32)) (F_X10_isLineEnd_25 κ (0 : Int32)) (F_X10_isLineEnd_20 κ))
theorem M_X10_isLineEnd (κ : Nat → Nat) (l0 : Option Nat) (l1 : Int32) : q_mo (F_X10_isLineEnd κ l0 l1) := (q_mo_rd fun v1 => (q_mo_rd fun v5 => (q_mo_br (M_X10_isLineEnd_20 κ) (q_mo_rd fun v11 => (q_mo_rd fun v15 => (q_mo_br (M_X10_isLineEnd_25 κ (0 : Int32)) (M_X10_isLineEnd_20 κ)))))))
set_option maxRecDepth 100000 in
set_option maxHeartbeats 4000000 in
theorem K_X10_isLineEnd {E : q_Ev} (l0 : Option Nat) (l1 : Int32) : q_Ct E yX10_isLineEnd (.code yX10_isLineEnd cX10_isLineEnd 2 (some .boolean)) 0 0 [q_R l0, q_I l1] q_oI (F_X10_isLineEnd (q_kap E) l0 l1) := by
  refine q_enter (by decide) (Nat.le_of_ble_eq_true rfl) (fun Γ σ w h B hT => ?_)
  have C := B.1
  unfold F_X10_isLineEnd at h
  refine q_aload_n (pc := 0) C 0 rfl dX10_isLineEnd_0 rfl ?_
  refine q_getA (pc := 1) C dX10_isLineEnd_1 ql_X10_15 h (fun v1 h => ?_)
  refine q_iload_n (pc := 4) C 1 rfl dX10_isLineEnd_4 rfl ?_
  refine q_ldI (pc := 5) C dX10_isLineEnd_5 (Or.inl ⟨rfl, rfl⟩) h (fun v5 h => ?_)
  refine q_iconst (pc := 6) (v := (4 : Int32)) C dX10_isLineEnd_6 (by decide) ?_
  refine q_icmp_eq (pc := 7) (tgt := 20) C dX10_isLineEnd_7 (by decide) h (fun _ h => ?_) (fun _ h => ?_)
  · refine q_W.sub [] rfl ?_
    exact S_X10_isLineEnd_20 B hT _ h
  · refine q_aload_n (pc := 10) C 0 rfl dX10_isLineEnd_10 rfl ?_
    refine q_getA (pc := 11) C dX10_isLineEnd_11 ql_X10_15 h (fun v11 h => ?_)
    refine q_iload_n (pc := 14) C 1 rfl dX10_isLineEnd_14 rfl ?_
    refine q_ldI (pc := 15) C dX10_isLineEnd_15 (Or.inl ⟨rfl, rfl⟩) h (fun v15 h => ?_)
    refine q_iconst (pc := 16) (v := (5 : Int32)) C dX10_isLineEnd_16 (by decide) ?_
    refine q_icmp_ne (pc := 17) (tgt := 24) C dX10_isLineEnd_17 (by decide) h (fun _ h => ?_) (fun _ h => ?_)
    · refine q_iconst (pc := 24) (v := (0 : Int32)) C dX10_isLineEnd_24 (by decide) ?_
      refine q_W.sub [] rfl ?_
      exact S_X10_isLineEnd_25 B hT (0 : Int32) _ h
    · refine q_W.sub [] rfl ?_
      exact S_X10_isLineEnd_20 B hT _ h
def F_X10_isSign_27 (κ : Nat → Nat) (s0 : Int32) : q_X Int32 :=
  q_rz s0
theorem M_X10_isSign_27 (κ : Nat → Nat) (s0 : Int32) : q_mo (F_X10_isSign_27 κ s0) := q_mo_rz
set_option maxRecDepth 100000 in
set_option maxHeartbeats 4000000 in
theorem S_X10_isSign_27 {E : q_Ev} {Γ : q_Gm} {w : (Int32 ⊕ q_Exn) × q_St} (B : q_Bd E Γ cX10_isSign yX10_isSign.cls 3 0 0 (some .boolean) yX10_isSign.name w) (hT : q_nT Γ) (s0 : Int32) (σ : q_St) (h : F_X10_isSign_27 (q_kap E) s0 σ = some w) : q_W E Γ (q_QF E Γ q_oI w) 3 σ 27 [] [q_I s0] := by
  have C := B.1
  unfold F_X10_isSign_27 at h
  exact q_zret C B.2.2.2.2.1 dX10_isSign_27 h
def F_X10_isSign_26 (κ : Nat → Nat) : q_X Int32 :=
  F_X10_isSign_27 κ (0 : Int32)
theorem M_X10_isSign_26 (κ : Nat → Nat) : q_mo (F_X10_isSign_26 κ) := (M_X10_isSign_27 κ (0 : Int32))
set_option maxRecDepth 100000 in
set_option maxHeartbeats 4000000 in
theorem S_X10_isSign_26 {E : q_Ev} {Γ : q_Gm} {w : (Int32 ⊕ q_Exn) × q_St} (B : q_Bd E Γ cX10_isSign yX10_isSign.cls 3 0 0 (some .boolean) yX10_isSign.name w) (hT : q_nT Γ) (σ : q_St) (h : F_X10_isSign_26 (q_kap E) σ = some w) : q_W E Γ (q_QF E Γ q_oI w) 3 σ 26 [] [] := by
  have C := B.1
  unfold F_X10_isSign_26 at h
  refine q_iconst (pc := 26) (v := (0 : Int32)) C dX10_isSign_26 (by decide) ?_
  exact S_X10_isSign_27 B hT (0 : Int32) _ h
def F_X10_isSign (κ : Nat → Nat) (l0 : Option Nat) (l1 : Int32) (l2 : Int32) : q_X Int32 :=
  q_rd (q_gA l0 13 1) fun v1 => q_rd (q_lI 0 v1 l1) fun v5 => q_br (¬ v5 = (3 : Int32)) (F_X10_isSign_26 κ) (q_rd (q_gA l0 13 4) fun v11 => q_rd (q_lL v11 l1) fun v15 => q_br (¬ (lg_cmp v15 l2.toInt64) = 0) (F_X10_isSign_26 κ) (F_X10_isSign_27 κ (1 : Int32)))
theorem M_X10_isSign (κ : Nat → Nat) (l0 : Option Nat) (l1 : Int32) (l2 : Int32) : q_mo (F_X10_isSign κ l0 l1 l2) := (q_mo_rd fun v1 => (q_mo_rd fun v5 => (q_mo_br (M_X10_isSign_26 κ) (q_mo_rd fun v11 => (q_mo_rd fun v15 => (q_mo_br (M_X10_isSign_26 κ) (M_X10_isSign_27 κ (1 : Int32))))))))
set_option maxRecDepth 100000 in
set_option maxHeartbeats 4000000 in
theorem K_X10_isSign {E : q_Ev} (l0 : Option Nat) (l1 : Int32) (l2 : Int32) : q_Ct E yX10_isSign (.code yX10_isSign cX10_isSign 3 (some .boolean)) 0 0 [q_R l0, q_I l1, q_I l2] q_oI (F_X10_isSign (q_kap E) l0 l1 l2) := by
  refine q_enter (by decide) (Nat.le_of_ble_eq_true rfl) (fun Γ σ w h B hT => ?_)
  have C := B.1
  unfold F_X10_isSign at h
  refine q_aload_n (pc := 0) C 0 rfl dX10_isSign_0 rfl ?_
  refine q_getA (pc := 1) C dX10_isSign_1 ql_X10_15 h (fun v1 h => ?_)
  refine q_iload_n (pc := 4) C 1 rfl dX10_isSign_4 rfl ?_
  refine q_ldI (pc := 5) C dX10_isSign_5 (Or.inl ⟨rfl, rfl⟩) h (fun v5 h => ?_)
  refine q_iconst (pc := 6) (v := (3 : Int32)) C dX10_isSign_6 (by decide) ?_
  refine q_icmp_ne (pc := 7) (tgt := 26) C dX10_isSign_7 (by decide) h (fun _ h => ?_) (fun _ h => ?_)
  · refine q_W.sub [] rfl ?_
    exact S_X10_isSign_26 B hT _ h
  · refine q_aload_n (pc := 10) C 0 rfl dX10_isSign_10 rfl ?_
    refine q_getA (pc := 11) C dX10_isSign_11 ql_X10_25 h (fun v11 h => ?_)
    refine q_iload_n (pc := 14) C 1 rfl dX10_isSign_14 rfl ?_
    refine q_ldL (pc := 15) C dX10_isSign_15 h (fun v15 h => ?_)
    refine q_iload_n (pc := 16) C 2 rfl dX10_isSign_16 rfl ?_
    refine q_i2l (pc := 17) C dX10_isSign_17 ?_
    refine q_lcmp (pc := 18) C dX10_isSign_18 ?_
    refine q_if_ne (pc := 19) (tgt := 26) C dX10_isSign_19 (by decide) h (fun _ h => ?_) (fun _ h => ?_)
    · refine q_W.sub [] rfl ?_
      exact S_X10_isSign_26 B hT _ h
    · refine q_iconst (pc := 22) (v := (1 : Int32)) C dX10_isSign_22 (by decide) ?_
      refine q_goto (pc := 23) (tgt := 27) C dX10_isSign_23 (by decide) ?_
      refine q_W.sub [] rfl ?_
      exact S_X10_isSign_27 B hT (1 : Int32) _ h
def F_X8_hasTail_50 (κ : Nat → Nat) (s0 : Int32) : q_X Int32 :=
  q_rz s0
theorem M_X8_hasTail_50 (κ : Nat → Nat) (s0 : Int32) : q_mo (F_X8_hasTail_50 κ s0) := q_mo_rz
set_option maxRecDepth 100000 in
set_option maxHeartbeats 4000000 in
theorem S_X8_hasTail_50 {E : q_Ev} {Γ : q_Gm} {w : (Int32 ⊕ q_Exn) × q_St} (B : q_Bd E Γ cX8_hasTail yX8_hasTail.cls 2 1 22 (some .boolean) yX8_hasTail.name w) (hT : q_nT Γ) (s0 : Int32) (σ : q_St) (h : F_X8_hasTail_50 (q_kap E) s0 σ = some w) : q_W E Γ (q_QF E Γ q_oI w) 2 σ 50 [] [q_I s0] := by
  have C := B.1
  unfold F_X8_hasTail_50 at h
  exact q_zret C B.2.2.2.2.1 dX8_hasTail_50 h
def F_X8_hasTail_49 (κ : Nat → Nat) : q_X Int32 :=
  F_X8_hasTail_50 κ (0 : Int32)
theorem M_X8_hasTail_49 (κ : Nat → Nat) : q_mo (F_X8_hasTail_49 κ) := (M_X8_hasTail_50 κ (0 : Int32))
set_option maxRecDepth 100000 in
set_option maxHeartbeats 4000000 in
theorem S_X8_hasTail_49 {E : q_Ev} {Γ : q_Gm} {w : (Int32 ⊕ q_Exn) × q_St} (B : q_Bd E Γ cX8_hasTail yX8_hasTail.cls 2 1 22 (some .boolean) yX8_hasTail.name w) (hT : q_nT Γ) (σ : q_St) (h : F_X8_hasTail_49 (q_kap E) σ = some w) : q_W E Γ (q_QF E Γ q_oI w) 2 σ 49 [] [] := by
  have C := B.1
  unfold F_X8_hasTail_49 at h
  refine q_iconst (pc := 49) (v := (0 : Int32)) C dX8_hasTail_49 (by decide) ?_
  exact S_X8_hasTail_50 B hT (0 : Int32) _ h
def F_X8_hasTail_30 (κ : Nat → Nat) (l0 : Option Nat) (l1 : Int32) : q_X Int32 :=
  q_rd (q_gA l0 11 1) fun v31 => q_rd (q_gA v31 13 1) fun v34 => q_rd (q_lI 0 v34 (l1 + (2 : Int32))) fun v40 => q_br (¬ v40 = (2 : Int32)) (F_X8_hasTail_49 κ) (F_X8_hasTail_50 κ (1 : Int32))
theorem M_X8_hasTail_30 (κ : Nat → Nat) (l0 : Option Nat) (l1 : Int32) : q_mo (F_X8_hasTail_30 κ l0 l1) := (q_mo_rd fun v31 => (q_mo_rd fun v34 => (q_mo_rd fun v40 => (q_mo_br (M_X8_hasTail_49 κ) (M_X8_hasTail_50 κ (1 : Int32))))))
set_option maxRecDepth 100000 in
set_option maxHeartbeats 4000000 in
theorem S_X8_hasTail_30 {E : q_Ev} {Γ : q_Gm} {w : (Int32 ⊕ q_Exn) × q_St} (B : q_Bd E Γ cX8_hasTail yX8_hasTail.cls 2 1 22 (some .boolean) yX8_hasTail.name w) (hT : q_nT Γ) (l0 : Option Nat) (l1 : Int32) (σ : q_St) (h : F_X8_hasTail_30 (q_kap E) l0 l1 σ = some w) : q_W E Γ (q_QF E Γ q_oI w) 2 σ 30 [(0, q_R l0), (1, q_I l1)] [] := by
  have C := B.1
  unfold F_X8_hasTail_30 at h
  refine q_aload_n (pc := 30) C 0 rfl dX8_hasTail_30 rfl ?_
  refine q_getA (pc := 31) C dX8_hasTail_31 ql_X8_39 h (fun v31 h => ?_)
  refine q_getA (pc := 34) C dX8_hasTail_34 ql_X8_148 h (fun v34 h => ?_)
  refine q_iload_n (pc := 37) C 1 rfl dX8_hasTail_37 rfl ?_
  refine q_iconst (pc := 38) (v := (2 : Int32)) C dX8_hasTail_38 (by decide) ?_
  refine q_iadd (pc := 39) C dX8_hasTail_39 ?_
  refine q_ldI (pc := 40) C dX8_hasTail_40 (Or.inl ⟨rfl, rfl⟩) h (fun v40 h => ?_)
  refine q_iconst (pc := 41) (v := (2 : Int32)) C dX8_hasTail_41 (by decide) ?_
  refine q_icmp_ne (pc := 42) (tgt := 49) C dX8_hasTail_42 (by decide) h (fun _ h => ?_) (fun _ h => ?_)
  · refine q_W.sub [] rfl ?_
    exact S_X8_hasTail_49 B hT _ h
  · refine q_iconst (pc := 45) (v := (1 : Int32)) C dX8_hasTail_45 (by decide) ?_
    refine q_goto (pc := 46) (tgt := 50) C dX8_hasTail_46 (by decide) ?_
    refine q_W.sub [] rfl ?_
    exact S_X8_hasTail_50 B hT (1 : Int32) _ h
def F_X8_hasTail (κ : Nat → Nat) (l0 : Option Nat) (l1 : Int32) : q_X Int32 :=
  q_rd (q_gA l0 11 1) fun v1 => q_rd (q_is v1 13) fun _ => q_ca (F_X10_isSign κ v1 (l1 + (1 : Int32)) (43 : Int32)) fun v9 => q_br (¬ v9 = 0) (F_X8_hasTail_30 κ l0 l1) (q_rd (q_gA l0 11 1) fun v16 => q_rd (q_is v16 13) fun _ => q_ca (F_X10_isSign κ v16 (l1 + (1 : Int32)) (45 : Int32)) fun v24 => q_br (v24 = 0) (F_X8_hasTail_49 κ) (F_X8_hasTail_30 κ l0 l1))
theorem M_X8_hasTail (κ : Nat → Nat) (l0 : Option Nat) (l1 : Int32) : q_mo (F_X8_hasTail κ l0 l1) := (q_mo_rd fun v1 => (q_mo_rd fun _ => q_mo_ca (M_X10_isSign κ v1 (l1 + (1 : Int32)) (43 : Int32)) fun v9 => (q_mo_br (M_X8_hasTail_30 κ l0 l1) (q_mo_rd fun v16 => (q_mo_rd fun _ => q_mo_ca (M_X10_isSign κ v16 (l1 + (1 : Int32)) (45 : Int32)) fun v24 => (q_mo_br (M_X8_hasTail_49 κ) (M_X8_hasTail_30 κ l0 l1)))))))
set_option maxRecDepth 100000 in
set_option maxHeartbeats 4000000 in
theorem K_X8_hasTail {E : q_Ev} (l0 : Option Nat) (l1 : Int32) : q_Ct E yX8_hasTail (.code yX8_hasTail cX8_hasTail 2 (some .boolean)) 1 22 [q_R l0, q_I l1] q_oI (F_X8_hasTail (q_kap E) l0 l1) := by
  refine q_enter (by decide) (Nat.le_of_ble_eq_true rfl) (fun Γ σ w h B hT => ?_)
  have C := B.1
  unfold F_X8_hasTail at h
  refine q_aload_n (pc := 0) C 0 rfl dX8_hasTail_0 rfl ?_
  refine q_getA (pc := 1) C dX8_hasTail_1 ql_X8_39 h (fun v1 h => ?_)
  refine q_iload_n (pc := 4) C 1 rfl dX8_hasTail_4 rfl ?_
  refine q_iconst (pc := 5) (v := (1 : Int32)) C dX8_hasTail_5 (by decide) ?_
  refine q_iadd (pc := 6) C dX8_hasTail_6 ?_
  refine q_bipush (pc := 7) (v := (43 : Int32)) C dX8_hasTail_7 (by decide) ?_
  refine q_callV (pc := 9) (As := [q_I (l1 + (1 : Int32)), q_I (43 : Int32)]) (st := []) (ps := q_psI) C B.2.1 hT q_hpI qm_X8_117 qv_X10_isSign dX8_hasTail_9 rfl rfl (Nat.le_of_ble_eq_true rfl) (q_flo B.2.2.1 B.2.2.2.1 (by decide) (by decide)) (K_X10_isSign v1 (l1 + (1 : Int32)) (43 : Int32)) (M_X10_isSign (q_kap E) v1 (l1 + (1 : Int32)) (43 : Int32)) (by exact fun v9 => (q_mo_br (M_X8_hasTail_30 (q_kap E) l0 l1) (q_mo_rd fun v16 => (q_mo_rd fun _ => q_mo_ca (M_X10_isSign (q_kap E) v16 (l1 + (1 : Int32)) (45 : Int32)) fun v24 => (q_mo_br (M_X8_hasTail_49 (q_kap E)) (M_X8_hasTail_30 (q_kap E) l0 l1)))))) h (fun v9 σ h => ?_)
  refine q_W.st (st' := [q_I v9]) rfl ?_
  refine q_if_ne (pc := 12) (tgt := 30) C dX8_hasTail_12 (by decide) h (fun _ h => ?_) (fun _ h => ?_)
  · exact S_X8_hasTail_30 B hT l0 l1 _ h
  · refine q_aload_n (pc := 15) C 0 rfl dX8_hasTail_15 rfl ?_
    refine q_getA (pc := 16) C dX8_hasTail_16 ql_X8_39 h (fun v16 h => ?_)
    refine q_iload_n (pc := 19) C 1 rfl dX8_hasTail_19 rfl ?_
    refine q_iconst (pc := 20) (v := (1 : Int32)) C dX8_hasTail_20 (by decide) ?_
    refine q_iadd (pc := 21) C dX8_hasTail_21 ?_
    refine q_bipush (pc := 22) (v := (45 : Int32)) C dX8_hasTail_22 (by decide) ?_
    refine q_callV (pc := 24) (As := [q_I (l1 + (1 : Int32)), q_I (45 : Int32)]) (st := []) (ps := q_psI) C B.2.1 hT q_hpI qm_X8_117 qv_X10_isSign dX8_hasTail_24 rfl rfl (Nat.le_of_ble_eq_true rfl) (q_flo B.2.2.1 B.2.2.2.1 (by decide) (by decide)) (K_X10_isSign v16 (l1 + (1 : Int32)) (45 : Int32)) (M_X10_isSign (q_kap E) v16 (l1 + (1 : Int32)) (45 : Int32)) (by exact fun v24 => (q_mo_br (M_X8_hasTail_49 (q_kap E)) (M_X8_hasTail_30 (q_kap E) l0 l1))) h (fun v24 σ h => ?_)
    refine q_W.st (st' := [q_I v24]) rfl ?_
    refine q_if_eq (pc := 27) (tgt := 49) C dX8_hasTail_27 (by decide) h (fun _ h => ?_) (fun _ h => ?_)
    · refine q_W.sub [] rfl ?_
      exact S_X8_hasTail_49 B hT _ h
    · exact S_X8_hasTail_30 B hT l0 l1 _ h
def F_X8_operandEnd_26 (κ : Nat → Nat) (s0 : Int32) : q_X Int32 :=
  q_rt s0
theorem M_X8_operandEnd_26 (κ : Nat → Nat) (s0 : Int32) : q_mo (F_X8_operandEnd_26 κ s0) := q_mo_rt
theorem N_X8_operandEnd_26 (κ : Nat → Nat) (s0 : Int32) : q_ni (F_X8_operandEnd_26 κ s0) := q_ni_rt
set_option maxRecDepth 100000 in
set_option maxHeartbeats 4000000 in
theorem S_X8_operandEnd_26 {E : q_Ev} {Γ : q_Gm} {w : (Int32 ⊕ q_Exn) × q_St} (B : q_Bd E Γ cX8_operandEnd yX8_operandEnd.cls 3 2 52 (some .int) yX8_operandEnd.name w) (hT : q_nT Γ) (s0 : Int32) (σ : q_St) (h : F_X8_operandEnd_26 (q_kap E) s0 σ = some w) : q_W E Γ (q_QF E Γ q_oI w) 3 σ 26 [] [q_I s0] := by
  have C := B.1
  unfold F_X8_operandEnd_26 at h
  exact q_iret C B.2.2.2.2.1 dX8_operandEnd_26 h
def F_X8_operandEnd_54 (κ : Nat → Nat) (s0 : Int32) : q_X Int32 :=
  q_rt s0
theorem M_X8_operandEnd_54 (κ : Nat → Nat) (s0 : Int32) : q_mo (F_X8_operandEnd_54 κ s0) := q_mo_rt
theorem N_X8_operandEnd_54 (κ : Nat → Nat) (s0 : Int32) : q_ni (F_X8_operandEnd_54 κ s0) := q_ni_rt
set_option maxRecDepth 100000 in
set_option maxHeartbeats 4000000 in
theorem S_X8_operandEnd_54 {E : q_Ev} {Γ : q_Gm} {w : (Int32 ⊕ q_Exn) × q_St} (B : q_Bd E Γ cX8_operandEnd yX8_operandEnd.cls 3 2 52 (some .int) yX8_operandEnd.name w) (hT : q_nT Γ) (s0 : Int32) (σ : q_St) (h : F_X8_operandEnd_54 (q_kap E) s0 σ = some w) : q_W E Γ (q_QF E Γ q_oI w) 3 σ 54 [] [q_I s0] := by
  have C := B.1
  unfold F_X8_operandEnd_54 at h
  exact q_iret C B.2.2.2.2.1 dX8_operandEnd_54 h
def F_X8_operandEnd_107 (κ : Nat → Nat) (s0 : Int32) : q_X Int32 :=
  q_rt s0
theorem M_X8_operandEnd_107 (κ : Nat → Nat) (s0 : Int32) : q_mo (F_X8_operandEnd_107 κ s0) := q_mo_rt
theorem N_X8_operandEnd_107 (κ : Nat → Nat) (s0 : Int32) : q_ni (F_X8_operandEnd_107 κ s0) := q_ni_rt
set_option maxRecDepth 100000 in
set_option maxHeartbeats 4000000 in
theorem S_X8_operandEnd_107 {E : q_Ev} {Γ : q_Gm} {w : (Int32 ⊕ q_Exn) × q_St} (B : q_Bd E Γ cX8_operandEnd yX8_operandEnd.cls 3 2 52 (some .int) yX8_operandEnd.name w) (hT : q_nT Γ) (s0 : Int32) (σ : q_St) (h : F_X8_operandEnd_107 (q_kap E) s0 σ = some w) : q_W E Γ (q_QF E Γ q_oI w) 3 σ 107 [] [q_I s0] := by
  have C := B.1
  unfold F_X8_operandEnd_107 at h
  exact q_iret C B.2.2.2.2.1 dX8_operandEnd_107 h
def F_X8_operandEnd_135 (κ : Nat → Nat) : q_X Int32 :=
  q_rt (-1 : Int32)
theorem M_X8_operandEnd_135 (κ : Nat → Nat) : q_mo (F_X8_operandEnd_135 κ) := q_mo_rt
theorem N_X8_operandEnd_135 (κ : Nat → Nat) : q_ni (F_X8_operandEnd_135 κ) := q_ni_rt
set_option maxRecDepth 100000 in
set_option maxHeartbeats 4000000 in
theorem S_X8_operandEnd_135 {E : q_Ev} {Γ : q_Gm} {w : (Int32 ⊕ q_Exn) × q_St} (B : q_Bd E Γ cX8_operandEnd yX8_operandEnd.cls 3 2 52 (some .int) yX8_operandEnd.name w) (hT : q_nT Γ) (σ : q_St) (h : F_X8_operandEnd_135 (q_kap E) σ = some w) : q_W E Γ (q_QF E Γ q_oI w) 3 σ 135 [] [] := by
  have C := B.1
  unfold F_X8_operandEnd_135 at h
  refine q_iconst (pc := 135) (v := (-1 : Int32)) C dX8_operandEnd_135 (by decide) ?_
  exact q_iret C B.2.2.2.2.1 dX8_operandEnd_136 h
def F_X8_operandEnd_154 (κ : Nat → Nat) (s0 : Int32) : q_X Int32 :=
  q_rt s0
theorem M_X8_operandEnd_154 (κ : Nat → Nat) (s0 : Int32) : q_mo (F_X8_operandEnd_154 κ s0) := q_mo_rt
theorem N_X8_operandEnd_154 (κ : Nat → Nat) (s0 : Int32) : q_ni (F_X8_operandEnd_154 κ s0) := q_ni_rt
set_option maxRecDepth 100000 in
set_option maxHeartbeats 4000000 in
theorem S_X8_operandEnd_154 {E : q_Ev} {Γ : q_Gm} {w : (Int32 ⊕ q_Exn) × q_St} (B : q_Bd E Γ cX8_operandEnd yX8_operandEnd.cls 3 2 52 (some .int) yX8_operandEnd.name w) (hT : q_nT Γ) (s0 : Int32) (σ : q_St) (h : F_X8_operandEnd_154 (q_kap E) s0 σ = some w) : q_W E Γ (q_QF E Γ q_oI w) 3 σ 154 [] [q_I s0] := by
  have C := B.1
  unfold F_X8_operandEnd_154 at h
  exact q_iret C B.2.2.2.2.1 dX8_operandEnd_154 h
def F_X8_operandEnd (κ : Nat → Nat) (l0 : Option Nat) (l1 : Option Nat) (l2 : Int32) : q_X Int32 :=
  q_rd (q_gI l1 5 0) fun v1 => q_br (¬ v1 = 0) (q_rd (q_gI l1 5 0) fun v28 => q_br (¬ v28 = (4 : Int32)) (q_rd (q_gA l0 11 1) fun v56 => q_rd (q_gA v56 13 1) fun v59 => q_rd (q_lI 0 v59 l2) fun v63 => q_br (¬ v63 = (2 : Int32)) (q_rd (q_gA l0 11 1) fun v73 => q_rd (q_is v73 13) fun _ => q_ca (F_X10_isSign κ v73 l2 (45 : Int32)) fun v79 => q_br (v79 = 0) (q_rd (q_gA l0 11 1) fun v109 => q_rd (q_gA v109 13 1) fun v112 => q_rd (q_lI 0 v112 l2) fun v116 => q_br (¬ v116 = (1 : Int32)) (F_X8_operandEnd_135 κ) (q_rd (q_gA l0 11 1) fun v122 => q_rd (q_gA v122 13 4) fun v125 => q_rd (q_lL v125 l2) fun v129 => q_br (0 ≤ (lg_cmp v129 (0 : Int64))) (q_rd (q_is l0 11) fun _ => q_ca (F_X8_hasTail κ l0 l2) fun v139 => q_br (v139 = 0) (F_X8_operandEnd_154 κ (l2 + (1 : Int32))) (F_X8_operandEnd_154 κ (l2 + (3 : Int32)))) (F_X8_operandEnd_135 κ))) (q_rd (q_gA l0 11 1) fun v86 => q_rd (q_gA v86 13 1) fun v89 => q_rd (q_lI 0 v89 (l2 + (1 : Int32))) fun v95 => q_br (¬ v95 = (2 : Int32)) (F_X8_operandEnd_107 κ (-1 : Int32)) (F_X8_operandEnd_107 κ (l2 + (2 : Int32))))) (q_rt (l2 + (1 : Int32)))) (q_rd (q_gA l0 11 1) fun v37 => q_rd (q_is l1 5) fun _ => q_ca (F_X2_memberAt κ l1 v37 l2) fun v41 => q_br (0 ≤ v41) (F_X8_operandEnd_54 κ (l2 + (1 : Int32))) (F_X8_operandEnd_54 κ (-1 : Int32)))) (q_rd (q_gA l0 11 1) fun v9 => q_rd (q_is l1 5) fun _ => q_ca (F_X2_registerAt κ l1 v9 l2) fun v13 => q_br (0 ≤ v13) (F_X8_operandEnd_26 κ (l2 + (1 : Int32))) (F_X8_operandEnd_26 κ (-1 : Int32)))
theorem M_X8_operandEnd (κ : Nat → Nat) (l0 : Option Nat) (l1 : Option Nat) (l2 : Int32) : q_mo (F_X8_operandEnd κ l0 l1 l2) := (q_mo_rd fun v1 => (q_mo_br (q_mo_rd fun v28 => (q_mo_br (q_mo_rd fun v56 => (q_mo_rd fun v59 => (q_mo_rd fun v63 => (q_mo_br (q_mo_rd fun v73 => (q_mo_rd fun _ => q_mo_ca (M_X10_isSign κ v73 l2 (45 : Int32)) fun v79 => (q_mo_br (q_mo_rd fun v109 => (q_mo_rd fun v112 => (q_mo_rd fun v116 => (q_mo_br (M_X8_operandEnd_135 κ) (q_mo_rd fun v122 => (q_mo_rd fun v125 => (q_mo_rd fun v129 => (q_mo_br (q_mo_rd fun _ => q_mo_ca (M_X8_hasTail κ l0 l2) fun v139 => (q_mo_br (M_X8_operandEnd_154 κ (l2 + (1 : Int32))) (M_X8_operandEnd_154 κ (l2 + (3 : Int32))))) (M_X8_operandEnd_135 κ))))))))) (q_mo_rd fun v86 => (q_mo_rd fun v89 => (q_mo_rd fun v95 => (q_mo_br (M_X8_operandEnd_107 κ (-1 : Int32)) (M_X8_operandEnd_107 κ (l2 + (2 : Int32)))))))))) q_mo_rt)))) (q_mo_rd fun v37 => (q_mo_rd fun _ => q_mo_ca (M_X2_memberAt κ l1 v37 l2) fun v41 => (q_mo_br (M_X8_operandEnd_54 κ (l2 + (1 : Int32))) (M_X8_operandEnd_54 κ (-1 : Int32))))))) (q_mo_rd fun v9 => (q_mo_rd fun _ => q_mo_ca (M_X2_registerAt κ l1 v9 l2) fun v13 => (q_mo_br (M_X8_operandEnd_26 κ (l2 + (1 : Int32))) (M_X8_operandEnd_26 κ (-1 : Int32)))))))
set_option maxRecDepth 100000 in
set_option maxHeartbeats 4000000 in
theorem K_X8_operandEnd {E : q_Ev} (l0 : Option Nat) (l1 : Option Nat) (l2 : Int32) : q_Ct E yX8_operandEnd (.code yX8_operandEnd cX8_operandEnd 3 (some .int)) 2 52 [q_R l0, q_R l1, q_I l2] q_oI (F_X8_operandEnd (q_kap E) l0 l1 l2) := by
  refine q_enter (by decide) (Nat.le_of_ble_eq_true rfl) (fun Γ σ w h B hT => ?_)
  have C := B.1
  unfold F_X8_operandEnd at h
  refine q_aload_n (pc := 0) C 1 rfl dX8_operandEnd_0 rfl ?_
  refine q_getI (pc := 1) C dX8_operandEnd_1 ql_X8_251 h (fun v1 h => ?_)
  refine q_if_ne (pc := 4) (tgt := 27) C dX8_operandEnd_4 (by decide) h (fun _ h => ?_) (fun _ h => ?_)
  · refine q_aload_n (pc := 27) C 1 rfl dX8_operandEnd_27 rfl ?_
    refine q_getI (pc := 28) C dX8_operandEnd_28 ql_X8_251 h (fun v28 h => ?_)
    refine q_iconst (pc := 31) (v := (4 : Int32)) C dX8_operandEnd_31 (by decide) ?_
    refine q_icmp_ne (pc := 32) (tgt := 55) C dX8_operandEnd_32 (by decide) h (fun _ h => ?_) (fun _ h => ?_)
    · refine q_aload_n (pc := 55) C 0 rfl dX8_operandEnd_55 rfl ?_
      refine q_getA (pc := 56) C dX8_operandEnd_56 ql_X8_39 h (fun v56 h => ?_)
      refine q_getA (pc := 59) C dX8_operandEnd_59 ql_X8_148 h (fun v59 h => ?_)
      refine q_iload_n (pc := 62) C 2 rfl dX8_operandEnd_62 rfl ?_
      refine q_ldI (pc := 63) C dX8_operandEnd_63 (Or.inl ⟨rfl, rfl⟩) h (fun v63 h => ?_)
      refine q_iconst (pc := 64) (v := (2 : Int32)) C dX8_operandEnd_64 (by decide) ?_
      refine q_icmp_ne (pc := 65) (tgt := 72) C dX8_operandEnd_65 (by decide) h (fun _ h => ?_) (fun _ h => ?_)
      · refine q_aload_n (pc := 72) C 0 rfl dX8_operandEnd_72 rfl ?_
        refine q_getA (pc := 73) C dX8_operandEnd_73 ql_X8_39 h (fun v73 h => ?_)
        refine q_iload_n (pc := 76) C 2 rfl dX8_operandEnd_76 rfl ?_
        refine q_bipush (pc := 77) (v := (45 : Int32)) C dX8_operandEnd_77 (by decide) ?_
        refine q_callV (pc := 79) (As := [q_I l2, q_I (45 : Int32)]) (st := []) (ps := q_psI) C B.2.1 hT q_hpI qm_X8_117 qv_X10_isSign dX8_operandEnd_79 rfl rfl (Nat.le_of_ble_eq_true rfl) (q_flo B.2.2.1 B.2.2.2.1 (by decide) (by decide)) (K_X10_isSign v73 l2 (45 : Int32)) (M_X10_isSign (q_kap E) v73 l2 (45 : Int32)) (by exact fun v79 => (q_mo_br (q_mo_rd fun v109 => (q_mo_rd fun v112 => (q_mo_rd fun v116 => (q_mo_br (M_X8_operandEnd_135 (q_kap E)) (q_mo_rd fun v122 => (q_mo_rd fun v125 => (q_mo_rd fun v129 => (q_mo_br (q_mo_rd fun _ => q_mo_ca (M_X8_hasTail (q_kap E) l0 l2) fun v139 => (q_mo_br (M_X8_operandEnd_154 (q_kap E) (l2 + (1 : Int32))) (M_X8_operandEnd_154 (q_kap E) (l2 + (3 : Int32))))) (M_X8_operandEnd_135 (q_kap E)))))))))) (q_mo_rd fun v86 => (q_mo_rd fun v89 => (q_mo_rd fun v95 => (q_mo_br (M_X8_operandEnd_107 (q_kap E) (-1 : Int32)) (M_X8_operandEnd_107 (q_kap E) (l2 + (2 : Int32))))))))) h (fun v79 σ h => ?_)
        refine q_W.st (st' := [q_I v79]) rfl ?_
        refine q_if_eq (pc := 82) (tgt := 108) C dX8_operandEnd_82 (by decide) h (fun _ h => ?_) (fun _ h => ?_)
        · refine q_aload_n (pc := 108) C 0 rfl dX8_operandEnd_108 rfl ?_
          refine q_getA (pc := 109) C dX8_operandEnd_109 ql_X8_39 h (fun v109 h => ?_)
          refine q_getA (pc := 112) C dX8_operandEnd_112 ql_X8_148 h (fun v112 h => ?_)
          refine q_iload_n (pc := 115) C 2 rfl dX8_operandEnd_115 rfl ?_
          refine q_ldI (pc := 116) C dX8_operandEnd_116 (Or.inl ⟨rfl, rfl⟩) h (fun v116 h => ?_)
          refine q_iconst (pc := 117) (v := (1 : Int32)) C dX8_operandEnd_117 (by decide) ?_
          refine q_icmp_ne (pc := 118) (tgt := 135) C dX8_operandEnd_118 (by decide) h (fun _ h => ?_) (fun _ h => ?_)
          · refine q_W.sub [] rfl ?_
            exact S_X8_operandEnd_135 B hT _ h
          · refine q_aload_n (pc := 121) C 0 rfl dX8_operandEnd_121 rfl ?_
            refine q_getA (pc := 122) C dX8_operandEnd_122 ql_X8_39 h (fun v122 h => ?_)
            refine q_getA (pc := 125) C dX8_operandEnd_125 ql_X8_202 h (fun v125 h => ?_)
            refine q_iload_n (pc := 128) C 2 rfl dX8_operandEnd_128 rfl ?_
            refine q_ldL (pc := 129) C dX8_operandEnd_129 h (fun v129 h => ?_)
            refine q_lconst (pc := 130) (v := (0 : Int64)) C dX8_operandEnd_130 (by decide) ?_
            refine q_lcmp (pc := 131) C dX8_operandEnd_131 ?_
            refine q_if_ge (pc := 132) (tgt := 137) C dX8_operandEnd_132 (by decide) h (fun _ h => ?_) (fun _ h => ?_)
            · refine q_aload_n (pc := 137) C 0 rfl dX8_operandEnd_137 rfl ?_
              refine q_iload_n (pc := 138) C 2 rfl dX8_operandEnd_138 rfl ?_
              refine q_callV (pc := 139) (As := [q_I l2]) (st := []) (ps := q_psI) C B.2.1 hT q_hpI qm_X8_260 qv_X8_hasTail dX8_operandEnd_139 rfl rfl (Nat.le_of_ble_eq_true rfl) (q_flo B.2.2.1 B.2.2.2.1 (by decide) (by decide)) (K_X8_hasTail l0 l2) (M_X8_hasTail (q_kap E) l0 l2) (by exact fun v139 => (q_mo_br (M_X8_operandEnd_154 (q_kap E) (l2 + (1 : Int32))) (M_X8_operandEnd_154 (q_kap E) (l2 + (3 : Int32))))) h (fun v139 σ h => ?_)
              refine q_W.st (st' := [q_I v139]) rfl ?_
              refine q_if_eq (pc := 142) (tgt := 151) C dX8_operandEnd_142 (by decide) h (fun _ h => ?_) (fun _ h => ?_)
              · refine q_iload_n (pc := 151) C 2 rfl dX8_operandEnd_151 rfl ?_
                refine q_iconst (pc := 152) (v := (1 : Int32)) C dX8_operandEnd_152 (by decide) ?_
                refine q_iadd (pc := 153) C dX8_operandEnd_153 ?_
                refine q_W.sub [] rfl ?_
                exact S_X8_operandEnd_154 B hT (l2 + (1 : Int32)) _ h
              · refine q_iload_n (pc := 145) C 2 rfl dX8_operandEnd_145 rfl ?_
                refine q_iconst (pc := 146) (v := (3 : Int32)) C dX8_operandEnd_146 (by decide) ?_
                refine q_iadd (pc := 147) C dX8_operandEnd_147 ?_
                refine q_goto (pc := 148) (tgt := 154) C dX8_operandEnd_148 (by decide) ?_
                refine q_W.sub [] rfl ?_
                exact S_X8_operandEnd_154 B hT (l2 + (3 : Int32)) _ h
            · refine q_W.sub [] rfl ?_
              exact S_X8_operandEnd_135 B hT _ h
        · refine q_aload_n (pc := 85) C 0 rfl dX8_operandEnd_85 rfl ?_
          refine q_getA (pc := 86) C dX8_operandEnd_86 ql_X8_39 h (fun v86 h => ?_)
          refine q_getA (pc := 89) C dX8_operandEnd_89 ql_X8_148 h (fun v89 h => ?_)
          refine q_iload_n (pc := 92) C 2 rfl dX8_operandEnd_92 rfl ?_
          refine q_iconst (pc := 93) (v := (1 : Int32)) C dX8_operandEnd_93 (by decide) ?_
          refine q_iadd (pc := 94) C dX8_operandEnd_94 ?_
          refine q_ldI (pc := 95) C dX8_operandEnd_95 (Or.inl ⟨rfl, rfl⟩) h (fun v95 h => ?_)
          refine q_iconst (pc := 96) (v := (2 : Int32)) C dX8_operandEnd_96 (by decide) ?_
          refine q_icmp_ne (pc := 97) (tgt := 106) C dX8_operandEnd_97 (by decide) h (fun _ h => ?_) (fun _ h => ?_)
          · refine q_iconst (pc := 106) (v := (-1 : Int32)) C dX8_operandEnd_106 (by decide) ?_
            refine q_W.sub [] rfl ?_
            exact S_X8_operandEnd_107 B hT (-1 : Int32) _ h
          · refine q_iload_n (pc := 100) C 2 rfl dX8_operandEnd_100 rfl ?_
            refine q_iconst (pc := 101) (v := (2 : Int32)) C dX8_operandEnd_101 (by decide) ?_
            refine q_iadd (pc := 102) C dX8_operandEnd_102 ?_
            refine q_goto (pc := 103) (tgt := 107) C dX8_operandEnd_103 (by decide) ?_
            refine q_W.sub [] rfl ?_
            exact S_X8_operandEnd_107 B hT (l2 + (2 : Int32)) _ h
      · refine q_iload_n (pc := 68) C 2 rfl dX8_operandEnd_68 rfl ?_
        refine q_iconst (pc := 69) (v := (1 : Int32)) C dX8_operandEnd_69 (by decide) ?_
        refine q_iadd (pc := 70) C dX8_operandEnd_70 ?_
        exact q_iret C B.2.2.2.2.1 dX8_operandEnd_71 h
    · refine q_aload_n (pc := 35) C 1 rfl dX8_operandEnd_35 rfl ?_
      refine q_aload_n (pc := 36) C 0 rfl dX8_operandEnd_36 rfl ?_
      refine q_getA (pc := 37) C dX8_operandEnd_37 ql_X8_39 h (fun v37 h => ?_)
      refine q_iload_n (pc := 40) C 2 rfl dX8_operandEnd_40 rfl ?_
      refine q_callV (pc := 41) (As := [q_R v37, q_I l2]) (st := []) (ps := q_psI) C B.2.1 hT q_hpI qm_X8_257 qv_X2_memberAt dX8_operandEnd_41 rfl rfl (Nat.le_of_ble_eq_true rfl) (q_flo B.2.2.1 B.2.2.2.1 (by decide) (by decide)) (K_X2_memberAt l1 v37 l2) (M_X2_memberAt (q_kap E) l1 v37 l2) (by exact fun v41 => (q_mo_br (M_X8_operandEnd_54 (q_kap E) (l2 + (1 : Int32))) (M_X8_operandEnd_54 (q_kap E) (-1 : Int32)))) h (fun v41 σ h => ?_)
      refine q_W.st (st' := [q_I v41]) rfl ?_
      refine q_if_ge (pc := 44) (tgt := 51) C dX8_operandEnd_44 (by decide) h (fun _ h => ?_) (fun _ h => ?_)
      · refine q_iload_n (pc := 51) C 2 rfl dX8_operandEnd_51 rfl ?_
        refine q_iconst (pc := 52) (v := (1 : Int32)) C dX8_operandEnd_52 (by decide) ?_
        refine q_iadd (pc := 53) C dX8_operandEnd_53 ?_
        refine q_W.sub [] rfl ?_
        exact S_X8_operandEnd_54 B hT (l2 + (1 : Int32)) _ h
      · refine q_iconst (pc := 47) (v := (-1 : Int32)) C dX8_operandEnd_47 (by decide) ?_
        refine q_goto (pc := 48) (tgt := 54) C dX8_operandEnd_48 (by decide) ?_
        refine q_W.sub [] rfl ?_
        exact S_X8_operandEnd_54 B hT (-1 : Int32) _ h
  · refine q_aload_n (pc := 7) C 1 rfl dX8_operandEnd_7 rfl ?_
    refine q_aload_n (pc := 8) C 0 rfl dX8_operandEnd_8 rfl ?_
    refine q_getA (pc := 9) C dX8_operandEnd_9 ql_X8_39 h (fun v9 h => ?_)
    refine q_iload_n (pc := 12) C 2 rfl dX8_operandEnd_12 rfl ?_
    refine q_callV (pc := 13) (As := [q_R v9, q_I l2]) (st := []) (ps := q_psI) C B.2.1 hT q_hpI qm_X8_254 qv_X2_registerAt dX8_operandEnd_13 rfl rfl (Nat.le_of_ble_eq_true rfl) (q_flo B.2.2.1 B.2.2.2.1 (by decide) (by decide)) (K_X2_registerAt l1 v9 l2) (M_X2_registerAt (q_kap E) l1 v9 l2) (by exact fun v13 => (q_mo_br (M_X8_operandEnd_26 (q_kap E) (l2 + (1 : Int32))) (M_X8_operandEnd_26 (q_kap E) (-1 : Int32)))) h (fun v13 σ h => ?_)
    refine q_W.st (st' := [q_I v13]) rfl ?_
    refine q_if_ge (pc := 16) (tgt := 23) C dX8_operandEnd_16 (by decide) h (fun _ h => ?_) (fun _ h => ?_)
    · refine q_iload_n (pc := 23) C 2 rfl dX8_operandEnd_23 rfl ?_
      refine q_iconst (pc := 24) (v := (1 : Int32)) C dX8_operandEnd_24 (by decide) ?_
      refine q_iadd (pc := 25) C dX8_operandEnd_25 ?_
      refine q_W.sub [] rfl ?_
      exact S_X8_operandEnd_26 B hT (l2 + (1 : Int32)) _ h
    · refine q_iconst (pc := 19) (v := (-1 : Int32)) C dX8_operandEnd_19 (by decide) ?_
      refine q_goto (pc := 20) (tgt := 26) C dX8_operandEnd_20 (by decide) ?_
      refine q_W.sub [] rfl ?_
      exact S_X8_operandEnd_26 B hT (-1 : Int32) _ h
def F_X8_isWrittenAs_86 (κ : Nat → Nat) (r10 : Option Nat → Option Nat → Option Nat → Int32 → Int32 → q_X Int32) (l0 : Option Nat) (l1 : Option Nat) (l2 : Option Nat) (l4 : Int32) (l6 : Int32) : q_X Int32 :=
  r10 l0 l1 l2 l6 (l4 + (1 : Int32))
theorem M_X8_isWrittenAs_86 (κ : Nat → Nat) (r10 : Option Nat → Option Nat → Option Nat → Int32 → Int32 → q_X Int32) (mr10 : ∀ (l0 : Option Nat) (l1 : Option Nat) (l2 : Option Nat) (l3 : Int32) (l4 : Int32), q_mo (r10 l0 l1 l2 l3 l4)) (l0 : Option Nat) (l1 : Option Nat) (l2 : Option Nat) (l4 : Int32) (l6 : Int32) : q_mo (F_X8_isWrittenAs_86 κ r10 l0 l1 l2 l4 l6) := (mr10 l0 l1 l2 l6 (l4 + (1 : Int32)))
set_option maxRecDepth 100000 in
set_option maxHeartbeats 4000000 in
theorem S_X8_isWrittenAs_86 {E : q_Ev} {Γ : q_Gm} {w : (Int32 ⊕ q_Exn) × q_St} (B : q_Bd E Γ cX8_isWrittenAs yX8_isWrittenAs.cls 7 3 74 (some .boolean) yX8_isWrittenAs.name w) (hT : q_nT Γ) (r10 : Option Nat → Option Nat → Option Nat → Int32 → Int32 → q_X Int32) (hr10 : ∀ (l0 : Option Nat) (l1 : Option Nat) (l2 : Option Nat) (l3 : Int32) (l4 : Int32) (σ : q_St), r10 l0 l1 l2 l3 l4 σ = some w → q_W E Γ (q_QF E Γ q_oI w) 7 σ 10 [(0, q_R l0), (1, q_R l1), (2, q_R l2), (3, q_I l3), (4, q_I l4)] []) (mr10 : ∀ (l0 : Option Nat) (l1 : Option Nat) (l2 : Option Nat) (l3 : Int32) (l4 : Int32), q_mo (r10 l0 l1 l2 l3 l4)) (l0 : Option Nat) (l1 : Option Nat) (l2 : Option Nat) (l4 : Int32) (l6 : Int32) (σ : q_St) (h : F_X8_isWrittenAs_86 (q_kap E) r10 l0 l1 l2 l4 l6 σ = some w) : q_W E Γ (q_QF E Γ q_oI w) 7 σ 86 [(0, q_R l0), (1, q_R l1), (2, q_R l2), (4, q_I l4), (6, q_I l6)] [] := by
  have C := B.1
  unfold F_X8_isWrittenAs_86 at h
  refine q_iload (pc := 86) C 4 rfl dX8_isWrittenAs_86 ?_
  refine q_istore_n (pc := 88) (l' := [(3, q_I l6), (0, q_R l0), (1, q_R l1), (2, q_R l2), (4, q_I l4), (6, q_I l6)]) C dX8_isWrittenAs_88 rfl (by decide) rfl ?_
  refine q_iinc (pc := 89) (v := (1 : Int32)) (l' := [(4, q_I (l4 + (1 : Int32))), (3, q_I l6), (0, q_R l0), (1, q_R l1), (2, q_R l2), (6, q_I l6)]) C 4 rfl dX8_isWrittenAs_89 (by decide) (by decide) rfl ?_
  refine q_goto (pc := 92) (tgt := 10) C dX8_isWrittenAs_92 (by decide) ?_
  refine q_W.sub [2, 3, 4, 1, 0] rfl ?_
  exact hr10 l0 l1 l2 l6 (l4 + (1 : Int32)) _ h
def F_X8_isWrittenAs_10B (κ : Nat → Nat) (r10 : Option Nat → Option Nat → Option Nat → Int32 → Int32 → q_X Int32) (l0 : Option Nat) (l1 : Option Nat) (l2 : Option Nat) (l3 : Int32) (l4 : Int32) : q_X Int32 :=
  q_rd (q_gI l2 4 7) fun v13 => q_br (v13 ≤ l4) (q_rd (q_gA l0 11 1) fun v96 => q_rd (q_is v96 13) fun _ => q_ca (F_X10_isLineEnd κ v96 l3) fun v100 => q_rz v100) (q_rd (q_gA l2 4 1) fun v20 => q_rd (q_lI 1 v20 l4) fun v25 => q_br (v25 < 0) (q_rd (q_gA l2 4 3) fun v55 => q_rd (q_lA 5 v55 ((-1 : Int32) - v25)) fun v62 => q_rd (q_is l0 11) fun _ => q_ca (F_X8_operandEnd κ l0 v62 l3) fun v64 => q_br (0 ≤ v64) (q_rd (q_gA l1 6 4) fun v77 => q_wr (q_sI 1 v77 ((-1 : Int32) - v25) l3) (F_X8_isWrittenAs_86 κ r10 l0 l1 l2 l4 v64)) (q_rz (0 : Int32))) (q_rd (q_gA l0 11 1) fun v39 => q_rd (q_is v39 13) fun _ => q_ca (F_X10_isSign κ v39 l3 v25) fun v45 => q_br (¬ v45 = 0) (F_X8_isWrittenAs_86 κ r10 l0 l1 l2 l4 (l3 + (1 : Int32))) (q_rz (0 : Int32))))
theorem M_X8_isWrittenAs_10B (κ : Nat → Nat) (r10 : Option Nat → Option Nat → Option Nat → Int32 → Int32 → q_X Int32) (mr10 : ∀ (l0 : Option Nat) (l1 : Option Nat) (l2 : Option Nat) (l3 : Int32) (l4 : Int32), q_mo (r10 l0 l1 l2 l3 l4)) (l0 : Option Nat) (l1 : Option Nat) (l2 : Option Nat) (l3 : Int32) (l4 : Int32) : q_mo (F_X8_isWrittenAs_10B κ r10 l0 l1 l2 l3 l4) := (q_mo_rd fun v13 => (q_mo_br (q_mo_rd fun v96 => (q_mo_rd fun _ => q_mo_ca (M_X10_isLineEnd κ v96 l3) fun v100 => q_mo_rz)) (q_mo_rd fun v20 => (q_mo_rd fun v25 => (q_mo_br (q_mo_rd fun v55 => (q_mo_rd fun v62 => (q_mo_rd fun _ => q_mo_ca (M_X8_operandEnd κ l0 v62 l3) fun v64 => (q_mo_br (q_mo_rd fun v77 => (q_mo_wr (M_X8_isWrittenAs_86 κ r10 mr10 l0 l1 l2 l4 v64))) q_mo_rz)))) (q_mo_rd fun v39 => (q_mo_rd fun _ => q_mo_ca (M_X10_isSign κ v39 l3 v25) fun v45 => (q_mo_br (M_X8_isWrittenAs_86 κ r10 mr10 l0 l1 l2 l4 (l3 + (1 : Int32))) q_mo_rz))))))))
set_option maxRecDepth 100000 in
set_option maxHeartbeats 4000000 in
theorem S_X8_isWrittenAs_10B {E : q_Ev} {Γ : q_Gm} {w : (Int32 ⊕ q_Exn) × q_St} (B : q_Bd E Γ cX8_isWrittenAs yX8_isWrittenAs.cls 7 3 74 (some .boolean) yX8_isWrittenAs.name w) (hT : q_nT Γ) (r10 : Option Nat → Option Nat → Option Nat → Int32 → Int32 → q_X Int32) (hr10 : ∀ (l0 : Option Nat) (l1 : Option Nat) (l2 : Option Nat) (l3 : Int32) (l4 : Int32) (σ : q_St), r10 l0 l1 l2 l3 l4 σ = some w → q_W E Γ (q_QF E Γ q_oI w) 7 σ 10 [(0, q_R l0), (1, q_R l1), (2, q_R l2), (3, q_I l3), (4, q_I l4)] []) (mr10 : ∀ (l0 : Option Nat) (l1 : Option Nat) (l2 : Option Nat) (l3 : Int32) (l4 : Int32), q_mo (r10 l0 l1 l2 l3 l4)) (l0 : Option Nat) (l1 : Option Nat) (l2 : Option Nat) (l3 : Int32) (l4 : Int32) (σ : q_St) (h : F_X8_isWrittenAs_10B (q_kap E) r10 l0 l1 l2 l3 l4 σ = some w) : q_W E Γ (q_QF E Γ q_oI w) 7 σ 10 [(0, q_R l0), (1, q_R l1), (2, q_R l2), (3, q_I l3), (4, q_I l4)] [] := by
  have C := B.1
  unfold F_X8_isWrittenAs_10B at h
  refine q_iload (pc := 10) C 4 rfl dX8_isWrittenAs_10 ?_
  refine q_aload_n (pc := 12) C 2 rfl dX8_isWrittenAs_12 rfl ?_
  refine q_getI (pc := 13) C dX8_isWrittenAs_13 ql_X8_234 h (fun v13 h => ?_)
  refine q_icmp_ge (pc := 16) (tgt := 95) C dX8_isWrittenAs_16 (by decide) h (fun _ h => ?_) (fun _ h => ?_)
  · refine q_aload_n (pc := 95) C 0 rfl dX8_isWrittenAs_95 rfl ?_
    refine q_getA (pc := 96) C dX8_isWrittenAs_96 ql_X8_39 h (fun v96 h => ?_)
    refine q_iload_n (pc := 99) C 3 rfl dX8_isWrittenAs_99 rfl ?_
    refine q_callV (pc := 100) (As := [q_I l3]) (st := []) (ps := q_psI) C B.2.1 hT q_hpI qm_X8_145 qv_X10_isLineEnd dX8_isWrittenAs_100 rfl rfl (Nat.le_of_ble_eq_true rfl) (q_flo B.2.2.1 B.2.2.2.1 (by decide) (by decide)) (K_X10_isLineEnd v96 l3) (M_X10_isLineEnd (q_kap E) v96 l3) (by exact fun v100 => q_mo_rz) h (fun v100 σ h => ?_)
    refine q_W.st (st' := [q_I v100]) rfl ?_
    exact q_zret C B.2.2.2.2.1 dX8_isWrittenAs_103 h
  · refine q_aload_n (pc := 19) C 2 rfl dX8_isWrittenAs_19 rfl ?_
    refine q_getA (pc := 20) C dX8_isWrittenAs_20 ql_X8_237 h (fun v20 h => ?_)
    refine q_iload (pc := 23) C 4 rfl dX8_isWrittenAs_23 ?_
    refine q_ldI (pc := 25) C dX8_isWrittenAs_25 (Or.inr (Or.inl ⟨rfl, rfl⟩)) h (fun v25 h => ?_)
    refine q_istore (pc := 26) (l' := [(5, q_I v25), (0, q_R l0), (1, q_R l1), (2, q_R l2), (3, q_I l3), (4, q_I l4)]) C dX8_isWrittenAs_26 (by decide) rfl ?_
    refine q_iload_n (pc := 28) C 4 rfl dX8_isWrittenAs_28 rfl ?_
    refine q_iconst (pc := 29) (v := (1 : Int32)) C dX8_isWrittenAs_29 (by decide) ?_
    refine q_iadd (pc := 30) C dX8_isWrittenAs_30 ?_
    refine q_istore (pc := 31) (l' := [(6, q_I (l3 + (1 : Int32))), (5, q_I v25), (0, q_R l0), (1, q_R l1), (2, q_R l2), (3, q_I l3), (4, q_I l4)]) C dX8_isWrittenAs_31 (by decide) rfl ?_
    refine q_iload (pc := 33) C 1 rfl dX8_isWrittenAs_33 ?_
    refine q_if_lt (pc := 35) (tgt := 53) C dX8_isWrittenAs_35 (by decide) h (fun _ h => ?_) (fun _ h => ?_)
    · refine q_aload_n (pc := 53) C 2 rfl dX8_isWrittenAs_53 rfl ?_
      refine q_aload_n (pc := 54) C 4 rfl dX8_isWrittenAs_54 rfl ?_
      refine q_getA (pc := 55) C dX8_isWrittenAs_55 ql_X8_240 h (fun v55 h => ?_)
      refine q_iconst (pc := 58) (v := (-1 : Int32)) C dX8_isWrittenAs_58 (by decide) ?_
      refine q_iload (pc := 59) C 1 rfl dX8_isWrittenAs_59 ?_
      refine q_isub (pc := 61) C dX8_isWrittenAs_61 ?_
      refine q_ldA (pc := 62) C dX8_isWrittenAs_62 ⟨_, rfl⟩ h (fun v62 h => ?_)
      refine q_iload_n (pc := 63) C 5 rfl dX8_isWrittenAs_63 rfl ?_
      refine q_callV (pc := 64) (As := [q_R v62, q_I l3]) (st := []) (ps := q_psI) C B.2.1 hT q_hpI qm_X8_244 qv_X8_operandEnd dX8_isWrittenAs_64 rfl rfl (Nat.le_of_ble_eq_true rfl) (q_flo B.2.2.1 B.2.2.2.1 (by decide) (by decide)) (K_X8_operandEnd l0 v62 l3) (M_X8_operandEnd (q_kap E) l0 v62 l3) (by exact fun v64 => (q_mo_br (q_mo_rd fun v77 => (q_mo_wr (M_X8_isWrittenAs_86 (q_kap E) r10 mr10 l0 l1 l2 l4 v64))) q_mo_rz)) h (fun v64 σ h => ?_)
      refine q_W.st (st' := [q_I v64]) rfl ?_
      refine q_istore (pc := 67) (l' := [(6, q_I v64), (5, q_I v25), (0, q_R l0), (1, q_R l1), (2, q_R l2), (3, q_I l3), (4, q_I l4)]) C dX8_isWrittenAs_67 (by decide) rfl ?_
      refine q_iload (pc := 69) C 0 rfl dX8_isWrittenAs_69 ?_
      refine q_if_ge (pc := 71) (tgt := 76) C dX8_isWrittenAs_71 (by decide) h (fun _ h => ?_) (fun _ h => ?_)
      · refine q_aload_n (pc := 76) C 3 rfl dX8_isWrittenAs_76 rfl ?_
        refine q_getA (pc := 77) C dX8_isWrittenAs_77 ql_X8_248 h (fun v77 h => ?_)
        refine q_iconst (pc := 80) (v := (-1 : Int32)) C dX8_isWrittenAs_80 (by decide) ?_
        refine q_iload (pc := 81) C 1 rfl dX8_isWrittenAs_81 ?_
        refine q_isub (pc := 83) C dX8_isWrittenAs_83 ?_
        refine q_iload_n (pc := 84) C 5 rfl dX8_isWrittenAs_84 rfl ?_
        refine q_stI (pc := 85) C dX8_isWrittenAs_85 h (fun M85 h => ?_)
        refine q_W.sub [2, 3, 4, 6, 0] rfl ?_
        exact S_X8_isWrittenAs_86 B hT r10 hr10 mr10 l0 l1 l2 l4 v64 _ h
      · refine q_iconst (pc := 74) (v := (0 : Int32)) C dX8_isWrittenAs_74 (by decide) ?_
        exact q_zret C B.2.2.2.2.1 dX8_isWrittenAs_75 h
    · refine q_aload_n (pc := 38) C 2 rfl dX8_isWrittenAs_38 rfl ?_
      refine q_getA (pc := 39) C dX8_isWrittenAs_39 ql_X8_39 h (fun v39 h => ?_)
      refine q_iload_n (pc := 42) C 5 rfl dX8_isWrittenAs_42 rfl ?_
      refine q_iload (pc := 43) C 1 rfl dX8_isWrittenAs_43 ?_
      refine q_callV (pc := 45) (As := [q_I l3, q_I v25]) (st := []) (ps := q_psI) C B.2.1 hT q_hpI qm_X8_117 qv_X10_isSign dX8_isWrittenAs_45 rfl rfl (Nat.le_of_ble_eq_true rfl) (q_flo B.2.2.1 B.2.2.2.1 (by decide) (by decide)) (K_X10_isSign v39 l3 v25) (M_X10_isSign (q_kap E) v39 l3 v25) (by exact fun v45 => (q_mo_br (M_X8_isWrittenAs_86 (q_kap E) r10 mr10 l0 l1 l2 l4 (l3 + (1 : Int32))) q_mo_rz)) h (fun v45 σ h => ?_)
      refine q_W.st (st' := [q_I v45]) rfl ?_
      refine q_if_ne (pc := 48) (tgt := 86) C dX8_isWrittenAs_48 (by decide) h (fun _ h => ?_) (fun _ h => ?_)
      · refine q_W.sub [2, 3, 4, 6, 0] rfl ?_
        exact S_X8_isWrittenAs_86 B hT r10 hr10 mr10 l0 l1 l2 l4 (l3 + (1 : Int32)) _ h
      · refine q_iconst (pc := 51) (v := (0 : Int32)) C dX8_isWrittenAs_51 (by decide) ?_
        exact q_zret C B.2.2.2.2.1 dX8_isWrittenAs_52 h
def F_X8_isWrittenAs_10 (κ : Nat → Nat) : Nat → Option Nat → Option Nat → Option Nat → Int32 → Int32 → q_X Int32
  | 0, _, _, _, _, _ => q_no
  | n + 1, l0, l1, l2, l3, l4 => F_X8_isWrittenAs_10B κ (F_X8_isWrittenAs_10 κ n) l0 l1 l2 l3 l4
theorem M_X8_isWrittenAs_10 (κ : Nat → Nat) : ∀ (n : Nat) (l0 : Option Nat) (l1 : Option Nat) (l2 : Option Nat) (l3 : Int32) (l4 : Int32), q_mo (F_X8_isWrittenAs_10 κ n l0 l1 l2 l3 l4)
  | 0, _, _, _, _, _ => q_mo_no
  | n + 1, l0, l1, l2, l3, l4 => M_X8_isWrittenAs_10B κ (F_X8_isWrittenAs_10 κ n) (M_X8_isWrittenAs_10 κ n) l0 l1 l2 l3 l4
theorem S_X8_isWrittenAs_10 {E : q_Ev} {Γ : q_Gm} {w : (Int32 ⊕ q_Exn) × q_St} (B : q_Bd E Γ cX8_isWrittenAs yX8_isWrittenAs.cls 7 3 74 (some .boolean) yX8_isWrittenAs.name w) (hT : q_nT Γ) : ∀ (n : Nat) (l0 : Option Nat) (l1 : Option Nat) (l2 : Option Nat) (l3 : Int32) (l4 : Int32) (σ : q_St), F_X8_isWrittenAs_10 (q_kap E) n l0 l1 l2 l3 l4 σ = some w → q_W E Γ (q_QF E Γ q_oI w) 7 σ 10 [(0, q_R l0), (1, q_R l1), (2, q_R l2), (3, q_I l3), (4, q_I l4)] []
  | 0, _, _, _, _, _, _, h => by cases h
  | n + 1, l0, l1, l2, l3, l4, σ, h => S_X8_isWrittenAs_10B B hT (F_X8_isWrittenAs_10 (q_kap E) n) (S_X8_isWrittenAs_10 B hT n) (M_X8_isWrittenAs_10 (q_kap E) n) l0 l1 l2 l3 l4 σ h
def F_X8_isWrittenAs (κ : Nat → Nat) (l0 : Option Nat) (l1 : Option Nat) (l2 : Option Nat) : q_X Int32 :=
  q_rd (q_gI l1 6 2) fun v1 => F_X8_isWrittenAs_10 κ q_fu l0 l1 l2 (v1 + (1 : Int32)) (0 : Int32)
theorem M_X8_isWrittenAs (κ : Nat → Nat) (l0 : Option Nat) (l1 : Option Nat) (l2 : Option Nat) : q_mo (F_X8_isWrittenAs κ l0 l1 l2) := (q_mo_rd fun v1 => (M_X8_isWrittenAs_10 κ q_fu l0 l1 l2 (v1 + (1 : Int32)) (0 : Int32)))
set_option maxRecDepth 100000 in
set_option maxHeartbeats 4000000 in
theorem K_X8_isWrittenAs {E : q_Ev} (l0 : Option Nat) (l1 : Option Nat) (l2 : Option Nat) : q_Ct E yX8_isWrittenAs (.code yX8_isWrittenAs cX8_isWrittenAs 7 (some .boolean)) 3 74 [q_R l0, q_R l1, q_R l2] q_oI (F_X8_isWrittenAs (q_kap E) l0 l1 l2) := by
  refine q_enter (by decide) (Nat.le_of_ble_eq_true rfl) (fun Γ σ w h B hT => ?_)
  have C := B.1
  unfold F_X8_isWrittenAs at h
  refine q_aload_n (pc := 0) C 1 rfl dX8_isWrittenAs_0 rfl ?_
  refine q_getI (pc := 1) C dX8_isWrittenAs_1 ql_X8_104 h (fun v1 h => ?_)
  refine q_iconst (pc := 4) (v := (1 : Int32)) C dX8_isWrittenAs_4 (by decide) ?_
  refine q_iadd (pc := 5) C dX8_isWrittenAs_5 ?_
  refine q_istore_n (pc := 6) (l' := [(3, q_I (v1 + (1 : Int32))), (0, q_R l0), (1, q_R l1), (2, q_R l2)]) C dX8_isWrittenAs_6 rfl (by decide) rfl ?_
  refine q_iconst (pc := 7) (v := (0 : Int32)) C dX8_isWrittenAs_7 (by decide) ?_
  refine q_istore (pc := 8) (l' := [(4, q_I (0 : Int32)), (3, q_I (v1 + (1 : Int32))), (0, q_R l0), (1, q_R l1), (2, q_R l2)]) C dX8_isWrittenAs_8 (by decide) rfl ?_
  refine q_W.sub [2, 3, 4, 1, 0] rfl ?_
  exact S_X8_isWrittenAs_10 B hT q_fu l0 l1 l2 (v1 + (1 : Int32)) (0 : Int32) _ h
def F_X8_takeNextForm_70 (κ : Nat → Nat) (r7 : Option Nat → Option Nat → Int32 → q_X Int32) (l0 : Option Nat) (l1 : Option Nat) (l2 : Int32) : q_X Int32 :=
  r7 l0 l1 (l2 + (1 : Int32))
theorem M_X8_takeNextForm_70 (κ : Nat → Nat) (r7 : Option Nat → Option Nat → Int32 → q_X Int32) (mr7 : ∀ (l0 : Option Nat) (l1 : Option Nat) (l2 : Int32), q_mo (r7 l0 l1 l2)) (l0 : Option Nat) (l1 : Option Nat) (l2 : Int32) : q_mo (F_X8_takeNextForm_70 κ r7 l0 l1 l2) := (mr7 l0 l1 (l2 + (1 : Int32)))
set_option maxRecDepth 100000 in
set_option maxHeartbeats 4000000 in
theorem S_X8_takeNextForm_70 {E : q_Ev} {Γ : q_Gm} {w : (Int32 ⊕ q_Exn) × q_St} (B : q_Bd E Γ cX8_takeNextForm yX8_takeNextForm.cls 4 4 100 (some .boolean) yX8_takeNextForm.name w) (hT : q_nT Γ) (r7 : Option Nat → Option Nat → Int32 → q_X Int32) (hr7 : ∀ (l0 : Option Nat) (l1 : Option Nat) (l2 : Int32) (σ : q_St), r7 l0 l1 l2 σ = some w → q_W E Γ (q_QF E Γ q_oI w) 4 σ 7 [(0, q_R l0), (1, q_R l1), (2, q_I l2)] []) (mr7 : ∀ (l0 : Option Nat) (l1 : Option Nat) (l2 : Int32), q_mo (r7 l0 l1 l2)) (l0 : Option Nat) (l1 : Option Nat) (l2 : Int32) (σ : q_St) (h : F_X8_takeNextForm_70 (q_kap E) r7 l0 l1 l2 σ = some w) : q_W E Γ (q_QF E Γ q_oI w) 4 σ 70 [(0, q_R l0), (1, q_R l1), (2, q_I l2)] [] := by
  have C := B.1
  unfold F_X8_takeNextForm_70 at h
  refine q_iinc (pc := 70) (v := (1 : Int32)) (l' := [(2, q_I (l2 + (1 : Int32))), (0, q_R l0), (1, q_R l1)]) C 2 rfl dX8_takeNextForm_70 (by decide) (by decide) rfl ?_
  refine q_goto (pc := 73) (tgt := 7) C dX8_takeNextForm_73 (by decide) ?_
  refine q_W.sub [1, 2, 0] rfl ?_
  exact hr7 l0 l1 (l2 + (1 : Int32)) _ h
def F_X8_takeNextForm_7B (κ : Nat → Nat) (r7 : Option Nat → Option Nat → Int32 → q_X Int32) (l0 : Option Nat) (l1 : Option Nat) (l2 : Int32) : q_X Int32 :=
  q_rd (q_gA l0 11 2) fun v9 => q_rd (q_gI v9 8 4) fun v12 => q_br (v12 ≤ l2) (q_rz (0 : Int32)) (q_rd (q_gA l0 11 2) fun v19 => q_rd (q_gA v19 8 1) fun v22 => q_rd (q_lA 4 v22 l2) fun v26 => q_rd (q_gA v26 4 0) fun v29 => q_rd (q_gA l0 11 1) fun v33 => q_rd (q_gI l1 6 2) fun v37 => q_rd (q_is v29 10) fun _ => q_ca (F_X7_bytesBehind κ v29 v33 v37) fun v40 => q_br (¬ v40 = 0) (F_X8_takeNextForm_70 κ r7 l0 l1 l2) (q_rd (q_is l0 11) fun _ => q_ca (F_X8_isWrittenAs κ l0 l1 v26) fun v49 => q_br (v49 = 0) (F_X8_takeNextForm_70 κ r7 l0 l1 l2) (q_wr (q_pF l1 6 5 (.int l2)) (q_rd (q_gI v26 4 9) fun v62 => q_wr (q_pF l1 6 6 (.int v62)) (q_rz (1 : Int32))))))
theorem M_X8_takeNextForm_7B (κ : Nat → Nat) (r7 : Option Nat → Option Nat → Int32 → q_X Int32) (mr7 : ∀ (l0 : Option Nat) (l1 : Option Nat) (l2 : Int32), q_mo (r7 l0 l1 l2)) (l0 : Option Nat) (l1 : Option Nat) (l2 : Int32) : q_mo (F_X8_takeNextForm_7B κ r7 l0 l1 l2) := (q_mo_rd fun v9 => (q_mo_rd fun v12 => (q_mo_br q_mo_rz (q_mo_rd fun v19 => (q_mo_rd fun v22 => (q_mo_rd fun v26 => (q_mo_rd fun v29 => (q_mo_rd fun v33 => (q_mo_rd fun v37 => (q_mo_rd fun _ => q_mo_ca (M_X7_bytesBehind κ v29 v33 v37) fun v40 => (q_mo_br (M_X8_takeNextForm_70 κ r7 mr7 l0 l1 l2) (q_mo_rd fun _ => q_mo_ca (M_X8_isWrittenAs κ l0 l1 v26) fun v49 => (q_mo_br (M_X8_takeNextForm_70 κ r7 mr7 l0 l1 l2) (q_mo_wr (q_mo_rd fun v62 => (q_mo_wr q_mo_rz))))))))))))))))
set_option maxRecDepth 100000 in
set_option maxHeartbeats 4000000 in
theorem S_X8_takeNextForm_7B {E : q_Ev} {Γ : q_Gm} {w : (Int32 ⊕ q_Exn) × q_St} (B : q_Bd E Γ cX8_takeNextForm yX8_takeNextForm.cls 4 4 100 (some .boolean) yX8_takeNextForm.name w) (hT : q_nT Γ) (r7 : Option Nat → Option Nat → Int32 → q_X Int32) (hr7 : ∀ (l0 : Option Nat) (l1 : Option Nat) (l2 : Int32) (σ : q_St), r7 l0 l1 l2 σ = some w → q_W E Γ (q_QF E Γ q_oI w) 4 σ 7 [(0, q_R l0), (1, q_R l1), (2, q_I l2)] []) (mr7 : ∀ (l0 : Option Nat) (l1 : Option Nat) (l2 : Int32), q_mo (r7 l0 l1 l2)) (l0 : Option Nat) (l1 : Option Nat) (l2 : Int32) (σ : q_St) (h : F_X8_takeNextForm_7B (q_kap E) r7 l0 l1 l2 σ = some w) : q_W E Γ (q_QF E Γ q_oI w) 4 σ 7 [(0, q_R l0), (1, q_R l1), (2, q_I l2)] [] := by
  have C := B.1
  unfold F_X8_takeNextForm_7B at h
  refine q_iload_n (pc := 7) C 2 rfl dX8_takeNextForm_7 rfl ?_
  refine q_aload_n (pc := 8) C 0 rfl dX8_takeNextForm_8 rfl ?_
  refine q_getA (pc := 9) C dX8_takeNextForm_9 ql_X8_40 h (fun v9 h => ?_)
  refine q_getI (pc := 12) C dX8_takeNextForm_12 ql_X8_208 h (fun v12 h => ?_)
  refine q_icmp_ge (pc := 15) (tgt := 76) C dX8_takeNextForm_15 (by decide) h (fun _ h => ?_) (fun _ h => ?_)
  · refine q_iconst (pc := 76) (v := (0 : Int32)) C dX8_takeNextForm_76 (by decide) ?_
    exact q_zret C B.2.2.2.2.1 dX8_takeNextForm_77 h
  · refine q_aload_n (pc := 18) C 0 rfl dX8_takeNextForm_18 rfl ?_
    refine q_getA (pc := 19) C dX8_takeNextForm_19 ql_X8_40 h (fun v19 h => ?_)
    refine q_getA (pc := 22) C dX8_takeNextForm_22 ql_X8_211 h (fun v22 h => ?_)
    refine q_iload_n (pc := 25) C 2 rfl dX8_takeNextForm_25 rfl ?_
    refine q_ldA (pc := 26) C dX8_takeNextForm_26 ⟨_, rfl⟩ h (fun v26 h => ?_)
    refine q_astore_n (pc := 27) (l' := [(3, q_R v26), (0, q_R l0), (1, q_R l1), (2, q_I l2)]) C dX8_takeNextForm_27 rfl (by decide) rfl ?_
    refine q_aload_n (pc := 28) C 0 rfl dX8_takeNextForm_28 rfl ?_
    refine q_getA (pc := 29) C dX8_takeNextForm_29 ql_X8_215 h (fun v29 h => ?_)
    refine q_aload_n (pc := 32) C 1 rfl dX8_takeNextForm_32 rfl ?_
    refine q_getA (pc := 33) C dX8_takeNextForm_33 ql_X8_39 h (fun v33 h => ?_)
    refine q_aload_n (pc := 36) C 2 rfl dX8_takeNextForm_36 rfl ?_
    refine q_getI (pc := 37) C dX8_takeNextForm_37 ql_X8_104 h (fun v37 h => ?_)
    refine q_callV (pc := 40) (As := [q_R v33, q_I v37]) (st := []) (ps := q_psI) C B.2.1 hT q_hpI qm_X8_221 qv_X7_bytesBehind dX8_takeNextForm_40 rfl rfl (Nat.le_of_ble_eq_true rfl) (q_flo B.2.2.1 B.2.2.2.1 (by decide) (by decide)) (K_X7_bytesBehind v29 v33 v37) (M_X7_bytesBehind (q_kap E) v29 v33 v37) (by exact fun v40 => (q_mo_br (M_X8_takeNextForm_70 (q_kap E) r7 mr7 l0 l1 l2) (q_mo_rd fun _ => q_mo_ca (M_X8_isWrittenAs (q_kap E) l0 l1 v26) fun v49 => (q_mo_br (M_X8_takeNextForm_70 (q_kap E) r7 mr7 l0 l1 l2) (q_mo_wr (q_mo_rd fun v62 => (q_mo_wr q_mo_rz))))))) h (fun v40 σ h => ?_)
    refine q_W.st (st' := [q_I v40]) rfl ?_
    refine q_if_ne (pc := 43) (tgt := 70) C dX8_takeNextForm_43 (by decide) h (fun _ h => ?_) (fun _ h => ?_)
    · refine q_W.sub [1, 2, 3] rfl ?_
      exact S_X8_takeNextForm_70 B hT r7 hr7 mr7 l0 l1 l2 _ h
    · refine q_aload_n (pc := 46) C 1 rfl dX8_takeNextForm_46 rfl ?_
      refine q_aload_n (pc := 47) C 2 rfl dX8_takeNextForm_47 rfl ?_
      refine q_aload_n (pc := 48) C 0 rfl dX8_takeNextForm_48 rfl ?_
      refine q_callV (pc := 49) (As := [q_R l1, q_R v26]) (st := []) (ps := q_psI) C B.2.1 hT q_hpI qm_X8_227 qv_X8_isWrittenAs dX8_takeNextForm_49 rfl rfl (Nat.le_of_ble_eq_true rfl) (q_flo B.2.2.1 B.2.2.2.1 (by decide) (by decide)) (K_X8_isWrittenAs l0 l1 v26) (M_X8_isWrittenAs (q_kap E) l0 l1 v26) (by exact fun v49 => (q_mo_br (M_X8_takeNextForm_70 (q_kap E) r7 mr7 l0 l1 l2) (q_mo_wr (q_mo_rd fun v62 => (q_mo_wr q_mo_rz))))) h (fun v49 σ h => ?_)
      refine q_W.st (st' := [q_I v49]) rfl ?_
      refine q_if_eq (pc := 52) (tgt := 70) C dX8_takeNextForm_52 (by decide) h (fun _ h => ?_) (fun _ h => ?_)
      · refine q_W.sub [1, 2, 3] rfl ?_
        exact S_X8_takeNextForm_70 B hT r7 hr7 mr7 l0 l1 l2 _ h
      · refine q_aload_n (pc := 55) C 2 rfl dX8_takeNextForm_55 rfl ?_
        refine q_iload_n (pc := 56) C 3 rfl dX8_takeNextForm_56 rfl ?_
        refine q_putV (pc := 57) (v := q_I l2) C dX8_takeNextForm_57 ql_X8_205 (Or.inl rfl) rfl rfl h (fun M57 h => ?_)
        refine q_aload_n (pc := 60) C 2 rfl dX8_takeNextForm_60 rfl ?_
        refine q_aload_n (pc := 61) C 0 rfl dX8_takeNextForm_61 rfl ?_
        refine q_getI (pc := 62) C dX8_takeNextForm_62 ql_X8_231 h (fun v62 h => ?_)
        refine q_putV (pc := 65) (v := q_I v62) C dX8_takeNextForm_65 ql_X8_177 (Or.inl rfl) rfl rfl h (fun M65 h => ?_)
        refine q_iconst (pc := 68) (v := (1 : Int32)) C dX8_takeNextForm_68 (by decide) ?_
        exact q_zret C B.2.2.2.2.1 dX8_takeNextForm_69 h
def F_X8_takeNextForm_7 (κ : Nat → Nat) : Nat → Option Nat → Option Nat → Int32 → q_X Int32
  | 0, _, _, _ => q_no
  | n + 1, l0, l1, l2 => F_X8_takeNextForm_7B κ (F_X8_takeNextForm_7 κ n) l0 l1 l2
theorem M_X8_takeNextForm_7 (κ : Nat → Nat) : ∀ (n : Nat) (l0 : Option Nat) (l1 : Option Nat) (l2 : Int32), q_mo (F_X8_takeNextForm_7 κ n l0 l1 l2)
  | 0, _, _, _ => q_mo_no
  | n + 1, l0, l1, l2 => M_X8_takeNextForm_7B κ (F_X8_takeNextForm_7 κ n) (M_X8_takeNextForm_7 κ n) l0 l1 l2
theorem S_X8_takeNextForm_7 {E : q_Ev} {Γ : q_Gm} {w : (Int32 ⊕ q_Exn) × q_St} (B : q_Bd E Γ cX8_takeNextForm yX8_takeNextForm.cls 4 4 100 (some .boolean) yX8_takeNextForm.name w) (hT : q_nT Γ) : ∀ (n : Nat) (l0 : Option Nat) (l1 : Option Nat) (l2 : Int32) (σ : q_St), F_X8_takeNextForm_7 (q_kap E) n l0 l1 l2 σ = some w → q_W E Γ (q_QF E Γ q_oI w) 4 σ 7 [(0, q_R l0), (1, q_R l1), (2, q_I l2)] []
  | 0, _, _, _, _, h => by cases h
  | n + 1, l0, l1, l2, σ, h => S_X8_takeNextForm_7B B hT (F_X8_takeNextForm_7 (q_kap E) n) (S_X8_takeNextForm_7 B hT n) (M_X8_takeNextForm_7 (q_kap E) n) l0 l1 l2 σ h
def F_X8_takeNextForm (κ : Nat → Nat) (l0 : Option Nat) (l1 : Option Nat) : q_X Int32 :=
  q_rd (q_gI l1 6 5) fun v1 => F_X8_takeNextForm_7 κ q_fu l0 l1 (v1 + (1 : Int32))
theorem M_X8_takeNextForm (κ : Nat → Nat) (l0 : Option Nat) (l1 : Option Nat) : q_mo (F_X8_takeNextForm κ l0 l1) := (q_mo_rd fun v1 => (M_X8_takeNextForm_7 κ q_fu l0 l1 (v1 + (1 : Int32))))
set_option maxRecDepth 100000 in
set_option maxHeartbeats 4000000 in
theorem K_X8_takeNextForm {E : q_Ev} (l0 : Option Nat) (l1 : Option Nat) : q_Ct E yX8_takeNextForm (.code yX8_takeNextForm cX8_takeNextForm 4 (some .boolean)) 4 100 [q_R l0, q_R l1] q_oI (F_X8_takeNextForm (q_kap E) l0 l1) := by
  refine q_enter (by decide) (Nat.le_of_ble_eq_true rfl) (fun Γ σ w h B hT => ?_)
  have C := B.1
  unfold F_X8_takeNextForm at h
  refine q_aload_n (pc := 0) C 1 rfl dX8_takeNextForm_0 rfl ?_
  refine q_getI (pc := 1) C dX8_takeNextForm_1 ql_X8_205 h (fun v1 h => ?_)
  refine q_iconst (pc := 4) (v := (1 : Int32)) C dX8_takeNextForm_4 (by decide) ?_
  refine q_iadd (pc := 5) C dX8_takeNextForm_5 ?_
  refine q_istore_n (pc := 6) (l' := [(2, q_I (v1 + (1 : Int32))), (0, q_R l0), (1, q_R l1)]) C dX8_takeNextForm_6 rfl (by decide) rfl ?_
  refine q_W.sub [1, 2, 0] rfl ?_
  exact S_X8_takeNextForm_7 B hT q_fu l0 l1 (v1 + (1 : Int32)) _ h
def F_X8_readWords_121 (κ : Nat → Nat) : q_X Unit :=
  q_rt ()
theorem M_X8_readWords_121 (κ : Nat → Nat) : q_mo (F_X8_readWords_121 κ) := q_mo_rt
theorem N_X8_readWords_121 (κ : Nat → Nat) : q_ni (F_X8_readWords_121 κ) := q_ni_rt
set_option maxRecDepth 100000 in
set_option maxHeartbeats 4000000 in
theorem S_X8_readWords_121 {E : q_Ev} {Γ : q_Gm} {w : (Unit ⊕ q_Exn) × q_St} (B : q_Bd E Γ cX8_readWords yX8_readWords.cls 4 5 108 (none) yX8_readWords.name w) (hT : q_nT Γ) (σ : q_St) (h : F_X8_readWords_121 (q_kap E) σ = some w) : q_W E Γ (q_QF E Γ q_oV w) 4 σ 121 [] [] := by
  have C := B.1
  unfold F_X8_readWords_121 at h
  exact q_vret C B.2.2.2.2.1 dX8_readWords_121 h
def F_X8_readWords_114 (κ : Nat → Nat) (r33 : Option Nat → Option Nat → Int32 → Int32 → q_X Unit) (l0 : Option Nat) (l1 : Option Nat) (l3 : Int32) (s0 : Int32) : q_X Unit :=
  r33 l0 l1 s0 (l3 + (1 : Int32))
theorem M_X8_readWords_114 (κ : Nat → Nat) (r33 : Option Nat → Option Nat → Int32 → Int32 → q_X Unit) (mr33 : ∀ (l0 : Option Nat) (l1 : Option Nat) (l2 : Int32) (l3 : Int32), q_mo (r33 l0 l1 l2 l3)) (l0 : Option Nat) (l1 : Option Nat) (l3 : Int32) (s0 : Int32) : q_mo (F_X8_readWords_114 κ r33 l0 l1 l3 s0) := (mr33 l0 l1 s0 (l3 + (1 : Int32)))
set_option maxRecDepth 100000 in
set_option maxHeartbeats 4000000 in
theorem S_X8_readWords_114 {E : q_Ev} {Γ : q_Gm} {w : (Unit ⊕ q_Exn) × q_St} (B : q_Bd E Γ cX8_readWords yX8_readWords.cls 4 5 108 (none) yX8_readWords.name w) (hT : q_nT Γ) (r33 : Option Nat → Option Nat → Int32 → Int32 → q_X Unit) (hr33 : ∀ (l0 : Option Nat) (l1 : Option Nat) (l2 : Int32) (l3 : Int32) (σ : q_St), r33 l0 l1 l2 l3 σ = some w → q_W E Γ (q_QF E Γ q_oV w) 4 σ 33 [(0, q_R l0), (1, q_R l1), (2, q_I l2), (3, q_I l3)] []) (mr33 : ∀ (l0 : Option Nat) (l1 : Option Nat) (l2 : Int32) (l3 : Int32), q_mo (r33 l0 l1 l2 l3)) (l0 : Option Nat) (l1 : Option Nat) (l3 : Int32) (s0 : Int32) (σ : q_St) (h : F_X8_readWords_114 (q_kap E) r33 l0 l1 l3 s0 σ = some w) : q_W E Γ (q_QF E Γ q_oV w) 4 σ 114 [(0, q_R l0), (1, q_R l1), (3, q_I l3)] [q_I s0] := by
  have C := B.1
  unfold F_X8_readWords_114 at h
  refine q_istore_n (pc := 114) (l' := [(2, q_I s0), (0, q_R l0), (1, q_R l1), (3, q_I l3)]) C dX8_readWords_114 rfl (by decide) rfl ?_
  refine q_iinc (pc := 115) (v := (1 : Int32)) (l' := [(3, q_I (l3 + (1 : Int32))), (2, q_I s0), (0, q_R l0), (1, q_R l1)]) C 3 rfl dX8_readWords_115 (by decide) (by decide) rfl ?_
  refine q_goto (pc := 118) (tgt := 33) C dX8_readWords_118 (by decide) ?_
  refine q_W.sub [2, 3, 1, 0] rfl ?_
  exact hr33 l0 l1 s0 (l3 + (1 : Int32)) _ h
def F_X8_readWords_113 (κ : Nat → Nat) (r33 : Option Nat → Option Nat → Int32 → Int32 → q_X Unit) (l0 : Option Nat) (l1 : Option Nat) (l3 : Int32) : q_X Unit :=
  F_X8_readWords_114 κ r33 l0 l1 l3 (0 : Int32)
theorem M_X8_readWords_113 (κ : Nat → Nat) (r33 : Option Nat → Option Nat → Int32 → Int32 → q_X Unit) (mr33 : ∀ (l0 : Option Nat) (l1 : Option Nat) (l2 : Int32) (l3 : Int32), q_mo (r33 l0 l1 l2 l3)) (l0 : Option Nat) (l1 : Option Nat) (l3 : Int32) : q_mo (F_X8_readWords_113 κ r33 l0 l1 l3) := (M_X8_readWords_114 κ r33 mr33 l0 l1 l3 (0 : Int32))
set_option maxRecDepth 100000 in
set_option maxHeartbeats 4000000 in
theorem S_X8_readWords_113 {E : q_Ev} {Γ : q_Gm} {w : (Unit ⊕ q_Exn) × q_St} (B : q_Bd E Γ cX8_readWords yX8_readWords.cls 4 5 108 (none) yX8_readWords.name w) (hT : q_nT Γ) (r33 : Option Nat → Option Nat → Int32 → Int32 → q_X Unit) (hr33 : ∀ (l0 : Option Nat) (l1 : Option Nat) (l2 : Int32) (l3 : Int32) (σ : q_St), r33 l0 l1 l2 l3 σ = some w → q_W E Γ (q_QF E Γ q_oV w) 4 σ 33 [(0, q_R l0), (1, q_R l1), (2, q_I l2), (3, q_I l3)] []) (mr33 : ∀ (l0 : Option Nat) (l1 : Option Nat) (l2 : Int32) (l3 : Int32), q_mo (r33 l0 l1 l2 l3)) (l0 : Option Nat) (l1 : Option Nat) (l3 : Int32) (σ : q_St) (h : F_X8_readWords_113 (q_kap E) r33 l0 l1 l3 σ = some w) : q_W E Γ (q_QF E Γ q_oV w) 4 σ 113 [(0, q_R l0), (1, q_R l1), (3, q_I l3)] [] := by
  have C := B.1
  unfold F_X8_readWords_113 at h
  refine q_iconst (pc := 113) (v := (0 : Int32)) C dX8_readWords_113 (by decide) ?_
  exact S_X8_readWords_114 B hT r33 hr33 mr33 l0 l1 l3 (0 : Int32) _ h
def F_X8_readWords_33B (κ : Nat → Nat) (r33 : Option Nat → Option Nat → Int32 → Int32 → q_X Unit) (l0 : Option Nat) (l1 : Option Nat) (l2 : Int32) (l3 : Int32) : q_X Unit :=
  q_rd (q_gA l0 11 1) fun v35 => q_rd (q_gI v35 13 6) fun v38 => q_br (v38 < l3) (F_X8_readWords_121 κ) (q_br (l2 = 0) (F_X8_readWords_121 κ) (q_rd (q_gA l0 11 0) fun v49 => q_rd (q_gI v49 12 1) fun v53 => q_wr (q_pF v49 12 1 (.int (v53 + (1 : Int32)))) (q_rd (q_gA l0 11 0) fun v62 => q_rd (q_gA l0 11 2) fun v67 => q_rd (q_is v67 8) fun _ => q_ca (F_X5_highestWord κ v67) fun v70 => q_rd (q_is v62 12) fun _ => q_ca (F_X9_takeNumber κ v62 (0 : Int64) v70) fun v73 => q_rd (q_gI l1 6 6) fun v79 => q_wr (q_pF l1 6 6 (.int (v79 + (1 : Int32)))) (q_rd (q_gA l0 11 0) fun v88 => q_rd (q_is v88 12) fun _ => q_ca (F_X9_hasFault κ v88) fun v91 => q_br (¬ v91 = 0) (F_X8_readWords_113 κ r33 l0 l1 l3) (q_rd (q_gA l0 11 0) fun v98 => q_rd (q_is v98 12) fun _ => q_ca (F_X9_isAt κ v98 (44 : Int32)) fun v103 => q_br (v103 = 0) (F_X8_readWords_113 κ r33 l0 l1 l3) (F_X8_readWords_114 κ r33 l0 l1 l3 (1 : Int32)))))))
theorem M_X8_readWords_33B (κ : Nat → Nat) (r33 : Option Nat → Option Nat → Int32 → Int32 → q_X Unit) (mr33 : ∀ (l0 : Option Nat) (l1 : Option Nat) (l2 : Int32) (l3 : Int32), q_mo (r33 l0 l1 l2 l3)) (l0 : Option Nat) (l1 : Option Nat) (l2 : Int32) (l3 : Int32) : q_mo (F_X8_readWords_33B κ r33 l0 l1 l2 l3) := (q_mo_rd fun v35 => (q_mo_rd fun v38 => (q_mo_br (M_X8_readWords_121 κ) (q_mo_br (M_X8_readWords_121 κ) (q_mo_rd fun v49 => (q_mo_rd fun v53 => (q_mo_wr (q_mo_rd fun v62 => (q_mo_rd fun v67 => (q_mo_rd fun _ => q_mo_ca (M_X5_highestWord κ v67) fun v70 => (q_mo_rd fun _ => q_mo_ca (M_X9_takeNumber κ v62 (0 : Int64) v70) fun v73 => (q_mo_rd fun v79 => (q_mo_wr (q_mo_rd fun v88 => (q_mo_rd fun _ => q_mo_ca (M_X9_hasFault κ v88) fun v91 => (q_mo_br (M_X8_readWords_113 κ r33 mr33 l0 l1 l3) (q_mo_rd fun v98 => (q_mo_rd fun _ => q_mo_ca (M_X9_isAt κ v98 (44 : Int32)) fun v103 => (q_mo_br (M_X8_readWords_113 κ r33 mr33 l0 l1 l3) (M_X8_readWords_114 κ r33 mr33 l0 l1 l3 (1 : Int32)))))))))))))))))))))
set_option maxRecDepth 100000 in
set_option maxHeartbeats 4000000 in
theorem S_X8_readWords_33B {E : q_Ev} {Γ : q_Gm} {w : (Unit ⊕ q_Exn) × q_St} (B : q_Bd E Γ cX8_readWords yX8_readWords.cls 4 5 108 (none) yX8_readWords.name w) (hT : q_nT Γ) (r33 : Option Nat → Option Nat → Int32 → Int32 → q_X Unit) (hr33 : ∀ (l0 : Option Nat) (l1 : Option Nat) (l2 : Int32) (l3 : Int32) (σ : q_St), r33 l0 l1 l2 l3 σ = some w → q_W E Γ (q_QF E Γ q_oV w) 4 σ 33 [(0, q_R l0), (1, q_R l1), (2, q_I l2), (3, q_I l3)] []) (mr33 : ∀ (l0 : Option Nat) (l1 : Option Nat) (l2 : Int32) (l3 : Int32), q_mo (r33 l0 l1 l2 l3)) (l0 : Option Nat) (l1 : Option Nat) (l2 : Int32) (l3 : Int32) (σ : q_St) (h : F_X8_readWords_33B (q_kap E) r33 l0 l1 l2 l3 σ = some w) : q_W E Γ (q_QF E Γ q_oV w) 4 σ 33 [(0, q_R l0), (1, q_R l1), (2, q_I l2), (3, q_I l3)] [] := by
  have C := B.1
  unfold F_X8_readWords_33B at h
  refine q_iload_n (pc := 33) C 3 rfl dX8_readWords_33 rfl ?_
  refine q_aload_n (pc := 34) C 0 rfl dX8_readWords_34 rfl ?_
  refine q_getA (pc := 35) C dX8_readWords_35 ql_X8_39 h (fun v35 h => ?_)
  refine q_getI (pc := 38) C dX8_readWords_38 ql_X8_68 h (fun v38 h => ?_)
  refine q_icmp_gt (pc := 41) (tgt := 121) C dX8_readWords_41 (by decide) h (fun _ h => ?_) (fun _ h => ?_)
  · refine q_W.sub [] rfl ?_
    exact S_X8_readWords_121 B hT _ h
  · refine q_iload_n (pc := 44) C 2 rfl dX8_readWords_44 rfl ?_
    refine q_if_eq (pc := 45) (tgt := 121) C dX8_readWords_45 (by decide) h (fun _ h => ?_) (fun _ h => ?_)
    · refine q_W.sub [] rfl ?_
      exact S_X8_readWords_121 B hT _ h
    · refine q_aload_n (pc := 48) C 0 rfl dX8_readWords_48 rfl ?_
      refine q_getA (pc := 49) C dX8_readWords_49 ql_X8_29 h (fun v49 h => ?_)
      refine q_dup (pc := 52) C dX8_readWords_52 rfl ?_
      refine q_getI (pc := 53) C dX8_readWords_53 ql_X8_111 h (fun v53 h => ?_)
      refine q_iconst (pc := 56) (v := (1 : Int32)) C dX8_readWords_56 (by decide) ?_
      refine q_iadd (pc := 57) C dX8_readWords_57 ?_
      refine q_putV (pc := 58) (v := q_I (v53 + (1 : Int32))) C dX8_readWords_58 ql_X8_111 (Or.inl rfl) rfl rfl h (fun M58 h => ?_)
      refine q_aload_n (pc := 61) C 0 rfl dX8_readWords_61 rfl ?_
      refine q_getA (pc := 62) C dX8_readWords_62 ql_X8_29 h (fun v62 h => ?_)
      refine q_lconst (pc := 65) (v := (0 : Int64)) C dX8_readWords_65 (by decide) ?_
      refine q_aload_n (pc := 66) C 0 rfl dX8_readWords_66 rfl ?_
      refine q_getA (pc := 67) C dX8_readWords_67 ql_X8_40 h (fun v67 h => ?_)
      refine q_callV (pc := 70) (As := []) (st := [q_L (0 : Int64), q_R v62]) (ps := q_psL) C B.2.1 hT q_hpL qm_X8_171 qv_X5_highestWord dX8_readWords_70 rfl rfl (Nat.le_of_ble_eq_true rfl) (q_flo B.2.2.1 B.2.2.2.1 (by decide) (by decide)) (K_X5_highestWord v67) (M_X5_highestWord (q_kap E) v67) (by exact fun v70 => (q_mo_rd fun _ => q_mo_ca (M_X9_takeNumber (q_kap E) v62 (0 : Int64) v70) fun v73 => (q_mo_rd fun v79 => (q_mo_wr (q_mo_rd fun v88 => (q_mo_rd fun _ => q_mo_ca (M_X9_hasFault (q_kap E) v88) fun v91 => (q_mo_br (M_X8_readWords_113 (q_kap E) r33 mr33 l0 l1 l3) (q_mo_rd fun v98 => (q_mo_rd fun _ => q_mo_ca (M_X9_isAt (q_kap E) v98 (44 : Int32)) fun v103 => (q_mo_br (M_X8_readWords_113 (q_kap E) r33 mr33 l0 l1 l3) (M_X8_readWords_114 (q_kap E) r33 mr33 l0 l1 l3 (1 : Int32)))))))))))) h (fun v70 σ h => ?_)
      refine q_W.st (st' := [q_L v70, q_L (0 : Int64), q_R v62]) rfl ?_
      refine q_callV (pc := 73) (As := [q_L (0 : Int64), q_L v70]) (st := []) (ps := q_psL) C B.2.1 hT q_hpL qm_X8_162 qv_X9_takeNumber dX8_readWords_73 rfl rfl (Nat.le_of_ble_eq_true rfl) (q_flo B.2.2.1 B.2.2.2.1 (by decide) (by decide)) (K_X9_takeNumber v62 (0 : Int64) v70) (M_X9_takeNumber (q_kap E) v62 (0 : Int64) v70) (by exact fun v73 => (q_mo_rd fun v79 => (q_mo_wr (q_mo_rd fun v88 => (q_mo_rd fun _ => q_mo_ca (M_X9_hasFault (q_kap E) v88) fun v91 => (q_mo_br (M_X8_readWords_113 (q_kap E) r33 mr33 l0 l1 l3) (q_mo_rd fun v98 => (q_mo_rd fun _ => q_mo_ca (M_X9_isAt (q_kap E) v98 (44 : Int32)) fun v103 => (q_mo_br (M_X8_readWords_113 (q_kap E) r33 mr33 l0 l1 l3) (M_X8_readWords_114 (q_kap E) r33 mr33 l0 l1 l3 (1 : Int32))))))))))) h (fun v73 σ h => ?_)
      refine q_W.st (st' := [q_L v73]) rfl ?_
      refine q_pop2_2 (pc := 76) C dX8_readWords_76 rfl ?_
      refine q_aload_n (pc := 77) C 1 rfl dX8_readWords_77 rfl ?_
      refine q_dup (pc := 78) C dX8_readWords_78 rfl ?_
      refine q_getI (pc := 79) C dX8_readWords_79 ql_X8_177 h (fun v79 h => ?_)
      refine q_iconst (pc := 82) (v := (1 : Int32)) C dX8_readWords_82 (by decide) ?_
      refine q_iadd (pc := 83) C dX8_readWords_83 ?_
      refine q_putV (pc := 84) (v := q_I (v79 + (1 : Int32))) C dX8_readWords_84 ql_X8_177 (Or.inl rfl) rfl rfl h (fun M84 h => ?_)
      refine q_aload_n (pc := 87) C 0 rfl dX8_readWords_87 rfl ?_
      refine q_getA (pc := 88) C dX8_readWords_88 ql_X8_29 h (fun v88 h => ?_)
      refine q_callV (pc := 91) (As := []) (st := []) (ps := q_psI) C B.2.1 hT q_hpI qm_X8_84 qv_X9_hasFault dX8_readWords_91 rfl rfl (Nat.le_of_ble_eq_true rfl) (q_flo B.2.2.1 B.2.2.2.1 (by decide) (by decide)) (K_X9_hasFault v88) (M_X9_hasFault (q_kap E) v88) (by exact fun v91 => (q_mo_br (M_X8_readWords_113 (q_kap E) r33 mr33 l0 l1 l3) (q_mo_rd fun v98 => (q_mo_rd fun _ => q_mo_ca (M_X9_isAt (q_kap E) v98 (44 : Int32)) fun v103 => (q_mo_br (M_X8_readWords_113 (q_kap E) r33 mr33 l0 l1 l3) (M_X8_readWords_114 (q_kap E) r33 mr33 l0 l1 l3 (1 : Int32))))))) h (fun v91 σ h => ?_)
      refine q_W.st (st' := [q_I v91]) rfl ?_
      refine q_if_ne (pc := 94) (tgt := 113) C dX8_readWords_94 (by decide) h (fun _ h => ?_) (fun _ h => ?_)
      · refine q_W.sub [0, 1, 3] rfl ?_
        exact S_X8_readWords_113 B hT r33 hr33 mr33 l0 l1 l3 _ h
      · refine q_aload_n (pc := 97) C 0 rfl dX8_readWords_97 rfl ?_
        refine q_getA (pc := 98) C dX8_readWords_98 ql_X8_29 h (fun v98 h => ?_)
        refine q_bipush (pc := 101) (v := (44 : Int32)) C dX8_readWords_101 (by decide) ?_
        refine q_callV (pc := 103) (As := [q_I (44 : Int32)]) (st := []) (ps := q_psI) C B.2.1 hT q_hpI qm_X8_180 qv_X9_isAt dX8_readWords_103 rfl rfl (Nat.le_of_ble_eq_true rfl) (q_flo B.2.2.1 B.2.2.2.1 (by decide) (by decide)) (K_X9_isAt v98 (44 : Int32)) (M_X9_isAt (q_kap E) v98 (44 : Int32)) (by exact fun v103 => (q_mo_br (M_X8_readWords_113 (q_kap E) r33 mr33 l0 l1 l3) (M_X8_readWords_114 (q_kap E) r33 mr33 l0 l1 l3 (1 : Int32)))) h (fun v103 σ h => ?_)
        refine q_W.st (st' := [q_I v103]) rfl ?_
        refine q_if_eq (pc := 106) (tgt := 113) C dX8_readWords_106 (by decide) h (fun _ h => ?_) (fun _ h => ?_)
        · refine q_W.sub [0, 1, 3] rfl ?_
          exact S_X8_readWords_113 B hT r33 hr33 mr33 l0 l1 l3 _ h
        · refine q_iconst (pc := 109) (v := (1 : Int32)) C dX8_readWords_109 (by decide) ?_
          refine q_goto (pc := 110) (tgt := 114) C dX8_readWords_110 (by decide) ?_
          refine q_W.sub [0, 1, 3] rfl ?_
          exact S_X8_readWords_114 B hT r33 hr33 mr33 l0 l1 l3 (1 : Int32) _ h
def F_X8_readWords_33 (κ : Nat → Nat) : Nat → Option Nat → Option Nat → Int32 → Int32 → q_X Unit
  | 0, _, _, _, _ => q_no
  | n + 1, l0, l1, l2, l3 => F_X8_readWords_33B κ (F_X8_readWords_33 κ n) l0 l1 l2 l3
theorem M_X8_readWords_33 (κ : Nat → Nat) : ∀ (n : Nat) (l0 : Option Nat) (l1 : Option Nat) (l2 : Int32) (l3 : Int32), q_mo (F_X8_readWords_33 κ n l0 l1 l2 l3)
  | 0, _, _, _, _ => q_mo_no
  | n + 1, l0, l1, l2, l3 => M_X8_readWords_33B κ (F_X8_readWords_33 κ n) (M_X8_readWords_33 κ n) l0 l1 l2 l3
theorem S_X8_readWords_33 {E : q_Ev} {Γ : q_Gm} {w : (Unit ⊕ q_Exn) × q_St} (B : q_Bd E Γ cX8_readWords yX8_readWords.cls 4 5 108 (none) yX8_readWords.name w) (hT : q_nT Γ) : ∀ (n : Nat) (l0 : Option Nat) (l1 : Option Nat) (l2 : Int32) (l3 : Int32) (σ : q_St), F_X8_readWords_33 (q_kap E) n l0 l1 l2 l3 σ = some w → q_W E Γ (q_QF E Γ q_oV w) 4 σ 33 [(0, q_R l0), (1, q_R l1), (2, q_I l2), (3, q_I l3)] []
  | 0, _, _, _, _, _, h => by cases h
  | n + 1, l0, l1, l2, l3, σ, h => S_X8_readWords_33B B hT (F_X8_readWords_33 (q_kap E) n) (S_X8_readWords_33 B hT n) (M_X8_readWords_33 (q_kap E) n) l0 l1 l2 l3 σ h
def F_X8_readWords (κ : Nat → Nat) (l0 : Option Nat) (l1 : Option Nat) : q_X Unit :=
  q_rd (q_gA l0 11 1) fun v1 => q_rd (q_gA l0 11 0) fun v5 => q_rd (q_gI v5 12 1) fun v8 => q_rd (q_is v1 13) fun _ => q_ca (F_X10_says κ v1 v8 (some (κ 3))) fun v13 => q_br (¬ v13 = 0) (F_X8_readWords_33 κ q_fu l0 l1 (1 : Int32) (0 : Int32)) (q_rd (q_gA l0 11 0) fun v20 => q_rd (q_is v20 12) fun _ => q_ca (F_X9_fail κ v20 (1 : Int32)) fun v24 => q_rt ())
theorem M_X8_readWords (κ : Nat → Nat) (l0 : Option Nat) (l1 : Option Nat) : q_mo (F_X8_readWords κ l0 l1) := (q_mo_rd fun v1 => (q_mo_rd fun v5 => (q_mo_rd fun v8 => (q_mo_rd fun _ => q_mo_ca (M_X10_says κ v1 v8 (some (κ 3))) fun v13 => (q_mo_br (M_X8_readWords_33 κ q_fu l0 l1 (1 : Int32) (0 : Int32)) (q_mo_rd fun v20 => (q_mo_rd fun _ => q_mo_ca (M_X9_fail κ v20 (1 : Int32)) fun v24 => q_mo_rt)))))))
set_option maxRecDepth 100000 in
set_option maxHeartbeats 4000000 in
theorem K_X8_readWords {E : q_Ev} (l0 : Option Nat) (l1 : Option Nat) : q_Ct E yX8_readWords (.code yX8_readWords cX8_readWords 4 (none)) 5 108 [q_R l0, q_R l1] q_oV (F_X8_readWords (q_kap E) l0 l1) := by
  refine q_enter (by decide) (Nat.le_of_ble_eq_true rfl) (fun Γ σ w h B hT => ?_)
  have C := B.1
  unfold F_X8_readWords at h
  refine q_aload_n (pc := 0) C 0 rfl dX8_readWords_0 rfl ?_
  refine q_getA (pc := 1) C dX8_readWords_1 ql_X8_39 h (fun v1 h => ?_)
  refine q_aload_n (pc := 4) C 0 rfl dX8_readWords_4 rfl ?_
  refine q_getA (pc := 5) C dX8_readWords_5 ql_X8_29 h (fun v5 h => ?_)
  refine q_getI (pc := 8) C dX8_readWords_8 ql_X8_111 h (fun v8 h => ?_)
  refine q_ldcT (pc := 11) (k := 3) (tx := "word") C dX8_readWords_11 (by decide +kernel) (by decide) ?_
  refine q_callV (pc := 13) (As := [q_I v8, q_R (some ((q_kap E) 3))]) (st := []) (ps := q_psI) C B.2.1 hT q_hpI qm_X8_153 qv_X10_says dX8_readWords_13 rfl rfl (Nat.le_of_ble_eq_true rfl) (q_flo B.2.2.1 B.2.2.2.1 (by decide) (by decide)) (K_X10_says v1 v8 (some ((q_kap E) 3))) (M_X10_says (q_kap E) v1 v8 (some ((q_kap E) 3))) (by exact fun v13 => (q_mo_br (M_X8_readWords_33 (q_kap E) q_fu l0 l1 (1 : Int32) (0 : Int32)) (q_mo_rd fun v20 => (q_mo_rd fun _ => q_mo_ca (M_X9_fail (q_kap E) v20 (1 : Int32)) fun v24 => q_mo_rt)))) h (fun v13 σ h => ?_)
  refine q_W.st (st' := [q_I v13]) rfl ?_
  refine q_if_ne (pc := 16) (tgt := 29) C dX8_readWords_16 (by decide) h (fun _ h => ?_) (fun _ h => ?_)
  · refine q_iconst (pc := 29) (v := (1 : Int32)) C dX8_readWords_29 (by decide) ?_
    refine q_istore_n (pc := 30) (l' := [(2, q_I (1 : Int32)), (0, q_R l0), (1, q_R l1)]) C dX8_readWords_30 rfl (by decide) rfl ?_
    refine q_iconst (pc := 31) (v := (0 : Int32)) C dX8_readWords_31 (by decide) ?_
    refine q_istore_n (pc := 32) (l' := [(3, q_I (0 : Int32)), (2, q_I (1 : Int32)), (0, q_R l0), (1, q_R l1)]) C dX8_readWords_32 rfl (by decide) rfl ?_
    refine q_W.sub [2, 3, 1, 0] rfl ?_
    exact S_X8_readWords_33 B hT q_fu l0 l1 (1 : Int32) (0 : Int32) _ h
  · refine q_aload_n (pc := 19) C 0 rfl dX8_readWords_19 rfl ?_
    refine q_getA (pc := 20) C dX8_readWords_20 ql_X8_29 h (fun v20 h => ?_)
    refine q_iconst (pc := 23) (v := (1 : Int32)) C dX8_readWords_23 (by decide) ?_
    refine q_callV (pc := 24) (As := [q_I (1 : Int32)]) (st := []) (ps := q_psI) C B.2.1 hT q_hpI qm_X8_125 qv_X9_fail dX8_readWords_24 rfl rfl (Nat.le_of_ble_eq_true rfl) (q_flo B.2.2.1 B.2.2.2.1 (by decide) (by decide)) (K_X9_fail v20 (1 : Int32)) (M_X9_fail (q_kap E) v20 (1 : Int32)) (by exact fun v24 => q_mo_rt) h (fun v24 σ h => ?_)
    refine q_W.st (st' := [q_I v24]) rfl ?_
    refine q_pop (pc := 27) C dX8_readWords_27 rfl ?_
    exact q_vret C B.2.2.2.2.1 dX8_readWords_28 h
def F_X8_skipToLineEnd_38 (κ : Nat → Nat) (l0 : Option Nat) (l1 : Int32) : q_X Unit :=
  q_rd (q_gA l0 11 0) fun v39 => q_wr (q_pF v39 12 1 (.int l1)) (q_rt ())
theorem M_X8_skipToLineEnd_38 (κ : Nat → Nat) (l0 : Option Nat) (l1 : Int32) : q_mo (F_X8_skipToLineEnd_38 κ l0 l1) := (q_mo_rd fun v39 => (q_mo_wr q_mo_rt))
theorem N_X8_skipToLineEnd_38 (κ : Nat → Nat) (l0 : Option Nat) (l1 : Int32) : q_ni (F_X8_skipToLineEnd_38 κ l0 l1) := (q_ni_rd fun v39 => (q_ni_wr q_ni_rt))
set_option maxRecDepth 100000 in
set_option maxHeartbeats 4000000 in
theorem S_X8_skipToLineEnd_38 {E : q_Ev} {Γ : q_Gm} {w : (Unit ⊕ q_Exn) × q_St} (B : q_Bd E Γ cX8_skipToLineEnd yX8_skipToLineEnd.cls 2 0 0 (none) yX8_skipToLineEnd.name w) (hT : q_nT Γ) (l0 : Option Nat) (l1 : Int32) (σ : q_St) (h : F_X8_skipToLineEnd_38 (q_kap E) l0 l1 σ = some w) : q_W E Γ (q_QF E Γ q_oV w) 2 σ 38 [(0, q_R l0), (1, q_I l1)] [] := by
  have C := B.1
  unfold F_X8_skipToLineEnd_38 at h
  refine q_aload_n (pc := 38) C 0 rfl dX8_skipToLineEnd_38 rfl ?_
  refine q_getA (pc := 39) C dX8_skipToLineEnd_39 ql_X8_29 h (fun v39 h => ?_)
  refine q_iload_n (pc := 42) C 1 rfl dX8_skipToLineEnd_42 rfl ?_
  refine q_putV (pc := 43) (v := q_I l1) C dX8_skipToLineEnd_43 ql_X8_111 (Or.inl rfl) rfl rfl h (fun M43 h => ?_)
  exact q_vret C B.2.2.2.2.1 dX8_skipToLineEnd_46 h
def F_X8_skipToLineEnd_8B (κ : Nat → Nat) (r8 : Option Nat → Int32 → q_X Unit) (l0 : Option Nat) (l1 : Int32) : q_X Unit :=
  q_rd (q_gA l0 11 1) fun v10 => q_rd (q_gI v10 13 6) fun v13 => q_br (v13 ≤ l1) (F_X8_skipToLineEnd_38 κ l0 l1) (q_rd (q_gA l0 11 1) fun v20 => q_rd (q_gA v20 13 1) fun v23 => q_rd (q_lI 0 v23 l1) fun v27 => q_br (v27 = (4 : Int32)) (F_X8_skipToLineEnd_38 κ l0 l1) (r8 l0 (l1 + (1 : Int32))))
theorem M_X8_skipToLineEnd_8B (κ : Nat → Nat) (r8 : Option Nat → Int32 → q_X Unit) (mr8 : ∀ (l0 : Option Nat) (l1 : Int32), q_mo (r8 l0 l1)) (l0 : Option Nat) (l1 : Int32) : q_mo (F_X8_skipToLineEnd_8B κ r8 l0 l1) := (q_mo_rd fun v10 => (q_mo_rd fun v13 => (q_mo_br (M_X8_skipToLineEnd_38 κ l0 l1) (q_mo_rd fun v20 => (q_mo_rd fun v23 => (q_mo_rd fun v27 => (q_mo_br (M_X8_skipToLineEnd_38 κ l0 l1) (mr8 l0 (l1 + (1 : Int32))))))))))
set_option maxRecDepth 100000 in
set_option maxHeartbeats 4000000 in
theorem S_X8_skipToLineEnd_8B {E : q_Ev} {Γ : q_Gm} {w : (Unit ⊕ q_Exn) × q_St} (B : q_Bd E Γ cX8_skipToLineEnd yX8_skipToLineEnd.cls 2 0 0 (none) yX8_skipToLineEnd.name w) (hT : q_nT Γ) (r8 : Option Nat → Int32 → q_X Unit) (hr8 : ∀ (l0 : Option Nat) (l1 : Int32) (σ : q_St), r8 l0 l1 σ = some w → q_W E Γ (q_QF E Γ q_oV w) 2 σ 8 [(0, q_R l0), (1, q_I l1)] []) (mr8 : ∀ (l0 : Option Nat) (l1 : Int32), q_mo (r8 l0 l1)) (l0 : Option Nat) (l1 : Int32) (σ : q_St) (h : F_X8_skipToLineEnd_8B (q_kap E) r8 l0 l1 σ = some w) : q_W E Γ (q_QF E Γ q_oV w) 2 σ 8 [(0, q_R l0), (1, q_I l1)] [] := by
  have C := B.1
  unfold F_X8_skipToLineEnd_8B at h
  refine q_iload_n (pc := 8) C 1 rfl dX8_skipToLineEnd_8 rfl ?_
  refine q_aload_n (pc := 9) C 0 rfl dX8_skipToLineEnd_9 rfl ?_
  refine q_getA (pc := 10) C dX8_skipToLineEnd_10 ql_X8_39 h (fun v10 h => ?_)
  refine q_getI (pc := 13) C dX8_skipToLineEnd_13 ql_X8_68 h (fun v13 h => ?_)
  refine q_icmp_ge (pc := 16) (tgt := 38) C dX8_skipToLineEnd_16 (by decide) h (fun _ h => ?_) (fun _ h => ?_)
  · exact S_X8_skipToLineEnd_38 B hT l0 l1 _ h
  · refine q_aload_n (pc := 19) C 0 rfl dX8_skipToLineEnd_19 rfl ?_
    refine q_getA (pc := 20) C dX8_skipToLineEnd_20 ql_X8_39 h (fun v20 h => ?_)
    refine q_getA (pc := 23) C dX8_skipToLineEnd_23 ql_X8_148 h (fun v23 h => ?_)
    refine q_iload_n (pc := 26) C 1 rfl dX8_skipToLineEnd_26 rfl ?_
    refine q_ldI (pc := 27) C dX8_skipToLineEnd_27 (Or.inl ⟨rfl, rfl⟩) h (fun v27 h => ?_)
    refine q_iconst (pc := 28) (v := (4 : Int32)) C dX8_skipToLineEnd_28 (by decide) ?_
    refine q_icmp_eq (pc := 29) (tgt := 38) C dX8_skipToLineEnd_29 (by decide) h (fun _ h => ?_) (fun _ h => ?_)
    · exact S_X8_skipToLineEnd_38 B hT l0 l1 _ h
    · refine q_iinc (pc := 32) (v := (1 : Int32)) (l' := [(1, q_I (l1 + (1 : Int32))), (0, q_R l0)]) C 1 rfl dX8_skipToLineEnd_32 (by decide) (by decide) rfl ?_
      refine q_goto (pc := 35) (tgt := 8) C dX8_skipToLineEnd_35 (by decide) ?_
      refine q_W.sub [1, 0] rfl ?_
      exact hr8 l0 (l1 + (1 : Int32)) _ h
def F_X8_skipToLineEnd_8 (κ : Nat → Nat) : Nat → Option Nat → Int32 → q_X Unit
  | 0, _, _ => q_no
  | n + 1, l0, l1 => F_X8_skipToLineEnd_8B κ (F_X8_skipToLineEnd_8 κ n) l0 l1
theorem M_X8_skipToLineEnd_8 (κ : Nat → Nat) : ∀ (n : Nat) (l0 : Option Nat) (l1 : Int32), q_mo (F_X8_skipToLineEnd_8 κ n l0 l1)
  | 0, _, _ => q_mo_no
  | n + 1, l0, l1 => M_X8_skipToLineEnd_8B κ (F_X8_skipToLineEnd_8 κ n) (M_X8_skipToLineEnd_8 κ n) l0 l1
theorem S_X8_skipToLineEnd_8 {E : q_Ev} {Γ : q_Gm} {w : (Unit ⊕ q_Exn) × q_St} (B : q_Bd E Γ cX8_skipToLineEnd yX8_skipToLineEnd.cls 2 0 0 (none) yX8_skipToLineEnd.name w) (hT : q_nT Γ) : ∀ (n : Nat) (l0 : Option Nat) (l1 : Int32) (σ : q_St), F_X8_skipToLineEnd_8 (q_kap E) n l0 l1 σ = some w → q_W E Γ (q_QF E Γ q_oV w) 2 σ 8 [(0, q_R l0), (1, q_I l1)] []
  | 0, _, _, _, h => by cases h
  | n + 1, l0, l1, σ, h => S_X8_skipToLineEnd_8B B hT (F_X8_skipToLineEnd_8 (q_kap E) n) (S_X8_skipToLineEnd_8 B hT n) (M_X8_skipToLineEnd_8 (q_kap E) n) l0 l1 σ h
def F_X8_skipToLineEnd (κ : Nat → Nat) (l0 : Option Nat) : q_X Unit :=
  q_rd (q_gA l0 11 0) fun v1 => q_rd (q_gI v1 12 1) fun v4 => F_X8_skipToLineEnd_8 κ q_fu l0 v4
theorem M_X8_skipToLineEnd (κ : Nat → Nat) (l0 : Option Nat) : q_mo (F_X8_skipToLineEnd κ l0) := (q_mo_rd fun v1 => (q_mo_rd fun v4 => (M_X8_skipToLineEnd_8 κ q_fu l0 v4)))
set_option maxRecDepth 100000 in
set_option maxHeartbeats 4000000 in
theorem K_X8_skipToLineEnd {E : q_Ev} (l0 : Option Nat) : q_Ct E yX8_skipToLineEnd (.code yX8_skipToLineEnd cX8_skipToLineEnd 2 (none)) 0 0 [q_R l0] q_oV (F_X8_skipToLineEnd (q_kap E) l0) := by
  refine q_enter (by decide) (Nat.le_of_ble_eq_true rfl) (fun Γ σ w h B hT => ?_)
  have C := B.1
  unfold F_X8_skipToLineEnd at h
  refine q_aload_n (pc := 0) C 0 rfl dX8_skipToLineEnd_0 rfl ?_
  refine q_getA (pc := 1) C dX8_skipToLineEnd_1 ql_X8_29 h (fun v1 h => ?_)
  refine q_getI (pc := 4) C dX8_skipToLineEnd_4 ql_X8_111 h (fun v4 h => ?_)
  refine q_istore_n (pc := 7) (l' := [(1, q_I v4), (0, q_R l0)]) C dX8_skipToLineEnd_7 rfl (by decide) rfl ?_
  refine q_W.sub [1, 0] rfl ?_
  exact S_X8_skipToLineEnd_8 B hT q_fu l0 v4 _ h
def F_X8_readStatement_77 (κ : Nat → Nat) : q_X Unit :=
  q_rt ()
theorem M_X8_readStatement_77 (κ : Nat → Nat) : q_mo (F_X8_readStatement_77 κ) := q_mo_rt
theorem N_X8_readStatement_77 (κ : Nat → Nat) : q_ni (F_X8_readStatement_77 κ) := q_ni_rt
set_option maxRecDepth 100000 in
set_option maxHeartbeats 4000000 in
theorem S_X8_readStatement_77 {E : q_Ev} {Γ : q_Gm} {w : (Unit ⊕ q_Exn) × q_St} (B : q_Bd E Γ cX8_readStatement yX8_readStatement.cls 2 6 131 (none) yX8_readStatement.name w) (hT : q_nT Γ) (σ : q_St) (h : F_X8_readStatement_77 (q_kap E) σ = some w) : q_W E Γ (q_QF E Γ q_oV w) 2 σ 77 [] [] := by
  have C := B.1
  unfold F_X8_readStatement_77 at h
  exact q_vret C B.2.2.2.2.1 dX8_readStatement_77 h
def F_X8_readStatement (κ : Nat → Nat) (l0 : Option Nat) (l1 : Option Nat) : q_X Unit :=
  q_rd (q_gI l1 6 0) fun v1 => q_br (¬ v1 = (1 : Int32)) (q_rd (q_gI l1 6 0) fun v16 => q_br (¬ v16 = (3 : Int32)) (q_rd (q_gI l1 6 0) fun v52 => q_br (¬ v52 = (2 : Int32)) (F_X8_readStatement_77 κ) (q_rd (q_gA l0 11 0) fun v60 => q_rd (q_gI v60 12 1) fun v64 => q_wr (q_pF v60 12 1 (.int (v64 + (1 : Int32)))) (q_rd (q_is l0 11) fun _ => q_ca (F_X8_readWords κ l0 l1) fun _v74 => F_X8_readStatement_77 κ))) (q_rd (q_gA l0 11 0) fun v24 => q_rd (q_gI v24 12 1) fun v28 => q_wr (q_pF v24 12 1 (.int (v28 + (2 : Int32)))) (q_rd (q_gA l0 11 0) fun v37 => q_rd (q_is v37 12) fun _ => q_ca (F_X9_takeNumber κ v37 (0 : Int64) (4095 : Int64)) fun v44 => F_X8_readStatement_77 κ))) (q_rd (q_is l0 11) fun _ => q_ca (F_X8_skipToLineEnd κ l0) fun _v9 => F_X8_readStatement_77 κ)
theorem M_X8_readStatement (κ : Nat → Nat) (l0 : Option Nat) (l1 : Option Nat) : q_mo (F_X8_readStatement κ l0 l1) := (q_mo_rd fun v1 => (q_mo_br (q_mo_rd fun v16 => (q_mo_br (q_mo_rd fun v52 => (q_mo_br (M_X8_readStatement_77 κ) (q_mo_rd fun v60 => (q_mo_rd fun v64 => (q_mo_wr (q_mo_rd fun _ => q_mo_ca (M_X8_readWords κ l0 l1) fun _v74 => (M_X8_readStatement_77 κ))))))) (q_mo_rd fun v24 => (q_mo_rd fun v28 => (q_mo_wr (q_mo_rd fun v37 => (q_mo_rd fun _ => q_mo_ca (M_X9_takeNumber κ v37 (0 : Int64) (4095 : Int64)) fun v44 => (M_X8_readStatement_77 κ)))))))) (q_mo_rd fun _ => q_mo_ca (M_X8_skipToLineEnd κ l0) fun _v9 => (M_X8_readStatement_77 κ))))
set_option maxRecDepth 100000 in
set_option maxHeartbeats 4000000 in
theorem K_X8_readStatement {E : q_Ev} (l0 : Option Nat) (l1 : Option Nat) : q_Ct E yX8_readStatement (.code yX8_readStatement cX8_readStatement 2 (none)) 6 131 [q_R l0, q_R l1] q_oV (F_X8_readStatement (q_kap E) l0 l1) := by
  refine q_enter (by decide) (Nat.le_of_ble_eq_true rfl) (fun Γ σ w h B hT => ?_)
  have C := B.1
  unfold F_X8_readStatement at h
  refine q_aload_n (pc := 0) C 1 rfl dX8_readStatement_0 rfl ?_
  refine q_getI (pc := 1) C dX8_readStatement_1 ql_X8_93 h (fun v1 h => ?_)
  refine q_iconst (pc := 4) (v := (1 : Int32)) C dX8_readStatement_4 (by decide) ?_
  refine q_icmp_ne (pc := 5) (tgt := 15) C dX8_readStatement_5 (by decide) h (fun _ h => ?_) (fun _ h => ?_)
  · refine q_aload_n (pc := 15) C 1 rfl dX8_readStatement_15 rfl ?_
    refine q_getI (pc := 16) C dX8_readStatement_16 ql_X8_93 h (fun v16 h => ?_)
    refine q_iconst (pc := 19) (v := (3 : Int32)) C dX8_readStatement_19 (by decide) ?_
    refine q_icmp_ne (pc := 20) (tgt := 51) C dX8_readStatement_20 (by decide) h (fun _ h => ?_) (fun _ h => ?_)
    · refine q_aload_n (pc := 51) C 1 rfl dX8_readStatement_51 rfl ?_
      refine q_getI (pc := 52) C dX8_readStatement_52 ql_X8_93 h (fun v52 h => ?_)
      refine q_iconst (pc := 55) (v := (2 : Int32)) C dX8_readStatement_55 (by decide) ?_
      refine q_icmp_ne (pc := 56) (tgt := 77) C dX8_readStatement_56 (by decide) h (fun _ h => ?_) (fun _ h => ?_)
      · refine q_W.sub [] rfl ?_
        exact S_X8_readStatement_77 B hT _ h
      · refine q_aload_n (pc := 59) C 0 rfl dX8_readStatement_59 rfl ?_
        refine q_getA (pc := 60) C dX8_readStatement_60 ql_X8_29 h (fun v60 h => ?_)
        refine q_dup (pc := 63) C dX8_readStatement_63 rfl ?_
        refine q_getI (pc := 64) C dX8_readStatement_64 ql_X8_111 h (fun v64 h => ?_)
        refine q_iconst (pc := 67) (v := (1 : Int32)) C dX8_readStatement_67 (by decide) ?_
        refine q_iadd (pc := 68) C dX8_readStatement_68 ?_
        refine q_putV (pc := 69) (v := q_I (v64 + (1 : Int32))) C dX8_readStatement_69 ql_X8_111 (Or.inl rfl) rfl rfl h (fun M69 h => ?_)
        refine q_aload_n (pc := 72) C 0 rfl dX8_readStatement_72 rfl ?_
        refine q_aload_n (pc := 73) C 1 rfl dX8_readStatement_73 rfl ?_
        refine q_callV (pc := 74) (As := [q_R l1]) (st := []) (ps := q_psV) C B.2.1 hT q_hpV qm_X8_166 qv_X8_readWords dX8_readStatement_74 rfl rfl (Nat.le_of_ble_eq_true rfl) (q_flo B.2.2.1 B.2.2.2.1 (by decide) (by decide)) (K_X8_readWords l0 l1) (M_X8_readWords (q_kap E) l0 l1) (by exact fun _v74 => (M_X8_readStatement_77 (q_kap E))) h (fun _v74 σ h => ?_)
        refine q_W.st (st' := []) rfl ?_
        refine q_W.sub [] rfl ?_
        exact S_X8_readStatement_77 B hT _ h
    · refine q_aload_n (pc := 23) C 0 rfl dX8_readStatement_23 rfl ?_
      refine q_getA (pc := 24) C dX8_readStatement_24 ql_X8_29 h (fun v24 h => ?_)
      refine q_dup (pc := 27) C dX8_readStatement_27 rfl ?_
      refine q_getI (pc := 28) C dX8_readStatement_28 ql_X8_111 h (fun v28 h => ?_)
      refine q_iconst (pc := 31) (v := (2 : Int32)) C dX8_readStatement_31 (by decide) ?_
      refine q_iadd (pc := 32) C dX8_readStatement_32 ?_
      refine q_putV (pc := 33) (v := q_I (v28 + (2 : Int32))) C dX8_readStatement_33 ql_X8_111 (Or.inl rfl) rfl rfl h (fun M33 h => ?_)
      refine q_aload_n (pc := 36) C 0 rfl dX8_readStatement_36 rfl ?_
      refine q_getA (pc := 37) C dX8_readStatement_37 ql_X8_29 h (fun v37 h => ?_)
      refine q_lconst (pc := 40) (v := (0 : Int64)) C dX8_readStatement_40 (by decide) ?_
      refine q_ldc2 (pc := 41) (v := (4095 : Int64)) C dX8_readStatement_41 qc_X8_160 ?_
      refine q_callV (pc := 44) (As := [q_L (0 : Int64), q_L (4095 : Int64)]) (st := []) (ps := q_psL) C B.2.1 hT q_hpL qm_X8_162 qv_X9_takeNumber dX8_readStatement_44 rfl rfl (Nat.le_of_ble_eq_true rfl) (q_flo B.2.2.1 B.2.2.2.1 (by decide) (by decide)) (K_X9_takeNumber v37 (0 : Int64) (4095 : Int64)) (M_X9_takeNumber (q_kap E) v37 (0 : Int64) (4095 : Int64)) (by exact fun v44 => (M_X8_readStatement_77 (q_kap E))) h (fun v44 σ h => ?_)
      refine q_W.st (st' := [q_L v44]) rfl ?_
      refine q_pop2_2 (pc := 47) C dX8_readStatement_47 rfl ?_
      refine q_goto (pc := 48) (tgt := 77) C dX8_readStatement_48 (by decide) ?_
      refine q_W.sub [] rfl ?_
      exact S_X8_readStatement_77 B hT _ h
  · refine q_aload_n (pc := 8) C 0 rfl dX8_readStatement_8 rfl ?_
    refine q_callV (pc := 9) (As := []) (st := []) (ps := q_psV) C B.2.1 hT q_hpV qm_X8_157 qv_X8_skipToLineEnd dX8_readStatement_9 rfl rfl (Nat.le_of_ble_eq_true rfl) (q_flo B.2.2.1 B.2.2.2.1 (by decide) (by decide)) (K_X8_skipToLineEnd l0) (M_X8_skipToLineEnd (q_kap E) l0) (by exact fun _v9 => (M_X8_readStatement_77 (q_kap E))) h (fun _v9 σ h => ?_)
    refine q_W.st (st' := []) rfl ?_
    refine q_goto (pc := 12) (tgt := 77) C dX8_readStatement_12 (by decide) ?_
    refine q_W.sub [] rfl ?_
    exact S_X8_readStatement_77 B hT _ h
def F_J8_newLength_cabcc_21 (κ : Nat → Nat) (l0 : Int32) (l1 : Int32) : q_X Int32 :=
  q_no
theorem M_J8_newLength_cabcc_21 (κ : Nat → Nat) (l0 : Int32) (l1 : Int32) : q_mo (F_J8_newLength_cabcc_21 κ l0 l1) := q_mo_no
theorem N_J8_newLength_cabcc_21 (κ : Nat → Nat) (l0 : Int32) (l1 : Int32) : q_ni (F_J8_newLength_cabcc_21 κ l0 l1) := q_ni_no
set_option maxRecDepth 100000 in
set_option maxHeartbeats 4000000 in
theorem S_J8_newLength_cabcc_21 {E : q_Ev} {Γ : q_Gm} {w : (Int32 ⊕ q_Exn) × q_St} (B : q_Bd E Γ cJ8_newLength_cabcc yJ8_newLength_cabcc.cls 4 1 21 (some .int) yJ8_newLength_cabcc.name w) (hT : q_nT Γ) (l0 : Int32) (l1 : Int32) (σ : q_St) (h : F_J8_newLength_cabcc_21 (q_kap E) l0 l1 σ = some w) : q_W E Γ (q_QF E Γ q_oI w) 4 σ 21 [(0, q_I l0), (1, q_I l1)] [] := by
  have C := B.1
  unfold F_J8_newLength_cabcc_21 at h
  refine q_iload_n (pc := 21) C 0 rfl dJ8_newLength_cabcc_21 rfl ?_
  refine q_iload_n (pc := 22) C 1 rfl dJ8_newLength_cabcc_22 rfl ?_
  cases h
def F_J8_newLength_cabcc (κ : Nat → Nat) (l0 : Int32) (l1 : Int32) (l2 : Int32) : q_X Int32 :=
  q_ca (F_J9_max_7cf53 κ l1 l2) fun v3 => q_br ((l0 + v3) ≤ (0 : Int32)) (F_J8_newLength_cabcc_21 κ l0 l1) (q_br ((2147483639 : Int32) < (l0 + v3)) (F_J8_newLength_cabcc_21 κ l0 l1) (q_rt (l0 + v3)))
theorem M_J8_newLength_cabcc (κ : Nat → Nat) (l0 : Int32) (l1 : Int32) (l2 : Int32) : q_mo (F_J8_newLength_cabcc κ l0 l1 l2) := (q_mo_ca (M_J9_max_7cf53 κ l1 l2) fun v3 => (q_mo_br (M_J8_newLength_cabcc_21 κ l0 l1) (q_mo_br (M_J8_newLength_cabcc_21 κ l0 l1) q_mo_rt)))
theorem N_J8_newLength_cabcc (κ : Nat → Nat) (l0 : Int32) (l1 : Int32) (l2 : Int32) : q_ni (F_J8_newLength_cabcc κ l0 l1 l2) := (q_ni_ca (N_J9_max_7cf53 κ l1 l2) fun v3 => (q_ni_br (N_J8_newLength_cabcc_21 κ l0 l1) (q_ni_br (N_J8_newLength_cabcc_21 κ l0 l1) q_ni_rt)))
set_option maxRecDepth 100000 in
set_option maxHeartbeats 4000000 in
theorem K_J8_newLength_cabcc {E : q_Ev} (l0 : Int32) (l1 : Int32) (l2 : Int32) : q_Ct E yJ8_newLength_cabcc (.code yJ8_newLength_cabcc cJ8_newLength_cabcc 4 (some .int)) 1 21 [q_I l0, q_I l1, q_I l2] q_oI (F_J8_newLength_cabcc (q_kap E) l0 l1 l2) := by
  refine q_enter (by decide) (Nat.le_of_ble_eq_true rfl) (fun Γ σ w h B hT => ?_)
  have C := B.1
  unfold F_J8_newLength_cabcc at h
  refine q_iload_n (pc := 0) C 0 rfl dJ8_newLength_cabcc_0 rfl ?_
  refine q_iload_n (pc := 1) C 1 rfl dJ8_newLength_cabcc_1 rfl ?_
  refine q_iload_n (pc := 2) C 2 rfl dJ8_newLength_cabcc_2 rfl ?_
  refine q_callS (pc := 3) (As := [q_I l1, q_I l2]) (st := [q_I l0]) (ps := q_psI) C B.2.1 hT q_hpI qm_J8_194 qs_J9_max_7cf53 dJ8_newLength_cabcc_3 rfl rfl (Nat.le_of_ble_eq_true rfl) (q_flo B.2.2.1 B.2.2.2.1 (by decide) (by decide)) (K_J9_max_7cf53 l1 l2) (M_J9_max_7cf53 (q_kap E) l1 l2) (by exact fun v3 => (q_mo_br (M_J8_newLength_cabcc_21 (q_kap E) l0 l1) (q_mo_br (M_J8_newLength_cabcc_21 (q_kap E) l0 l1) q_mo_rt))) h (fun v3 σ h => ?_)
  refine q_W.st (st' := [q_I v3, q_I l0]) rfl ?_
  refine q_iadd (pc := 6) C dJ8_newLength_cabcc_6 ?_
  refine q_istore_n (pc := 7) (l' := [(3, q_I (l0 + v3)), (0, q_I l0), (1, q_I l1), (2, q_I l2)]) C dJ8_newLength_cabcc_7 rfl (by decide) rfl ?_
  refine q_iconst (pc := 8) (v := (0 : Int32)) C dJ8_newLength_cabcc_8 (by decide) ?_
  refine q_iload_n (pc := 9) C 0 rfl dJ8_newLength_cabcc_9 rfl ?_
  refine q_icmp_ge (pc := 10) (tgt := 21) C dJ8_newLength_cabcc_10 (by decide) h (fun _ h => ?_) (fun _ h => ?_)
  · refine q_W.sub [1, 2] rfl ?_
    exact S_J8_newLength_cabcc_21 B hT l0 l1 _ h
  · refine q_iload_n (pc := 13) C 0 rfl dJ8_newLength_cabcc_13 rfl ?_
    refine q_ldcI (pc := 14) (v := (2147483639 : Int32)) C dJ8_newLength_cabcc_14 qc_J8_200 ?_
    refine q_icmp_gt (pc := 16) (tgt := 21) C dJ8_newLength_cabcc_16 (by decide) h (fun _ h => ?_) (fun _ h => ?_)
    · refine q_W.sub [1, 2] rfl ?_
      exact S_J8_newLength_cabcc_21 B hT l0 l1 _ h
    · refine q_iload_n (pc := 19) C 0 rfl dJ8_newLength_cabcc_19 rfl ?_
      exact q_iret C B.2.2.2.2.1 dJ8_newLength_cabcc_20 h
def F_J7_copyOf_6403c_24 (κ : Nat → Nat) (l0 : Option Nat) (l1 : Int32) (s0 : Option Nat) : q_X (Option Nat) :=
  q_rd (q_len l0) fun v30 => q_ca (F_J9_min_7cf53 κ v30 l1) fun v32 => q_wr (q_cA l0 (0 : Int32) s0 (0 : Int32) v32) (q_rt s0)
theorem M_J7_copyOf_6403c_24 (κ : Nat → Nat) (l0 : Option Nat) (l1 : Int32) (s0 : Option Nat) : q_mo (F_J7_copyOf_6403c_24 κ l0 l1 s0) := (q_mo_rd fun v30 => (q_mo_ca (M_J9_min_7cf53 κ v30 l1) fun v32 => (q_mo_wr q_mo_rt)))
theorem N_J7_copyOf_6403c_24 (κ : Nat → Nat) (l0 : Option Nat) (l1 : Int32) (s0 : Option Nat) : q_ni (F_J7_copyOf_6403c_24 κ l0 l1 s0) := (q_ni_rd fun v30 => (q_ni_ca (N_J9_min_7cf53 κ v30 l1) fun v32 => (q_ni_wr q_ni_rt)))
set_option maxRecDepth 100000 in
set_option maxHeartbeats 4000000 in
theorem S_J7_copyOf_6403c_24 {E : q_Ev} {Γ : q_Gm} {w : (Option Nat ⊕ q_Exn) × q_St} (B : q_Bd E Γ cJ7_copyOf_6403c yJ7_copyOf_6403c.cls 4 1 40 (some (.array (.object "java/lang/Object"))) yJ7_copyOf_6403c.name w) (hT : q_nT Γ) (l0 : Option Nat) (l1 : Int32) (s0 : Option Nat) (σ : q_St) (h : F_J7_copyOf_6403c_24 (q_kap E) l0 l1 s0 σ = some w) : q_W E Γ (q_QF E Γ q_oR w) 4 σ 24 [(0, q_R l0), (1, q_I l1)] [q_R s0] := by
  have C := B.1
  unfold F_J7_copyOf_6403c_24 at h
  refine q_astore_n (pc := 24) (l' := [(3, q_R s0), (0, q_R l0), (1, q_I l1)]) C dJ7_copyOf_6403c_24 rfl (by decide) rfl ?_
  refine q_aload_n (pc := 25) C 1 rfl dJ7_copyOf_6403c_25 rfl ?_
  refine q_iconst (pc := 26) (v := (0 : Int32)) C dJ7_copyOf_6403c_26 (by decide) ?_
  refine q_aload_n (pc := 27) C 0 rfl dJ7_copyOf_6403c_27 rfl ?_
  refine q_iconst (pc := 28) (v := (0 : Int32)) C dJ7_copyOf_6403c_28 (by decide) ?_
  refine q_aload_n (pc := 29) C 1 rfl dJ7_copyOf_6403c_29 rfl ?_
  refine q_alen (pc := 30) C dJ7_copyOf_6403c_30 h (fun v30 h => ?_)
  refine q_iload_n (pc := 31) C 2 rfl dJ7_copyOf_6403c_31 rfl ?_
  refine q_callS (pc := 32) (As := [q_I v30, q_I l1]) (st := [q_I (0 : Int32), q_R s0, q_I (0 : Int32), q_R l0]) (ps := q_psI) C B.2.1 hT q_hpI qm_J7_304 qs_J9_min_7cf53 dJ7_copyOf_6403c_32 rfl rfl (Nat.le_of_ble_eq_true rfl) (q_flo B.2.2.1 B.2.2.2.1 (by decide) (by decide)) (K_J9_min_7cf53 v30 l1) (M_J9_min_7cf53 (q_kap E) v30 l1) (by exact fun v32 => (q_mo_wr q_mo_rt)) h (fun v32 σ h => ?_)
  refine q_W.st (st' := [q_I v32, q_I (0 : Int32), q_R s0, q_I (0 : Int32), q_R l0]) rfl ?_
  refine q_cpA (pc := 35) C dJ7_copyOf_6403c_35 qy_J7_150 (q_flo B.2.2.1 B.2.2.2.1 (by decide) (by decide)) (Nat.le_of_ble_eq_true rfl) h (fun M35 h => ?_)
  refine q_aload_n (pc := 38) C 0 rfl dJ7_copyOf_6403c_38 rfl ?_
  exact q_aret C B.2.2.2.2.1 (Or.inr ⟨_, rfl⟩) dJ7_copyOf_6403c_39 h
def F_J7_copyOf_6403c (κ : Nat → Nat) (l0 : Option Nat) (l1 : Int32) (l2 : Option Nat) : q_X (Option Nat) :=
  q_br (¬ l2 = (some (κ 98))) (q_no) (q_gd (¬ l1 < 0 ∧ l1.toNatClampNeg ≤ 65536) (q_mk (q_nA 7 l1) l1.toNatClampNeg fun a7 => F_J7_copyOf_6403c_24 κ l0 l1 (some a7)))
theorem M_J7_copyOf_6403c (κ : Nat → Nat) (l0 : Option Nat) (l1 : Int32) (l2 : Option Nat) : q_mo (F_J7_copyOf_6403c κ l0 l1 l2) := (q_mo_br q_mo_no (q_mo_gd (q_mo_mk fun a7 => (M_J7_copyOf_6403c_24 κ l0 l1 (some a7)))))
theorem N_J7_copyOf_6403c (κ : Nat → Nat) (l0 : Option Nat) (l1 : Int32) (l2 : Option Nat) : q_ni (F_J7_copyOf_6403c κ l0 l1 l2) := (q_ni_br q_ni_no (q_ni_gd (q_ni_mk fun a7 => (N_J7_copyOf_6403c_24 κ l0 l1 (some a7)))))
set_option maxRecDepth 100000 in
set_option maxHeartbeats 4000000 in
theorem K_J7_copyOf_6403c {E : q_Ev} (l0 : Option Nat) (l1 : Int32) (l2 : Option Nat) : q_Ct E yJ7_copyOf_6403c (.code yJ7_copyOf_6403c cJ7_copyOf_6403c 4 (some (.array (.object "java/lang/Object")))) 1 40 [q_R l0, q_I l1, q_R l2] q_oR (F_J7_copyOf_6403c (q_kap E) l0 l1 l2) := by
  refine q_enter (by decide) (Nat.le_of_ble_eq_true rfl) (fun Γ σ w h B hT => ?_)
  have C := B.1
  unfold F_J7_copyOf_6403c at h
  refine q_aload_n (pc := 0) C 2 rfl dJ7_copyOf_6403c_0 rfl ?_
  refine q_ldcM (pc := 1) C dJ7_copyOf_6403c_1 qb_J7_110 ?_
  refine q_acmp_ne (pc := 3) (tgt := 13) C dJ7_copyOf_6403c_3 (by decide) h (fun _ h => ?_) (fun _ h => ?_)
  · refine q_aload_n (pc := 13) C 2 rfl dJ7_copyOf_6403c_13 rfl ?_
    cases h
  · refine q_iload_n (pc := 6) C 1 rfl dJ7_copyOf_6403c_6 rfl ?_
    refine q_newA (pc := 7) (t := 7) C dJ7_copyOf_6403c_7 qb_J7_2 (by decide +kernel) rfl (by decide) (by exact fun a7 => (M_J7_copyOf_6403c_24 (q_kap E) l0 l1 (some a7))) B.2.1 h (fun a7 σ h => ?_)
    refine q_goto (pc := 10) (tgt := 24) C dJ7_copyOf_6403c_10 (by decide) ?_
    refine q_W.sub [0, 1] rfl ?_
    exact S_J7_copyOf_6403c_24 B hT l0 l1 (some a7) _ h
def F_J7_copyOf_1904c (κ : Nat → Nat) (l0 : Option Nat) (l1 : Int32) : q_X (Option Nat) :=
  q_rd (fun M => (q_ar l0 M).bind fun p => if p.2.1 = 7 then some () else none) fun _ => q_ca (F_J7_copyOf_6403c κ l0 l1 (some (κ 98))) fun v6 => q_rt v6
theorem M_J7_copyOf_1904c (κ : Nat → Nat) (l0 : Option Nat) (l1 : Int32) : q_mo (F_J7_copyOf_1904c κ l0 l1) := (q_mo_rd fun _ => (q_mo_ca (M_J7_copyOf_6403c κ l0 l1 (some (κ 98))) fun v6 => q_mo_rt))
theorem N_J7_copyOf_1904c (κ : Nat → Nat) (l0 : Option Nat) (l1 : Int32) : q_ni (F_J7_copyOf_1904c κ l0 l1) := (q_ni_rd fun _ => (q_ni_ca (N_J7_copyOf_6403c κ l0 l1 (some (κ 98))) fun v6 => q_ni_rt))
set_option maxRecDepth 100000 in
set_option maxHeartbeats 4000000 in
theorem K_J7_copyOf_1904c {E : q_Ev} (l0 : Option Nat) (l1 : Int32) : q_Ct E yJ7_copyOf_1904c (.code yJ7_copyOf_1904c cJ7_copyOf_1904c 2 (some (.array (.object "java/lang/Object")))) 2 63 [q_R l0, q_I l1] q_oR (F_J7_copyOf_1904c (q_kap E) l0 l1) := by
  refine q_enter (by decide) (Nat.le_of_ble_eq_true rfl) (fun Γ σ w h B hT => ?_)
  have C := B.1
  unfold F_J7_copyOf_1904c at h
  refine q_aload_n (pc := 0) C 0 rfl dJ7_copyOf_1904c_0 rfl ?_
  refine q_iload_n (pc := 1) C 1 rfl dJ7_copyOf_1904c_1 rfl ?_
  refine q_aload_n (pc := 2) C 0 rfl dJ7_copyOf_1904c_2 rfl ?_
  refine q_getCl (pc := 3) C dJ7_copyOf_1904c_3 qy_J7_86 (q_flo B.2.2.1 B.2.2.2.1 (by decide) (by decide)) (Nat.le_of_ble_eq_true rfl) h (fun h => ?_)
  refine q_callS (pc := 6) (As := [q_R l0, q_I l1, q_R (some ((q_kap E) 98))]) (st := []) (ps := q_psR) C B.2.1 hT q_hpR qm_J7_300 qs_J7_copyOf_6403c dJ7_copyOf_1904c_6 rfl rfl (Nat.le_of_ble_eq_true rfl) (q_flo B.2.2.1 B.2.2.2.1 (by decide) (by decide)) (K_J7_copyOf_6403c l0 l1 (some ((q_kap E) 98))) (M_J7_copyOf_6403c (q_kap E) l0 l1 (some ((q_kap E) 98))) (by exact fun v6 => q_mo_rt) h (fun v6 σ h => ?_)
  refine q_W.st (st' := [q_R v6]) rfl ?_
  exact q_aret C B.2.2.2.2.1 (Or.inr ⟨_, rfl⟩) dJ7_copyOf_1904c_9 h
def F_Jx4a65c_grow_92f84_20 (κ : Nat → Nat) (l0 : Option Nat) (l1 : Int32) (l2 : Int32) : q_X (Option Nat) :=
  q_ca (F_J8_newLength_cabcc κ l2 (l1 - l2) (l2 >>> ((1 : Int32) &&& 31))) fun v27 => q_rd (q_gA l0 2 1) fun v33 => q_ca (F_J7_copyOf_1904c κ v33 v27) fun v37 => q_wr (q_pF l0 2 1 (va_rf v37)) (q_rt v37)
theorem M_Jx4a65c_grow_92f84_20 (κ : Nat → Nat) (l0 : Option Nat) (l1 : Int32) (l2 : Int32) : q_mo (F_Jx4a65c_grow_92f84_20 κ l0 l1 l2) := (q_mo_ca (M_J8_newLength_cabcc κ l2 (l1 - l2) (l2 >>> ((1 : Int32) &&& 31))) fun v27 => (q_mo_rd fun v33 => (q_mo_ca (M_J7_copyOf_1904c κ v33 v27) fun v37 => (q_mo_wr q_mo_rt))))
theorem N_Jx4a65c_grow_92f84_20 (κ : Nat → Nat) (l0 : Option Nat) (l1 : Int32) (l2 : Int32) : q_ni (F_Jx4a65c_grow_92f84_20 κ l0 l1 l2) := (q_ni_ca (N_J8_newLength_cabcc κ l2 (l1 - l2) (l2 >>> ((1 : Int32) &&& 31))) fun v27 => (q_ni_rd fun v33 => (q_ni_ca (N_J7_copyOf_1904c κ v33 v27) fun v37 => (q_ni_wr q_ni_rt))))
set_option maxRecDepth 100000 in
set_option maxHeartbeats 4000000 in
theorem S_Jx4a65c_grow_92f84_20 {E : q_Ev} {Γ : q_Gm} {w : (Option Nat ⊕ q_Exn) × q_St} (B : q_Bd E Γ cJx4a65c_grow_92f84 yJx4a65c_grow_92f84.cls 4 3 84 (some (.array (.object "java/lang/Object"))) yJx4a65c_grow_92f84.name w) (hT : q_nT Γ) (l0 : Option Nat) (l1 : Int32) (l2 : Int32) (σ : q_St) (h : F_Jx4a65c_grow_92f84_20 (q_kap E) l0 l1 l2 σ = some w) : q_W E Γ (q_QF E Γ q_oR w) 4 σ 20 [(0, q_R l0), (1, q_I l1), (2, q_I l2)] [] := by
  have C := B.1
  unfold F_Jx4a65c_grow_92f84_20 at h
  refine q_iload_n (pc := 20) C 2 rfl dJx4a65c_grow_92f84_20 rfl ?_
  refine q_iload_n (pc := 21) C 1 rfl dJx4a65c_grow_92f84_21 rfl ?_
  refine q_iload_n (pc := 22) C 2 rfl dJx4a65c_grow_92f84_22 rfl ?_
  refine q_isub (pc := 23) C dJx4a65c_grow_92f84_23 ?_
  refine q_iload_n (pc := 24) C 2 rfl dJx4a65c_grow_92f84_24 rfl ?_
  refine q_iconst (pc := 25) (v := (1 : Int32)) C dJx4a65c_grow_92f84_25 (by decide) ?_
  refine q_ishr (pc := 26) C dJx4a65c_grow_92f84_26 ?_
  refine q_callS (pc := 27) (As := [q_I l2, q_I (l1 - l2), q_I (l2 >>> ((1 : Int32) &&& 31))]) (st := []) (ps := q_psI) C B.2.1 hT q_hpI qm_Jx4a65c_73 qs_J8_newLength_cabcc dJx4a65c_grow_92f84_27 rfl rfl (Nat.le_of_ble_eq_true rfl) (q_flo B.2.2.1 B.2.2.2.1 (by decide) (by decide)) (K_J8_newLength_cabcc l2 (l1 - l2) (l2 >>> ((1 : Int32) &&& 31))) (M_J8_newLength_cabcc (q_kap E) l2 (l1 - l2) (l2 >>> ((1 : Int32) &&& 31))) (by exact fun v27 => (q_mo_rd fun v33 => (q_mo_ca (M_J7_copyOf_1904c (q_kap E) v33 v27) fun v37 => (q_mo_wr q_mo_rt)))) h (fun v27 σ h => ?_)
  refine q_W.st (st' := [q_I v27]) rfl ?_
  refine q_istore_n (pc := 30) (l' := [(3, q_I v27), (0, q_R l0), (1, q_I l1), (2, q_I l2)]) C dJx4a65c_grow_92f84_30 rfl (by decide) rfl ?_
  refine q_aload_n (pc := 31) C 1 rfl dJx4a65c_grow_92f84_31 rfl ?_
  refine q_aload_n (pc := 32) C 1 rfl dJx4a65c_grow_92f84_32 rfl ?_
  refine q_getA (pc := 33) C dJx4a65c_grow_92f84_33 ql_Jx4a65c_9 h (fun v33 h => ?_)
  refine q_iload_n (pc := 36) C 0 rfl dJx4a65c_grow_92f84_36 rfl ?_
  refine q_callS (pc := 37) (As := [q_R v33, q_I v27]) (st := [q_R l0]) (ps := q_psR) C B.2.1 hT q_hpR qm_Jx4a65c_66 qs_J7_copyOf_1904c dJx4a65c_grow_92f84_37 rfl rfl (Nat.le_of_ble_eq_true rfl) (q_flo B.2.2.1 B.2.2.2.1 (by decide) (by decide)) (K_J7_copyOf_1904c v33 v27) (M_J7_copyOf_1904c (q_kap E) v33 v27) (by exact fun v37 => (q_mo_wr q_mo_rt)) h (fun v37 σ h => ?_)
  refine q_W.st (st' := [q_R v37, q_R l0]) rfl ?_
  refine q_dup_x1 (pc := 40) C dJx4a65c_grow_92f84_40 rfl rfl ?_
  refine q_putV (pc := 41) (v := q_R v37) C dJx4a65c_grow_92f84_41 ql_Jx4a65c_9 (Or.inl rfl) q_nfA q_nfA' h (fun M41 h => ?_)
  exact q_aret C B.2.2.2.2.1 (Or.inr ⟨_, rfl⟩) dJx4a65c_grow_92f84_44 h
def F_Jx4a65c_grow_92f84 (κ : Nat → Nat) (l0 : Option Nat) (l1 : Int32) : q_X (Option Nat) :=
  q_rd (q_gA l0 2 1) fun v1 => q_rd (q_len v1) fun v4 => q_br (0 < v4) (F_Jx4a65c_grow_92f84_20 κ l0 l1 v4) (q_rd (q_gA l0 2 1) fun v11 => q_br (v11 = (some (κ 99))) (q_ca (F_J9_max_7cf53 κ (10 : Int32) l1) fun v49 => q_gd (¬ v49 < 0 ∧ v49.toNatClampNeg ≤ 65536) (q_mk (q_nA 7 v49) v49.toNatClampNeg fun a52 => q_wr (q_pF l0 2 1 (va_rf (some a52))) (q_rt (some a52)))) (F_Jx4a65c_grow_92f84_20 κ l0 l1 v4))
theorem M_Jx4a65c_grow_92f84 (κ : Nat → Nat) (l0 : Option Nat) (l1 : Int32) : q_mo (F_Jx4a65c_grow_92f84 κ l0 l1) := (q_mo_rd fun v1 => (q_mo_rd fun v4 => (q_mo_br (M_Jx4a65c_grow_92f84_20 κ l0 l1 v4) (q_mo_rd fun v11 => (q_mo_br (q_mo_ca (M_J9_max_7cf53 κ (10 : Int32) l1) fun v49 => (q_mo_gd (q_mo_mk fun a52 => (q_mo_wr q_mo_rt)))) (M_Jx4a65c_grow_92f84_20 κ l0 l1 v4))))))
theorem N_Jx4a65c_grow_92f84 (κ : Nat → Nat) (l0 : Option Nat) (l1 : Int32) : q_ni (F_Jx4a65c_grow_92f84 κ l0 l1) := (q_ni_rd fun v1 => (q_ni_rd fun v4 => (q_ni_br (N_Jx4a65c_grow_92f84_20 κ l0 l1 v4) (q_ni_rd fun v11 => (q_ni_br (q_ni_ca (N_J9_max_7cf53 κ (10 : Int32) l1) fun v49 => (q_ni_gd (q_ni_mk fun a52 => (q_ni_wr q_ni_rt)))) (N_Jx4a65c_grow_92f84_20 κ l0 l1 v4))))))
set_option maxRecDepth 100000 in
set_option maxHeartbeats 4000000 in
theorem K_Jx4a65c_grow_92f84 {E : q_Ev} (l0 : Option Nat) (l1 : Int32) : q_Ct E yJx4a65c_grow_92f84 (.code yJx4a65c_grow_92f84 cJx4a65c_grow_92f84 4 (some (.array (.object "java/lang/Object")))) 3 84 [q_R l0, q_I l1] q_oR (F_Jx4a65c_grow_92f84 (q_kap E) l0 l1) := by
  refine q_enter (by decide) (Nat.le_of_ble_eq_true rfl) (fun Γ σ w h B hT => ?_)
  have C := B.1
  unfold F_Jx4a65c_grow_92f84 at h
  refine q_aload_n (pc := 0) C 0 rfl dJx4a65c_grow_92f84_0 rfl ?_
  refine q_getA (pc := 1) C dJx4a65c_grow_92f84_1 ql_Jx4a65c_9 h (fun v1 h => ?_)
  refine q_alen (pc := 4) C dJx4a65c_grow_92f84_4 h (fun v4 h => ?_)
  refine q_istore_n (pc := 5) (l' := [(2, q_I v4), (0, q_R l0), (1, q_I l1)]) C dJx4a65c_grow_92f84_5 rfl (by decide) rfl ?_
  refine q_iload_n (pc := 6) C 0 rfl dJx4a65c_grow_92f84_6 rfl ?_
  refine q_if_gt (pc := 7) (tgt := 20) C dJx4a65c_grow_92f84_7 (by decide) h (fun _ h => ?_) (fun _ h => ?_)
  · refine q_W.sub [1, 2, 0] rfl ?_
    exact S_Jx4a65c_grow_92f84_20 B hT l0 l1 v4 _ h
  · refine q_aload_n (pc := 10) C 1 rfl dJx4a65c_grow_92f84_10 rfl ?_
    refine q_getA (pc := 11) C dJx4a65c_grow_92f84_11 ql_Jx4a65c_9 h (fun v11 h => ?_)
    refine q_getsD (pc := 14) C dJx4a65c_grow_92f84_14 qz_Jx4a65c_39 ?_
    refine q_acmp_eq (pc := 17) (tgt := 45) C dJx4a65c_grow_92f84_17 (by decide) h (fun _ h => ?_) (fun _ h => ?_)
    · refine q_aload_n (pc := 45) C 1 rfl dJx4a65c_grow_92f84_45 rfl ?_
      refine q_bipush (pc := 46) (v := (10 : Int32)) C dJx4a65c_grow_92f84_46 (by decide) ?_
      refine q_iload_n (pc := 48) C 2 rfl dJx4a65c_grow_92f84_48 rfl ?_
      refine q_callS (pc := 49) (As := [q_I (10 : Int32), q_I l1]) (st := [q_R l0]) (ps := q_psI) C B.2.1 hT q_hpI qm_Jx4a65c_79 qs_J9_max_7cf53 dJx4a65c_grow_92f84_49 rfl rfl (Nat.le_of_ble_eq_true rfl) (q_flo B.2.2.1 B.2.2.2.1 (by decide) (by decide)) (K_J9_max_7cf53 (10 : Int32) l1) (M_J9_max_7cf53 (q_kap E) (10 : Int32) l1) (by exact fun v49 => (q_mo_gd (q_mo_mk fun a52 => (q_mo_wr q_mo_rt)))) h (fun v49 σ h => ?_)
      refine q_W.st (st' := [q_I v49, q_R l0]) rfl ?_
      refine q_newA (pc := 52) (t := 7) C dJx4a65c_grow_92f84_52 qb_Jx4a65c_7 (by decide +kernel) rfl (by decide) (by exact fun a52 => (q_mo_wr q_mo_rt)) B.2.1 h (fun a52 σ h => ?_)
      refine q_dup_x1 (pc := 55) C dJx4a65c_grow_92f84_55 rfl rfl ?_
      refine q_putV (pc := 56) (v := q_R (some a52)) C dJx4a65c_grow_92f84_56 ql_Jx4a65c_9 (Or.inl rfl) q_nfA q_nfA' h (fun M56 h => ?_)
      exact q_aret C B.2.2.2.2.1 (Or.inr ⟨_, rfl⟩) dJx4a65c_grow_92f84_59 h
    · refine q_W.sub [1, 2, 0] rfl ?_
      exact S_Jx4a65c_grow_92f84_20 B hT l0 l1 v4 _ h
def F_Jx4a65c_grow_d5877 (κ : Nat → Nat) (l0 : Option Nat) : q_X (Option Nat) :=
  q_rd (q_gI l0 2 2) fun v2 => q_rd (q_is l0 2) fun _ => q_ca (F_Jx4a65c_grow_92f84 κ l0 (v2 + (1 : Int32))) fun v7 => q_rt v7
theorem M_Jx4a65c_grow_d5877 (κ : Nat → Nat) (l0 : Option Nat) : q_mo (F_Jx4a65c_grow_d5877 κ l0) := (q_mo_rd fun v2 => (q_mo_rd fun _ => q_mo_ca (M_Jx4a65c_grow_92f84 κ l0 (v2 + (1 : Int32))) fun v7 => q_mo_rt))
theorem N_Jx4a65c_grow_d5877 (κ : Nat → Nat) (l0 : Option Nat) : q_ni (F_Jx4a65c_grow_d5877 κ l0) := (q_ni_rd fun v2 => (q_ni_rd fun _ => q_ni_ca (N_Jx4a65c_grow_92f84 κ l0 (v2 + (1 : Int32))) fun v7 => q_ni_rt))
set_option maxRecDepth 100000 in
set_option maxHeartbeats 4000000 in
theorem K_Jx4a65c_grow_d5877 {E : q_Ev} (l0 : Option Nat) : q_Ct E yJx4a65c_grow_d5877 (.code yJx4a65c_grow_d5877 cJx4a65c_grow_d5877 1 (some (.array (.object "java/lang/Object")))) 4 107 [q_R l0] q_oR (F_Jx4a65c_grow_d5877 (q_kap E) l0) := by
  refine q_enter (by decide) (Nat.le_of_ble_eq_true rfl) (fun Γ σ w h B hT => ?_)
  have C := B.1
  unfold F_Jx4a65c_grow_d5877 at h
  refine q_aload_n (pc := 0) C 0 rfl dJx4a65c_grow_d5877_0 rfl ?_
  refine q_aload_n (pc := 1) C 0 rfl dJx4a65c_grow_d5877_1 rfl ?_
  refine q_getI (pc := 2) C dJx4a65c_grow_d5877_2 ql_Jx4a65c_48 h (fun v2 h => ?_)
  refine q_iconst (pc := 5) (v := (1 : Int32)) C dJx4a65c_grow_d5877_5 (by decide) ?_
  refine q_iadd (pc := 6) C dJx4a65c_grow_d5877_6 ?_
  refine q_callV (pc := 7) (As := [q_I (v2 + (1 : Int32))]) (st := []) (ps := q_psR) C B.2.1 hT q_hpR qm_Jx4a65c_69 qv_Jx4a65c_grow_92f84 dJx4a65c_grow_d5877_7 rfl rfl (Nat.le_of_ble_eq_true rfl) (q_flo B.2.2.1 B.2.2.2.1 (by decide) (by decide)) (K_Jx4a65c_grow_92f84 l0 (v2 + (1 : Int32))) (M_Jx4a65c_grow_92f84 (q_kap E) l0 (v2 + (1 : Int32))) (by exact fun v7 => q_mo_rt) h (fun v7 σ h => ?_)
  refine q_W.st (st' := [q_R v7]) rfl ?_
  exact q_aret C B.2.2.2.2.1 (Or.inr ⟨_, rfl⟩) dJx4a65c_grow_d5877_10 h
def F_Jx4a65c_add_72be8_11 (κ : Nat → Nat) (l0 : Option Nat) (l1 : Option Nat) (l2 : Option Nat) (l3 : Int32) : q_X Unit :=
  q_wr (q_sT 7 6 l2 l3 l1) (q_wr (q_pF l0 2 2 (.int (l3 + (1 : Int32)))) (q_rt ()))
theorem M_Jx4a65c_add_72be8_11 (κ : Nat → Nat) (l0 : Option Nat) (l1 : Option Nat) (l2 : Option Nat) (l3 : Int32) : q_mo (F_Jx4a65c_add_72be8_11 κ l0 l1 l2 l3) := (q_mo_wr (q_mo_wr q_mo_rt))
theorem N_Jx4a65c_add_72be8_11 (κ : Nat → Nat) (l0 : Option Nat) (l1 : Option Nat) (l2 : Option Nat) (l3 : Int32) : q_ni (F_Jx4a65c_add_72be8_11 κ l0 l1 l2 l3) := (q_ni_wr (q_ni_wr q_ni_rt))
set_option maxRecDepth 100000 in
set_option maxHeartbeats 4000000 in
theorem S_Jx4a65c_add_72be8_11 {E : q_Ev} {Γ : q_Gm} {w : (Unit ⊕ q_Exn) × q_St} (B : q_Bd E Γ cJx4a65c_add_72be8 yJx4a65c_add_72be8.cls 4 5 127 (none) yJx4a65c_add_72be8.name w) (hT : q_nT Γ) (l0 : Option Nat) (l1 : Option Nat) (l2 : Option Nat) (l3 : Int32) (σ : q_St) (h : F_Jx4a65c_add_72be8_11 (q_kap E) l0 l1 l2 l3 σ = some w) : q_W E Γ (q_QF E Γ q_oV w) 4 σ 11 [(0, q_R l0), (1, q_R l1), (2, q_R l2), (3, q_I l3)] [] := by
  have C := B.1
  unfold F_Jx4a65c_add_72be8_11 at h
  refine q_aload_n (pc := 11) C 2 rfl dJx4a65c_add_72be8_11 rfl ?_
  refine q_iload_n (pc := 12) C 3 rfl dJx4a65c_add_72be8_12 rfl ?_
  refine q_aload_n (pc := 13) C 1 rfl dJx4a65c_add_72be8_13 rfl ?_
  refine q_stA (pc := 14) (t := 7) (ci := 6) C dJx4a65c_add_72be8_14 rfl rfl (Or.inr (by decide +kernel)) h (fun M14 h => ?_)
  refine q_aload_n (pc := 15) C 0 rfl dJx4a65c_add_72be8_15 rfl ?_
  refine q_iload_n (pc := 16) C 3 rfl dJx4a65c_add_72be8_16 rfl ?_
  refine q_iconst (pc := 17) (v := (1 : Int32)) C dJx4a65c_add_72be8_17 (by decide) ?_
  refine q_iadd (pc := 18) C dJx4a65c_add_72be8_18 ?_
  refine q_putV (pc := 19) (v := q_I (l3 + (1 : Int32))) C dJx4a65c_add_72be8_19 ql_Jx4a65c_48 (Or.inl rfl) rfl rfl h (fun M19 h => ?_)
  exact q_vret C B.2.2.2.2.1 dJx4a65c_add_72be8_22 h
def F_Jx4a65c_add_72be8 (κ : Nat → Nat) (l0 : Option Nat) (l1 : Option Nat) (l2 : Option Nat) (l3 : Int32) : q_X Unit :=
  q_rd (q_len l2) fun v2 => q_br (¬ l3 = v2) (F_Jx4a65c_add_72be8_11 κ l0 l1 l2 l3) (q_rd (q_is l0 2) fun _ => q_ca (F_Jx4a65c_grow_d5877 κ l0) fun v7 => F_Jx4a65c_add_72be8_11 κ l0 l1 v7 l3)
theorem M_Jx4a65c_add_72be8 (κ : Nat → Nat) (l0 : Option Nat) (l1 : Option Nat) (l2 : Option Nat) (l3 : Int32) : q_mo (F_Jx4a65c_add_72be8 κ l0 l1 l2 l3) := (q_mo_rd fun v2 => (q_mo_br (M_Jx4a65c_add_72be8_11 κ l0 l1 l2 l3) (q_mo_rd fun _ => q_mo_ca (M_Jx4a65c_grow_d5877 κ l0) fun v7 => (M_Jx4a65c_add_72be8_11 κ l0 l1 v7 l3))))
theorem N_Jx4a65c_add_72be8 (κ : Nat → Nat) (l0 : Option Nat) (l1 : Option Nat) (l2 : Option Nat) (l3 : Int32) : q_ni (F_Jx4a65c_add_72be8 κ l0 l1 l2 l3) := (q_ni_rd fun v2 => (q_ni_br (N_Jx4a65c_add_72be8_11 κ l0 l1 l2 l3) (q_ni_rd fun _ => q_ni_ca (N_Jx4a65c_grow_d5877 κ l0) fun v7 => (N_Jx4a65c_add_72be8_11 κ l0 l1 v7 l3))))
set_option maxRecDepth 100000 in
set_option maxHeartbeats 4000000 in
theorem K_Jx4a65c_add_72be8 {E : q_Ev} (l0 : Option Nat) (l1 : Option Nat) (l2 : Option Nat) (l3 : Int32) : q_Ct E yJx4a65c_add_72be8 (.code yJx4a65c_add_72be8 cJx4a65c_add_72be8 4 (none)) 5 127 [q_R l0, q_R l1, q_R l2, q_I l3] q_oV (F_Jx4a65c_add_72be8 (q_kap E) l0 l1 l2 l3) := by
  refine q_enter (by decide) (Nat.le_of_ble_eq_true rfl) (fun Γ σ w h B hT => ?_)
  have C := B.1
  unfold F_Jx4a65c_add_72be8 at h
  refine q_iload_n (pc := 0) C 3 rfl dJx4a65c_add_72be8_0 rfl ?_
  refine q_aload_n (pc := 1) C 2 rfl dJx4a65c_add_72be8_1 rfl ?_
  refine q_alen (pc := 2) C dJx4a65c_add_72be8_2 h (fun v2 h => ?_)
  refine q_icmp_ne (pc := 3) (tgt := 11) C dJx4a65c_add_72be8_3 (by decide) h (fun _ h => ?_) (fun _ h => ?_)
  · exact S_Jx4a65c_add_72be8_11 B hT l0 l1 l2 l3 _ h
  · refine q_aload_n (pc := 6) C 0 rfl dJx4a65c_add_72be8_6 rfl ?_
    refine q_callV (pc := 7) (As := []) (st := []) (ps := q_psR) C B.2.1 hT q_hpR qm_Jx4a65c_129 qv_Jx4a65c_grow_d5877 dJx4a65c_add_72be8_7 rfl rfl (Nat.le_of_ble_eq_true rfl) (q_flo B.2.2.1 B.2.2.2.1 (by decide) (by decide)) (K_Jx4a65c_grow_d5877 l0) (M_Jx4a65c_grow_d5877 (q_kap E) l0) (by exact fun v7 => (M_Jx4a65c_add_72be8_11 (q_kap E) l0 l1 v7 l3)) h (fun v7 σ h => ?_)
    refine q_W.st (st' := [q_R v7]) rfl ?_
    refine q_astore_n (pc := 10) (l' := [(2, q_R v7), (0, q_R l0), (1, q_R l1), (3, q_I l3)]) C dJx4a65c_add_72be8_10 rfl (by decide) rfl ?_
    refine q_W.sub [1, 2, 0, 3] rfl ?_
    exact S_Jx4a65c_add_72be8_11 B hT l0 l1 v7 l3 _ h
def F_Jx4a65c_add_9ea2d (κ : Nat → Nat) (l0 : Option Nat) (l1 : Option Nat) : q_X Int32 :=
  q_rd (q_gI l0 2 0) fun v2 => q_wr (q_pF l0 2 0 (.int (v2 + (1 : Int32)))) (q_rd (q_gA l0 2 1) fun v13 => q_rd (q_gI l0 2 2) fun v17 => q_rd (q_is l0 2) fun _ => q_ca (F_Jx4a65c_add_72be8 κ l0 l1 v13 v17) fun _v20 => q_rz (1 : Int32))
theorem M_Jx4a65c_add_9ea2d (κ : Nat → Nat) (l0 : Option Nat) (l1 : Option Nat) : q_mo (F_Jx4a65c_add_9ea2d κ l0 l1) := (q_mo_rd fun v2 => (q_mo_wr (q_mo_rd fun v13 => (q_mo_rd fun v17 => (q_mo_rd fun _ => q_mo_ca (M_Jx4a65c_add_72be8 κ l0 l1 v13 v17) fun _v20 => q_mo_rz)))))
set_option maxRecDepth 100000 in
set_option maxHeartbeats 4000000 in
theorem K_Jx4a65c_add_9ea2d {E : q_Ev} (l0 : Option Nat) (l1 : Option Nat) : q_Ct E yJx4a65c_add_9ea2d (.code yJx4a65c_add_9ea2d cJx4a65c_add_9ea2d 2 (some .boolean)) 6 150 [q_R l0, q_R l1] q_oI (F_Jx4a65c_add_9ea2d (q_kap E) l0 l1) := by
  refine q_enter (by decide) (Nat.le_of_ble_eq_true rfl) (fun Γ σ w h B hT => ?_)
  have C := B.1
  unfold F_Jx4a65c_add_9ea2d at h
  refine q_aload_n (pc := 0) C 0 rfl dJx4a65c_add_9ea2d_0 rfl ?_
  refine q_dup (pc := 1) C dJx4a65c_add_9ea2d_1 rfl ?_
  refine q_getI (pc := 2) C dJx4a65c_add_9ea2d_2 ql_Jx4a65c_63 h (fun v2 h => ?_)
  refine q_iconst (pc := 5) (v := (1 : Int32)) C dJx4a65c_add_9ea2d_5 (by decide) ?_
  refine q_iadd (pc := 6) C dJx4a65c_add_9ea2d_6 ?_
  refine q_putV (pc := 7) (v := q_I (v2 + (1 : Int32))) C dJx4a65c_add_9ea2d_7 ql_Jx4a65c_63 (Or.inl rfl) rfl rfl h (fun M7 h => ?_)
  refine q_aload_n (pc := 10) C 0 rfl dJx4a65c_add_9ea2d_10 rfl ?_
  refine q_aload_n (pc := 11) C 1 rfl dJx4a65c_add_9ea2d_11 rfl ?_
  refine q_aload_n (pc := 12) C 0 rfl dJx4a65c_add_9ea2d_12 rfl ?_
  refine q_getA (pc := 13) C dJx4a65c_add_9ea2d_13 ql_Jx4a65c_9 h (fun v13 h => ?_)
  refine q_aload_n (pc := 16) C 0 rfl dJx4a65c_add_9ea2d_16 rfl ?_
  refine q_getI (pc := 17) C dJx4a65c_add_9ea2d_17 ql_Jx4a65c_48 h (fun v17 h => ?_)
  refine q_callV (pc := 20) (As := [q_R l1, q_R v13, q_I v17]) (st := []) (ps := q_psV) C B.2.1 hT q_hpV qm_Jx4a65c_131 qv_Jx4a65c_add_72be8 dJx4a65c_add_9ea2d_20 rfl rfl (Nat.le_of_ble_eq_true rfl) (q_flo B.2.2.1 B.2.2.2.1 (by decide) (by decide)) (K_Jx4a65c_add_72be8 l0 l1 v13 v17) (M_Jx4a65c_add_72be8 (q_kap E) l0 l1 v13 v17) (by exact fun _v20 => q_mo_rz) h (fun _v20 σ h => ?_)
  refine q_W.st (st' := []) rfl ?_
  refine q_iconst (pc := 23) (v := (1 : Int32)) C dJx4a65c_add_9ea2d_23 (by decide) ?_
  exact q_zret C B.2.2.2.2.1 dJx4a65c_add_9ea2d_24 h
def F_X8_addLabel (κ : Nat → Nat) (l0 : Option Nat) (l1 : Option Nat) : q_X Unit :=
  q_rd (q_gA l0 11 1) fun v1 => q_rd (q_gI l1 6 1) fun v5 => q_rd (q_is v1 13) fun _ => q_ca (F_X10_hash κ v1 v5) fun v8 => q_rd (q_gA l0 11 6) fun v18 => q_rd (q_lI 1 v18 (v8 &&& (255 : Int32))) fun v22 => q_wr (q_pF l1 6 3 (.int v22)) (q_rd (q_gA l0 11 6) fun v27 => q_rd (q_gA l0 11 5) fun v32 => q_rd (q_is v32 2) fun _ => q_ca (F_Jx4a65c_size_8abf5 κ v32) fun v35 => q_wr (q_sI 1 v27 (v8 &&& (255 : Int32)) v35) (q_rd (q_gA l0 11 5) fun v40 => q_rd (q_is v40 2) fun _ => q_ca (F_Jx4a65c_add_9ea2d κ v40 l1) fun v44 => q_rt ()))
theorem M_X8_addLabel (κ : Nat → Nat) (l0 : Option Nat) (l1 : Option Nat) : q_mo (F_X8_addLabel κ l0 l1) := (q_mo_rd fun v1 => (q_mo_rd fun v5 => (q_mo_rd fun _ => q_mo_ca (M_X10_hash κ v1 v5) fun v8 => (q_mo_rd fun v18 => (q_mo_rd fun v22 => (q_mo_wr (q_mo_rd fun v27 => (q_mo_rd fun v32 => (q_mo_rd fun _ => q_mo_ca (M_Jx4a65c_size_8abf5 κ v32) fun v35 => (q_mo_wr (q_mo_rd fun v40 => (q_mo_rd fun _ => q_mo_ca (M_Jx4a65c_add_9ea2d κ v40 l1) fun v44 => q_mo_rt))))))))))))
set_option maxRecDepth 100000 in
set_option maxHeartbeats 4000000 in
theorem K_X8_addLabel {E : q_Ev} (l0 : Option Nat) (l1 : Option Nat) : q_Ct E yX8_addLabel (.code yX8_addLabel cX8_addLabel 3 (none)) 7 171 [q_R l0, q_R l1] q_oV (F_X8_addLabel (q_kap E) l0 l1) := by
  refine q_enter (by decide) (Nat.le_of_ble_eq_true rfl) (fun Γ σ w h B hT => ?_)
  have C := B.1
  unfold F_X8_addLabel at h
  refine q_aload_n (pc := 0) C 0 rfl dX8_addLabel_0 rfl ?_
  refine q_getA (pc := 1) C dX8_addLabel_1 ql_X8_39 h (fun v1 h => ?_)
  refine q_aload_n (pc := 4) C 1 rfl dX8_addLabel_4 rfl ?_
  refine q_getI (pc := 5) C dX8_addLabel_5 ql_X8_184 h (fun v5 h => ?_)
  refine q_callV (pc := 8) (As := [q_I v5]) (st := []) (ps := q_psI) C B.2.1 hT q_hpI qm_X8_187 qv_X10_hash dX8_addLabel_8 rfl rfl (Nat.le_of_ble_eq_true rfl) (q_flo B.2.2.1 B.2.2.2.1 (by decide) (by decide)) (K_X10_hash v1 v5) (M_X10_hash (q_kap E) v1 v5) (by exact fun v8 => (q_mo_rd fun v18 => (q_mo_rd fun v22 => (q_mo_wr (q_mo_rd fun v27 => (q_mo_rd fun v32 => (q_mo_rd fun _ => q_mo_ca (M_Jx4a65c_size_8abf5 (q_kap E) v32) fun v35 => (q_mo_wr (q_mo_rd fun v40 => (q_mo_rd fun _ => q_mo_ca (M_Jx4a65c_add_9ea2d (q_kap E) v40 l1) fun v44 => q_mo_rt)))))))))) h (fun v8 σ h => ?_)
  refine q_W.st (st' := [q_I v8]) rfl ?_
  refine q_sipush (pc := 11) (v := (255 : Int32)) C dX8_addLabel_11 (by decide) ?_
  refine q_iand (pc := 14) C dX8_addLabel_14 ?_
  refine q_istore_n (pc := 15) (l' := [(2, q_I (v8 &&& (255 : Int32))), (0, q_R l0), (1, q_R l1)]) C dX8_addLabel_15 rfl (by decide) rfl ?_
  refine q_aload_n (pc := 16) C 2 rfl dX8_addLabel_16 rfl ?_
  refine q_aload_n (pc := 17) C 1 rfl dX8_addLabel_17 rfl ?_
  refine q_getA (pc := 18) C dX8_addLabel_18 ql_X8_21 h (fun v18 h => ?_)
  refine q_iload_n (pc := 21) C 0 rfl dX8_addLabel_21 rfl ?_
  refine q_ldI (pc := 22) C dX8_addLabel_22 (Or.inr (Or.inl ⟨rfl, rfl⟩)) h (fun v22 h => ?_)
  refine q_putV (pc := 23) (v := q_I v22) C dX8_addLabel_23 ql_X8_190 (Or.inl rfl) rfl rfl h (fun M23 h => ?_)
  refine q_aload_n (pc := 26) C 1 rfl dX8_addLabel_26 rfl ?_
  refine q_getA (pc := 27) C dX8_addLabel_27 ql_X8_21 h (fun v27 h => ?_)
  refine q_iload_n (pc := 30) C 0 rfl dX8_addLabel_30 rfl ?_
  refine q_aload_n (pc := 31) C 1 rfl dX8_addLabel_31 rfl ?_
  refine q_getA (pc := 32) C dX8_addLabel_32 ql_X8_18 h (fun v32 h => ?_)
  refine q_callV (pc := 35) (As := []) (st := [q_I (v8 &&& (255 : Int32)), q_R v27]) (ps := q_psI) C B.2.1 hT q_hpI qm_X8_80 qv_Jx4a65c_size_8abf5 dX8_addLabel_35 rfl rfl (Nat.le_of_ble_eq_true rfl) (q_flo B.2.2.1 B.2.2.2.1 (by decide) (by decide)) (K_Jx4a65c_size_8abf5 v32) (M_Jx4a65c_size_8abf5 (q_kap E) v32) (by exact fun v35 => (q_mo_wr (q_mo_rd fun v40 => (q_mo_rd fun _ => q_mo_ca (M_Jx4a65c_add_9ea2d (q_kap E) v40 l1) fun v44 => q_mo_rt)))) h (fun v35 σ h => ?_)
  refine q_W.st (st' := [q_I v35, q_I (v8 &&& (255 : Int32)), q_R v27]) rfl ?_
  refine q_stI (pc := 38) C dX8_addLabel_38 h (fun M38 h => ?_)
  refine q_aload_n (pc := 39) C 1 rfl dX8_addLabel_39 rfl ?_
  refine q_getA (pc := 40) C dX8_addLabel_40 ql_X8_18 h (fun v40 h => ?_)
  refine q_aload_n (pc := 43) C 2 rfl dX8_addLabel_43 rfl ?_
  refine q_callV (pc := 44) (As := [q_R l1]) (st := []) (ps := q_psI) C B.2.1 hT q_hpI qm_X8_135 qv_Jx4a65c_add_9ea2d dX8_addLabel_44 rfl rfl (Nat.le_of_ble_eq_true rfl) (q_flo B.2.2.1 B.2.2.2.1 (by decide) (by decide)) (K_Jx4a65c_add_9ea2d v40 l1) (M_Jx4a65c_add_9ea2d (q_kap E) v40 l1) (by exact fun v44 => q_mo_rt) h (fun v44 σ h => ?_)
  refine q_W.st (st' := [q_I v44]) rfl ?_
  refine q_pop (pc := 47) C dX8_addLabel_47 rfl ?_
  exact q_vret C B.2.2.2.2.1 dX8_addLabel_48 h
def F_X8_sortAt_50 (κ : Nat → Nat) (s0 : Int32) : q_X Int32 :=
  q_rt s0
theorem M_X8_sortAt_50 (κ : Nat → Nat) (s0 : Int32) : q_mo (F_X8_sortAt_50 κ s0) := q_mo_rt
theorem N_X8_sortAt_50 (κ : Nat → Nat) (s0 : Int32) : q_ni (F_X8_sortAt_50 κ s0) := q_ni_rt
set_option maxRecDepth 100000 in
set_option maxHeartbeats 4000000 in
theorem S_X8_sortAt_50 {E : q_Ev} {Γ : q_Gm} {w : (Int32 ⊕ q_Exn) × q_St} (B : q_Bd E Γ cX8_sortAt yX8_sortAt.cls 2 5 108 (some .int) yX8_sortAt.name w) (hT : q_nT Γ) (s0 : Int32) (σ : q_St) (h : F_X8_sortAt_50 (q_kap E) s0 σ = some w) : q_W E Γ (q_QF E Γ q_oI w) 2 σ 50 [] [q_I s0] := by
  have C := B.1
  unfold F_X8_sortAt_50 at h
  exact q_iret C B.2.2.2.2.1 dX8_sortAt_50 h
def F_X8_sortAt (κ : Nat → Nat) (l0 : Option Nat) (l1 : Int32) : q_X Int32 :=
  q_rd (q_gA l0 11 1) fun v1 => q_rd (q_gA v1 13 1) fun v4 => q_rd (q_lI 0 v4 l1) fun v8 => q_br (¬ v8 = (1 : Int32)) (q_rd (q_gA l0 11 1) fun v16 => q_rd (q_is v16 13) fun _ => q_ca (F_X10_isSign κ v16 l1 (46 : Int32)) fun v22 => q_br (¬ v22 = 0) (q_rd (q_gA l0 11 1) fun v31 => q_rd (q_is v31 13) fun _ => q_ca (F_X10_says κ v31 (l1 + (1 : Int32)) (some (κ 13))) fun v39 => q_br (v39 = 0) (F_X8_sortAt_50 κ (2 : Int32)) (F_X8_sortAt_50 κ (3 : Int32))) (q_rt (0 : Int32))) (q_rt (1 : Int32))
theorem M_X8_sortAt (κ : Nat → Nat) (l0 : Option Nat) (l1 : Int32) : q_mo (F_X8_sortAt κ l0 l1) := (q_mo_rd fun v1 => (q_mo_rd fun v4 => (q_mo_rd fun v8 => (q_mo_br (q_mo_rd fun v16 => (q_mo_rd fun _ => q_mo_ca (M_X10_isSign κ v16 l1 (46 : Int32)) fun v22 => (q_mo_br (q_mo_rd fun v31 => (q_mo_rd fun _ => q_mo_ca (M_X10_says κ v31 (l1 + (1 : Int32)) (some (κ 13))) fun v39 => (q_mo_br (M_X8_sortAt_50 κ (2 : Int32)) (M_X8_sortAt_50 κ (3 : Int32))))) q_mo_rt))) q_mo_rt))))
set_option maxRecDepth 100000 in
set_option maxHeartbeats 4000000 in
theorem K_X8_sortAt {E : q_Ev} (l0 : Option Nat) (l1 : Int32) : q_Ct E yX8_sortAt (.code yX8_sortAt cX8_sortAt 2 (some .int)) 5 108 [q_R l0, q_I l1] q_oI (F_X8_sortAt (q_kap E) l0 l1) := by
  refine q_enter (by decide) (Nat.le_of_ble_eq_true rfl) (fun Γ σ w h B hT => ?_)
  have C := B.1
  unfold F_X8_sortAt at h
  refine q_aload_n (pc := 0) C 0 rfl dX8_sortAt_0 rfl ?_
  refine q_getA (pc := 1) C dX8_sortAt_1 ql_X8_39 h (fun v1 h => ?_)
  refine q_getA (pc := 4) C dX8_sortAt_4 ql_X8_148 h (fun v4 h => ?_)
  refine q_iload_n (pc := 7) C 1 rfl dX8_sortAt_7 rfl ?_
  refine q_ldI (pc := 8) C dX8_sortAt_8 (Or.inl ⟨rfl, rfl⟩) h (fun v8 h => ?_)
  refine q_iconst (pc := 9) (v := (1 : Int32)) C dX8_sortAt_9 (by decide) ?_
  refine q_icmp_ne (pc := 10) (tgt := 15) C dX8_sortAt_10 (by decide) h (fun _ h => ?_) (fun _ h => ?_)
  · refine q_aload_n (pc := 15) C 0 rfl dX8_sortAt_15 rfl ?_
    refine q_getA (pc := 16) C dX8_sortAt_16 ql_X8_39 h (fun v16 h => ?_)
    refine q_iload_n (pc := 19) C 1 rfl dX8_sortAt_19 rfl ?_
    refine q_bipush (pc := 20) (v := (46 : Int32)) C dX8_sortAt_20 (by decide) ?_
    refine q_callV (pc := 22) (As := [q_I l1, q_I (46 : Int32)]) (st := []) (ps := q_psI) C B.2.1 hT q_hpI qm_X8_117 qv_X10_isSign dX8_sortAt_22 rfl rfl (Nat.le_of_ble_eq_true rfl) (q_flo B.2.2.1 B.2.2.2.1 (by decide) (by decide)) (K_X10_isSign v16 l1 (46 : Int32)) (M_X10_isSign (q_kap E) v16 l1 (46 : Int32)) (by exact fun v22 => (q_mo_br (q_mo_rd fun v31 => (q_mo_rd fun _ => q_mo_ca (M_X10_says (q_kap E) v31 (l1 + (1 : Int32)) (some ((q_kap E) 13))) fun v39 => (q_mo_br (M_X8_sortAt_50 (q_kap E) (2 : Int32)) (M_X8_sortAt_50 (q_kap E) (3 : Int32))))) q_mo_rt)) h (fun v22 σ h => ?_)
    refine q_W.st (st' := [q_I v22]) rfl ?_
    refine q_if_ne (pc := 25) (tgt := 30) C dX8_sortAt_25 (by decide) h (fun _ h => ?_) (fun _ h => ?_)
    · refine q_aload_n (pc := 30) C 0 rfl dX8_sortAt_30 rfl ?_
      refine q_getA (pc := 31) C dX8_sortAt_31 ql_X8_39 h (fun v31 h => ?_)
      refine q_iload_n (pc := 34) C 1 rfl dX8_sortAt_34 rfl ?_
      refine q_iconst (pc := 35) (v := (1 : Int32)) C dX8_sortAt_35 (by decide) ?_
      refine q_iadd (pc := 36) C dX8_sortAt_36 ?_
      refine q_ldcT (pc := 37) (k := 13) (tx := "at") C dX8_sortAt_37 (by decide +kernel) (by decide) ?_
      refine q_callV (pc := 39) (As := [q_I (l1 + (1 : Int32)), q_R (some ((q_kap E) 13))]) (st := []) (ps := q_psI) C B.2.1 hT q_hpI qm_X8_153 qv_X10_says dX8_sortAt_39 rfl rfl (Nat.le_of_ble_eq_true rfl) (q_flo B.2.2.1 B.2.2.2.1 (by decide) (by decide)) (K_X10_says v31 (l1 + (1 : Int32)) (some ((q_kap E) 13))) (M_X10_says (q_kap E) v31 (l1 + (1 : Int32)) (some ((q_kap E) 13))) (by exact fun v39 => (q_mo_br (M_X8_sortAt_50 (q_kap E) (2 : Int32)) (M_X8_sortAt_50 (q_kap E) (3 : Int32)))) h (fun v39 σ h => ?_)
      refine q_W.st (st' := [q_I v39]) rfl ?_
      refine q_if_eq (pc := 42) (tgt := 49) C dX8_sortAt_42 (by decide) h (fun _ h => ?_) (fun _ h => ?_)
      · refine q_iconst (pc := 49) (v := (2 : Int32)) C dX8_sortAt_49 (by decide) ?_
        refine q_W.sub [] rfl ?_
        exact S_X8_sortAt_50 B hT (2 : Int32) _ h
      · refine q_iconst (pc := 45) (v := (3 : Int32)) C dX8_sortAt_45 (by decide) ?_
        refine q_goto (pc := 46) (tgt := 50) C dX8_sortAt_46 (by decide) ?_
        refine q_W.sub [] rfl ?_
        exact S_X8_sortAt_50 B hT (3 : Int32) _ h
    · refine q_iconst (pc := 28) (v := (0 : Int32)) C dX8_sortAt_28 (by decide) ?_
      exact q_iret C B.2.2.2.2.1 dX8_sortAt_29 h
  · refine q_iconst (pc := 13) (v := (1 : Int32)) C dX8_sortAt_13 (by decide) ?_
    exact q_iret C B.2.2.2.2.1 dX8_sortAt_14 h
