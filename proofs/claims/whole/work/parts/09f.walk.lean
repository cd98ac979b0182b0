def F_X11_told_85 (κ : Nat → Nat) (l2 : Int32) (l3 : Option Nat) : q_X Int64 :=
  q_br (l2.toInt < 0 ∨ 3 < l2.toInt) (q_th "java/lang/IllegalArgumentException") (q_br (l2 = 0) (q_rd (q_gI l3 4 9) fun v117 => q_rt v117.toInt64) (q_br (l2 = 1) (q_rd (q_gI l3 4 10) fun v123 => q_rt v123.toInt64) (q_br (l2 = 2) (q_rd (q_gI l3 4 7) fun v129 => q_rt v129.toInt64) (q_br (l2 = 3) (q_rd (q_gI l3 4 8) fun v135 => q_rt v135.toInt64) (q_no)))))
theorem M_X11_told_85 (κ : Nat → Nat) (l2 : Int32) (l3 : Option Nat) : q_mo (F_X11_told_85 κ l2 l3) := (q_mo_br q_mo_th (q_mo_br (q_mo_rd fun v117 => q_mo_rt) (q_mo_br (q_mo_rd fun v123 => q_mo_rt) (q_mo_br (q_mo_rd fun v129 => q_mo_rt) (q_mo_br (q_mo_rd fun v135 => q_mo_rt) q_mo_no)))))
set_option maxRecDepth 100000 in
set_option maxHeartbeats 4000000 in
theorem S_X11_told_85 {E : q_Ev} {Γ : q_Gm} {w : (Int64 ⊕ q_Exn) × q_St} (B : q_Bd E Γ cX11_told yX11_told.cls 4 6 90 (some .long) yX11_told.name w) (hT : q_nT Γ) (l2 : Int32) (l3 : Option Nat) (σ : q_St) (h : F_X11_told_85 (q_kap E) l2 l3 σ = some w) : q_W E Γ (q_QF E Γ q_oL w) 4 σ 85 [(2, q_I l2), (3, q_R l3)] [] := by
  have C := B.1
  unfold F_X11_told_85 at h
  refine q_iload_n (pc := 85) C 0 rfl dX11_told_85 rfl ?_
  by_cases cd : l2.toInt < 0 ∨ 3 < l2.toInt
  · replace h := (q_br_e h).1 cd
    refine q_tabOut (pc := 86) (tgt := 140) C dX11_told_86 cd (by decide) ?_
    exact q_throw (pc := 140) (names := ["java/lang/RuntimeException", "java/lang/Exception"]) (k9 := 20) (tx := "nothing is told of that") C B.2.1 hT qt_X11_85_89.2.2.2 qt_X11_85_89.2.2.1 (by decide +kernel) qt_X11_85_89.1 qt_X11_85_89.2.1 dX11_told_140 dX11_told_143 dX11_told_144 dX11_told_146 dX11_told_149 (q_flo B.2.2.1 B.2.2.2.1 (by decide) (by decide)) (Nat.le_of_ble_eq_true rfl) h
  replace h := (q_br_e h).2 cd
  by_cases cv : l2 = 0
  · replace h := (q_br_e h).1 cv
    refine q_tabIn (pc := 86) (tgt := 116) (off := 30) C dX11_told_86 (by rw [cv]; decide) (by rw [cv]; decide) (by rw [cv]; rfl) (by decide) ?_
    refine q_aload_n (pc := 116) C 1 rfl dX11_told_116 rfl ?_
    refine q_getI (pc := 117) C dX11_told_117 ql_X11_189 h (fun v117 h => ?_)
    refine q_i2l (pc := 120) C dX11_told_120 ?_
    exact q_lret C B.2.2.2.2.1 dX11_told_121 h
  replace h := (q_br_e h).2 cv
  by_cases cv : l2 = 1
  · replace h := (q_br_e h).1 cv
    refine q_tabIn (pc := 86) (tgt := 122) (off := 36) C dX11_told_86 (by rw [cv]; decide) (by rw [cv]; decide) (by rw [cv]; rfl) (by decide) ?_
    refine q_aload_n (pc := 122) C 1 rfl dX11_told_122 rfl ?_
    refine q_getI (pc := 123) C dX11_told_123 ql_X11_200 h (fun v123 h => ?_)
    refine q_i2l (pc := 126) C dX11_told_126 ?_
    exact q_lret C B.2.2.2.2.1 dX11_told_127 h
  replace h := (q_br_e h).2 cv
  by_cases cv : l2 = 2
  · replace h := (q_br_e h).1 cv
    refine q_tabIn (pc := 86) (tgt := 128) (off := 42) C dX11_told_86 (by rw [cv]; decide) (by rw [cv]; decide) (by rw [cv]; rfl) (by decide) ?_
    refine q_aload_n (pc := 128) C 1 rfl dX11_told_128 rfl ?_
    refine q_getI (pc := 129) C dX11_told_129 ql_X11_203 h (fun v129 h => ?_)
    refine q_i2l (pc := 132) C dX11_told_132 ?_
    exact q_lret C B.2.2.2.2.1 dX11_told_133 h
  replace h := (q_br_e h).2 cv
  by_cases cv : l2 = 3
  · replace h := (q_br_e h).1 cv
    refine q_tabIn (pc := 86) (tgt := 134) (off := 48) C dX11_told_86 (by rw [cv]; decide) (by rw [cv]; decide) (by rw [cv]; rfl) (by decide) ?_
    refine q_aload_n (pc := 134) C 1 rfl dX11_told_134 rfl ?_
    refine q_getI (pc := 135) C dX11_told_135 ql_X11_206 h (fun v135 h => ?_)
    refine q_i2l (pc := 138) C dX11_told_138 ?_
    exact q_lret C B.2.2.2.2.1 dX11_told_139 h
  replace h := (q_br_e h).2 cv
  cases h
def F_X11_told_58 (κ : Nat → Nat) (l2 : Int32) (l3 : Option Nat) : q_X Int64 :=
  q_br (l2 < (20 : Int32)) (F_X11_told_85 κ l2 l3) (q_rd (q_gI l3 4 9) fun v68 => q_br (((20 : Int32) + v68) ≤ l2) (F_X11_told_85 κ l2 l3) (q_rd (q_gA l3 4 5) fun v76 => q_rd (q_lL v76 (l2 - (20 : Int32))) fun v83 => q_rt v83))
theorem M_X11_told_58 (κ : Nat → Nat) (l2 : Int32) (l3 : Option Nat) : q_mo (F_X11_told_58 κ l2 l3) := (q_mo_br (M_X11_told_85 κ l2 l3) (q_mo_rd fun v68 => (q_mo_br (M_X11_told_85 κ l2 l3) (q_mo_rd fun v76 => (q_mo_rd fun v83 => q_mo_rt)))))
set_option maxRecDepth 100000 in
set_option maxHeartbeats 4000000 in
theorem S_X11_told_58 {E : q_Ev} {Γ : q_Gm} {w : (Int64 ⊕ q_Exn) × q_St} (B : q_Bd E Γ cX11_told yX11_told.cls 4 6 90 (some .long) yX11_told.name w) (hT : q_nT Γ) (l2 : Int32) (l3 : Option Nat) (σ : q_St) (h : F_X11_told_58 (q_kap E) l2 l3 σ = some w) : q_W E Γ (q_QF E Γ q_oL w) 4 σ 58 [(2, q_I l2), (3, q_R l3)] [] := by
  have C := B.1
  unfold F_X11_told_58 at h
  refine q_iload_n (pc := 58) C 0 rfl dX11_told_58 rfl ?_
  refine q_bipush (pc := 59) (v := (20 : Int32)) C dX11_told_59 (by decide) ?_
  refine q_icmp_lt (pc := 61) (tgt := 85) C dX11_told_61 (by decide) h (fun _ h => ?_) (fun _ h => ?_)
  · exact S_X11_told_85 B hT l2 l3 _ h
  · refine q_iload_n (pc := 64) C 0 rfl dX11_told_64 rfl ?_
    refine q_bipush (pc := 65) (v := (20 : Int32)) C dX11_told_65 (by decide) ?_
    refine q_aload_n (pc := 67) C 1 rfl dX11_told_67 rfl ?_
    refine q_getI (pc := 68) C dX11_told_68 ql_X11_189 h (fun v68 h => ?_)
    refine q_iadd (pc := 71) C dX11_told_71 ?_
    refine q_icmp_ge (pc := 72) (tgt := 85) C dX11_told_72 (by decide) h (fun _ h => ?_) (fun _ h => ?_)
    · exact S_X11_told_85 B hT l2 l3 _ h
    · refine q_aload_n (pc := 75) C 1 rfl dX11_told_75 rfl ?_
      refine q_getA (pc := 76) C dX11_told_76 ql_X11_197 h (fun v76 h => ?_)
      refine q_iload_n (pc := 79) C 0 rfl dX11_told_79 rfl ?_
      refine q_bipush (pc := 80) (v := (20 : Int32)) C dX11_told_80 (by decide) ?_
      refine q_isub (pc := 82) C dX11_told_82 ?_
      refine q_ldL (pc := 83) C dX11_told_83 h (fun v83 h => ?_)
      exact q_lret C B.2.2.2.2.1 dX11_told_84 h
def F_X11_told (κ : Nat → Nat) (l0 : Option Nat) (l1 : Int32) (l2 : Int32) : q_X Int64 :=
  q_rd (q_gA l0 14 2) fun v1 => q_rd (q_is v1 8) fun _ => q_ca (F_X5_hasInstruction κ v1 l1) fun v5 => q_br (¬ v5 = 0) (q_rd (q_gA l0 14 2) fun v22 => q_rd (q_gA v22 8 1) fun v25 => q_rd (q_lA 4 v25 l1) fun v29 => q_br (l2 < (10 : Int32)) (F_X11_told_58 κ l2 v29) (q_rd (q_gI v29 4 9) fun v41 => q_br (((10 : Int32) + v41) ≤ l2) (F_X11_told_58 κ l2 v29) (q_rd (q_gA v29 4 4) fun v49 => q_rd (q_lL v49 (l2 - (10 : Int32))) fun v56 => q_rt v56))) (q_th "java/lang/IndexOutOfBoundsException")
theorem M_X11_told (κ : Nat → Nat) (l0 : Option Nat) (l1 : Int32) (l2 : Int32) : q_mo (F_X11_told κ l0 l1 l2) := (q_mo_rd fun v1 => (q_mo_rd fun _ => q_mo_ca (M_X5_hasInstruction κ v1 l1) fun v5 => (q_mo_br (q_mo_rd fun v22 => (q_mo_rd fun v25 => (q_mo_rd fun v29 => (q_mo_br (M_X11_told_58 κ l2 v29) (q_mo_rd fun v41 => (q_mo_br (M_X11_told_58 κ l2 v29) (q_mo_rd fun v49 => (q_mo_rd fun v56 => q_mo_rt)))))))) q_mo_th)))
set_option maxRecDepth 100000 in
set_option maxHeartbeats 4000000 in
theorem K_X11_told {E : q_Ev} (l0 : Option Nat) (l1 : Int32) (l2 : Int32) : q_Ct E yX11_told (.code yX11_told cX11_told 4 (some .long)) 6 90 [q_R l0, q_I l1, q_I l2] q_oL (F_X11_told (q_kap E) l0 l1 l2) := by
  refine q_enter (by decide) (Nat.le_of_ble_eq_true rfl) (fun Γ σ w h B hT => ?_)
  have C := B.1
  unfold F_X11_told at h
  refine q_aload_n (pc := 0) C 0 rfl dX11_told_0 rfl ?_
  refine q_getA (pc := 1) C dX11_told_1 ql_X11_31 h (fun v1 h => ?_)
  refine q_iload_n (pc := 4) C 1 rfl dX11_told_4 rfl ?_
  refine q_callV (pc := 5) (As := [q_I l1]) (st := []) (ps := q_psI) C B.2.1 hT q_hpI qm_X11_177 qv_X5_hasInstruction dX11_told_5 rfl rfl (Nat.le_of_ble_eq_true rfl) (q_flo B.2.2.1 B.2.2.2.1 (by decide) (by decide)) (K_X5_hasInstruction v1 l1) (M_X5_hasInstruction (q_kap E) v1 l1) (by exact fun v5 => (q_mo_br (q_mo_rd fun v22 => (q_mo_rd fun v25 => (q_mo_rd fun v29 => (q_mo_br (M_X11_told_58 (q_kap E) l2 v29) (q_mo_rd fun v41 => (q_mo_br (M_X11_told_58 (q_kap E) l2 v29) (q_mo_rd fun v49 => (q_mo_rd fun v56 => q_mo_rt)))))))) q_mo_th)) h (fun v5 σ h => ?_)
  refine q_W.st (st' := [q_I v5]) rfl ?_
  refine q_if_ne (pc := 8) (tgt := 21) C dX11_told_8 (by decide) h (fun _ h => ?_) (fun _ h => ?_)
  · refine q_aload_n (pc := 21) C 0 rfl dX11_told_21 rfl ?_
    refine q_getA (pc := 22) C dX11_told_22 ql_X11_31 h (fun v22 h => ?_)
    refine q_getA (pc := 25) C dX11_told_25 ql_X11_185 h (fun v25 h => ?_)
    refine q_iload_n (pc := 28) C 1 rfl dX11_told_28 rfl ?_
    refine q_ldA (pc := 29) C dX11_told_29 ⟨_, rfl⟩ h (fun v29 h => ?_)
    refine q_astore_n (pc := 30) (l' := [(3, q_R v29), (0, q_R l0), (1, q_I l1), (2, q_I l2)]) C dX11_told_30 rfl (by decide) rfl ?_
    refine q_iload_n (pc := 31) C 3 rfl dX11_told_31 rfl ?_
    refine q_bipush (pc := 32) (v := (10 : Int32)) C dX11_told_32 (by decide) ?_
    refine q_icmp_lt (pc := 34) (tgt := 58) C dX11_told_34 (by decide) h (fun _ h => ?_) (fun _ h => ?_)
    · refine q_W.sub [3, 0] rfl ?_
      exact S_X11_told_58 B hT l2 v29 _ h
    · refine q_iload_n (pc := 37) C 3 rfl dX11_told_37 rfl ?_
      refine q_bipush (pc := 38) (v := (10 : Int32)) C dX11_told_38 (by decide) ?_
      refine q_aload_n (pc := 40) C 0 rfl dX11_told_40 rfl ?_
      refine q_getI (pc := 41) C dX11_told_41 ql_X11_189 h (fun v41 h => ?_)
      refine q_iadd (pc := 44) C dX11_told_44 ?_
      refine q_icmp_ge (pc := 45) (tgt := 58) C dX11_told_45 (by decide) h (fun _ h => ?_) (fun _ h => ?_)
      · refine q_W.sub [3, 0] rfl ?_
        exact S_X11_told_58 B hT l2 v29 _ h
      · refine q_aload_n (pc := 48) C 0 rfl dX11_told_48 rfl ?_
        refine q_getA (pc := 49) C dX11_told_49 ql_X11_194 h (fun v49 h => ?_)
        refine q_iload_n (pc := 52) C 3 rfl dX11_told_52 rfl ?_
        refine q_bipush (pc := 53) (v := (10 : Int32)) C dX11_told_53 (by decide) ?_
        refine q_isub (pc := 55) C dX11_told_55 ?_
        refine q_ldL (pc := 56) C dX11_told_56 h (fun v56 h => ?_)
        exact q_lret C B.2.2.2.2.1 dX11_told_57 h
  · exact q_throw (pc := 11) (names := ["java/lang/RuntimeException", "java/lang/Exception"]) (k9 := 19) (tx := "there is no such instruction") C B.2.1 hT qt_X11_180_184.2.2.2 qt_X11_180_184.2.2.1 (by decide +kernel) qt_X11_180_184.1 qt_X11_180_184.2.1 dX11_told_11 dX11_told_14 dX11_told_15 dX11_told_17 dX11_told_20 (q_flo B.2.2.1 B.2.2.2.1 (by decide) (by decide)) (Nat.le_of_ble_eq_true rfl) h
def F_X11_overlap_22 (κ : Nat → Nat) : q_X Int32 :=
  q_th "java/lang/IndexOutOfBoundsException"
theorem M_X11_overlap_22 (κ : Nat → Nat) : q_mo (F_X11_overlap_22 κ) := q_mo_th
set_option maxRecDepth 100000 in
set_option maxHeartbeats 4000000 in
theorem S_X11_overlap_22 {E : q_Ev} {Γ : q_Gm} {w : (Int32 ⊕ q_Exn) × q_St} (B : q_Bd E Γ cX11_overlap yX11_overlap.cls 3 6 90 (some .boolean) yX11_overlap.name w) (hT : q_nT Γ) (σ : q_St) (h : F_X11_overlap_22 (q_kap E) σ = some w) : q_W E Γ (q_QF E Γ q_oI w) 3 σ 22 [] [] := by
  have C := B.1
  unfold F_X11_overlap_22 at h
  exact q_throw (pc := 22) (names := ["java/lang/RuntimeException", "java/lang/Exception"]) (k9 := 19) (tx := "there is no such instruction") C B.2.1 hT qt_X11_180_184.2.2.2 qt_X11_180_184.2.2.1 (by decide +kernel) qt_X11_180_184.1 qt_X11_180_184.2.1 dX11_overlap_22 dX11_overlap_25 dX11_overlap_26 dX11_overlap_28 dX11_overlap_31 (q_flo B.2.2.1 B.2.2.2.1 (by decide) (by decide)) (Nat.le_of_ble_eq_true rfl) h
def F_X11_overlap (κ : Nat → Nat) (l0 : Option Nat) (l1 : Int32) (l2 : Int32) : q_X Int32 :=
  q_rd (q_gA l0 14 2) fun v1 => q_rd (q_is v1 8) fun _ => q_ca (F_X5_hasInstruction κ v1 l1) fun v5 => q_br (v5 = 0) (F_X11_overlap_22 κ) (q_rd (q_gA l0 14 2) fun v12 => q_rd (q_is v12 8) fun _ => q_ca (F_X5_hasInstruction κ v12 l2) fun v16 => q_br (¬ v16 = 0) (q_rd (q_gA l0 14 2) fun v33 => q_rd (q_gA v33 8 1) fun v36 => q_rd (q_lA 4 v36 l1) fun v40 => q_rd (q_gA l0 14 2) fun v42 => q_rd (q_gA v42 8 1) fun v45 => q_rd (q_lA 4 v45 l2) fun v49 => q_rd (q_is v40 4) fun _ => q_ca (F_X1_mayBe κ v40 v49) fun v50 => q_rz v50) (F_X11_overlap_22 κ))
theorem M_X11_overlap (κ : Nat → Nat) (l0 : Option Nat) (l1 : Int32) (l2 : Int32) : q_mo (F_X11_overlap κ l0 l1 l2) := (q_mo_rd fun v1 => (q_mo_rd fun _ => q_mo_ca (M_X5_hasInstruction κ v1 l1) fun v5 => (q_mo_br (M_X11_overlap_22 κ) (q_mo_rd fun v12 => (q_mo_rd fun _ => q_mo_ca (M_X5_hasInstruction κ v12 l2) fun v16 => (q_mo_br (q_mo_rd fun v33 => (q_mo_rd fun v36 => (q_mo_rd fun v40 => (q_mo_rd fun v42 => (q_mo_rd fun v45 => (q_mo_rd fun v49 => (q_mo_rd fun _ => q_mo_ca (M_X1_mayBe κ v40 v49) fun v50 => q_mo_rz))))))) (M_X11_overlap_22 κ)))))))
set_option maxRecDepth 100000 in
set_option maxHeartbeats 4000000 in
theorem K_X11_overlap {E : q_Ev} (l0 : Option Nat) (l1 : Int32) (l2 : Int32) : q_Ct E yX11_overlap (.code yX11_overlap cX11_overlap 3 (some .boolean)) 6 90 [q_R l0, q_I l1, q_I l2] q_oI (F_X11_overlap (q_kap E) l0 l1 l2) := by
  refine q_enter (by decide) (Nat.le_of_ble_eq_true rfl) (fun Γ σ w h B hT => ?_)
  have C := B.1
  unfold F_X11_overlap at h
  refine q_aload_n (pc := 0) C 0 rfl dX11_overlap_0 rfl ?_
  refine q_getA (pc := 1) C dX11_overlap_1 ql_X11_31 h (fun v1 h => ?_)
  refine q_iload_n (pc := 4) C 1 rfl dX11_overlap_4 rfl ?_
  refine q_callV (pc := 5) (As := [q_I l1]) (st := []) (ps := q_psI) C B.2.1 hT q_hpI qm_X11_177 qv_X5_hasInstruction dX11_overlap_5 rfl rfl (Nat.le_of_ble_eq_true rfl) (q_flo B.2.2.1 B.2.2.2.1 (by decide) (by decide)) (K_X5_hasInstruction v1 l1) (M_X5_hasInstruction (q_kap E) v1 l1) (by exact fun v5 => (q_mo_br (M_X11_overlap_22 (q_kap E)) (q_mo_rd fun v12 => (q_mo_rd fun _ => q_mo_ca (M_X5_hasInstruction (q_kap E) v12 l2) fun v16 => (q_mo_br (q_mo_rd fun v33 => (q_mo_rd fun v36 => (q_mo_rd fun v40 => (q_mo_rd fun v42 => (q_mo_rd fun v45 => (q_mo_rd fun v49 => (q_mo_rd fun _ => q_mo_ca (M_X1_mayBe (q_kap E) v40 v49) fun v50 => q_mo_rz))))))) (M_X11_overlap_22 (q_kap E))))))) h (fun v5 σ h => ?_)
  refine q_W.st (st' := [q_I v5]) rfl ?_
  refine q_if_eq (pc := 8) (tgt := 22) C dX11_overlap_8 (by decide) h (fun _ h => ?_) (fun _ h => ?_)
  · refine q_W.sub [] rfl ?_
    exact S_X11_overlap_22 B hT _ h
  · refine q_aload_n (pc := 11) C 0 rfl dX11_overlap_11 rfl ?_
    refine q_getA (pc := 12) C dX11_overlap_12 ql_X11_31 h (fun v12 h => ?_)
    refine q_iload_n (pc := 15) C 2 rfl dX11_overlap_15 rfl ?_
    refine q_callV (pc := 16) (As := [q_I l2]) (st := []) (ps := q_psI) C B.2.1 hT q_hpI qm_X11_177 qv_X5_hasInstruction dX11_overlap_16 rfl rfl (Nat.le_of_ble_eq_true rfl) (q_flo B.2.2.1 B.2.2.2.1 (by decide) (by decide)) (K_X5_hasInstruction v12 l2) (M_X5_hasInstruction (q_kap E) v12 l2) (by exact fun v16 => (q_mo_br (q_mo_rd fun v33 => (q_mo_rd fun v36 => (q_mo_rd fun v40 => (q_mo_rd fun v42 => (q_mo_rd fun v45 => (q_mo_rd fun v49 => (q_mo_rd fun _ => q_mo_ca (M_X1_mayBe (q_kap E) v40 v49) fun v50 => q_mo_rz))))))) (M_X11_overlap_22 (q_kap E)))) h (fun v16 σ h => ?_)
    refine q_W.st (st' := [q_I v16]) rfl ?_
    refine q_if_ne (pc := 19) (tgt := 32) C dX11_overlap_19 (by decide) h (fun _ h => ?_) (fun _ h => ?_)
    · refine q_aload_n (pc := 32) C 0 rfl dX11_overlap_32 rfl ?_
      refine q_getA (pc := 33) C dX11_overlap_33 ql_X11_31 h (fun v33 h => ?_)
      refine q_getA (pc := 36) C dX11_overlap_36 ql_X11_185 h (fun v36 h => ?_)
      refine q_iload_n (pc := 39) C 1 rfl dX11_overlap_39 rfl ?_
      refine q_ldA (pc := 40) C dX11_overlap_40 ⟨_, rfl⟩ h (fun v40 h => ?_)
      refine q_aload_n (pc := 41) C 0 rfl dX11_overlap_41 rfl ?_
      refine q_getA (pc := 42) C dX11_overlap_42 ql_X11_31 h (fun v42 h => ?_)
      refine q_getA (pc := 45) C dX11_overlap_45 ql_X11_185 h (fun v45 h => ?_)
      refine q_iload_n (pc := 48) C 2 rfl dX11_overlap_48 rfl ?_
      refine q_ldA (pc := 49) C dX11_overlap_49 ⟨_, rfl⟩ h (fun v49 h => ?_)
      refine q_callV (pc := 50) (As := [q_R v49]) (st := []) (ps := q_psI) C B.2.1 hT q_hpI qm_X11_211 qv_X1_mayBe dX11_overlap_50 rfl rfl (Nat.le_of_ble_eq_true rfl) (q_flo B.2.2.1 B.2.2.2.1 (by decide) (by decide)) (K_X1_mayBe v40 v49) (M_X1_mayBe (q_kap E) v40 v49) (by exact fun v50 => q_mo_rz) h (fun v50 σ h => ?_)
      refine q_W.st (st' := [q_I v50]) rfl ?_
      exact q_zret C B.2.2.2.2.1 dX11_overlap_53 h
    · refine q_W.sub [] rfl ?_
      exact S_X11_overlap_22 B hT _ h
def F_X11_count (κ : Nat → Nat) (l0 : Option Nat) (l1 : Int32) : q_X Int32 :=
  q_br (l1.toInt < 0 ∨ 7 < l1.toInt) (q_th "java/lang/IllegalArgumentException") (q_br (l1 = 0) (q_rd (q_gA l0 14 2) fun v49 => q_rd (q_gI v49 8 4) fun v52 => q_rt v52) (q_br (l1 = 1) (q_rd (q_gA l0 14 2) fun v57 => q_rd (q_gI v57 8 2) fun v60 => q_rt v60) (q_br (l1 = 2) (q_rd (q_gA l0 14 2) fun v65 => q_rd (q_gI v65 8 3) fun v68 => q_rt v68) (q_br (l1 = 3) (q_rd (q_gA l0 14 3) fun v73 => q_rd (q_gI v73 9 2) fun v76 => q_rt v76) (q_br (l1 = 4) (q_rd (q_gA l0 14 5) fun v81 => q_rd (q_gA v81 11 5) fun v84 => q_rd (q_is v84 2) fun _ => q_ca (F_Jx4a65c_size_8abf5 κ v84) fun v87 => q_rt v87) (q_br (l1 = 5) (q_rd (q_gA l0 14 5) fun v92 => q_rd (q_gI v92 11 8) fun v95 => q_rt v95) (q_br (l1 = 6) (q_rd (q_gA l0 14 0) fun v100 => q_rd (q_gI v100 13 5) fun v103 => q_rt v103) (q_br (l1 = 7) (q_rd (q_gA l0 14 6) fun v108 => q_rd (q_gI v108 7 5) fun v111 => q_rt v111) (q_no)))))))))
theorem M_X11_count (κ : Nat → Nat) (l0 : Option Nat) (l1 : Int32) : q_mo (F_X11_count κ l0 l1) := (q_mo_br q_mo_th (q_mo_br (q_mo_rd fun v49 => (q_mo_rd fun v52 => q_mo_rt)) (q_mo_br (q_mo_rd fun v57 => (q_mo_rd fun v60 => q_mo_rt)) (q_mo_br (q_mo_rd fun v65 => (q_mo_rd fun v68 => q_mo_rt)) (q_mo_br (q_mo_rd fun v73 => (q_mo_rd fun v76 => q_mo_rt)) (q_mo_br (q_mo_rd fun v81 => (q_mo_rd fun v84 => (q_mo_rd fun _ => q_mo_ca (M_Jx4a65c_size_8abf5 κ v84) fun v87 => q_mo_rt))) (q_mo_br (q_mo_rd fun v92 => (q_mo_rd fun v95 => q_mo_rt)) (q_mo_br (q_mo_rd fun v100 => (q_mo_rd fun v103 => q_mo_rt)) (q_mo_br (q_mo_rd fun v108 => (q_mo_rd fun v111 => q_mo_rt)) q_mo_no)))))))))
set_option maxRecDepth 100000 in
set_option maxHeartbeats 4000000 in
theorem K_X11_count {E : q_Ev} (l0 : Option Nat) (l1 : Int32) : q_Ct E yX11_count (.code yX11_count cX11_count 2 (some .int)) 6 90 [q_R l0, q_I l1] q_oI (F_X11_count (q_kap E) l0 l1) := by
  refine q_enter (by decide) (Nat.le_of_ble_eq_true rfl) (fun Γ σ w h B hT => ?_)
  have C := B.1
  unfold F_X11_count at h
  refine q_iload_n (pc := 0) C 1 rfl dX11_count_0 rfl ?_
  by_cases cd : l1.toInt < 0 ∨ 7 < l1.toInt
  · replace h := (q_br_e h).1 cd
    refine q_tabOut (pc := 1) (tgt := 115) C dX11_count_1 cd (by decide) ?_
    exact q_throw (pc := 115) (names := ["java/lang/RuntimeException", "java/lang/Exception"]) (k9 := 21) (tx := "nothing is counted so") C B.2.1 hT qt_X11_85_89.2.2.2 qt_X11_85_89.2.2.1 (by decide +kernel) qt_X11_85_89.1 qt_X11_85_89.2.1 dX11_count_115 dX11_count_118 dX11_count_119 dX11_count_121 dX11_count_124 (q_flo B.2.2.1 B.2.2.2.1 (by decide) (by decide)) (Nat.le_of_ble_eq_true rfl) h
  replace h := (q_br_e h).2 cd
  by_cases cv : l1 = 0
  · replace h := (q_br_e h).1 cv
    refine q_tabIn (pc := 1) (tgt := 48) (off := 47) C dX11_count_1 (by rw [cv]; decide) (by rw [cv]; decide) (by rw [cv]; rfl) (by decide) ?_
    refine q_aload_n (pc := 48) C 0 rfl dX11_count_48 rfl ?_
    refine q_getA (pc := 49) C dX11_count_49 ql_X11_31 h (fun v49 h => ?_)
    refine q_getI (pc := 52) C dX11_count_52 ql_X11_106 h (fun v52 h => ?_)
    exact q_iret C B.2.2.2.2.1 dX11_count_55 h
  replace h := (q_br_e h).2 cv
  by_cases cv : l1 = 1
  · replace h := (q_br_e h).1 cv
    refine q_tabIn (pc := 1) (tgt := 56) (off := 55) C dX11_count_1 (by rw [cv]; decide) (by rw [cv]; decide) (by rw [cv]; rfl) (by decide) ?_
    refine q_aload_n (pc := 56) C 0 rfl dX11_count_56 rfl ?_
    refine q_getA (pc := 57) C dX11_count_57 ql_X11_31 h (fun v57 h => ?_)
    refine q_getI (pc := 60) C dX11_count_60 ql_X11_109 h (fun v60 h => ?_)
    exact q_iret C B.2.2.2.2.1 dX11_count_63 h
  replace h := (q_br_e h).2 cv
  by_cases cv : l1 = 2
  · replace h := (q_br_e h).1 cv
    refine q_tabIn (pc := 1) (tgt := 64) (off := 63) C dX11_count_1 (by rw [cv]; decide) (by rw [cv]; decide) (by rw [cv]; rfl) (by decide) ?_
    refine q_aload_n (pc := 64) C 0 rfl dX11_count_64 rfl ?_
    refine q_getA (pc := 65) C dX11_count_65 ql_X11_31 h (fun v65 h => ?_)
    refine q_getI (pc := 68) C dX11_count_68 ql_X11_215 h (fun v68 h => ?_)
    exact q_iret C B.2.2.2.2.1 dX11_count_71 h
  replace h := (q_br_e h).2 cv
  by_cases cv : l1 = 3
  · replace h := (q_br_e h).1 cv
    refine q_tabIn (pc := 1) (tgt := 72) (off := 71) C dX11_count_1 (by rw [cv]; decide) (by rw [cv]; decide) (by rw [cv]; rfl) (by decide) ?_
    refine q_aload_n (pc := 72) C 0 rfl dX11_count_72 rfl ?_
    refine q_getA (pc := 73) C dX11_count_73 ql_X11_35 h (fun v73 h => ?_)
    refine q_getI (pc := 76) C dX11_count_76 ql_X11_123 h (fun v76 h => ?_)
    exact q_iret C B.2.2.2.2.1 dX11_count_79 h
  replace h := (q_br_e h).2 cv
  by_cases cv : l1 = 4
  · replace h := (q_br_e h).1 cv
    refine q_tabIn (pc := 1) (tgt := 80) (off := 79) C dX11_count_1 (by rw [cv]; decide) (by rw [cv]; decide) (by rw [cv]; rfl) (by decide) ?_
    refine q_aload_n (pc := 80) C 0 rfl dX11_count_80 rfl ?_
    refine q_getA (pc := 81) C dX11_count_81 ql_X11_62 h (fun v81 h => ?_)
    refine q_getA (pc := 84) C dX11_count_84 ql_X11_218 h (fun v84 h => ?_)
    refine q_callV (pc := 87) (As := []) (st := []) (ps := q_psI) C B.2.1 hT q_hpI qm_X11_222 qv_Jx4a65c_size_8abf5 dX11_count_87 rfl rfl (Nat.le_of_ble_eq_true rfl) (q_flo B.2.2.1 B.2.2.2.1 (by decide) (by decide)) (K_Jx4a65c_size_8abf5 v84) (M_Jx4a65c_size_8abf5 (q_kap E) v84) (by exact fun v87 => q_mo_rt) h (fun v87 σ h => ?_)
    refine q_W.st (st' := [q_I v87]) rfl ?_
    exact q_iret C B.2.2.2.2.1 dX11_count_90 h
  replace h := (q_br_e h).2 cv
  by_cases cv : l1 = 5
  · replace h := (q_br_e h).1 cv
    refine q_tabIn (pc := 1) (tgt := 91) (off := 90) C dX11_count_1 (by rw [cv]; decide) (by rw [cv]; decide) (by rw [cv]; rfl) (by decide) ?_
    refine q_aload_n (pc := 91) C 0 rfl dX11_count_91 rfl ?_
    refine q_getA (pc := 92) C dX11_count_92 ql_X11_62 h (fun v92 h => ?_)
    refine q_getI (pc := 95) C dX11_count_95 ql_X11_227 h (fun v95 h => ?_)
    exact q_iret C B.2.2.2.2.1 dX11_count_98 h
  replace h := (q_br_e h).2 cv
  by_cases cv : l1 = 6
  · replace h := (q_br_e h).1 cv
    refine q_tabIn (pc := 1) (tgt := 99) (off := 98) C dX11_count_1 (by rw [cv]; decide) (by rw [cv]; decide) (by rw [cv]; rfl) (by decide) ?_
    refine q_aload_n (pc := 99) C 0 rfl dX11_count_99 rfl ?_
    refine q_getA (pc := 100) C dX11_count_100 ql_X11_21 h (fun v100 h => ?_)
    refine q_getI (pc := 103) C dX11_count_103 ql_X11_81 h (fun v103 h => ?_)
    exact q_iret C B.2.2.2.2.1 dX11_count_106 h
  replace h := (q_br_e h).2 cv
  by_cases cv : l1 = 7
  · replace h := (q_br_e h).1 cv
    refine q_tabIn (pc := 1) (tgt := 107) (off := 106) C dX11_count_1 (by rw [cv]; decide) (by rw [cv]; decide) (by rw [cv]; rfl) (by decide) ?_
    refine q_aload_n (pc := 107) C 0 rfl dX11_count_107 rfl ?_
    refine q_getA (pc := 108) C dX11_count_108 ql_X11_44 h (fun v108 h => ?_)
    refine q_getI (pc := 111) C dX11_count_111 ql_X11_167 h (fun v111 h => ?_)
    exact q_iret C B.2.2.2.2.1 dX11_count_114 h
  replace h := (q_br_e h).2 cv
  cases h
def F_Z2_init_60 (κ : Nat → Nat) : q_X Unit :=
  q_rt ()
theorem M_Z2_init_60 (κ : Nat → Nat) : q_mo (F_Z2_init_60 κ) := q_mo_rt
theorem N_Z2_init_60 (κ : Nat → Nat) : q_ni (F_Z2_init_60 κ) := q_ni_rt
set_option maxRecDepth 100000 in
set_option maxHeartbeats 4000000 in
theorem S_Z2_init_60 {E : q_Ev} {Γ : q_Gm} {w : (Unit ⊕ q_Exn) × q_St} (B : q_Bd E Γ cZ2_init yZ2_init.cls 5 1 20 (none) yZ2_init.name w) (hT : q_nT Γ) (σ : q_St) (h : F_Z2_init_60 (q_kap E) σ = some w) : q_W E Γ (q_QF E Γ q_oV w) 5 σ 60 [] [] := by
  have C := B.1
  unfold F_Z2_init_60 at h
  exact q_vret C B.2.2.2.2.1 dZ2_init_60 h
def F_Z2_init_41 (κ : Nat → Nat) (l0 : Option Nat) (l1 : Option Nat) (l2 : Option Nat) (l3 : Int32) : q_X Unit :=
  q_wr (q_pF l0 15 3 (va_rf l1)) (q_wr (q_pF l0 15 0 (va_rf l2)) (q_br (¬ l3 = 0) (F_Z2_init_60 κ) (q_wr (q_pF l0 15 2 (va_rf none)) (F_Z2_init_60 κ))))
theorem M_Z2_init_41 (κ : Nat → Nat) (l0 : Option Nat) (l1 : Option Nat) (l2 : Option Nat) (l3 : Int32) : q_mo (F_Z2_init_41 κ l0 l1 l2 l3) := (q_mo_wr (q_mo_wr (q_mo_br (M_Z2_init_60 κ) (q_mo_wr (M_Z2_init_60 κ)))))
theorem N_Z2_init_41 (κ : Nat → Nat) (l0 : Option Nat) (l1 : Option Nat) (l2 : Option Nat) (l3 : Int32) : q_ni (F_Z2_init_41 κ l0 l1 l2 l3) := (q_ni_wr (q_ni_wr (q_ni_br (N_Z2_init_60 κ) (q_ni_wr (N_Z2_init_60 κ)))))
set_option maxRecDepth 100000 in
set_option maxHeartbeats 4000000 in
theorem S_Z2_init_41 {E : q_Ev} {Γ : q_Gm} {w : (Unit ⊕ q_Exn) × q_St} (B : q_Bd E Γ cZ2_init yZ2_init.cls 5 1 20 (none) yZ2_init.name w) (hT : q_nT Γ) (l0 : Option Nat) (l1 : Option Nat) (l2 : Option Nat) (l3 : Int32) (σ : q_St) (h : F_Z2_init_41 (q_kap E) l0 l1 l2 l3 σ = some w) : q_W E Γ (q_QF E Γ q_oV w) 5 σ 41 [(0, q_R l0), (1, q_R l1), (2, q_R l2), (3, q_I l3)] [] := by
  have C := B.1
  unfold F_Z2_init_41 at h
  refine q_aload_n (pc := 41) C 0 rfl dZ2_init_41 rfl ?_
  refine q_aload_n (pc := 42) C 1 rfl dZ2_init_42 rfl ?_
  refine q_putV (pc := 43) (v := q_R l1) C dZ2_init_43 ql_Z2_31 (Or.inl rfl) q_nfO q_nfO' h (fun M43 h => ?_)
  refine q_aload_n (pc := 46) C 0 rfl dZ2_init_46 rfl ?_
  refine q_aload_n (pc := 47) C 2 rfl dZ2_init_47 rfl ?_
  refine q_putV (pc := 48) (v := q_R l2) C dZ2_init_48 ql_Z2_7 (Or.inl rfl) q_nfO q_nfO' h (fun M48 h => ?_)
  refine q_iload_n (pc := 51) C 3 rfl dZ2_init_51 rfl ?_
  refine q_if_ne (pc := 52) (tgt := 60) C dZ2_init_52 (by decide) h (fun _ h => ?_) (fun _ h => ?_)
  · refine q_W.sub [] rfl ?_
    exact S_Z2_init_60 B hT _ h
  · refine q_aload_n (pc := 55) C 0 rfl dZ2_init_55 rfl ?_
    refine q_null (pc := 56) C dZ2_init_56 ?_
    refine q_putV (pc := 57) (v := q_R none) C dZ2_init_57 ql_Z2_24 (Or.inl rfl) q_nfO q_nfO' h (fun M57 h => ?_)
    refine q_W.sub [] rfl ?_
    exact S_Z2_init_60 B hT _ h
def F_Z2_init (κ : Nat → Nat) (l0 : Option Nat) (l1 : Option Nat) (l2 : Option Nat) (l3 : Int32) (l4 : Int32) : q_X Unit :=
  q_gd (¬ l0 = none) (q_wr (q_pF l0 15 0 (va_rf l0)) (q_wr (q_pF l0 15 1 (va_rf (q_on (κ 97)))) (q_wr (q_pF l0 15 2 (va_rf (q_on (κ 96)))) (q_br (l4 = 0) (q_wr (q_pF l0 15 1 (va_rf none)) (F_Z2_init_41 κ l0 l1 l2 l3)) (q_no)))))
theorem M_Z2_init (κ : Nat → Nat) (l0 : Option Nat) (l1 : Option Nat) (l2 : Option Nat) (l3 : Int32) (l4 : Int32) : q_mo (F_Z2_init κ l0 l1 l2 l3 l4) := (q_mo_gd (q_mo_wr (q_mo_wr (q_mo_wr (q_mo_br (q_mo_wr (M_Z2_init_41 κ l0 l1 l2 l3)) q_mo_no)))))
theorem N_Z2_init (κ : Nat → Nat) (l0 : Option Nat) (l1 : Option Nat) (l2 : Option Nat) (l3 : Int32) (l4 : Int32) : q_ni (F_Z2_init κ l0 l1 l2 l3 l4) := (q_ni_gd (q_ni_wr (q_ni_wr (q_ni_wr (q_ni_br (q_ni_wr (N_Z2_init_41 κ l0 l1 l2 l3)) q_ni_no)))))
set_option maxRecDepth 100000 in
set_option maxHeartbeats 4000000 in
theorem K_Z2_init {E : q_Ev} (l0 : Option Nat) (l1 : Option Nat) (l2 : Option Nat) (l3 : Int32) (l4 : Int32) : q_Ct E yZ2_init (.code yZ2_init cZ2_init 5 (none)) 1 20 [q_R l0, q_R l1, q_R l2, q_I l3, q_I l4] q_oV (F_Z2_init (q_kap E) l0 l1 l2 l3 l4) := by
  refine q_enter (by decide) (Nat.le_of_ble_eq_true rfl) (fun Γ σ w h B hT => ?_)
  have C := B.1
  unfold F_Z2_init at h
  refine q_aload_n (pc := 0) C 0 rfl dZ2_init_0 rfl ?_
  refine q_objI (pc := 1) C dZ2_init_1 qo_Z2_1 (q_flo B.2.2.1 B.2.2.2.1 (by decide) (by decide)) (Nat.le_of_ble_eq_true rfl) h (fun h => ?_)
  refine q_aload_n (pc := 4) C 0 rfl dZ2_init_4 rfl ?_
  refine q_aload_n (pc := 5) C 0 rfl dZ2_init_5 rfl ?_
  refine q_putV (pc := 6) (v := q_R l0) C dZ2_init_6 ql_Z2_7 (Or.inl rfl) q_nfO q_nfO' h (fun M6 h => ?_)
  refine q_aload_n (pc := 9) C 0 rfl dZ2_init_9 rfl ?_
  refine q_getsU (pc := 10) C dZ2_init_10 qz_Z2_13 ?_
  refine q_putV (pc := 13) (v := q_R (q_on ((q_kap E) 97))) C dZ2_init_13 ql_Z2_17 (Or.inl rfl) q_nfA q_nfA' h (fun M13 h => ?_)
  refine q_aload_n (pc := 16) C 0 rfl dZ2_init_16 rfl ?_
  refine q_getsS (pc := 17) C dZ2_init_17 qz_Z2_20 ?_
  refine q_putV (pc := 20) (v := q_R (q_on ((q_kap E) 96))) C dZ2_init_20 ql_Z2_24 (Or.inl rfl) q_nfO q_nfO' h (fun M20 h => ?_)
  refine q_iload (pc := 23) C 4 rfl dZ2_init_23 ?_
  refine q_if_eq (pc := 25) (tgt := 36) C dZ2_init_25 (by decide) h (fun _ h => ?_) (fun _ h => ?_)
  · refine q_aload_n (pc := 36) C 0 rfl dZ2_init_36 rfl ?_
    refine q_null (pc := 37) C dZ2_init_37 ?_
    refine q_putV (pc := 38) (v := q_R none) C dZ2_init_38 ql_Z2_17 (Or.inl rfl) q_nfA q_nfA' h (fun M38 h => ?_)
    refine q_W.sub [0, 1, 2, 3] rfl ?_
    exact S_Z2_init_41 B hT l0 l1 l2 l3 _ h
  · refine q_aload_n (pc := 28) C 0 rfl dZ2_init_28 rfl ?_
    cases h
def F_Z1_init (κ : Nat → Nat) (l0 : Option Nat) (l1 : Option Nat) (l2 : Option Nat) (l3 : Int32) (l4 : Int32) : q_X Unit :=
  q_gd (¬ l0 = none) (q_ca (F_Z2_init κ l0 l1 l2 l3 l4) fun _v6 => q_rt ())
theorem M_Z1_init (κ : Nat → Nat) (l0 : Option Nat) (l1 : Option Nat) (l2 : Option Nat) (l3 : Int32) (l4 : Int32) : q_mo (F_Z1_init κ l0 l1 l2 l3 l4) := (q_mo_gd (q_mo_ca (M_Z2_init κ l0 l1 l2 l3 l4) fun _v6 => q_mo_rt))
theorem N_Z1_init (κ : Nat → Nat) (l0 : Option Nat) (l1 : Option Nat) (l2 : Option Nat) (l3 : Int32) (l4 : Int32) : q_ni (F_Z1_init κ l0 l1 l2 l3 l4) := (q_ni_gd (q_ni_ca (N_Z2_init κ l0 l1 l2 l3 l4) fun _v6 => q_ni_rt))
set_option maxRecDepth 100000 in
set_option maxHeartbeats 4000000 in
theorem K_Z1_init {E : q_Ev} (l0 : Option Nat) (l1 : Option Nat) (l2 : Option Nat) (l3 : Int32) (l4 : Int32) : q_Ct E yZ1_init (.code yZ1_init cZ1_init 5 (none)) 2 44 [q_R l0, q_R l1, q_R l2, q_I l3, q_I l4] q_oV (F_Z1_init (q_kap E) l0 l1 l2 l3 l4) := by
  refine q_enter (by decide) (Nat.le_of_ble_eq_true rfl) (fun Γ σ w h B hT => ?_)
  have C := B.1
  unfold F_Z1_init at h
  refine q_aload_n (pc := 0) C 0 rfl dZ1_init_0 rfl ?_
  refine q_aload_n (pc := 1) C 1 rfl dZ1_init_1 rfl ?_
  refine q_aload_n (pc := 2) C 2 rfl dZ1_init_2 rfl ?_
  refine q_iload_n (pc := 3) C 3 rfl dZ1_init_3 rfl ?_
  refine q_iload (pc := 4) C 4 rfl dZ1_init_4 ?_
  refine q_callI (pc := 6) (As := [q_R l1, q_R l2, q_I l3, q_I l4]) (st := []) C B.2.1 (fun _ => rfl) qm_Z1_16 qI_Z2_init dZ1_init_6 rfl rfl (Nat.le_of_ble_eq_true rfl) (q_flo B.2.2.1 B.2.2.2.1 (by decide) (by decide)) (K_Z2_init l0 l1 l2 l3 l4) (M_Z2_init (q_kap E) l0 l1 l2 l3 l4) (N_Z2_init (q_kap E) l0 l1 l2 l3 l4) (by exact fun _v6 => q_mo_rt) h (fun _v6 σ h => ?_)
  exact q_vret C B.2.2.2.2.1 dZ1_init_9 h
def F_Z0_init (κ : Nat → Nat) (l0 : Option Nat) (l1 : Option Nat) (l2 : Option Nat) (l3 : Int32) (l4 : Int32) : q_X Unit :=
  q_gd (¬ l0 = none) (q_ca (F_Z1_init κ l0 l1 l2 l3 l4) fun _v6 => q_rt ())
theorem M_Z0_init (κ : Nat → Nat) (l0 : Option Nat) (l1 : Option Nat) (l2 : Option Nat) (l3 : Int32) (l4 : Int32) : q_mo (F_Z0_init κ l0 l1 l2 l3 l4) := (q_mo_gd (q_mo_ca (M_Z1_init κ l0 l1 l2 l3 l4) fun _v6 => q_mo_rt))
theorem N_Z0_init (κ : Nat → Nat) (l0 : Option Nat) (l1 : Option Nat) (l2 : Option Nat) (l3 : Int32) (l4 : Int32) : q_ni (F_Z0_init κ l0 l1 l2 l3 l4) := (q_ni_gd (q_ni_ca (N_Z1_init κ l0 l1 l2 l3 l4) fun _v6 => q_ni_rt))
set_option maxRecDepth 100000 in
set_option maxHeartbeats 4000000 in
theorem K_Z0_init {E : q_Ev} (l0 : Option Nat) (l1 : Option Nat) (l2 : Option Nat) (l3 : Int32) (l4 : Int32) : q_Ct E yZ0_init (.code yZ0_init cZ0_init 5 (none)) 3 68 [q_R l0, q_R l1, q_R l2, q_I l3, q_I l4] q_oV (F_Z0_init (q_kap E) l0 l1 l2 l3 l4) := by
  refine q_enter (by decide) (Nat.le_of_ble_eq_true rfl) (fun Γ σ w h B hT => ?_)
  have C := B.1
  unfold F_Z0_init at h
  refine q_aload_n (pc := 0) C 0 rfl dZ0_init_0 rfl ?_
  refine q_aload_n (pc := 1) C 1 rfl dZ0_init_1 rfl ?_
  refine q_aload_n (pc := 2) C 2 rfl dZ0_init_2 rfl ?_
  refine q_iload_n (pc := 3) C 3 rfl dZ0_init_3 rfl ?_
  refine q_iload (pc := 4) C 4 rfl dZ0_init_4 ?_
  refine q_callI (pc := 6) (As := [q_R l1, q_R l2, q_I l3, q_I l4]) (st := []) C B.2.1 (fun _ => rfl) qm_Z0_16 qI_Z1_init dZ0_init_6 rfl rfl (Nat.le_of_ble_eq_true rfl) (q_flo B.2.2.1 B.2.2.2.1 (by decide) (by decide)) (K_Z1_init l0 l1 l2 l3 l4) (M_Z1_init (q_kap E) l0 l1 l2 l3 l4) (N_Z1_init (q_kap E) l0 l1 l2 l3 l4) (by exact fun _v6 => q_mo_rt) h (fun _v6 σ h => ?_)
  exact q_vret C B.2.2.2.2.1 dZ0_init_9 h
def F_X12_init (κ : Nat → Nat) (l0 : Option Nat) (l1 : Int32) (l2 : Int32) : q_X Unit :=
  q_gd (¬ l0 = none) (q_ca (F_Z0_init κ l0 none none (0 : Int32) (0 : Int32)) fun _v5 => q_wr (q_pF l0 15 6 (.int l1)) (q_wr (q_pF l0 15 7 (.int l2)) (q_rt ())))
theorem M_X12_init (κ : Nat → Nat) (l0 : Option Nat) (l1 : Int32) (l2 : Int32) : q_mo (F_X12_init κ l0 l1 l2) := (q_mo_gd (q_mo_ca (M_Z0_init κ l0 none none (0 : Int32) (0 : Int32)) fun _v5 => (q_mo_wr (q_mo_wr q_mo_rt))))
theorem N_X12_init (κ : Nat → Nat) (l0 : Option Nat) (l1 : Int32) (l2 : Int32) : q_ni (F_X12_init κ l0 l1 l2) := (q_ni_gd (q_ni_ca (N_Z0_init κ l0 none none (0 : Int32) (0 : Int32)) fun _v5 => (q_ni_wr (q_ni_wr q_ni_rt))))
set_option maxRecDepth 100000 in
set_option maxHeartbeats 4000000 in
theorem K_X12_init {E : q_Ev} (l0 : Option Nat) (l1 : Int32) (l2 : Int32) : q_Ct E yX12_init (.code yX12_init cX12_init 3 (none)) 4 92 [q_R l0, q_I l1, q_I l2] q_oV (F_X12_init (q_kap E) l0 l1 l2) := by
  refine q_enter (by decide) (Nat.le_of_ble_eq_true rfl) (fun Γ σ w h B hT => ?_)
  have C := B.1
  unfold F_X12_init at h
  refine q_aload_n (pc := 0) C 0 rfl dX12_init_0 rfl ?_
  refine q_null (pc := 1) C dX12_init_1 ?_
  refine q_null (pc := 2) C dX12_init_2 ?_
  refine q_iconst (pc := 3) (v := (0 : Int32)) C dX12_init_3 (by decide) ?_
  refine q_iconst (pc := 4) (v := (0 : Int32)) C dX12_init_4 (by decide) ?_
  refine q_callI (pc := 5) (As := [q_R none, q_R none, q_I (0 : Int32), q_I (0 : Int32)]) (st := []) C B.2.1 (fun _ => rfl) qm_X12_1 qI_Z0_init dX12_init_5 rfl rfl (Nat.le_of_ble_eq_true rfl) (q_flo B.2.2.1 B.2.2.2.1 (by decide) (by decide)) (K_Z0_init l0 none none (0 : Int32) (0 : Int32)) (M_Z0_init (q_kap E) l0 none none (0 : Int32) (0 : Int32)) (N_Z0_init (q_kap E) l0 none none (0 : Int32) (0 : Int32)) (by exact fun _v5 => (q_mo_wr (q_mo_wr q_mo_rt))) h (fun _v5 σ h => ?_)
  refine q_aload_n (pc := 8) C 0 rfl dX12_init_8 rfl ?_
  refine q_iload_n (pc := 9) C 1 rfl dX12_init_9 rfl ?_
  refine q_putV (pc := 10) (v := q_I l1) C dX12_init_10 ql_X12_7 (Or.inr ⟨B.2.2.2.2.2, RX12, TX12, 8, rfl, rfl⟩) rfl rfl h (fun M10 h => ?_)
  refine q_aload_n (pc := 13) C 0 rfl dX12_init_13 rfl ?_
  refine q_iload_n (pc := 14) C 2 rfl dX12_init_14 rfl ?_
  refine q_putV (pc := 15) (v := q_I l2) C dX12_init_15 ql_X12_13 (Or.inr ⟨B.2.2.2.2.2, RX12, TX12, 8, rfl, rfl⟩) rfl rfl h (fun M15 h => ?_)
  exact q_vret C B.2.2.2.2.1 dX12_init_18 h
def F_X13_init (κ : Nat → Nat) (l0 : Option Nat) : q_X Unit :=
  q_gd (¬ l0 = none) (q_gd (¬ (6000 : Int32) < 0 ∧ (6000 : Int32).toNatClampNeg ≤ 65536) (q_mk (q_nI 0 (6000 : Int32)) (6000 : Int32).toNatClampNeg fun a8 => q_wr (q_pF l0 16 0 (va_rf (some a8))) (q_gd (¬ (6000 : Int32) < 0 ∧ (6000 : Int32).toNatClampNeg ≤ 65536) (q_mk (q_nI 0 (6000 : Int32)) (6000 : Int32).toNatClampNeg fun a17 => q_wr (q_pF l0 16 1 (va_rf (some a17))) (q_gd (¬ (400 : Int32) < 0 ∧ (400 : Int32).toNatClampNeg ≤ 65536) (q_mk (q_nI 0 (400 : Int32)) (400 : Int32).toNatClampNeg fun a26 => q_wr (q_pF l0 16 2 (va_rf (some a26))) (q_wr (q_pF l0 16 6 (.int (-1 : Int32))) (q_wr (q_pF l0 16 8 (.int (-1 : Int32))) (q_gd (¬ (6002 : Int32) < 0 ∧ (6002 : Int32).toNatClampNeg ≤ 65536) (q_mk (q_nI 1 (6002 : Int32)) (6002 : Int32).toNatClampNeg fun a45 => q_wr (q_pF l0 16 9 (va_rf (some a45))) (q_gd (¬ (6002 : Int32) < 0 ∧ (6002 : Int32).toNatClampNeg ≤ 65536) (q_mk (q_nI 1 (6002 : Int32)) (6002 : Int32).toNatClampNeg fun a54 => q_wr (q_pF l0 16 10 (va_rf (some a54))) (q_gd (¬ (6002 : Int32) < 0 ∧ (6002 : Int32).toNatClampNeg ≤ 65536) (q_mk (q_nI 1 (6002 : Int32)) (6002 : Int32).toNatClampNeg fun a63 => q_wr (q_pF l0 16 11 (va_rf (some a63))) (q_gd (¬ (6002 : Int32) < 0 ∧ (6002 : Int32).toNatClampNeg ≤ 65536) (q_mk (q_nL (6002 : Int32)) (6002 : Int32).toNatClampNeg fun a72 => q_wr (q_pF l0 16 12 (va_rf (some a72))) (q_gd (¬ (60000 : Int32) < 0 ∧ (60000 : Int32).toNatClampNeg ≤ 65536) (q_mk (q_nI 0 (60000 : Int32)) (60000 : Int32).toNatClampNeg fun a80 => q_wr (q_pF l0 16 16 (va_rf (some a80))) (q_gd (¬ (8000 : Int32) < 0 ∧ (8000 : Int32).toNatClampNeg ≤ 65536) (q_mk (q_nI 1 (8000 : Int32)) (8000 : Int32).toNatClampNeg fun a89 => q_wr (q_pF l0 16 17 (va_rf (some a89))) (q_gd (¬ (8000 : Int32) < 0 ∧ (8000 : Int32).toNatClampNeg ≤ 65536) (q_mk (q_nI 1 (8000 : Int32)) (8000 : Int32).toNatClampNeg fun a98 => q_wr (q_pF l0 16 18 (va_rf (some a98))) (q_gd (¬ (40 : Int32) < 0 ∧ (40 : Int32).toNatClampNeg ≤ 65536) (q_mk (q_nI 1 (40 : Int32)) (40 : Int32).toNatClampNeg fun a106 => q_wr (q_pF l0 16 24 (va_rf (some a106))) (q_gd (¬ (40 : Int32) < 0 ∧ (40 : Int32).toNatClampNeg ≤ 65536) (q_mk (q_nI 1 (40 : Int32)) (40 : Int32).toNatClampNeg fun a114 => q_wr (q_pF l0 16 25 (va_rf (some a114))) (q_gd (¬ (40 : Int32) < 0 ∧ (40 : Int32).toNatClampNeg ≤ 65536) (q_mk (q_nI 1 (40 : Int32)) (40 : Int32).toNatClampNeg fun a122 => q_wr (q_pF l0 16 26 (va_rf (some a122))) (q_gd (¬ (40 : Int32) < 0 ∧ (40 : Int32).toNatClampNeg ≤ 65536) (q_mk (q_nI 1 (40 : Int32)) (40 : Int32).toNatClampNeg fun a130 => q_wr (q_pF l0 16 27 (va_rf (some a130))) (q_gd (¬ (40 : Int32) < 0 ∧ (40 : Int32).toNatClampNeg ≤ 65536) (q_mk (q_nI 1 (40 : Int32)) (40 : Int32).toNatClampNeg fun a138 => q_wr (q_pF l0 16 28 (va_rf (some a138))) (q_gd (¬ (1280 : Int32) < 0 ∧ (1280 : Int32).toNatClampNeg ≤ 65536) (q_mk (q_nI 1 (1280 : Int32)) (1280 : Int32).toNatClampNeg fun a147 => q_wr (q_pF l0 16 29 (va_rf (some a147))) (q_gd (¬ (96 : Int32) < 0 ∧ (96 : Int32).toNatClampNeg ≤ 65536) (q_mk (q_nI 1 (96 : Int32)) (96 : Int32).toNatClampNeg fun a155 => q_wr (q_pF l0 16 30 (va_rf (some a155))) (q_gd (¬ (96 : Int32) < 0 ∧ (96 : Int32).toNatClampNeg ≤ 65536) (q_mk (q_nI 1 (96 : Int32)) (96 : Int32).toNatClampNeg fun a163 => q_wr (q_pF l0 16 31 (va_rf (some a163))) (q_gd (¬ (96 : Int32) < 0 ∧ (96 : Int32).toNatClampNeg ≤ 65536) (q_mk (q_nI 1 (96 : Int32)) (96 : Int32).toNatClampNeg fun a171 => q_wr (q_pF l0 16 32 (va_rf (some a171))) (q_gd (¬ (96 : Int32) < 0 ∧ (96 : Int32).toNatClampNeg ≤ 65536) (q_mk (q_nI 1 (96 : Int32)) (96 : Int32).toNatClampNeg fun a179 => q_wr (q_pF l0 16 33 (va_rf (some a179))) (q_gd (¬ (96 : Int32) < 0 ∧ (96 : Int32).toNatClampNeg ≤ 65536) (q_mk (q_nI 1 (96 : Int32)) (96 : Int32).toNatClampNeg fun a187 => q_wr (q_pF l0 16 34 (va_rf (some a187))) (q_gd (¬ (1152 : Int32) < 0 ∧ (1152 : Int32).toNatClampNeg ≤ 65536) (q_mk (q_nI 1 (1152 : Int32)) (1152 : Int32).toNatClampNeg fun a196 => q_wr (q_pF l0 16 35 (va_rf (some a196))) (q_gd (¬ (480 : Int32) < 0 ∧ (480 : Int32).toNatClampNeg ≤ 65536) (q_mk (q_nI 1 (480 : Int32)) (480 : Int32).toNatClampNeg fun a205 => q_wr (q_pF l0 16 36 (va_rf (some a205))) (q_gd (¬ (480 : Int32) < 0 ∧ (480 : Int32).toNatClampNeg ≤ 65536) (q_mk (q_nI 1 (480 : Int32)) (480 : Int32).toNatClampNeg fun a214 => q_wr (q_pF l0 16 37 (va_rf (some a214))) (q_gd (¬ (15360 : Int32) < 0 ∧ (15360 : Int32).toNatClampNeg ≤ 65536) (q_mk (q_nI 1 (15360 : Int32)) (15360 : Int32).toNatClampNeg fun a223 => q_wr (q_pF l0 16 38 (va_rf (some a223))) (q_gd (¬ (160 : Int32) < 0 ∧ (160 : Int32).toNatClampNeg ≤ 65536) (q_mk (q_nI 1 (160 : Int32)) (160 : Int32).toNatClampNeg fun a232 => q_wr (q_pF l0 16 39 (va_rf (some a232))) (q_gd (¬ (4096 : Int32) < 0 ∧ (4096 : Int32).toNatClampNeg ≤ 65536) (q_mk (q_nL (4096 : Int32)) (4096 : Int32).toNatClampNeg fun a241 => q_wr (q_pF l0 16 40 (va_rf (some a241))) (q_gd (¬ (4096 : Int32) < 0 ∧ (4096 : Int32).toNatClampNeg ≤ 65536) (q_mk (q_nI 3 (4096 : Int32)) (4096 : Int32).toNatClampNeg fun a250 => q_wr (q_pF l0 16 41 (va_rf (some a250))) (q_gd (¬ (6002 : Int32) < 0 ∧ (6002 : Int32).toNatClampNeg ≤ 65536) (q_mk (q_nI 1 (6002 : Int32)) (6002 : Int32).toNatClampNeg fun a259 => q_wr (q_pF l0 16 45 (va_rf (some a259))) (q_gd (¬ (6002 : Int32) < 0 ∧ (6002 : Int32).toNatClampNeg ≤ 65536) (q_mk (q_nI 1 (6002 : Int32)) (6002 : Int32).toNatClampNeg fun a268 => q_wr (q_pF l0 16 46 (va_rf (some a268))) (q_gd (¬ (6002 : Int32) < 0 ∧ (6002 : Int32).toNatClampNeg ≤ 65536) (q_mk (q_nI 1 (6002 : Int32)) (6002 : Int32).toNatClampNeg fun a277 => q_wr (q_pF l0 16 47 (va_rf (some a277))) (q_gd (¬ (6002 : Int32) < 0 ∧ (6002 : Int32).toNatClampNeg ≤ 65536) (q_mk (q_nI 1 (6002 : Int32)) (6002 : Int32).toNatClampNeg fun a286 => q_wr (q_pF l0 16 48 (va_rf (some a286))) (q_gd (¬ (6002 : Int32) < 0 ∧ (6002 : Int32).toNatClampNeg ≤ 65536) (q_mk (q_nI 1 (6002 : Int32)) (6002 : Int32).toNatClampNeg fun a295 => q_wr (q_pF l0 16 49 (va_rf (some a295))) (q_gd (¬ (6002 : Int32) < 0 ∧ (6002 : Int32).toNatClampNeg ≤ 65536) (q_mk (q_nI 1 (6002 : Int32)) (6002 : Int32).toNatClampNeg fun a304 => q_wr (q_pF l0 16 50 (va_rf (some a304))) (q_gd (¬ (6002 : Int32) < 0 ∧ (6002 : Int32).toNatClampNeg ≤ 65536) (q_mk (q_nI 1 (6002 : Int32)) (6002 : Int32).toNatClampNeg fun a313 => q_wr (q_pF l0 16 51 (va_rf (some a313))) (q_gd (¬ (6000 : Int32) < 0 ∧ (6000 : Int32).toNatClampNeg ≤ 65536) (q_mk (q_nI 1 (6000 : Int32)) (6000 : Int32).toNatClampNeg fun a322 => q_wr (q_pF l0 16 53 (va_rf (some a322))) (q_gd (¬ (6000 : Int32) < 0 ∧ (6000 : Int32).toNatClampNeg ≤ 65536) (q_mk (q_nI 1 (6000 : Int32)) (6000 : Int32).toNatClampNeg fun a331 => q_wr (q_pF l0 16 54 (va_rf (some a331))) (q_gd (¬ (5 : Int32) < 0 ∧ (5 : Int32).toNatClampNeg ≤ 65536) (q_mk (q_nI 1 (5 : Int32)) (5 : Int32).toNatClampNeg fun a338 => q_wr (q_pF l0 16 55 (va_rf (some a338))) (q_gd (¬ (5 : Int32) < 0 ∧ (5 : Int32).toNatClampNeg ≤ 65536) (q_mk (q_nL (5 : Int32)) (5 : Int32).toNatClampNeg fun a345 => q_wr (q_pF l0 16 56 (va_rf (some a345))) (q_rt ())))))))))))))))))))))))))))))))))))))))))))))))))))))))))))))))))))))))))))))))))
theorem M_X13_init (κ : Nat → Nat) (l0 : Option Nat) : q_mo (F_X13_init κ l0) := (q_mo_gd (q_mo_gd (q_mo_mk fun a8 => (q_mo_wr (q_mo_gd (q_mo_mk fun a17 => (q_mo_wr (q_mo_gd (q_mo_mk fun a26 => (q_mo_wr (q_mo_wr (q_mo_wr (q_mo_gd (q_mo_mk fun a45 => (q_mo_wr (q_mo_gd (q_mo_mk fun a54 => (q_mo_wr (q_mo_gd (q_mo_mk fun a63 => (q_mo_wr (q_mo_gd (q_mo_mk fun a72 => (q_mo_wr (q_mo_gd (q_mo_mk fun a80 => (q_mo_wr (q_mo_gd (q_mo_mk fun a89 => (q_mo_wr (q_mo_gd (q_mo_mk fun a98 => (q_mo_wr (q_mo_gd (q_mo_mk fun a106 => (q_mo_wr (q_mo_gd (q_mo_mk fun a114 => (q_mo_wr (q_mo_gd (q_mo_mk fun a122 => (q_mo_wr (q_mo_gd (q_mo_mk fun a130 => (q_mo_wr (q_mo_gd (q_mo_mk fun a138 => (q_mo_wr (q_mo_gd (q_mo_mk fun a147 => (q_mo_wr (q_mo_gd (q_mo_mk fun a155 => (q_mo_wr (q_mo_gd (q_mo_mk fun a163 => (q_mo_wr (q_mo_gd (q_mo_mk fun a171 => (q_mo_wr (q_mo_gd (q_mo_mk fun a179 => (q_mo_wr (q_mo_gd (q_mo_mk fun a187 => (q_mo_wr (q_mo_gd (q_mo_mk fun a196 => (q_mo_wr (q_mo_gd (q_mo_mk fun a205 => (q_mo_wr (q_mo_gd (q_mo_mk fun a214 => (q_mo_wr (q_mo_gd (q_mo_mk fun a223 => (q_mo_wr (q_mo_gd (q_mo_mk fun a232 => (q_mo_wr (q_mo_gd (q_mo_mk fun a241 => (q_mo_wr (q_mo_gd (q_mo_mk fun a250 => (q_mo_wr (q_mo_gd (q_mo_mk fun a259 => (q_mo_wr (q_mo_gd (q_mo_mk fun a268 => (q_mo_wr (q_mo_gd (q_mo_mk fun a277 => (q_mo_wr (q_mo_gd (q_mo_mk fun a286 => (q_mo_wr (q_mo_gd (q_mo_mk fun a295 => (q_mo_wr (q_mo_gd (q_mo_mk fun a304 => (q_mo_wr (q_mo_gd (q_mo_mk fun a313 => (q_mo_wr (q_mo_gd (q_mo_mk fun a322 => (q_mo_wr (q_mo_gd (q_mo_mk fun a331 => (q_mo_wr (q_mo_gd (q_mo_mk fun a338 => (q_mo_wr (q_mo_gd (q_mo_mk fun a345 => (q_mo_wr q_mo_rt))))))))))))))))))))))))))))))))))))))))))))))))))))))))))))))))))))))))))))))))))))))))))))))))))))))))))))))))))))))))
theorem N_X13_init (κ : Nat → Nat) (l0 : Option Nat) : q_ni (F_X13_init κ l0) := (q_ni_gd (q_ni_gd (q_ni_mk fun a8 => (q_ni_wr (q_ni_gd (q_ni_mk fun a17 => (q_ni_wr (q_ni_gd (q_ni_mk fun a26 => (q_ni_wr (q_ni_wr (q_ni_wr (q_ni_gd (q_ni_mk fun a45 => (q_ni_wr (q_ni_gd (q_ni_mk fun a54 => (q_ni_wr (q_ni_gd (q_ni_mk fun a63 => (q_ni_wr (q_ni_gd (q_ni_mk fun a72 => (q_ni_wr (q_ni_gd (q_ni_mk fun a80 => (q_ni_wr (q_ni_gd (q_ni_mk fun a89 => (q_ni_wr (q_ni_gd (q_ni_mk fun a98 => (q_ni_wr (q_ni_gd (q_ni_mk fun a106 => (q_ni_wr (q_ni_gd (q_ni_mk fun a114 => (q_ni_wr (q_ni_gd (q_ni_mk fun a122 => (q_ni_wr (q_ni_gd (q_ni_mk fun a130 => (q_ni_wr (q_ni_gd (q_ni_mk fun a138 => (q_ni_wr (q_ni_gd (q_ni_mk fun a147 => (q_ni_wr (q_ni_gd (q_ni_mk fun a155 => (q_ni_wr (q_ni_gd (q_ni_mk fun a163 => (q_ni_wr (q_ni_gd (q_ni_mk fun a171 => (q_ni_wr (q_ni_gd (q_ni_mk fun a179 => (q_ni_wr (q_ni_gd (q_ni_mk fun a187 => (q_ni_wr (q_ni_gd (q_ni_mk fun a196 => (q_ni_wr (q_ni_gd (q_ni_mk fun a205 => (q_ni_wr (q_ni_gd (q_ni_mk fun a214 => (q_ni_wr (q_ni_gd (q_ni_mk fun a223 => (q_ni_wr (q_ni_gd (q_ni_mk fun a232 => (q_ni_wr (q_ni_gd (q_ni_mk fun a241 => (q_ni_wr (q_ni_gd (q_ni_mk fun a250 => (q_ni_wr (q_ni_gd (q_ni_mk fun a259 => (q_ni_wr (q_ni_gd (q_ni_mk fun a268 => (q_ni_wr (q_ni_gd (q_ni_mk fun a277 => (q_ni_wr (q_ni_gd (q_ni_mk fun a286 => (q_ni_wr (q_ni_gd (q_ni_mk fun a295 => (q_ni_wr (q_ni_gd (q_ni_mk fun a304 => (q_ni_wr (q_ni_gd (q_ni_mk fun a313 => (q_ni_wr (q_ni_gd (q_ni_mk fun a322 => (q_ni_wr (q_ni_gd (q_ni_mk fun a331 => (q_ni_wr (q_ni_gd (q_ni_mk fun a338 => (q_ni_wr (q_ni_gd (q_ni_mk fun a345 => (q_ni_wr q_ni_rt))))))))))))))))))))))))))))))))))))))))))))))))))))))))))))))))))))))))))))))))))))))))))))))))))))))))))))))))))))))))
set_option maxRecDepth 100000 in
set_option maxHeartbeats 4000000 in
theorem K_X13_init {E : q_Ev} (l0 : Option Nat) : q_Ct E yX13_init (.code yX13_init cX13_init 1 (none)) 1 20 [q_R l0] q_oV (F_X13_init (q_kap E) l0) := by
  refine q_enter (by decide) (Nat.le_of_ble_eq_true rfl) (fun Γ σ w h B hT => ?_)
  have C := B.1
  unfold F_X13_init at h
  refine q_aload_n (pc := 0) C 0 rfl dX13_init_0 rfl ?_
  refine q_objI (pc := 1) C dX13_init_1 qo_X13_1 (q_flo B.2.2.1 B.2.2.2.1 (by decide) (by decide)) (Nat.le_of_ble_eq_true rfl) h (fun h => ?_)
  refine q_aload_n (pc := 4) C 0 rfl dX13_init_4 rfl ?_
  refine q_sipush (pc := 5) (v := (6000 : Int32)) C dX13_init_5 (by decide) ?_
  refine q_newP (pc := 8) (t := 0) (A := ((6000 : Int32).toNatClampNeg, .inl (fun _ => 0))) C dX13_init_8 qa_byte rfl (by decide) (fun _ h => h) rfl (fun _ => rfl) (by decide) (by exact fun a8 => (q_mo_wr (q_mo_gd (q_mo_mk fun a17 => (q_mo_wr (q_mo_gd (q_mo_mk fun a26 => (q_mo_wr (q_mo_wr (q_mo_wr (q_mo_gd (q_mo_mk fun a45 => (q_mo_wr (q_mo_gd (q_mo_mk fun a54 => (q_mo_wr (q_mo_gd (q_mo_mk fun a63 => (q_mo_wr (q_mo_gd (q_mo_mk fun a72 => (q_mo_wr (q_mo_gd (q_mo_mk fun a80 => (q_mo_wr (q_mo_gd (q_mo_mk fun a89 => (q_mo_wr (q_mo_gd (q_mo_mk fun a98 => (q_mo_wr (q_mo_gd (q_mo_mk fun a106 => (q_mo_wr (q_mo_gd (q_mo_mk fun a114 => (q_mo_wr (q_mo_gd (q_mo_mk fun a122 => (q_mo_wr (q_mo_gd (q_mo_mk fun a130 => (q_mo_wr (q_mo_gd (q_mo_mk fun a138 => (q_mo_wr (q_mo_gd (q_mo_mk fun a147 => (q_mo_wr (q_mo_gd (q_mo_mk fun a155 => (q_mo_wr (q_mo_gd (q_mo_mk fun a163 => (q_mo_wr (q_mo_gd (q_mo_mk fun a171 => (q_mo_wr (q_mo_gd (q_mo_mk fun a179 => (q_mo_wr (q_mo_gd (q_mo_mk fun a187 => (q_mo_wr (q_mo_gd (q_mo_mk fun a196 => (q_mo_wr (q_mo_gd (q_mo_mk fun a205 => (q_mo_wr (q_mo_gd (q_mo_mk fun a214 => (q_mo_wr (q_mo_gd (q_mo_mk fun a223 => (q_mo_wr (q_mo_gd (q_mo_mk fun a232 => (q_mo_wr (q_mo_gd (q_mo_mk fun a241 => (q_mo_wr (q_mo_gd (q_mo_mk fun a250 => (q_mo_wr (q_mo_gd (q_mo_mk fun a259 => (q_mo_wr (q_mo_gd (q_mo_mk fun a268 => (q_mo_wr (q_mo_gd (q_mo_mk fun a277 => (q_mo_wr (q_mo_gd (q_mo_mk fun a286 => (q_mo_wr (q_mo_gd (q_mo_mk fun a295 => (q_mo_wr (q_mo_gd (q_mo_mk fun a304 => (q_mo_wr (q_mo_gd (q_mo_mk fun a313 => (q_mo_wr (q_mo_gd (q_mo_mk fun a322 => (q_mo_wr (q_mo_gd (q_mo_mk fun a331 => (q_mo_wr (q_mo_gd (q_mo_mk fun a338 => (q_mo_wr (q_mo_gd (q_mo_mk fun a345 => (q_mo_wr q_mo_rt)))))))))))))))))))))))))))))))))))))))))))))))))))))))))))))))))))))))))))))))))))))))))))))))))))))))))))))))))))))) B.2.1 h (fun a8 σ h => ?_)
  refine q_putV (pc := 10) (v := q_R (some a8)) C dX13_init_10 ql_X13_9 (Or.inr ⟨B.2.2.2.2.2, RX13, TX13, 57, rfl, rfl⟩) q_nfA q_nfA' h (fun M10 h => ?_)
  refine q_aload_n (pc := 13) C 0 rfl dX13_init_13 rfl ?_
  refine q_sipush (pc := 14) (v := (6000 : Int32)) C dX13_init_14 (by decide) ?_
  refine q_newP (pc := 17) (t := 0) (A := ((6000 : Int32).toNatClampNeg, .inl (fun _ => 0))) C dX13_init_17 qa_byte rfl (by decide) (fun _ h => h) rfl (fun _ => rfl) (by decide) (by exact fun a17 => (q_mo_wr (q_mo_gd (q_mo_mk fun a26 => (q_mo_wr (q_mo_wr (q_mo_wr (q_mo_gd (q_mo_mk fun a45 => (q_mo_wr (q_mo_gd (q_mo_mk fun a54 => (q_mo_wr (q_mo_gd (q_mo_mk fun a63 => (q_mo_wr (q_mo_gd (q_mo_mk fun a72 => (q_mo_wr (q_mo_gd (q_mo_mk fun a80 => (q_mo_wr (q_mo_gd (q_mo_mk fun a89 => (q_mo_wr (q_mo_gd (q_mo_mk fun a98 => (q_mo_wr (q_mo_gd (q_mo_mk fun a106 => (q_mo_wr (q_mo_gd (q_mo_mk fun a114 => (q_mo_wr (q_mo_gd (q_mo_mk fun a122 => (q_mo_wr (q_mo_gd (q_mo_mk fun a130 => (q_mo_wr (q_mo_gd (q_mo_mk fun a138 => (q_mo_wr (q_mo_gd (q_mo_mk fun a147 => (q_mo_wr (q_mo_gd (q_mo_mk fun a155 => (q_mo_wr (q_mo_gd (q_mo_mk fun a163 => (q_mo_wr (q_mo_gd (q_mo_mk fun a171 => (q_mo_wr (q_mo_gd (q_mo_mk fun a179 => (q_mo_wr (q_mo_gd (q_mo_mk fun a187 => (q_mo_wr (q_mo_gd (q_mo_mk fun a196 => (q_mo_wr (q_mo_gd (q_mo_mk fun a205 => (q_mo_wr (q_mo_gd (q_mo_mk fun a214 => (q_mo_wr (q_mo_gd (q_mo_mk fun a223 => (q_mo_wr (q_mo_gd (q_mo_mk fun a232 => (q_mo_wr (q_mo_gd (q_mo_mk fun a241 => (q_mo_wr (q_mo_gd (q_mo_mk fun a250 => (q_mo_wr (q_mo_gd (q_mo_mk fun a259 => (q_mo_wr (q_mo_gd (q_mo_mk fun a268 => (q_mo_wr (q_mo_gd (q_mo_mk fun a277 => (q_mo_wr (q_mo_gd (q_mo_mk fun a286 => (q_mo_wr (q_mo_gd (q_mo_mk fun a295 => (q_mo_wr (q_mo_gd (q_mo_mk fun a304 => (q_mo_wr (q_mo_gd (q_mo_mk fun a313 => (q_mo_wr (q_mo_gd (q_mo_mk fun a322 => (q_mo_wr (q_mo_gd (q_mo_mk fun a331 => (q_mo_wr (q_mo_gd (q_mo_mk fun a338 => (q_mo_wr (q_mo_gd (q_mo_mk fun a345 => (q_mo_wr q_mo_rt))))))))))))))))))))))))))))))))))))))))))))))))))))))))))))))))))))))))))))))))))))))))))))))))))))))))))))))))))) B.2.1 h (fun a17 σ h => ?_)
  refine q_putV (pc := 19) (v := q_R (some a17)) C dX13_init_19 ql_X13_13 (Or.inr ⟨B.2.2.2.2.2, RX13, TX13, 57, rfl, rfl⟩) q_nfA q_nfA' h (fun M19 h => ?_)
  refine q_aload_n (pc := 22) C 0 rfl dX13_init_22 rfl ?_
  refine q_sipush (pc := 23) (v := (400 : Int32)) C dX13_init_23 (by decide) ?_
  refine q_newP (pc := 26) (t := 0) (A := ((400 : Int32).toNatClampNeg, .inl (fun _ => 0))) C dX13_init_26 qa_byte rfl (by decide) (fun _ h => h) rfl (fun _ => rfl) (by decide) (by exact fun a26 => (q_mo_wr (q_mo_wr (q_mo_wr (q_mo_gd (q_mo_mk fun a45 => (q_mo_wr (q_mo_gd (q_mo_mk fun a54 => (q_mo_wr (q_mo_gd (q_mo_mk fun a63 => (q_mo_wr (q_mo_gd (q_mo_mk fun a72 => (q_mo_wr (q_mo_gd (q_mo_mk fun a80 => (q_mo_wr (q_mo_gd (q_mo_mk fun a89 => (q_mo_wr (q_mo_gd (q_mo_mk fun a98 => (q_mo_wr (q_mo_gd (q_mo_mk fun a106 => (q_mo_wr (q_mo_gd (q_mo_mk fun a114 => (q_mo_wr (q_mo_gd (q_mo_mk fun a122 => (q_mo_wr (q_mo_gd (q_mo_mk fun a130 => (q_mo_wr (q_mo_gd (q_mo_mk fun a138 => (q_mo_wr (q_mo_gd (q_mo_mk fun a147 => (q_mo_wr (q_mo_gd (q_mo_mk fun a155 => (q_mo_wr (q_mo_gd (q_mo_mk fun a163 => (q_mo_wr (q_mo_gd (q_mo_mk fun a171 => (q_mo_wr (q_mo_gd (q_mo_mk fun a179 => (q_mo_wr (q_mo_gd (q_mo_mk fun a187 => (q_mo_wr (q_mo_gd (q_mo_mk fun a196 => (q_mo_wr (q_mo_gd (q_mo_mk fun a205 => (q_mo_wr (q_mo_gd (q_mo_mk fun a214 => (q_mo_wr (q_mo_gd (q_mo_mk fun a223 => (q_mo_wr (q_mo_gd (q_mo_mk fun a232 => (q_mo_wr (q_mo_gd (q_mo_mk fun a241 => (q_mo_wr (q_mo_gd (q_mo_mk fun a250 => (q_mo_wr (q_mo_gd (q_mo_mk fun a259 => (q_mo_wr (q_mo_gd (q_mo_mk fun a268 => (q_mo_wr (q_mo_gd (q_mo_mk fun a277 => (q_mo_wr (q_mo_gd (q_mo_mk fun a286 => (q_mo_wr (q_mo_gd (q_mo_mk fun a295 => (q_mo_wr (q_mo_gd (q_mo_mk fun a304 => (q_mo_wr (q_mo_gd (q_mo_mk fun a313 => (q_mo_wr (q_mo_gd (q_mo_mk fun a322 => (q_mo_wr (q_mo_gd (q_mo_mk fun a331 => (q_mo_wr (q_mo_gd (q_mo_mk fun a338 => (q_mo_wr (q_mo_gd (q_mo_mk fun a345 => (q_mo_wr q_mo_rt)))))))))))))))))))))))))))))))))))))))))))))))))))))))))))))))))))))))))))))))))))))))))))))))))))))))))))))))) B.2.1 h (fun a26 σ h => ?_)
  refine q_putV (pc := 28) (v := q_R (some a26)) C dX13_init_28 ql_X13_16 (Or.inr ⟨B.2.2.2.2.2, RX13, TX13, 57, rfl, rfl⟩) q_nfA q_nfA' h (fun M28 h => ?_)
  refine q_aload_n (pc := 31) C 0 rfl dX13_init_31 rfl ?_
  refine q_iconst (pc := 32) (v := (-1 : Int32)) C dX13_init_32 (by decide) ?_
  refine q_putV (pc := 33) (v := q_I (-1 : Int32)) C dX13_init_33 ql_X13_19 (Or.inl rfl) rfl rfl h (fun M33 h => ?_)
  refine q_aload_n (pc := 36) C 0 rfl dX13_init_36 rfl ?_
  refine q_iconst (pc := 37) (v := (-1 : Int32)) C dX13_init_37 (by decide) ?_
  refine q_putV (pc := 38) (v := q_I (-1 : Int32)) C dX13_init_38 ql_X13_23 (Or.inl rfl) rfl rfl h (fun M38 h => ?_)
  refine q_aload_n (pc := 41) C 0 rfl dX13_init_41 rfl ?_
  refine q_sipush (pc := 42) (v := (6002 : Int32)) C dX13_init_42 (by decide) ?_
  refine q_newP (pc := 45) (t := 1) (A := ((6002 : Int32).toNatClampNeg, .inl (fun _ => 0))) C dX13_init_45 qa_int rfl (by decide) (fun _ h => h) rfl (fun _ => rfl) (by decide) (by exact fun a45 => (q_mo_wr (q_mo_gd (q_mo_mk fun a54 => (q_mo_wr (q_mo_gd (q_mo_mk fun a63 => (q_mo_wr (q_mo_gd (q_mo_mk fun a72 => (q_mo_wr (q_mo_gd (q_mo_mk fun a80 => (q_mo_wr (q_mo_gd (q_mo_mk fun a89 => (q_mo_wr (q_mo_gd (q_mo_mk fun a98 => (q_mo_wr (q_mo_gd (q_mo_mk fun a106 => (q_mo_wr (q_mo_gd (q_mo_mk fun a114 => (q_mo_wr (q_mo_gd (q_mo_mk fun a122 => (q_mo_wr (q_mo_gd (q_mo_mk fun a130 => (q_mo_wr (q_mo_gd (q_mo_mk fun a138 => (q_mo_wr (q_mo_gd (q_mo_mk fun a147 => (q_mo_wr (q_mo_gd (q_mo_mk fun a155 => (q_mo_wr (q_mo_gd (q_mo_mk fun a163 => (q_mo_wr (q_mo_gd (q_mo_mk fun a171 => (q_mo_wr (q_mo_gd (q_mo_mk fun a179 => (q_mo_wr (q_mo_gd (q_mo_mk fun a187 => (q_mo_wr (q_mo_gd (q_mo_mk fun a196 => (q_mo_wr (q_mo_gd (q_mo_mk fun a205 => (q_mo_wr (q_mo_gd (q_mo_mk fun a214 => (q_mo_wr (q_mo_gd (q_mo_mk fun a223 => (q_mo_wr (q_mo_gd (q_mo_mk fun a232 => (q_mo_wr (q_mo_gd (q_mo_mk fun a241 => (q_mo_wr (q_mo_gd (q_mo_mk fun a250 => (q_mo_wr (q_mo_gd (q_mo_mk fun a259 => (q_mo_wr (q_mo_gd (q_mo_mk fun a268 => (q_mo_wr (q_mo_gd (q_mo_mk fun a277 => (q_mo_wr (q_mo_gd (q_mo_mk fun a286 => (q_mo_wr (q_mo_gd (q_mo_mk fun a295 => (q_mo_wr (q_mo_gd (q_mo_mk fun a304 => (q_mo_wr (q_mo_gd (q_mo_mk fun a313 => (q_mo_wr (q_mo_gd (q_mo_mk fun a322 => (q_mo_wr (q_mo_gd (q_mo_mk fun a331 => (q_mo_wr (q_mo_gd (q_mo_mk fun a338 => (q_mo_wr (q_mo_gd (q_mo_mk fun a345 => (q_mo_wr q_mo_rt))))))))))))))))))))))))))))))))))))))))))))))))))))))))))))))))))))))))))))))))))))))))))))))))))))))))))) B.2.1 h (fun a45 σ h => ?_)
  refine q_putV (pc := 47) (v := q_R (some a45)) C dX13_init_47 ql_X13_26 (Or.inr ⟨B.2.2.2.2.2, RX13, TX13, 57, rfl, rfl⟩) q_nfA q_nfA' h (fun M47 h => ?_)
  refine q_aload_n (pc := 50) C 0 rfl dX13_init_50 rfl ?_
  refine q_sipush (pc := 51) (v := (6002 : Int32)) C dX13_init_51 (by decide) ?_
  refine q_newP (pc := 54) (t := 1) (A := ((6002 : Int32).toNatClampNeg, .inl (fun _ => 0))) C dX13_init_54 qa_int rfl (by decide) (fun _ h => h) rfl (fun _ => rfl) (by decide) (by exact fun a54 => (q_mo_wr (q_mo_gd (q_mo_mk fun a63 => (q_mo_wr (q_mo_gd (q_mo_mk fun a72 => (q_mo_wr (q_mo_gd (q_mo_mk fun a80 => (q_mo_wr (q_mo_gd (q_mo_mk fun a89 => (q_mo_wr (q_mo_gd (q_mo_mk fun a98 => (q_mo_wr (q_mo_gd (q_mo_mk fun a106 => (q_mo_wr (q_mo_gd (q_mo_mk fun a114 => (q_mo_wr (q_mo_gd (q_mo_mk fun a122 => (q_mo_wr (q_mo_gd (q_mo_mk fun a130 => (q_mo_wr (q_mo_gd (q_mo_mk fun a138 => (q_mo_wr (q_mo_gd (q_mo_mk fun a147 => (q_mo_wr (q_mo_gd (q_mo_mk fun a155 => (q_mo_wr (q_mo_gd (q_mo_mk fun a163 => (q_mo_wr (q_mo_gd (q_mo_mk fun a171 => (q_mo_wr (q_mo_gd (q_mo_mk fun a179 => (q_mo_wr (q_mo_gd (q_mo_mk fun a187 => (q_mo_wr (q_mo_gd (q_mo_mk fun a196 => (q_mo_wr (q_mo_gd (q_mo_mk fun a205 => (q_mo_wr (q_mo_gd (q_mo_mk fun a214 => (q_mo_wr (q_mo_gd (q_mo_mk fun a223 => (q_mo_wr (q_mo_gd (q_mo_mk fun a232 => (q_mo_wr (q_mo_gd (q_mo_mk fun a241 => (q_mo_wr (q_mo_gd (q_mo_mk fun a250 => (q_mo_wr (q_mo_gd (q_mo_mk fun a259 => (q_mo_wr (q_mo_gd (q_mo_mk fun a268 => (q_mo_wr (q_mo_gd (q_mo_mk fun a277 => (q_mo_wr (q_mo_gd (q_mo_mk fun a286 => (q_mo_wr (q_mo_gd (q_mo_mk fun a295 => (q_mo_wr (q_mo_gd (q_mo_mk fun a304 => (q_mo_wr (q_mo_gd (q_mo_mk fun a313 => (q_mo_wr (q_mo_gd (q_mo_mk fun a322 => (q_mo_wr (q_mo_gd (q_mo_mk fun a331 => (q_mo_wr (q_mo_gd (q_mo_mk fun a338 => (q_mo_wr (q_mo_gd (q_mo_mk fun a345 => (q_mo_wr q_mo_rt)))))))))))))))))))))))))))))))))))))))))))))))))))))))))))))))))))))))))))))))))))))))))))))))))))))))) B.2.1 h (fun a54 σ h => ?_)
  refine q_putV (pc := 56) (v := q_R (some a54)) C dX13_init_56 ql_X13_30 (Or.inr ⟨B.2.2.2.2.2, RX13, TX13, 57, rfl, rfl⟩) q_nfA q_nfA' h (fun M56 h => ?_)
  refine q_aload_n (pc := 59) C 0 rfl dX13_init_59 rfl ?_
  refine q_sipush (pc := 60) (v := (6002 : Int32)) C dX13_init_60 (by decide) ?_
  refine q_newP (pc := 63) (t := 1) (A := ((6002 : Int32).toNatClampNeg, .inl (fun _ => 0))) C dX13_init_63 qa_int rfl (by decide) (fun _ h => h) rfl (fun _ => rfl) (by decide) (by exact fun a63 => (q_mo_wr (q_mo_gd (q_mo_mk fun a72 => (q_mo_wr (q_mo_gd (q_mo_mk fun a80 => (q_mo_wr (q_mo_gd (q_mo_mk fun a89 => (q_mo_wr (q_mo_gd (q_mo_mk fun a98 => (q_mo_wr (q_mo_gd (q_mo_mk fun a106 => (q_mo_wr (q_mo_gd (q_mo_mk fun a114 => (q_mo_wr (q_mo_gd (q_mo_mk fun a122 => (q_mo_wr (q_mo_gd (q_mo_mk fun a130 => (q_mo_wr (q_mo_gd (q_mo_mk fun a138 => (q_mo_wr (q_mo_gd (q_mo_mk fun a147 => (q_mo_wr (q_mo_gd (q_mo_mk fun a155 => (q_mo_wr (q_mo_gd (q_mo_mk fun a163 => (q_mo_wr (q_mo_gd (q_mo_mk fun a171 => (q_mo_wr (q_mo_gd (q_mo_mk fun a179 => (q_mo_wr (q_mo_gd (q_mo_mk fun a187 => (q_mo_wr (q_mo_gd (q_mo_mk fun a196 => (q_mo_wr (q_mo_gd (q_mo_mk fun a205 => (q_mo_wr (q_mo_gd (q_mo_mk fun a214 => (q_mo_wr (q_mo_gd (q_mo_mk fun a223 => (q_mo_wr (q_mo_gd (q_mo_mk fun a232 => (q_mo_wr (q_mo_gd (q_mo_mk fun a241 => (q_mo_wr (q_mo_gd (q_mo_mk fun a250 => (q_mo_wr (q_mo_gd (q_mo_mk fun a259 => (q_mo_wr (q_mo_gd (q_mo_mk fun a268 => (q_mo_wr (q_mo_gd (q_mo_mk fun a277 => (q_mo_wr (q_mo_gd (q_mo_mk fun a286 => (q_mo_wr (q_mo_gd (q_mo_mk fun a295 => (q_mo_wr (q_mo_gd (q_mo_mk fun a304 => (q_mo_wr (q_mo_gd (q_mo_mk fun a313 => (q_mo_wr (q_mo_gd (q_mo_mk fun a322 => (q_mo_wr (q_mo_gd (q_mo_mk fun a331 => (q_mo_wr (q_mo_gd (q_mo_mk fun a338 => (q_mo_wr (q_mo_gd (q_mo_mk fun a345 => (q_mo_wr q_mo_rt))))))))))))))))))))))))))))))))))))))))))))))))))))))))))))))))))))))))))))))))))))))))))))))))))))) B.2.1 h (fun a63 σ h => ?_)
  refine q_putV (pc := 65) (v := q_R (some a63)) C dX13_init_65 ql_X13_33 (Or.inr ⟨B.2.2.2.2.2, RX13, TX13, 57, rfl, rfl⟩) q_nfA q_nfA' h (fun M65 h => ?_)
  refine q_aload_n (pc := 68) C 0 rfl dX13_init_68 rfl ?_
  refine q_sipush (pc := 69) (v := (6002 : Int32)) C dX13_init_69 (by decide) ?_
  refine q_newP (pc := 72) (t := 2) (A := ((6002 : Int32).toNatClampNeg, .inr (.inl (fun _ => 0)))) C dX13_init_72 qa_long rfl (by decide) (fun _ h => h) rfl (fun _ => rfl) (by decide) (by exact fun a72 => (q_mo_wr (q_mo_gd (q_mo_mk fun a80 => (q_mo_wr (q_mo_gd (q_mo_mk fun a89 => (q_mo_wr (q_mo_gd (q_mo_mk fun a98 => (q_mo_wr (q_mo_gd (q_mo_mk fun a106 => (q_mo_wr (q_mo_gd (q_mo_mk fun a114 => (q_mo_wr (q_mo_gd (q_mo_mk fun a122 => (q_mo_wr (q_mo_gd (q_mo_mk fun a130 => (q_mo_wr (q_mo_gd (q_mo_mk fun a138 => (q_mo_wr (q_mo_gd (q_mo_mk fun a147 => (q_mo_wr (q_mo_gd (q_mo_mk fun a155 => (q_mo_wr (q_mo_gd (q_mo_mk fun a163 => (q_mo_wr (q_mo_gd (q_mo_mk fun a171 => (q_mo_wr (q_mo_gd (q_mo_mk fun a179 => (q_mo_wr (q_mo_gd (q_mo_mk fun a187 => (q_mo_wr (q_mo_gd (q_mo_mk fun a196 => (q_mo_wr (q_mo_gd (q_mo_mk fun a205 => (q_mo_wr (q_mo_gd (q_mo_mk fun a214 => (q_mo_wr (q_mo_gd (q_mo_mk fun a223 => (q_mo_wr (q_mo_gd (q_mo_mk fun a232 => (q_mo_wr (q_mo_gd (q_mo_mk fun a241 => (q_mo_wr (q_mo_gd (q_mo_mk fun a250 => (q_mo_wr (q_mo_gd (q_mo_mk fun a259 => (q_mo_wr (q_mo_gd (q_mo_mk fun a268 => (q_mo_wr (q_mo_gd (q_mo_mk fun a277 => (q_mo_wr (q_mo_gd (q_mo_mk fun a286 => (q_mo_wr (q_mo_gd (q_mo_mk fun a295 => (q_mo_wr (q_mo_gd (q_mo_mk fun a304 => (q_mo_wr (q_mo_gd (q_mo_mk fun a313 => (q_mo_wr (q_mo_gd (q_mo_mk fun a322 => (q_mo_wr (q_mo_gd (q_mo_mk fun a331 => (q_mo_wr (q_mo_gd (q_mo_mk fun a338 => (q_mo_wr (q_mo_gd (q_mo_mk fun a345 => (q_mo_wr q_mo_rt)))))))))))))))))))))))))))))))))))))))))))))))))))))))))))))))))))))))))))))))))))))))))))))))))) B.2.1 h (fun a72 σ h => ?_)
  refine q_putV (pc := 74) (v := q_R (some a72)) C dX13_init_74 ql_X13_36 (Or.inr ⟨B.2.2.2.2.2, RX13, TX13, 57, rfl, rfl⟩) q_nfA q_nfA' h (fun M74 h => ?_)
  refine q_aload_n (pc := 77) C 0 rfl dX13_init_77 rfl ?_
  refine q_ldcI (pc := 78) (v := (60000 : Int32)) C dX13_init_78 qc_X13_40 ?_
  refine q_newP (pc := 80) (t := 0) (A := ((60000 : Int32).toNatClampNeg, .inl (fun _ => 0))) C dX13_init_80 qa_byte rfl (by decide) (fun _ h => h) rfl (fun _ => rfl) (by decide) (by exact fun a80 => (q_mo_wr (q_mo_gd (q_mo_mk fun a89 => (q_mo_wr (q_mo_gd (q_mo_mk fun a98 => (q_mo_wr (q_mo_gd (q_mo_mk fun a106 => (q_mo_wr (q_mo_gd (q_mo_mk fun a114 => (q_mo_wr (q_mo_gd (q_mo_mk fun a122 => (q_mo_wr (q_mo_gd (q_mo_mk fun a130 => (q_mo_wr (q_mo_gd (q_mo_mk fun a138 => (q_mo_wr (q_mo_gd (q_mo_mk fun a147 => (q_mo_wr (q_mo_gd (q_mo_mk fun a155 => (q_mo_wr (q_mo_gd (q_mo_mk fun a163 => (q_mo_wr (q_mo_gd (q_mo_mk fun a171 => (q_mo_wr (q_mo_gd (q_mo_mk fun a179 => (q_mo_wr (q_mo_gd (q_mo_mk fun a187 => (q_mo_wr (q_mo_gd (q_mo_mk fun a196 => (q_mo_wr (q_mo_gd (q_mo_mk fun a205 => (q_mo_wr (q_mo_gd (q_mo_mk fun a214 => (q_mo_wr (q_mo_gd (q_mo_mk fun a223 => (q_mo_wr (q_mo_gd (q_mo_mk fun a232 => (q_mo_wr (q_mo_gd (q_mo_mk fun a241 => (q_mo_wr (q_mo_gd (q_mo_mk fun a250 => (q_mo_wr (q_mo_gd (q_mo_mk fun a259 => (q_mo_wr (q_mo_gd (q_mo_mk fun a268 => (q_mo_wr (q_mo_gd (q_mo_mk fun a277 => (q_mo_wr (q_mo_gd (q_mo_mk fun a286 => (q_mo_wr (q_mo_gd (q_mo_mk fun a295 => (q_mo_wr (q_mo_gd (q_mo_mk fun a304 => (q_mo_wr (q_mo_gd (q_mo_mk fun a313 => (q_mo_wr (q_mo_gd (q_mo_mk fun a322 => (q_mo_wr (q_mo_gd (q_mo_mk fun a331 => (q_mo_wr (q_mo_gd (q_mo_mk fun a338 => (q_mo_wr (q_mo_gd (q_mo_mk fun a345 => (q_mo_wr q_mo_rt))))))))))))))))))))))))))))))))))))))))))))))))))))))))))))))))))))))))))))))))))))))))))))))) B.2.1 h (fun a80 σ h => ?_)
  refine q_putV (pc := 82) (v := q_R (some a80)) C dX13_init_82 ql_X13_41 (Or.inr ⟨B.2.2.2.2.2, RX13, TX13, 57, rfl, rfl⟩) q_nfA q_nfA' h (fun M82 h => ?_)
  refine q_aload_n (pc := 85) C 0 rfl dX13_init_85 rfl ?_
  refine q_sipush (pc := 86) (v := (8000 : Int32)) C dX13_init_86 (by decide) ?_
  refine q_newP (pc := 89) (t := 1) (A := ((8000 : Int32).toNatClampNeg, .inl (fun _ => 0))) C dX13_init_89 qa_int rfl (by decide) (fun _ h => h) rfl (fun _ => rfl) (by decide) (by exact fun a89 => (q_mo_wr (q_mo_gd (q_mo_mk fun a98 => (q_mo_wr (q_mo_gd (q_mo_mk fun a106 => (q_mo_wr (q_mo_gd (q_mo_mk fun a114 => (q_mo_wr (q_mo_gd (q_mo_mk fun a122 => (q_mo_wr (q_mo_gd (q_mo_mk fun a130 => (q_mo_wr (q_mo_gd (q_mo_mk fun a138 => (q_mo_wr (q_mo_gd (q_mo_mk fun a147 => (q_mo_wr (q_mo_gd (q_mo_mk fun a155 => (q_mo_wr (q_mo_gd (q_mo_mk fun a163 => (q_mo_wr (q_mo_gd (q_mo_mk fun a171 => (q_mo_wr (q_mo_gd (q_mo_mk fun a179 => (q_mo_wr (q_mo_gd (q_mo_mk fun a187 => (q_mo_wr (q_mo_gd (q_mo_mk fun a196 => (q_mo_wr (q_mo_gd (q_mo_mk fun a205 => (q_mo_wr (q_mo_gd (q_mo_mk fun a214 => (q_mo_wr (q_mo_gd (q_mo_mk fun a223 => (q_mo_wr (q_mo_gd (q_mo_mk fun a232 => (q_mo_wr (q_mo_gd (q_mo_mk fun a241 => (q_mo_wr (q_mo_gd (q_mo_mk fun a250 => (q_mo_wr (q_mo_gd (q_mo_mk fun a259 => (q_mo_wr (q_mo_gd (q_mo_mk fun a268 => (q_mo_wr (q_mo_gd (q_mo_mk fun a277 => (q_mo_wr (q_mo_gd (q_mo_mk fun a286 => (q_mo_wr (q_mo_gd (q_mo_mk fun a295 => (q_mo_wr (q_mo_gd (q_mo_mk fun a304 => (q_mo_wr (q_mo_gd (q_mo_mk fun a313 => (q_mo_wr (q_mo_gd (q_mo_mk fun a322 => (q_mo_wr (q_mo_gd (q_mo_mk fun a331 => (q_mo_wr (q_mo_gd (q_mo_mk fun a338 => (q_mo_wr (q_mo_gd (q_mo_mk fun a345 => (q_mo_wr q_mo_rt)))))))))))))))))))))))))))))))))))))))))))))))))))))))))))))))))))))))))))))))))))))))))))) B.2.1 h (fun a89 σ h => ?_)
  refine q_putV (pc := 91) (v := q_R (some a89)) C dX13_init_91 ql_X13_44 (Or.inr ⟨B.2.2.2.2.2, RX13, TX13, 57, rfl, rfl⟩) q_nfA q_nfA' h (fun M91 h => ?_)
  refine q_aload_n (pc := 94) C 0 rfl dX13_init_94 rfl ?_
  refine q_sipush (pc := 95) (v := (8000 : Int32)) C dX13_init_95 (by decide) ?_
  refine q_newP (pc := 98) (t := 1) (A := ((8000 : Int32).toNatClampNeg, .inl (fun _ => 0))) C dX13_init_98 qa_int rfl (by decide) (fun _ h => h) rfl (fun _ => rfl) (by decide) (by exact fun a98 => (q_mo_wr (q_mo_gd (q_mo_mk fun a106 => (q_mo_wr (q_mo_gd (q_mo_mk fun a114 => (q_mo_wr (q_mo_gd (q_mo_mk fun a122 => (q_mo_wr (q_mo_gd (q_mo_mk fun a130 => (q_mo_wr (q_mo_gd (q_mo_mk fun a138 => (q_mo_wr (q_mo_gd (q_mo_mk fun a147 => (q_mo_wr (q_mo_gd (q_mo_mk fun a155 => (q_mo_wr (q_mo_gd (q_mo_mk fun a163 => (q_mo_wr (q_mo_gd (q_mo_mk fun a171 => (q_mo_wr (q_mo_gd (q_mo_mk fun a179 => (q_mo_wr (q_mo_gd (q_mo_mk fun a187 => (q_mo_wr (q_mo_gd (q_mo_mk fun a196 => (q_mo_wr (q_mo_gd (q_mo_mk fun a205 => (q_mo_wr (q_mo_gd (q_mo_mk fun a214 => (q_mo_wr (q_mo_gd (q_mo_mk fun a223 => (q_mo_wr (q_mo_gd (q_mo_mk fun a232 => (q_mo_wr (q_mo_gd (q_mo_mk fun a241 => (q_mo_wr (q_mo_gd (q_mo_mk fun a250 => (q_mo_wr (q_mo_gd (q_mo_mk fun a259 => (q_mo_wr (q_mo_gd (q_mo_mk fun a268 => (q_mo_wr (q_mo_gd (q_mo_mk fun a277 => (q_mo_wr (q_mo_gd (q_mo_mk fun a286 => (q_mo_wr (q_mo_gd (q_mo_mk fun a295 => (q_mo_wr (q_mo_gd (q_mo_mk fun a304 => (q_mo_wr (q_mo_gd (q_mo_mk fun a313 => (q_mo_wr (q_mo_gd (q_mo_mk fun a322 => (q_mo_wr (q_mo_gd (q_mo_mk fun a331 => (q_mo_wr (q_mo_gd (q_mo_mk fun a338 => (q_mo_wr (q_mo_gd (q_mo_mk fun a345 => (q_mo_wr q_mo_rt))))))))))))))))))))))))))))))))))))))))))))))))))))))))))))))))))))))))))))))))))))))))) B.2.1 h (fun a98 σ h => ?_)
  refine q_putV (pc := 100) (v := q_R (some a98)) C dX13_init_100 ql_X13_47 (Or.inr ⟨B.2.2.2.2.2, RX13, TX13, 57, rfl, rfl⟩) q_nfA q_nfA' h (fun M100 h => ?_)
  refine q_aload_n (pc := 103) C 0 rfl dX13_init_103 rfl ?_
  refine q_bipush (pc := 104) (v := (40 : Int32)) C dX13_init_104 (by decide) ?_
  refine q_newP (pc := 106) (t := 1) (A := ((40 : Int32).toNatClampNeg, .inl (fun _ => 0))) C dX13_init_106 qa_int rfl (by decide) (fun _ h => h) rfl (fun _ => rfl) (by decide) (by exact fun a106 => (q_mo_wr (q_mo_gd (q_mo_mk fun a114 => (q_mo_wr (q_mo_gd (q_mo_mk fun a122 => (q_mo_wr (q_mo_gd (q_mo_mk fun a130 => (q_mo_wr (q_mo_gd (q_mo_mk fun a138 => (q_mo_wr (q_mo_gd (q_mo_mk fun a147 => (q_mo_wr (q_mo_gd (q_mo_mk fun a155 => (q_mo_wr (q_mo_gd (q_mo_mk fun a163 => (q_mo_wr (q_mo_gd (q_mo_mk fun a171 => (q_mo_wr (q_mo_gd (q_mo_mk fun a179 => (q_mo_wr (q_mo_gd (q_mo_mk fun a187 => (q_mo_wr (q_mo_gd (q_mo_mk fun a196 => (q_mo_wr (q_mo_gd (q_mo_mk fun a205 => (q_mo_wr (q_mo_gd (q_mo_mk fun a214 => (q_mo_wr (q_mo_gd (q_mo_mk fun a223 => (q_mo_wr (q_mo_gd (q_mo_mk fun a232 => (q_mo_wr (q_mo_gd (q_mo_mk fun a241 => (q_mo_wr (q_mo_gd (q_mo_mk fun a250 => (q_mo_wr (q_mo_gd (q_mo_mk fun a259 => (q_mo_wr (q_mo_gd (q_mo_mk fun a268 => (q_mo_wr (q_mo_gd (q_mo_mk fun a277 => (q_mo_wr (q_mo_gd (q_mo_mk fun a286 => (q_mo_wr (q_mo_gd (q_mo_mk fun a295 => (q_mo_wr (q_mo_gd (q_mo_mk fun a304 => (q_mo_wr (q_mo_gd (q_mo_mk fun a313 => (q_mo_wr (q_mo_gd (q_mo_mk fun a322 => (q_mo_wr (q_mo_gd (q_mo_mk fun a331 => (q_mo_wr (q_mo_gd (q_mo_mk fun a338 => (q_mo_wr (q_mo_gd (q_mo_mk fun a345 => (q_mo_wr q_mo_rt)))))))))))))))))))))))))))))))))))))))))))))))))))))))))))))))))))))))))))))))))))))) B.2.1 h (fun a106 σ h => ?_)
  refine q_putV (pc := 108) (v := q_R (some a106)) C dX13_init_108 ql_X13_50 (Or.inr ⟨B.2.2.2.2.2, RX13, TX13, 57, rfl, rfl⟩) q_nfA q_nfA' h (fun M108 h => ?_)
  refine q_aload_n (pc := 111) C 0 rfl dX13_init_111 rfl ?_
  refine q_bipush (pc := 112) (v := (40 : Int32)) C dX13_init_112 (by decide) ?_
  refine q_newP (pc := 114) (t := 1) (A := ((40 : Int32).toNatClampNeg, .inl (fun _ => 0))) C dX13_init_114 qa_int rfl (by decide) (fun _ h => h) rfl (fun _ => rfl) (by decide) (by exact fun a114 => (q_mo_wr (q_mo_gd (q_mo_mk fun a122 => (q_mo_wr (q_mo_gd (q_mo_mk fun a130 => (q_mo_wr (q_mo_gd (q_mo_mk fun a138 => (q_mo_wr (q_mo_gd (q_mo_mk fun a147 => (q_mo_wr (q_mo_gd (q_mo_mk fun a155 => (q_mo_wr (q_mo_gd (q_mo_mk fun a163 => (q_mo_wr (q_mo_gd (q_mo_mk fun a171 => (q_mo_wr (q_mo_gd (q_mo_mk fun a179 => (q_mo_wr (q_mo_gd (q_mo_mk fun a187 => (q_mo_wr (q_mo_gd (q_mo_mk fun a196 => (q_mo_wr (q_mo_gd (q_mo_mk fun a205 => (q_mo_wr (q_mo_gd (q_mo_mk fun a214 => (q_mo_wr (q_mo_gd (q_mo_mk fun a223 => (q_mo_wr (q_mo_gd (q_mo_mk fun a232 => (q_mo_wr (q_mo_gd (q_mo_mk fun a241 => (q_mo_wr (q_mo_gd (q_mo_mk fun a250 => (q_mo_wr (q_mo_gd (q_mo_mk fun a259 => (q_mo_wr (q_mo_gd (q_mo_mk fun a268 => (q_mo_wr (q_mo_gd (q_mo_mk fun a277 => (q_mo_wr (q_mo_gd (q_mo_mk fun a286 => (q_mo_wr (q_mo_gd (q_mo_mk fun a295 => (q_mo_wr (q_mo_gd (q_mo_mk fun a304 => (q_mo_wr (q_mo_gd (q_mo_mk fun a313 => (q_mo_wr (q_mo_gd (q_mo_mk fun a322 => (q_mo_wr (q_mo_gd (q_mo_mk fun a331 => (q_mo_wr (q_mo_gd (q_mo_mk fun a338 => (q_mo_wr (q_mo_gd (q_mo_mk fun a345 => (q_mo_wr q_mo_rt))))))))))))))))))))))))))))))))))))))))))))))))))))))))))))))))))))))))))))))))))) B.2.1 h (fun a114 σ h => ?_)
  refine q_putV (pc := 116) (v := q_R (some a114)) C dX13_init_116 ql_X13_53 (Or.inr ⟨B.2.2.2.2.2, RX13, TX13, 57, rfl, rfl⟩) q_nfA q_nfA' h (fun M116 h => ?_)
  refine q_aload_n (pc := 119) C 0 rfl dX13_init_119 rfl ?_
  refine q_bipush (pc := 120) (v := (40 : Int32)) C dX13_init_120 (by decide) ?_
  refine q_newP (pc := 122) (t := 1) (A := ((40 : Int32).toNatClampNeg, .inl (fun _ => 0))) C dX13_init_122 qa_int rfl (by decide) (fun _ h => h) rfl (fun _ => rfl) (by decide) (by exact fun a122 => (q_mo_wr (q_mo_gd (q_mo_mk fun a130 => (q_mo_wr (q_mo_gd (q_mo_mk fun a138 => (q_mo_wr (q_mo_gd (q_mo_mk fun a147 => (q_mo_wr (q_mo_gd (q_mo_mk fun a155 => (q_mo_wr (q_mo_gd (q_mo_mk fun a163 => (q_mo_wr (q_mo_gd (q_mo_mk fun a171 => (q_mo_wr (q_mo_gd (q_mo_mk fun a179 => (q_mo_wr (q_mo_gd (q_mo_mk fun a187 => (q_mo_wr (q_mo_gd (q_mo_mk fun a196 => (q_mo_wr (q_mo_gd (q_mo_mk fun a205 => (q_mo_wr (q_mo_gd (q_mo_mk fun a214 => (q_mo_wr (q_mo_gd (q_mo_mk fun a223 => (q_mo_wr (q_mo_gd (q_mo_mk fun a232 => (q_mo_wr (q_mo_gd (q_mo_mk fun a241 => (q_mo_wr (q_mo_gd (q_mo_mk fun a250 => (q_mo_wr (q_mo_gd (q_mo_mk fun a259 => (q_mo_wr (q_mo_gd (q_mo_mk fun a268 => (q_mo_wr (q_mo_gd (q_mo_mk fun a277 => (q_mo_wr (q_mo_gd (q_mo_mk fun a286 => (q_mo_wr (q_mo_gd (q_mo_mk fun a295 => (q_mo_wr (q_mo_gd (q_mo_mk fun a304 => (q_mo_wr (q_mo_gd (q_mo_mk fun a313 => (q_mo_wr (q_mo_gd (q_mo_mk fun a322 => (q_mo_wr (q_mo_gd (q_mo_mk fun a331 => (q_mo_wr (q_mo_gd (q_mo_mk fun a338 => (q_mo_wr (q_mo_gd (q_mo_mk fun a345 => (q_mo_wr q_mo_rt)))))))))))))))))))))))))))))))))))))))))))))))))))))))))))))))))))))))))))))))) B.2.1 h (fun a122 σ h => ?_)
  refine q_putV (pc := 124) (v := q_R (some a122)) C dX13_init_124 ql_X13_56 (Or.inr ⟨B.2.2.2.2.2, RX13, TX13, 57, rfl, rfl⟩) q_nfA q_nfA' h (fun M124 h => ?_)
  refine q_aload_n (pc := 127) C 0 rfl dX13_init_127 rfl ?_
  refine q_bipush (pc := 128) (v := (40 : Int32)) C dX13_init_128 (by decide) ?_
  refine q_newP (pc := 130) (t := 1) (A := ((40 : Int32).toNatClampNeg, .inl (fun _ => 0))) C dX13_init_130 qa_int rfl (by decide) (fun _ h => h) rfl (fun _ => rfl) (by decide) (by exact fun a130 => (q_mo_wr (q_mo_gd (q_mo_mk fun a138 => (q_mo_wr (q_mo_gd (q_mo_mk fun a147 => (q_mo_wr (q_mo_gd (q_mo_mk fun a155 => (q_mo_wr (q_mo_gd (q_mo_mk fun a163 => (q_mo_wr (q_mo_gd (q_mo_mk fun a171 => (q_mo_wr (q_mo_gd (q_mo_mk fun a179 => (q_mo_wr (q_mo_gd (q_mo_mk fun a187 => (q_mo_wr (q_mo_gd (q_mo_mk fun a196 => (q_mo_wr (q_mo_gd (q_mo_mk fun a205 => (q_mo_wr (q_mo_gd (q_mo_mk fun a214 => (q_mo_wr (q_mo_gd (q_mo_mk fun a223 => (q_mo_wr (q_mo_gd (q_mo_mk fun a232 => (q_mo_wr (q_mo_gd (q_mo_mk fun a241 => (q_mo_wr (q_mo_gd (q_mo_mk fun a250 => (q_mo_wr (q_mo_gd (q_mo_mk fun a259 => (q_mo_wr (q_mo_gd (q_mo_mk fun a268 => (q_mo_wr (q_mo_gd (q_mo_mk fun a277 => (q_mo_wr (q_mo_gd (q_mo_mk fun a286 => (q_mo_wr (q_mo_gd (q_mo_mk fun a295 => (q_mo_wr (q_mo_gd (q_mo_mk fun a304 => (q_mo_wr (q_mo_gd (q_mo_mk fun a313 => (q_mo_wr (q_mo_gd (q_mo_mk fun a322 => (q_mo_wr (q_mo_gd (q_mo_mk fun a331 => (q_mo_wr (q_mo_gd (q_mo_mk fun a338 => (q_mo_wr (q_mo_gd (q_mo_mk fun a345 => (q_mo_wr q_mo_rt))))))))))))))))))))))))))))))))))))))))))))))))))))))))))))))))))))))))))))) B.2.1 h (fun a130 σ h => ?_)
  refine q_putV (pc := 132) (v := q_R (some a130)) C dX13_init_132 ql_X13_59 (Or.inr ⟨B.2.2.2.2.2, RX13, TX13, 57, rfl, rfl⟩) q_nfA q_nfA' h (fun M132 h => ?_)
  refine q_aload_n (pc := 135) C 0 rfl dX13_init_135 rfl ?_
  refine q_bipush (pc := 136) (v := (40 : Int32)) C dX13_init_136 (by decide) ?_
  refine q_newP (pc := 138) (t := 1) (A := ((40 : Int32).toNatClampNeg, .inl (fun _ => 0))) C dX13_init_138 qa_int rfl (by decide) (fun _ h => h) rfl (fun _ => rfl) (by decide) (by exact fun a138 => (q_mo_wr (q_mo_gd (q_mo_mk fun a147 => (q_mo_wr (q_mo_gd (q_mo_mk fun a155 => (q_mo_wr (q_mo_gd (q_mo_mk fun a163 => (q_mo_wr (q_mo_gd (q_mo_mk fun a171 => (q_mo_wr (q_mo_gd (q_mo_mk fun a179 => (q_mo_wr (q_mo_gd (q_mo_mk fun a187 => (q_mo_wr (q_mo_gd (q_mo_mk fun a196 => (q_mo_wr (q_mo_gd (q_mo_mk fun a205 => (q_mo_wr (q_mo_gd (q_mo_mk fun a214 => (q_mo_wr (q_mo_gd (q_mo_mk fun a223 => (q_mo_wr (q_mo_gd (q_mo_mk fun a232 => (q_mo_wr (q_mo_gd (q_mo_mk fun a241 => (q_mo_wr (q_mo_gd (q_mo_mk fun a250 => (q_mo_wr (q_mo_gd (q_mo_mk fun a259 => (q_mo_wr (q_mo_gd (q_mo_mk fun a268 => (q_mo_wr (q_mo_gd (q_mo_mk fun a277 => (q_mo_wr (q_mo_gd (q_mo_mk fun a286 => (q_mo_wr (q_mo_gd (q_mo_mk fun a295 => (q_mo_wr (q_mo_gd (q_mo_mk fun a304 => (q_mo_wr (q_mo_gd (q_mo_mk fun a313 => (q_mo_wr (q_mo_gd (q_mo_mk fun a322 => (q_mo_wr (q_mo_gd (q_mo_mk fun a331 => (q_mo_wr (q_mo_gd (q_mo_mk fun a338 => (q_mo_wr (q_mo_gd (q_mo_mk fun a345 => (q_mo_wr q_mo_rt)))))))))))))))))))))))))))))))))))))))))))))))))))))))))))))))))))))))))) B.2.1 h (fun a138 σ h => ?_)
  refine q_putV (pc := 140) (v := q_R (some a138)) C dX13_init_140 ql_X13_62 (Or.inr ⟨B.2.2.2.2.2, RX13, TX13, 57, rfl, rfl⟩) q_nfA q_nfA' h (fun M140 h => ?_)
  refine q_aload_n (pc := 143) C 0 rfl dX13_init_143 rfl ?_
  refine q_sipush (pc := 144) (v := (1280 : Int32)) C dX13_init_144 (by decide) ?_
  refine q_newP (pc := 147) (t := 1) (A := ((1280 : Int32).toNatClampNeg, .inl (fun _ => 0))) C dX13_init_147 qa_int rfl (by decide) (fun _ h => h) rfl (fun _ => rfl) (by decide) (by exact fun a147 => (q_mo_wr (q_mo_gd (q_mo_mk fun a155 => (q_mo_wr (q_mo_gd (q_mo_mk fun a163 => (q_mo_wr (q_mo_gd (q_mo_mk fun a171 => (q_mo_wr (q_mo_gd (q_mo_mk fun a179 => (q_mo_wr (q_mo_gd (q_mo_mk fun a187 => (q_mo_wr (q_mo_gd (q_mo_mk fun a196 => (q_mo_wr (q_mo_gd (q_mo_mk fun a205 => (q_mo_wr (q_mo_gd (q_mo_mk fun a214 => (q_mo_wr (q_mo_gd (q_mo_mk fun a223 => (q_mo_wr (q_mo_gd (q_mo_mk fun a232 => (q_mo_wr (q_mo_gd (q_mo_mk fun a241 => (q_mo_wr (q_mo_gd (q_mo_mk fun a250 => (q_mo_wr (q_mo_gd (q_mo_mk fun a259 => (q_mo_wr (q_mo_gd (q_mo_mk fun a268 => (q_mo_wr (q_mo_gd (q_mo_mk fun a277 => (q_mo_wr (q_mo_gd (q_mo_mk fun a286 => (q_mo_wr (q_mo_gd (q_mo_mk fun a295 => (q_mo_wr (q_mo_gd (q_mo_mk fun a304 => (q_mo_wr (q_mo_gd (q_mo_mk fun a313 => (q_mo_wr (q_mo_gd (q_mo_mk fun a322 => (q_mo_wr (q_mo_gd (q_mo_mk fun a331 => (q_mo_wr (q_mo_gd (q_mo_mk fun a338 => (q_mo_wr (q_mo_gd (q_mo_mk fun a345 => (q_mo_wr q_mo_rt))))))))))))))))))))))))))))))))))))))))))))))))))))))))))))))))))))))) B.2.1 h (fun a147 σ h => ?_)
  refine q_putV (pc := 149) (v := q_R (some a147)) C dX13_init_149 ql_X13_65 (Or.inr ⟨B.2.2.2.2.2, RX13, TX13, 57, rfl, rfl⟩) q_nfA q_nfA' h (fun M149 h => ?_)
  refine q_aload_n (pc := 152) C 0 rfl dX13_init_152 rfl ?_
  refine q_bipush (pc := 153) (v := (96 : Int32)) C dX13_init_153 (by decide) ?_
  refine q_newP (pc := 155) (t := 1) (A := ((96 : Int32).toNatClampNeg, .inl (fun _ => 0))) C dX13_init_155 qa_int rfl (by decide) (fun _ h => h) rfl (fun _ => rfl) (by decide) (by exact fun a155 => (q_mo_wr (q_mo_gd (q_mo_mk fun a163 => (q_mo_wr (q_mo_gd (q_mo_mk fun a171 => (q_mo_wr (q_mo_gd (q_mo_mk fun a179 => (q_mo_wr (q_mo_gd (q_mo_mk fun a187 => (q_mo_wr (q_mo_gd (q_mo_mk fun a196 => (q_mo_wr (q_mo_gd (q_mo_mk fun a205 => (q_mo_wr (q_mo_gd (q_mo_mk fun a214 => (q_mo_wr (q_mo_gd (q_mo_mk fun a223 => (q_mo_wr (q_mo_gd (q_mo_mk fun a232 => (q_mo_wr (q_mo_gd (q_mo_mk fun a241 => (q_mo_wr (q_mo_gd (q_mo_mk fun a250 => (q_mo_wr (q_mo_gd (q_mo_mk fun a259 => (q_mo_wr (q_mo_gd (q_mo_mk fun a268 => (q_mo_wr (q_mo_gd (q_mo_mk fun a277 => (q_mo_wr (q_mo_gd (q_mo_mk fun a286 => (q_mo_wr (q_mo_gd (q_mo_mk fun a295 => (q_mo_wr (q_mo_gd (q_mo_mk fun a304 => (q_mo_wr (q_mo_gd (q_mo_mk fun a313 => (q_mo_wr (q_mo_gd (q_mo_mk fun a322 => (q_mo_wr (q_mo_gd (q_mo_mk fun a331 => (q_mo_wr (q_mo_gd (q_mo_mk fun a338 => (q_mo_wr (q_mo_gd (q_mo_mk fun a345 => (q_mo_wr q_mo_rt)))))))))))))))))))))))))))))))))))))))))))))))))))))))))))))))))))) B.2.1 h (fun a155 σ h => ?_)
  refine q_putV (pc := 157) (v := q_R (some a155)) C dX13_init_157 ql_X13_68 (Or.inr ⟨B.2.2.2.2.2, RX13, TX13, 57, rfl, rfl⟩) q_nfA q_nfA' h (fun M157 h => ?_)
  refine q_aload_n (pc := 160) C 0 rfl dX13_init_160 rfl ?_
  refine q_bipush (pc := 161) (v := (96 : Int32)) C dX13_init_161 (by decide) ?_
  refine q_newP (pc := 163) (t := 1) (A := ((96 : Int32).toNatClampNeg, .inl (fun _ => 0))) C dX13_init_163 qa_int rfl (by decide) (fun _ h => h) rfl (fun _ => rfl) (by decide) (by exact fun a163 => (q_mo_wr (q_mo_gd (q_mo_mk fun a171 => (q_mo_wr (q_mo_gd (q_mo_mk fun a179 => (q_mo_wr (q_mo_gd (q_mo_mk fun a187 => (q_mo_wr (q_mo_gd (q_mo_mk fun a196 => (q_mo_wr (q_mo_gd (q_mo_mk fun a205 => (q_mo_wr (q_mo_gd (q_mo_mk fun a214 => (q_mo_wr (q_mo_gd (q_mo_mk fun a223 => (q_mo_wr (q_mo_gd (q_mo_mk fun a232 => (q_mo_wr (q_mo_gd (q_mo_mk fun a241 => (q_mo_wr (q_mo_gd (q_mo_mk fun a250 => (q_mo_wr (q_mo_gd (q_mo_mk fun a259 => (q_mo_wr (q_mo_gd (q_mo_mk fun a268 => (q_mo_wr (q_mo_gd (q_mo_mk fun a277 => (q_mo_wr (q_mo_gd (q_mo_mk fun a286 => (q_mo_wr (q_mo_gd (q_mo_mk fun a295 => (q_mo_wr (q_mo_gd (q_mo_mk fun a304 => (q_mo_wr (q_mo_gd (q_mo_mk fun a313 => (q_mo_wr (q_mo_gd (q_mo_mk fun a322 => (q_mo_wr (q_mo_gd (q_mo_mk fun a331 => (q_mo_wr (q_mo_gd (q_mo_mk fun a338 => (q_mo_wr (q_mo_gd (q_mo_mk fun a345 => (q_mo_wr q_mo_rt))))))))))))))))))))))))))))))))))))))))))))))))))))))))))))))))) B.2.1 h (fun a163 σ h => ?_)
  refine q_putV (pc := 165) (v := q_R (some a163)) C dX13_init_165 ql_X13_71 (Or.inr ⟨B.2.2.2.2.2, RX13, TX13, 57, rfl, rfl⟩) q_nfA q_nfA' h (fun M165 h => ?_)
  refine q_aload_n (pc := 168) C 0 rfl dX13_init_168 rfl ?_
  refine q_bipush (pc := 169) (v := (96 : Int32)) C dX13_init_169 (by decide) ?_
  refine q_newP (pc := 171) (t := 1) (A := ((96 : Int32).toNatClampNeg, .inl (fun _ => 0))) C dX13_init_171 qa_int rfl (by decide) (fun _ h => h) rfl (fun _ => rfl) (by decide) (by exact fun a171 => (q_mo_wr (q_mo_gd (q_mo_mk fun a179 => (q_mo_wr (q_mo_gd (q_mo_mk fun a187 => (q_mo_wr (q_mo_gd (q_mo_mk fun a196 => (q_mo_wr (q_mo_gd (q_mo_mk fun a205 => (q_mo_wr (q_mo_gd (q_mo_mk fun a214 => (q_mo_wr (q_mo_gd (q_mo_mk fun a223 => (q_mo_wr (q_mo_gd (q_mo_mk fun a232 => (q_mo_wr (q_mo_gd (q_mo_mk fun a241 => (q_mo_wr (q_mo_gd (q_mo_mk fun a250 => (q_mo_wr (q_mo_gd (q_mo_mk fun a259 => (q_mo_wr (q_mo_gd (q_mo_mk fun a268 => (q_mo_wr (q_mo_gd (q_mo_mk fun a277 => (q_mo_wr (q_mo_gd (q_mo_mk fun a286 => (q_mo_wr (q_mo_gd (q_mo_mk fun a295 => (q_mo_wr (q_mo_gd (q_mo_mk fun a304 => (q_mo_wr (q_mo_gd (q_mo_mk fun a313 => (q_mo_wr (q_mo_gd (q_mo_mk fun a322 => (q_mo_wr (q_mo_gd (q_mo_mk fun a331 => (q_mo_wr (q_mo_gd (q_mo_mk fun a338 => (q_mo_wr (q_mo_gd (q_mo_mk fun a345 => (q_mo_wr q_mo_rt)))))))))))))))))))))))))))))))))))))))))))))))))))))))))))))) B.2.1 h (fun a171 σ h => ?_)
  refine q_putV (pc := 173) (v := q_R (some a171)) C dX13_init_173 ql_X13_74 (Or.inr ⟨B.2.2.2.2.2, RX13, TX13, 57, rfl, rfl⟩) q_nfA q_nfA' h (fun M173 h => ?_)
  refine q_aload_n (pc := 176) C 0 rfl dX13_init_176 rfl ?_
  refine q_bipush (pc := 177) (v := (96 : Int32)) C dX13_init_177 (by decide) ?_
  refine q_newP (pc := 179) (t := 1) (A := ((96 : Int32).toNatClampNeg, .inl (fun _ => 0))) C dX13_init_179 qa_int rfl (by decide) (fun _ h => h) rfl (fun _ => rfl) (by decide) (by exact fun a179 => (q_mo_wr (q_mo_gd (q_mo_mk fun a187 => (q_mo_wr (q_mo_gd (q_mo_mk fun a196 => (q_mo_wr (q_mo_gd (q_mo_mk fun a205 => (q_mo_wr (q_mo_gd (q_mo_mk fun a214 => (q_mo_wr (q_mo_gd (q_mo_mk fun a223 => (q_mo_wr (q_mo_gd (q_mo_mk fun a232 => (q_mo_wr (q_mo_gd (q_mo_mk fun a241 => (q_mo_wr (q_mo_gd (q_mo_mk fun a250 => (q_mo_wr (q_mo_gd (q_mo_mk fun a259 => (q_mo_wr (q_mo_gd (q_mo_mk fun a268 => (q_mo_wr (q_mo_gd (q_mo_mk fun a277 => (q_mo_wr (q_mo_gd (q_mo_mk fun a286 => (q_mo_wr (q_mo_gd (q_mo_mk fun a295 => (q_mo_wr (q_mo_gd (q_mo_mk fun a304 => (q_mo_wr (q_mo_gd (q_mo_mk fun a313 => (q_mo_wr (q_mo_gd (q_mo_mk fun a322 => (q_mo_wr (q_mo_gd (q_mo_mk fun a331 => (q_mo_wr (q_mo_gd (q_mo_mk fun a338 => (q_mo_wr (q_mo_gd (q_mo_mk fun a345 => (q_mo_wr q_mo_rt))))))))))))))))))))))))))))))))))))))))))))))))))))))))))) B.2.1 h (fun a179 σ h => ?_)
  refine q_putV (pc := 181) (v := q_R (some a179)) C dX13_init_181 ql_X13_77 (Or.inr ⟨B.2.2.2.2.2, RX13, TX13, 57, rfl, rfl⟩) q_nfA q_nfA' h (fun M181 h => ?_)
  refine q_aload_n (pc := 184) C 0 rfl dX13_init_184 rfl ?_
  refine q_bipush (pc := 185) (v := (96 : Int32)) C dX13_init_185 (by decide) ?_
  refine q_newP (pc := 187) (t := 1) (A := ((96 : Int32).toNatClampNeg, .inl (fun _ => 0))) C dX13_init_187 qa_int rfl (by decide) (fun _ h => h) rfl (fun _ => rfl) (by decide) (by exact fun a187 => (q_mo_wr (q_mo_gd (q_mo_mk fun a196 => (q_mo_wr (q_mo_gd (q_mo_mk fun a205 => (q_mo_wr (q_mo_gd (q_mo_mk fun a214 => (q_mo_wr (q_mo_gd (q_mo_mk fun a223 => (q_mo_wr (q_mo_gd (q_mo_mk fun a232 => (q_mo_wr (q_mo_gd (q_mo_mk fun a241 => (q_mo_wr (q_mo_gd (q_mo_mk fun a250 => (q_mo_wr (q_mo_gd (q_mo_mk fun a259 => (q_mo_wr (q_mo_gd (q_mo_mk fun a268 => (q_mo_wr (q_mo_gd (q_mo_mk fun a277 => (q_mo_wr (q_mo_gd (q_mo_mk fun a286 => (q_mo_wr (q_mo_gd (q_mo_mk fun a295 => (q_mo_wr (q_mo_gd (q_mo_mk fun a304 => (q_mo_wr (q_mo_gd (q_mo_mk fun a313 => (q_mo_wr (q_mo_gd (q_mo_mk fun a322 => (q_mo_wr (q_mo_gd (q_mo_mk fun a331 => (q_mo_wr (q_mo_gd (q_mo_mk fun a338 => (q_mo_wr (q_mo_gd (q_mo_mk fun a345 => (q_mo_wr q_mo_rt)))))))))))))))))))))))))))))))))))))))))))))))))))))))) B.2.1 h (fun a187 σ h => ?_)
  refine q_putV (pc := 189) (v := q_R (some a187)) C dX13_init_189 ql_X13_80 (Or.inr ⟨B.2.2.2.2.2, RX13, TX13, 57, rfl, rfl⟩) q_nfA q_nfA' h (fun M189 h => ?_)
  refine q_aload_n (pc := 192) C 0 rfl dX13_init_192 rfl ?_
  refine q_sipush (pc := 193) (v := (1152 : Int32)) C dX13_init_193 (by decide) ?_
  refine q_newP (pc := 196) (t := 1) (A := ((1152 : Int32).toNatClampNeg, .inl (fun _ => 0))) C dX13_init_196 qa_int rfl (by decide) (fun _ h => h) rfl (fun _ => rfl) (by decide) (by exact fun a196 => (q_mo_wr (q_mo_gd (q_mo_mk fun a205 => (q_mo_wr (q_mo_gd (q_mo_mk fun a214 => (q_mo_wr (q_mo_gd (q_mo_mk fun a223 => (q_mo_wr (q_mo_gd (q_mo_mk fun a232 => (q_mo_wr (q_mo_gd (q_mo_mk fun a241 => (q_mo_wr (q_mo_gd (q_mo_mk fun a250 => (q_mo_wr (q_mo_gd (q_mo_mk fun a259 => (q_mo_wr (q_mo_gd (q_mo_mk fun a268 => (q_mo_wr (q_mo_gd (q_mo_mk fun a277 => (q_mo_wr (q_mo_gd (q_mo_mk fun a286 => (q_mo_wr (q_mo_gd (q_mo_mk fun a295 => (q_mo_wr (q_mo_gd (q_mo_mk fun a304 => (q_mo_wr (q_mo_gd (q_mo_mk fun a313 => (q_mo_wr (q_mo_gd (q_mo_mk fun a322 => (q_mo_wr (q_mo_gd (q_mo_mk fun a331 => (q_mo_wr (q_mo_gd (q_mo_mk fun a338 => (q_mo_wr (q_mo_gd (q_mo_mk fun a345 => (q_mo_wr q_mo_rt))))))))))))))))))))))))))))))))))))))))))))))))))))) B.2.1 h (fun a196 σ h => ?_)
  refine q_putV (pc := 198) (v := q_R (some a196)) C dX13_init_198 ql_X13_83 (Or.inr ⟨B.2.2.2.2.2, RX13, TX13, 57, rfl, rfl⟩) q_nfA q_nfA' h (fun M198 h => ?_)
  refine q_aload_n (pc := 201) C 0 rfl dX13_init_201 rfl ?_
  refine q_sipush (pc := 202) (v := (480 : Int32)) C dX13_init_202 (by decide) ?_
  refine q_newP (pc := 205) (t := 1) (A := ((480 : Int32).toNatClampNeg, .inl (fun _ => 0))) C dX13_init_205 qa_int rfl (by decide) (fun _ h => h) rfl (fun _ => rfl) (by decide) (by exact fun a205 => (q_mo_wr (q_mo_gd (q_mo_mk fun a214 => (q_mo_wr (q_mo_gd (q_mo_mk fun a223 => (q_mo_wr (q_mo_gd (q_mo_mk fun a232 => (q_mo_wr (q_mo_gd (q_mo_mk fun a241 => (q_mo_wr (q_mo_gd (q_mo_mk fun a250 => (q_mo_wr (q_mo_gd (q_mo_mk fun a259 => (q_mo_wr (q_mo_gd (q_mo_mk fun a268 => (q_mo_wr (q_mo_gd (q_mo_mk fun a277 => (q_mo_wr (q_mo_gd (q_mo_mk fun a286 => (q_mo_wr (q_mo_gd (q_mo_mk fun a295 => (q_mo_wr (q_mo_gd (q_mo_mk fun a304 => (q_mo_wr (q_mo_gd (q_mo_mk fun a313 => (q_mo_wr (q_mo_gd (q_mo_mk fun a322 => (q_mo_wr (q_mo_gd (q_mo_mk fun a331 => (q_mo_wr (q_mo_gd (q_mo_mk fun a338 => (q_mo_wr (q_mo_gd (q_mo_mk fun a345 => (q_mo_wr q_mo_rt)))))))))))))))))))))))))))))))))))))))))))))))))) B.2.1 h (fun a205 σ h => ?_)
  refine q_putV (pc := 207) (v := q_R (some a205)) C dX13_init_207 ql_X13_86 (Or.inr ⟨B.2.2.2.2.2, RX13, TX13, 57, rfl, rfl⟩) q_nfA q_nfA' h (fun M207 h => ?_)
  refine q_aload_n (pc := 210) C 0 rfl dX13_init_210 rfl ?_
  refine q_sipush (pc := 211) (v := (480 : Int32)) C dX13_init_211 (by decide) ?_
  refine q_newP (pc := 214) (t := 1) (A := ((480 : Int32).toNatClampNeg, .inl (fun _ => 0))) C dX13_init_214 qa_int rfl (by decide) (fun _ h => h) rfl (fun _ => rfl) (by decide) (by exact fun a214 => (q_mo_wr (q_mo_gd (q_mo_mk fun a223 => (q_mo_wr (q_mo_gd (q_mo_mk fun a232 => (q_mo_wr (q_mo_gd (q_mo_mk fun a241 => (q_mo_wr (q_mo_gd (q_mo_mk fun a250 => (q_mo_wr (q_mo_gd (q_mo_mk fun a259 => (q_mo_wr (q_mo_gd (q_mo_mk fun a268 => (q_mo_wr (q_mo_gd (q_mo_mk fun a277 => (q_mo_wr (q_mo_gd (q_mo_mk fun a286 => (q_mo_wr (q_mo_gd (q_mo_mk fun a295 => (q_mo_wr (q_mo_gd (q_mo_mk fun a304 => (q_mo_wr (q_mo_gd (q_mo_mk fun a313 => (q_mo_wr (q_mo_gd (q_mo_mk fun a322 => (q_mo_wr (q_mo_gd (q_mo_mk fun a331 => (q_mo_wr (q_mo_gd (q_mo_mk fun a338 => (q_mo_wr (q_mo_gd (q_mo_mk fun a345 => (q_mo_wr q_mo_rt))))))))))))))))))))))))))))))))))))))))))))))) B.2.1 h (fun a214 σ h => ?_)
  refine q_putV (pc := 216) (v := q_R (some a214)) C dX13_init_216 ql_X13_89 (Or.inr ⟨B.2.2.2.2.2, RX13, TX13, 57, rfl, rfl⟩) q_nfA q_nfA' h (fun M216 h => ?_)
  refine q_aload_n (pc := 219) C 0 rfl dX13_init_219 rfl ?_
  refine q_sipush (pc := 220) (v := (15360 : Int32)) C dX13_init_220 (by decide) ?_
  refine q_newP (pc := 223) (t := 1) (A := ((15360 : Int32).toNatClampNeg, .inl (fun _ => 0))) C dX13_init_223 qa_int rfl (by decide) (fun _ h => h) rfl (fun _ => rfl) (by decide) (by exact fun a223 => (q_mo_wr (q_mo_gd (q_mo_mk fun a232 => (q_mo_wr (q_mo_gd (q_mo_mk fun a241 => (q_mo_wr (q_mo_gd (q_mo_mk fun a250 => (q_mo_wr (q_mo_gd (q_mo_mk fun a259 => (q_mo_wr (q_mo_gd (q_mo_mk fun a268 => (q_mo_wr (q_mo_gd (q_mo_mk fun a277 => (q_mo_wr (q_mo_gd (q_mo_mk fun a286 => (q_mo_wr (q_mo_gd (q_mo_mk fun a295 => (q_mo_wr (q_mo_gd (q_mo_mk fun a304 => (q_mo_wr (q_mo_gd (q_mo_mk fun a313 => (q_mo_wr (q_mo_gd (q_mo_mk fun a322 => (q_mo_wr (q_mo_gd (q_mo_mk fun a331 => (q_mo_wr (q_mo_gd (q_mo_mk fun a338 => (q_mo_wr (q_mo_gd (q_mo_mk fun a345 => (q_mo_wr q_mo_rt)))))))))))))))))))))))))))))))))))))))))))) B.2.1 h (fun a223 σ h => ?_)
  refine q_putV (pc := 225) (v := q_R (some a223)) C dX13_init_225 ql_X13_92 (Or.inr ⟨B.2.2.2.2.2, RX13, TX13, 57, rfl, rfl⟩) q_nfA q_nfA' h (fun M225 h => ?_)
  refine q_aload_n (pc := 228) C 0 rfl dX13_init_228 rfl ?_
  refine q_sipush (pc := 229) (v := (160 : Int32)) C dX13_init_229 (by decide) ?_
  refine q_newP (pc := 232) (t := 1) (A := ((160 : Int32).toNatClampNeg, .inl (fun _ => 0))) C dX13_init_232 qa_int rfl (by decide) (fun _ h => h) rfl (fun _ => rfl) (by decide) (by exact fun a232 => (q_mo_wr (q_mo_gd (q_mo_mk fun a241 => (q_mo_wr (q_mo_gd (q_mo_mk fun a250 => (q_mo_wr (q_mo_gd (q_mo_mk fun a259 => (q_mo_wr (q_mo_gd (q_mo_mk fun a268 => (q_mo_wr (q_mo_gd (q_mo_mk fun a277 => (q_mo_wr (q_mo_gd (q_mo_mk fun a286 => (q_mo_wr (q_mo_gd (q_mo_mk fun a295 => (q_mo_wr (q_mo_gd (q_mo_mk fun a304 => (q_mo_wr (q_mo_gd (q_mo_mk fun a313 => (q_mo_wr (q_mo_gd (q_mo_mk fun a322 => (q_mo_wr (q_mo_gd (q_mo_mk fun a331 => (q_mo_wr (q_mo_gd (q_mo_mk fun a338 => (q_mo_wr (q_mo_gd (q_mo_mk fun a345 => (q_mo_wr q_mo_rt))))))))))))))))))))))))))))))))))))))))) B.2.1 h (fun a232 σ h => ?_)
  refine q_putV (pc := 234) (v := q_R (some a232)) C dX13_init_234 ql_X13_95 (Or.inr ⟨B.2.2.2.2.2, RX13, TX13, 57, rfl, rfl⟩) q_nfA q_nfA' h (fun M234 h => ?_)
  refine q_aload_n (pc := 237) C 0 rfl dX13_init_237 rfl ?_
  refine q_sipush (pc := 238) (v := (4096 : Int32)) C dX13_init_238 (by decide) ?_
  refine q_newP (pc := 241) (t := 2) (A := ((4096 : Int32).toNatClampNeg, .inr (.inl (fun _ => 0)))) C dX13_init_241 qa_long rfl (by decide) (fun _ h => h) rfl (fun _ => rfl) (by decide) (by exact fun a241 => (q_mo_wr (q_mo_gd (q_mo_mk fun a250 => (q_mo_wr (q_mo_gd (q_mo_mk fun a259 => (q_mo_wr (q_mo_gd (q_mo_mk fun a268 => (q_mo_wr (q_mo_gd (q_mo_mk fun a277 => (q_mo_wr (q_mo_gd (q_mo_mk fun a286 => (q_mo_wr (q_mo_gd (q_mo_mk fun a295 => (q_mo_wr (q_mo_gd (q_mo_mk fun a304 => (q_mo_wr (q_mo_gd (q_mo_mk fun a313 => (q_mo_wr (q_mo_gd (q_mo_mk fun a322 => (q_mo_wr (q_mo_gd (q_mo_mk fun a331 => (q_mo_wr (q_mo_gd (q_mo_mk fun a338 => (q_mo_wr (q_mo_gd (q_mo_mk fun a345 => (q_mo_wr q_mo_rt)))))))))))))))))))))))))))))))))))))) B.2.1 h (fun a241 σ h => ?_)
  refine q_putV (pc := 243) (v := q_R (some a241)) C dX13_init_243 ql_X13_98 (Or.inr ⟨B.2.2.2.2.2, RX13, TX13, 57, rfl, rfl⟩) q_nfA q_nfA' h (fun M243 h => ?_)
  refine q_aload_n (pc := 246) C 0 rfl dX13_init_246 rfl ?_
  refine q_sipush (pc := 247) (v := (4096 : Int32)) C dX13_init_247 (by decide) ?_
  refine q_newP (pc := 250) (t := 3) (A := ((4096 : Int32).toNatClampNeg, .inl (fun _ => 0))) C dX13_init_250 qa_boolean rfl (by decide) (fun _ h => h) rfl (fun _ => rfl) (by decide) (by exact fun a250 => (q_mo_wr (q_mo_gd (q_mo_mk fun a259 => (q_mo_wr (q_mo_gd (q_mo_mk fun a268 => (q_mo_wr (q_mo_gd (q_mo_mk fun a277 => (q_mo_wr (q_mo_gd (q_mo_mk fun a286 => (q_mo_wr (q_mo_gd (q_mo_mk fun a295 => (q_mo_wr (q_mo_gd (q_mo_mk fun a304 => (q_mo_wr (q_mo_gd (q_mo_mk fun a313 => (q_mo_wr (q_mo_gd (q_mo_mk fun a322 => (q_mo_wr (q_mo_gd (q_mo_mk fun a331 => (q_mo_wr (q_mo_gd (q_mo_mk fun a338 => (q_mo_wr (q_mo_gd (q_mo_mk fun a345 => (q_mo_wr q_mo_rt))))))))))))))))))))))))))))))))))) B.2.1 h (fun a250 σ h => ?_)
  refine q_putV (pc := 252) (v := q_R (some a250)) C dX13_init_252 ql_X13_101 (Or.inr ⟨B.2.2.2.2.2, RX13, TX13, 57, rfl, rfl⟩) q_nfA q_nfA' h (fun M252 h => ?_)
  refine q_aload_n (pc := 255) C 0 rfl dX13_init_255 rfl ?_
  refine q_sipush (pc := 256) (v := (6002 : Int32)) C dX13_init_256 (by decide) ?_
  refine q_newP (pc := 259) (t := 1) (A := ((6002 : Int32).toNatClampNeg, .inl (fun _ => 0))) C dX13_init_259 qa_int rfl (by decide) (fun _ h => h) rfl (fun _ => rfl) (by decide) (by exact fun a259 => (q_mo_wr (q_mo_gd (q_mo_mk fun a268 => (q_mo_wr (q_mo_gd (q_mo_mk fun a277 => (q_mo_wr (q_mo_gd (q_mo_mk fun a286 => (q_mo_wr (q_mo_gd (q_mo_mk fun a295 => (q_mo_wr (q_mo_gd (q_mo_mk fun a304 => (q_mo_wr (q_mo_gd (q_mo_mk fun a313 => (q_mo_wr (q_mo_gd (q_mo_mk fun a322 => (q_mo_wr (q_mo_gd (q_mo_mk fun a331 => (q_mo_wr (q_mo_gd (q_mo_mk fun a338 => (q_mo_wr (q_mo_gd (q_mo_mk fun a345 => (q_mo_wr q_mo_rt)))))))))))))))))))))))))))))))) B.2.1 h (fun a259 σ h => ?_)
  refine q_putV (pc := 261) (v := q_R (some a259)) C dX13_init_261 ql_X13_105 (Or.inr ⟨B.2.2.2.2.2, RX13, TX13, 57, rfl, rfl⟩) q_nfA q_nfA' h (fun M261 h => ?_)
  refine q_aload_n (pc := 264) C 0 rfl dX13_init_264 rfl ?_
  refine q_sipush (pc := 265) (v := (6002 : Int32)) C dX13_init_265 (by decide) ?_
  refine q_newP (pc := 268) (t := 1) (A := ((6002 : Int32).toNatClampNeg, .inl (fun _ => 0))) C dX13_init_268 qa_int rfl (by decide) (fun _ h => h) rfl (fun _ => rfl) (by decide) (by exact fun a268 => (q_mo_wr (q_mo_gd (q_mo_mk fun a277 => (q_mo_wr (q_mo_gd (q_mo_mk fun a286 => (q_mo_wr (q_mo_gd (q_mo_mk fun a295 => (q_mo_wr (q_mo_gd (q_mo_mk fun a304 => (q_mo_wr (q_mo_gd (q_mo_mk fun a313 => (q_mo_wr (q_mo_gd (q_mo_mk fun a322 => (q_mo_wr (q_mo_gd (q_mo_mk fun a331 => (q_mo_wr (q_mo_gd (q_mo_mk fun a338 => (q_mo_wr (q_mo_gd (q_mo_mk fun a345 => (q_mo_wr q_mo_rt))))))))))))))))))))))))))))) B.2.1 h (fun a268 σ h => ?_)
  refine q_putV (pc := 270) (v := q_R (some a268)) C dX13_init_270 ql_X13_108 (Or.inr ⟨B.2.2.2.2.2, RX13, TX13, 57, rfl, rfl⟩) q_nfA q_nfA' h (fun M270 h => ?_)
  refine q_aload_n (pc := 273) C 0 rfl dX13_init_273 rfl ?_
  refine q_sipush (pc := 274) (v := (6002 : Int32)) C dX13_init_274 (by decide) ?_
  refine q_newP (pc := 277) (t := 1) (A := ((6002 : Int32).toNatClampNeg, .inl (fun _ => 0))) C dX13_init_277 qa_int rfl (by decide) (fun _ h => h) rfl (fun _ => rfl) (by decide) (by exact fun a277 => (q_mo_wr (q_mo_gd (q_mo_mk fun a286 => (q_mo_wr (q_mo_gd (q_mo_mk fun a295 => (q_mo_wr (q_mo_gd (q_mo_mk fun a304 => (q_mo_wr (q_mo_gd (q_mo_mk fun a313 => (q_mo_wr (q_mo_gd (q_mo_mk fun a322 => (q_mo_wr (q_mo_gd (q_mo_mk fun a331 => (q_mo_wr (q_mo_gd (q_mo_mk fun a338 => (q_mo_wr (q_mo_gd (q_mo_mk fun a345 => (q_mo_wr q_mo_rt)))))))))))))))))))))))))) B.2.1 h (fun a277 σ h => ?_)
  refine q_putV (pc := 279) (v := q_R (some a277)) C dX13_init_279 ql_X13_111 (Or.inr ⟨B.2.2.2.2.2, RX13, TX13, 57, rfl, rfl⟩) q_nfA q_nfA' h (fun M279 h => ?_)
  refine q_aload_n (pc := 282) C 0 rfl dX13_init_282 rfl ?_
  refine q_sipush (pc := 283) (v := (6002 : Int32)) C dX13_init_283 (by decide) ?_
  refine q_newP (pc := 286) (t := 1) (A := ((6002 : Int32).toNatClampNeg, .inl (fun _ => 0))) C dX13_init_286 qa_int rfl (by decide) (fun _ h => h) rfl (fun _ => rfl) (by decide) (by exact fun a286 => (q_mo_wr (q_mo_gd (q_mo_mk fun a295 => (q_mo_wr (q_mo_gd (q_mo_mk fun a304 => (q_mo_wr (q_mo_gd (q_mo_mk fun a313 => (q_mo_wr (q_mo_gd (q_mo_mk fun a322 => (q_mo_wr (q_mo_gd (q_mo_mk fun a331 => (q_mo_wr (q_mo_gd (q_mo_mk fun a338 => (q_mo_wr (q_mo_gd (q_mo_mk fun a345 => (q_mo_wr q_mo_rt))))))))))))))))))))))) B.2.1 h (fun a286 σ h => ?_)
  refine q_putV (pc := 288) (v := q_R (some a286)) C dX13_init_288 ql_X13_114 (Or.inr ⟨B.2.2.2.2.2, RX13, TX13, 57, rfl, rfl⟩) q_nfA q_nfA' h (fun M288 h => ?_)
  refine q_aload_n (pc := 291) C 0 rfl dX13_init_291 rfl ?_
  refine q_sipush (pc := 292) (v := (6002 : Int32)) C dX13_init_292 (by decide) ?_
  refine q_newP (pc := 295) (t := 1) (A := ((6002 : Int32).toNatClampNeg, .inl (fun _ => 0))) C dX13_init_295 qa_int rfl (by decide) (fun _ h => h) rfl (fun _ => rfl) (by decide) (by exact fun a295 => (q_mo_wr (q_mo_gd (q_mo_mk fun a304 => (q_mo_wr (q_mo_gd (q_mo_mk fun a313 => (q_mo_wr (q_mo_gd (q_mo_mk fun a322 => (q_mo_wr (q_mo_gd (q_mo_mk fun a331 => (q_mo_wr (q_mo_gd (q_mo_mk fun a338 => (q_mo_wr (q_mo_gd (q_mo_mk fun a345 => (q_mo_wr q_mo_rt)))))))))))))))))))) B.2.1 h (fun a295 σ h => ?_)
  refine q_putV (pc := 297) (v := q_R (some a295)) C dX13_init_297 ql_X13_117 (Or.inr ⟨B.2.2.2.2.2, RX13, TX13, 57, rfl, rfl⟩) q_nfA q_nfA' h (fun M297 h => ?_)
  refine q_aload_n (pc := 300) C 0 rfl dX13_init_300 rfl ?_
  refine q_sipush (pc := 301) (v := (6002 : Int32)) C dX13_init_301 (by decide) ?_
  refine q_newP (pc := 304) (t := 1) (A := ((6002 : Int32).toNatClampNeg, .inl (fun _ => 0))) C dX13_init_304 qa_int rfl (by decide) (fun _ h => h) rfl (fun _ => rfl) (by decide) (by exact fun a304 => (q_mo_wr (q_mo_gd (q_mo_mk fun a313 => (q_mo_wr (q_mo_gd (q_mo_mk fun a322 => (q_mo_wr (q_mo_gd (q_mo_mk fun a331 => (q_mo_wr (q_mo_gd (q_mo_mk fun a338 => (q_mo_wr (q_mo_gd (q_mo_mk fun a345 => (q_mo_wr q_mo_rt))))))))))))))))) B.2.1 h (fun a304 σ h => ?_)
  refine q_putV (pc := 306) (v := q_R (some a304)) C dX13_init_306 ql_X13_120 (Or.inr ⟨B.2.2.2.2.2, RX13, TX13, 57, rfl, rfl⟩) q_nfA q_nfA' h (fun M306 h => ?_)
  refine q_aload_n (pc := 309) C 0 rfl dX13_init_309 rfl ?_
  refine q_sipush (pc := 310) (v := (6002 : Int32)) C dX13_init_310 (by decide) ?_
  refine q_newP (pc := 313) (t := 1) (A := ((6002 : Int32).toNatClampNeg, .inl (fun _ => 0))) C dX13_init_313 qa_int rfl (by decide) (fun _ h => h) rfl (fun _ => rfl) (by decide) (by exact fun a313 => (q_mo_wr (q_mo_gd (q_mo_mk fun a322 => (q_mo_wr (q_mo_gd (q_mo_mk fun a331 => (q_mo_wr (q_mo_gd (q_mo_mk fun a338 => (q_mo_wr (q_mo_gd (q_mo_mk fun a345 => (q_mo_wr q_mo_rt)))))))))))))) B.2.1 h (fun a313 σ h => ?_)
  refine q_putV (pc := 315) (v := q_R (some a313)) C dX13_init_315 ql_X13_123 (Or.inr ⟨B.2.2.2.2.2, RX13, TX13, 57, rfl, rfl⟩) q_nfA q_nfA' h (fun M315 h => ?_)
  refine q_aload_n (pc := 318) C 0 rfl dX13_init_318 rfl ?_
  refine q_sipush (pc := 319) (v := (6000 : Int32)) C dX13_init_319 (by decide) ?_
  refine q_newP (pc := 322) (t := 1) (A := ((6000 : Int32).toNatClampNeg, .inl (fun _ => 0))) C dX13_init_322 qa_int rfl (by decide) (fun _ h => h) rfl (fun _ => rfl) (by decide) (by exact fun a322 => (q_mo_wr (q_mo_gd (q_mo_mk fun a331 => (q_mo_wr (q_mo_gd (q_mo_mk fun a338 => (q_mo_wr (q_mo_gd (q_mo_mk fun a345 => (q_mo_wr q_mo_rt))))))))))) B.2.1 h (fun a322 σ h => ?_)
  refine q_putV (pc := 324) (v := q_R (some a322)) C dX13_init_324 ql_X13_126 (Or.inr ⟨B.2.2.2.2.2, RX13, TX13, 57, rfl, rfl⟩) q_nfA q_nfA' h (fun M324 h => ?_)
  refine q_aload_n (pc := 327) C 0 rfl dX13_init_327 rfl ?_
  refine q_sipush (pc := 328) (v := (6000 : Int32)) C dX13_init_328 (by decide) ?_
  refine q_newP (pc := 331) (t := 1) (A := ((6000 : Int32).toNatClampNeg, .inl (fun _ => 0))) C dX13_init_331 qa_int rfl (by decide) (fun _ h => h) rfl (fun _ => rfl) (by decide) (by exact fun a331 => (q_mo_wr (q_mo_gd (q_mo_mk fun a338 => (q_mo_wr (q_mo_gd (q_mo_mk fun a345 => (q_mo_wr q_mo_rt)))))))) B.2.1 h (fun a331 σ h => ?_)
  refine q_putV (pc := 333) (v := q_R (some a331)) C dX13_init_333 ql_X13_129 (Or.inr ⟨B.2.2.2.2.2, RX13, TX13, 57, rfl, rfl⟩) q_nfA q_nfA' h (fun M333 h => ?_)
  refine q_aload_n (pc := 336) C 0 rfl dX13_init_336 rfl ?_
  refine q_iconst (pc := 337) (v := (5 : Int32)) C dX13_init_337 (by decide) ?_
  refine q_newP (pc := 338) (t := 1) (A := ((5 : Int32).toNatClampNeg, .inl (fun _ => 0))) C dX13_init_338 qa_int rfl (by decide) (fun _ h => h) rfl (fun _ => rfl) (by decide) (by exact fun a338 => (q_mo_wr (q_mo_gd (q_mo_mk fun a345 => (q_mo_wr q_mo_rt))))) B.2.1 h (fun a338 σ h => ?_)
  refine q_putV (pc := 340) (v := q_R (some a338)) C dX13_init_340 ql_X13_132 (Or.inr ⟨B.2.2.2.2.2, RX13, TX13, 57, rfl, rfl⟩) q_nfA q_nfA' h (fun M340 h => ?_)
  refine q_aload_n (pc := 343) C 0 rfl dX13_init_343 rfl ?_
  refine q_iconst (pc := 344) (v := (5 : Int32)) C dX13_init_344 (by decide) ?_
  refine q_newP (pc := 345) (t := 2) (A := ((5 : Int32).toNatClampNeg, .inr (.inl (fun _ => 0)))) C dX13_init_345 qa_long rfl (by decide) (fun _ h => h) rfl (fun _ => rfl) (by decide) (by exact fun a345 => (q_mo_wr q_mo_rt)) B.2.1 h (fun a345 σ h => ?_)
  refine q_putV (pc := 347) (v := q_R (some a345)) C dX13_init_347 ql_X13_135 (Or.inr ⟨B.2.2.2.2.2, RX13, TX13, 57, rfl, rfl⟩) q_nfA q_nfA' h (fun M347 h => ?_)
  exact q_vret C B.2.2.2.2.1 dX13_init_350 h
def F_X13_thrown (κ : Nat → Nat) (l0 : Option Nat) : q_X Int32 :=
  q_rd (q_gI l0 16 7) fun v1 => q_rt v1
theorem M_X13_thrown (κ : Nat → Nat) (l0 : Option Nat) : q_mo (F_X13_thrown κ l0) := (q_mo_rd fun v1 => q_mo_rt)
theorem N_X13_thrown (κ : Nat → Nat) (l0 : Option Nat) : q_ni (F_X13_thrown κ l0) := (q_ni_rd fun v1 => q_ni_rt)
set_option maxRecDepth 100000 in
set_option maxHeartbeats 4000000 in
theorem K_X13_thrown {E : q_Ev} (l0 : Option Nat) : q_Ct E yX13_thrown (.code yX13_thrown cX13_thrown 1 (some .int)) 0 0 [q_R l0] q_oI (F_X13_thrown (q_kap E) l0) := by
  refine q_enter (by decide) (Nat.le_of_ble_eq_true rfl) (fun Γ σ w h B hT => ?_)
  have C := B.1
  unfold F_X13_thrown at h
  refine q_aload_n (pc := 0) C 0 rfl dX13_thrown_0 rfl ?_
  refine q_getI (pc := 1) C dX13_thrown_1 ql_X13_138 h (fun v1 h => ?_)
  exact q_iret C B.2.2.2.2.1 dX13_thrown_4 h
def F_X13_isDigit_17 (κ : Nat → Nat) (s0 : Int32) : q_X Int32 :=
  q_rz s0
theorem M_X13_isDigit_17 (κ : Nat → Nat) (s0 : Int32) : q_mo (F_X13_isDigit_17 κ s0) := q_mo_rz
set_option maxRecDepth 100000 in
set_option maxHeartbeats 4000000 in
theorem S_X13_isDigit_17 {E : q_Ev} {Γ : q_Gm} {w : (Int32 ⊕ q_Exn) × q_St} (B : q_Bd E Γ cX13_isDigit yX13_isDigit.cls 1 0 0 (some .boolean) yX13_isDigit.name w) (hT : q_nT Γ) (s0 : Int32) (σ : q_St) (h : F_X13_isDigit_17 (q_kap E) s0 σ = some w) : q_W E Γ (q_QF E Γ q_oI w) 1 σ 17 [] [q_I s0] := by
  have C := B.1
  unfold F_X13_isDigit_17 at h
  exact q_zret C B.2.2.2.2.1 dX13_isDigit_17 h
def F_X13_isDigit_16 (κ : Nat → Nat) : q_X Int32 :=
  F_X13_isDigit_17 κ (0 : Int32)
theorem M_X13_isDigit_16 (κ : Nat → Nat) : q_mo (F_X13_isDigit_16 κ) := (M_X13_isDigit_17 κ (0 : Int32))
set_option maxRecDepth 100000 in
set_option maxHeartbeats 4000000 in
theorem S_X13_isDigit_16 {E : q_Ev} {Γ : q_Gm} {w : (Int32 ⊕ q_Exn) × q_St} (B : q_Bd E Γ cX13_isDigit yX13_isDigit.cls 1 0 0 (some .boolean) yX13_isDigit.name w) (hT : q_nT Γ) (σ : q_St) (h : F_X13_isDigit_16 (q_kap E) σ = some w) : q_W E Γ (q_QF E Γ q_oI w) 1 σ 16 [] [] := by
  have C := B.1
  unfold F_X13_isDigit_16 at h
  refine q_iconst (pc := 16) (v := (0 : Int32)) C dX13_isDigit_16 (by decide) ?_
  exact S_X13_isDigit_17 B hT (0 : Int32) _ h
def F_X13_isDigit (κ : Nat → Nat) (l0 : Int32) : q_X Int32 :=
  q_br (l0 < (48 : Int32)) (F_X13_isDigit_16 κ) (q_br ((57 : Int32) < l0) (F_X13_isDigit_16 κ) (F_X13_isDigit_17 κ (1 : Int32)))
theorem M_X13_isDigit (κ : Nat → Nat) (l0 : Int32) : q_mo (F_X13_isDigit κ l0) := (q_mo_br (M_X13_isDigit_16 κ) (q_mo_br (M_X13_isDigit_16 κ) (M_X13_isDigit_17 κ (1 : Int32))))
set_option maxRecDepth 100000 in
set_option maxHeartbeats 4000000 in
theorem K_X13_isDigit {E : q_Ev} (l0 : Int32) : q_Ct E yX13_isDigit (.code yX13_isDigit cX13_isDigit 1 (some .boolean)) 0 0 [q_I l0] q_oI (F_X13_isDigit (q_kap E) l0) := by
  refine q_enter (by decide) (Nat.le_of_ble_eq_true rfl) (fun Γ σ w h B hT => ?_)
  have C := B.1
  unfold F_X13_isDigit at h
  refine q_iload_n (pc := 0) C 0 rfl dX13_isDigit_0 rfl ?_
  refine q_bipush (pc := 1) (v := (48 : Int32)) C dX13_isDigit_1 (by decide) ?_
  refine q_icmp_lt (pc := 3) (tgt := 16) C dX13_isDigit_3 (by decide) h (fun _ h => ?_) (fun _ h => ?_)
  · refine q_W.sub [] rfl ?_
    exact S_X13_isDigit_16 B hT _ h
  · refine q_iload_n (pc := 6) C 0 rfl dX13_isDigit_6 rfl ?_
    refine q_bipush (pc := 7) (v := (57 : Int32)) C dX13_isDigit_7 (by decide) ?_
    refine q_icmp_gt (pc := 9) (tgt := 16) C dX13_isDigit_9 (by decide) h (fun _ h => ?_) (fun _ h => ?_)
    · refine q_W.sub [] rfl ?_
      exact S_X13_isDigit_16 B hT _ h
    · refine q_iconst (pc := 12) (v := (1 : Int32)) C dX13_isDigit_12 (by decide) ?_
      refine q_goto (pc := 13) (tgt := 17) C dX13_isDigit_13 (by decide) ?_
      refine q_W.sub [] rfl ?_
      exact S_X13_isDigit_17 B hT (1 : Int32) _ h
def F_X13_isLetter_29 (κ : Nat → Nat) (s0 : Int32) : q_X Int32 :=
  q_rz s0
theorem M_X13_isLetter_29 (κ : Nat → Nat) (s0 : Int32) : q_mo (F_X13_isLetter_29 κ s0) := q_mo_rz
set_option maxRecDepth 100000 in
set_option maxHeartbeats 4000000 in
theorem S_X13_isLetter_29 {E : q_Ev} {Γ : q_Gm} {w : (Int32 ⊕ q_Exn) × q_St} (B : q_Bd E Γ cX13_isLetter yX13_isLetter.cls 1 0 0 (some .boolean) yX13_isLetter.name w) (hT : q_nT Γ) (s0 : Int32) (σ : q_St) (h : F_X13_isLetter_29 (q_kap E) s0 σ = some w) : q_W E Γ (q_QF E Γ q_oI w) 1 σ 29 [] [q_I s0] := by
  have C := B.1
  unfold F_X13_isLetter_29 at h
  exact q_zret C B.2.2.2.2.1 dX13_isLetter_29 h
def F_X13_isLetter_28 (κ : Nat → Nat) : q_X Int32 :=
  F_X13_isLetter_29 κ (0 : Int32)
theorem M_X13_isLetter_28 (κ : Nat → Nat) : q_mo (F_X13_isLetter_28 κ) := (M_X13_isLetter_29 κ (0 : Int32))
set_option maxRecDepth 100000 in
set_option maxHeartbeats 4000000 in
theorem S_X13_isLetter_28 {E : q_Ev} {Γ : q_Gm} {w : (Int32 ⊕ q_Exn) × q_St} (B : q_Bd E Γ cX13_isLetter yX13_isLetter.cls 1 0 0 (some .boolean) yX13_isLetter.name w) (hT : q_nT Γ) (σ : q_St) (h : F_X13_isLetter_28 (q_kap E) σ = some w) : q_W E Γ (q_QF E Γ q_oI w) 1 σ 28 [] [] := by
  have C := B.1
  unfold F_X13_isLetter_28 at h
  refine q_iconst (pc := 28) (v := (0 : Int32)) C dX13_isLetter_28 (by decide) ?_
  exact S_X13_isLetter_29 B hT (0 : Int32) _ h
def F_X13_isLetter_24 (κ : Nat → Nat) : q_X Int32 :=
  F_X13_isLetter_29 κ (1 : Int32)
theorem M_X13_isLetter_24 (κ : Nat → Nat) : q_mo (F_X13_isLetter_24 κ) := (M_X13_isLetter_29 κ (1 : Int32))
set_option maxRecDepth 100000 in
set_option maxHeartbeats 4000000 in
theorem S_X13_isLetter_24 {E : q_Ev} {Γ : q_Gm} {w : (Int32 ⊕ q_Exn) × q_St} (B : q_Bd E Γ cX13_isLetter yX13_isLetter.cls 1 0 0 (some .boolean) yX13_isLetter.name w) (hT : q_nT Γ) (σ : q_St) (h : F_X13_isLetter_24 (q_kap E) σ = some w) : q_W E Γ (q_QF E Γ q_oI w) 1 σ 24 [] [] := by
  have C := B.1
  unfold F_X13_isLetter_24 at h
  refine q_iconst (pc := 24) (v := (1 : Int32)) C dX13_isLetter_24 (by decide) ?_
  refine q_goto (pc := 25) (tgt := 29) C dX13_isLetter_25 (by decide) ?_
  exact S_X13_isLetter_29 B hT (1 : Int32) _ h
def F_X13_isLetter_12 (κ : Nat → Nat) (l0 : Int32) : q_X Int32 :=
  q_br (l0 < (65 : Int32)) (F_X13_isLetter_28 κ) (q_br ((90 : Int32) < l0) (F_X13_isLetter_28 κ) (F_X13_isLetter_24 κ))
theorem M_X13_isLetter_12 (κ : Nat → Nat) (l0 : Int32) : q_mo (F_X13_isLetter_12 κ l0) := (q_mo_br (M_X13_isLetter_28 κ) (q_mo_br (M_X13_isLetter_28 κ) (M_X13_isLetter_24 κ)))
set_option maxRecDepth 100000 in
set_option maxHeartbeats 4000000 in
theorem S_X13_isLetter_12 {E : q_Ev} {Γ : q_Gm} {w : (Int32 ⊕ q_Exn) × q_St} (B : q_Bd E Γ cX13_isLetter yX13_isLetter.cls 1 0 0 (some .boolean) yX13_isLetter.name w) (hT : q_nT Γ) (l0 : Int32) (σ : q_St) (h : F_X13_isLetter_12 (q_kap E) l0 σ = some w) : q_W E Γ (q_QF E Γ q_oI w) 1 σ 12 [(0, q_I l0)] [] := by
  have C := B.1
  unfold F_X13_isLetter_12 at h
  refine q_iload_n (pc := 12) C 0 rfl dX13_isLetter_12 rfl ?_
  refine q_bipush (pc := 13) (v := (65 : Int32)) C dX13_isLetter_13 (by decide) ?_
  refine q_icmp_lt (pc := 15) (tgt := 28) C dX13_isLetter_15 (by decide) h (fun _ h => ?_) (fun _ h => ?_)
  · refine q_W.sub [] rfl ?_
    exact S_X13_isLetter_28 B hT _ h
  · refine q_iload_n (pc := 18) C 0 rfl dX13_isLetter_18 rfl ?_
    refine q_bipush (pc := 19) (v := (90 : Int32)) C dX13_isLetter_19 (by decide) ?_
    refine q_icmp_gt (pc := 21) (tgt := 28) C dX13_isLetter_21 (by decide) h (fun _ h => ?_) (fun _ h => ?_)
    · refine q_W.sub [] rfl ?_
      exact S_X13_isLetter_28 B hT _ h
    · refine q_W.sub [] rfl ?_
      exact S_X13_isLetter_24 B hT _ h
def F_X13_isLetter (κ : Nat → Nat) (l0 : Int32) : q_X Int32 :=
  q_br (l0 < (97 : Int32)) (F_X13_isLetter_12 κ l0) (q_br (l0 ≤ (122 : Int32)) (F_X13_isLetter_24 κ) (F_X13_isLetter_12 κ l0))
theorem M_X13_isLetter (κ : Nat → Nat) (l0 : Int32) : q_mo (F_X13_isLetter κ l0) := (q_mo_br (M_X13_isLetter_12 κ l0) (q_mo_br (M_X13_isLetter_24 κ) (M_X13_isLetter_12 κ l0)))
set_option maxRecDepth 100000 in
set_option maxHeartbeats 4000000 in
theorem K_X13_isLetter {E : q_Ev} (l0 : Int32) : q_Ct E yX13_isLetter (.code yX13_isLetter cX13_isLetter 1 (some .boolean)) 0 0 [q_I l0] q_oI (F_X13_isLetter (q_kap E) l0) := by
  refine q_enter (by decide) (Nat.le_of_ble_eq_true rfl) (fun Γ σ w h B hT => ?_)
  have C := B.1
  unfold F_X13_isLetter at h
  refine q_iload_n (pc := 0) C 0 rfl dX13_isLetter_0 rfl ?_
  refine q_bipush (pc := 1) (v := (97 : Int32)) C dX13_isLetter_1 (by decide) ?_
  refine q_icmp_lt (pc := 3) (tgt := 12) C dX13_isLetter_3 (by decide) h (fun _ h => ?_) (fun _ h => ?_)
  · exact S_X13_isLetter_12 B hT l0 _ h
  · refine q_iload_n (pc := 6) C 0 rfl dX13_isLetter_6 rfl ?_
    refine q_bipush (pc := 7) (v := (122 : Int32)) C dX13_isLetter_7 (by decide) ?_
    refine q_icmp_le (pc := 9) (tgt := 24) C dX13_isLetter_9 (by decide) h (fun _ h => ?_) (fun _ h => ?_)
    · refine q_W.sub [] rfl ?_
      exact S_X13_isLetter_24 B hT _ h
    · exact S_X13_isLetter_12 B hT l0 _ h
def F_X13_isInName_25 (κ : Nat → Nat) (s0 : Int32) : q_X Int32 :=
  q_rz s0
theorem M_X13_isInName_25 (κ : Nat → Nat) (s0 : Int32) : q_mo (F_X13_isInName_25 κ s0) := q_mo_rz
set_option maxRecDepth 100000 in
set_option maxHeartbeats 4000000 in
theorem S_X13_isInName_25 {E : q_Ev} {Γ : q_Gm} {w : (Int32 ⊕ q_Exn) × q_St} (B : q_Bd E Γ cX13_isInName yX13_isInName.cls 1 1 20 (some .boolean) yX13_isInName.name w) (hT : q_nT Γ) (s0 : Int32) (σ : q_St) (h : F_X13_isInName_25 (q_kap E) s0 σ = some w) : q_W E Γ (q_QF E Γ q_oI w) 1 σ 25 [] [q_I s0] := by
  have C := B.1
  unfold F_X13_isInName_25 at h
  exact q_zret C B.2.2.2.2.1 dX13_isInName_25 h
def F_X13_isInName_20 (κ : Nat → Nat) : q_X Int32 :=
  F_X13_isInName_25 κ (1 : Int32)
theorem M_X13_isInName_20 (κ : Nat → Nat) : q_mo (F_X13_isInName_20 κ) := (M_X13_isInName_25 κ (1 : Int32))
set_option maxRecDepth 100000 in
set_option maxHeartbeats 4000000 in
theorem S_X13_isInName_20 {E : q_Ev} {Γ : q_Gm} {w : (Int32 ⊕ q_Exn) × q_St} (B : q_Bd E Γ cX13_isInName yX13_isInName.cls 1 1 20 (some .boolean) yX13_isInName.name w) (hT : q_nT Γ) (σ : q_St) (h : F_X13_isInName_20 (q_kap E) σ = some w) : q_W E Γ (q_QF E Γ q_oI w) 1 σ 20 [] [] := by
  have C := B.1
  unfold F_X13_isInName_20 at h
  refine q_iconst (pc := 20) (v := (1 : Int32)) C dX13_isInName_20 (by decide) ?_
  refine q_goto (pc := 21) (tgt := 25) C dX13_isInName_21 (by decide) ?_
  exact S_X13_isInName_25 B hT (1 : Int32) _ h
def F_X13_isInName (κ : Nat → Nat) (l0 : Int32) : q_X Int32 :=
  q_ca (F_X13_isDigit κ l0) fun v1 => q_br (¬ v1 = 0) (F_X13_isInName_20 κ) (q_ca (F_X13_isLetter κ l0) fun v8 => q_br (¬ v8 = 0) (F_X13_isInName_20 κ) (q_br (¬ l0 = (95 : Int32)) (F_X13_isInName_25 κ (0 : Int32)) (F_X13_isInName_20 κ)))
theorem M_X13_isInName (κ : Nat → Nat) (l0 : Int32) : q_mo (F_X13_isInName κ l0) := (q_mo_ca (M_X13_isDigit κ l0) fun v1 => (q_mo_br (M_X13_isInName_20 κ) (q_mo_ca (M_X13_isLetter κ l0) fun v8 => (q_mo_br (M_X13_isInName_20 κ) (q_mo_br (M_X13_isInName_25 κ (0 : Int32)) (M_X13_isInName_20 κ))))))
set_option maxRecDepth 100000 in
set_option maxHeartbeats 4000000 in
theorem K_X13_isInName {E : q_Ev} (l0 : Int32) : q_Ct E yX13_isInName (.code yX13_isInName cX13_isInName 1 (some .boolean)) 1 20 [q_I l0] q_oI (F_X13_isInName (q_kap E) l0) := by
  refine q_enter (by decide) (Nat.le_of_ble_eq_true rfl) (fun Γ σ w h B hT => ?_)
  have C := B.1
  unfold F_X13_isInName at h
  refine q_iload_n (pc := 0) C 0 rfl dX13_isInName_0 rfl ?_
  refine q_callS (pc := 1) (As := [q_I l0]) (st := []) (ps := q_psI) C B.2.1 hT q_hpI qm_X13_141 qs_X13_isDigit dX13_isInName_1 rfl rfl (Nat.le_of_ble_eq_true rfl) (q_flo B.2.2.1 B.2.2.2.1 (by decide) (by decide)) (K_X13_isDigit l0) (M_X13_isDigit (q_kap E) l0) (by exact fun v1 => (q_mo_br (M_X13_isInName_20 (q_kap E)) (q_mo_ca (M_X13_isLetter (q_kap E) l0) fun v8 => (q_mo_br (M_X13_isInName_20 (q_kap E)) (q_mo_br (M_X13_isInName_25 (q_kap E) (0 : Int32)) (M_X13_isInName_20 (q_kap E))))))) h (fun v1 σ h => ?_)
  refine q_W.st (st' := [q_I v1]) rfl ?_
  refine q_if_ne (pc := 4) (tgt := 20) C dX13_isInName_4 (by decide) h (fun _ h => ?_) (fun _ h => ?_)
  · refine q_W.sub [] rfl ?_
    exact S_X13_isInName_20 B hT _ h
  · refine q_iload_n (pc := 7) C 0 rfl dX13_isInName_7 rfl ?_
    refine q_callS (pc := 8) (As := [q_I l0]) (st := []) (ps := q_psI) C B.2.1 hT q_hpI qm_X13_145 qs_X13_isLetter dX13_isInName_8 rfl rfl (Nat.le_of_ble_eq_true rfl) (q_flo B.2.2.1 B.2.2.2.1 (by decide) (by decide)) (K_X13_isLetter l0) (M_X13_isLetter (q_kap E) l0) (by exact fun v8 => (q_mo_br (M_X13_isInName_20 (q_kap E)) (q_mo_br (M_X13_isInName_25 (q_kap E) (0 : Int32)) (M_X13_isInName_20 (q_kap E))))) h (fun v8 σ h => ?_)
    refine q_W.st (st' := [q_I v8]) rfl ?_
    refine q_if_ne (pc := 11) (tgt := 20) C dX13_isInName_11 (by decide) h (fun _ h => ?_) (fun _ h => ?_)
    · refine q_W.sub [] rfl ?_
      exact S_X13_isInName_20 B hT _ h
    · refine q_iload_n (pc := 14) C 0 rfl dX13_isInName_14 rfl ?_
      refine q_bipush (pc := 15) (v := (95 : Int32)) C dX13_isInName_15 (by decide) ?_
      refine q_icmp_ne (pc := 17) (tgt := 24) C dX13_isInName_17 (by decide) h (fun _ h => ?_) (fun _ h => ?_)
      · refine q_iconst (pc := 24) (v := (0 : Int32)) C dX13_isInName_24 (by decide) ?_
        refine q_W.sub [] rfl ?_
        exact S_X13_isInName_25 B hT (0 : Int32) _ h
      · refine q_W.sub [] rfl ?_
        exact S_X13_isInName_20 B hT _ h
def F_X13_sixteen_59 (κ : Nat → Nat) (s0 : Int32) : q_X Int32 :=
  q_rt s0
theorem M_X13_sixteen_59 (κ : Nat → Nat) (s0 : Int32) : q_mo (F_X13_sixteen_59 κ s0) := q_mo_rt
theorem N_X13_sixteen_59 (κ : Nat → Nat) (s0 : Int32) : q_ni (F_X13_sixteen_59 κ s0) := q_ni_rt
set_option maxRecDepth 100000 in
set_option maxHeartbeats 4000000 in
theorem S_X13_sixteen_59 {E : q_Ev} {Γ : q_Gm} {w : (Int32 ⊕ q_Exn) × q_St} (B : q_Bd E Γ cX13_sixteen yX13_sixteen.cls 1 1 20 (some .int) yX13_sixteen.name w) (hT : q_nT Γ) (s0 : Int32) (σ : q_St) (h : F_X13_sixteen_59 (q_kap E) s0 σ = some w) : q_W E Γ (q_QF E Γ q_oI w) 1 σ 59 [] [q_I s0] := by
  have C := B.1
  unfold F_X13_sixteen_59 at h
  exact q_iret C B.2.2.2.2.1 dX13_sixteen_59 h
def F_X13_sixteen_58 (κ : Nat → Nat) : q_X Int32 :=
  F_X13_sixteen_59 κ (-1 : Int32)
theorem M_X13_sixteen_58 (κ : Nat → Nat) : q_mo (F_X13_sixteen_58 κ) := (M_X13_sixteen_59 κ (-1 : Int32))
theorem N_X13_sixteen_58 (κ : Nat → Nat) : q_ni (F_X13_sixteen_58 κ) := (N_X13_sixteen_59 κ (-1 : Int32))
set_option maxRecDepth 100000 in
set_option maxHeartbeats 4000000 in
theorem S_X13_sixteen_58 {E : q_Ev} {Γ : q_Gm} {w : (Int32 ⊕ q_Exn) × q_St} (B : q_Bd E Γ cX13_sixteen yX13_sixteen.cls 1 1 20 (some .int) yX13_sixteen.name w) (hT : q_nT Γ) (σ : q_St) (h : F_X13_sixteen_58 (q_kap E) σ = some w) : q_W E Γ (q_QF E Γ q_oI w) 1 σ 58 [] [] := by
  have C := B.1
  unfold F_X13_sixteen_58 at h
  refine q_iconst (pc := 58) (v := (-1 : Int32)) C dX13_sixteen_58 (by decide) ?_
  exact S_X13_sixteen_59 B hT (-1 : Int32) _ h
def F_X13_sixteen_36 (κ : Nat → Nat) (l0 : Int32) : q_X Int32 :=
  q_br (l0 < (65 : Int32)) (F_X13_sixteen_58 κ) (q_br ((70 : Int32) < l0) (F_X13_sixteen_58 κ) (F_X13_sixteen_59 κ ((l0 - (65 : Int32)) + (10 : Int32))))
theorem M_X13_sixteen_36 (κ : Nat → Nat) (l0 : Int32) : q_mo (F_X13_sixteen_36 κ l0) := (q_mo_br (M_X13_sixteen_58 κ) (q_mo_br (M_X13_sixteen_58 κ) (M_X13_sixteen_59 κ ((l0 - (65 : Int32)) + (10 : Int32)))))
theorem N_X13_sixteen_36 (κ : Nat → Nat) (l0 : Int32) : q_ni (F_X13_sixteen_36 κ l0) := (q_ni_br (N_X13_sixteen_58 κ) (q_ni_br (N_X13_sixteen_58 κ) (N_X13_sixteen_59 κ ((l0 - (65 : Int32)) + (10 : Int32)))))
set_option maxRecDepth 100000 in
set_option maxHeartbeats 4000000 in
theorem S_X13_sixteen_36 {E : q_Ev} {Γ : q_Gm} {w : (Int32 ⊕ q_Exn) × q_St} (B : q_Bd E Γ cX13_sixteen yX13_sixteen.cls 1 1 20 (some .int) yX13_sixteen.name w) (hT : q_nT Γ) (l0 : Int32) (σ : q_St) (h : F_X13_sixteen_36 (q_kap E) l0 σ = some w) : q_W E Γ (q_QF E Γ q_oI w) 1 σ 36 [(0, q_I l0)] [] := by
  have C := B.1
  unfold F_X13_sixteen_36 at h
  refine q_iload_n (pc := 36) C 0 rfl dX13_sixteen_36 rfl ?_
  refine q_bipush (pc := 37) (v := (65 : Int32)) C dX13_sixteen_37 (by decide) ?_
  refine q_icmp_lt (pc := 39) (tgt := 58) C dX13_sixteen_39 (by decide) h (fun _ h => ?_) (fun _ h => ?_)
  · refine q_W.sub [] rfl ?_
    exact S_X13_sixteen_58 B hT _ h
  · refine q_iload_n (pc := 42) C 0 rfl dX13_sixteen_42 rfl ?_
    refine q_bipush (pc := 43) (v := (70 : Int32)) C dX13_sixteen_43 (by decide) ?_
    refine q_icmp_gt (pc := 45) (tgt := 58) C dX13_sixteen_45 (by decide) h (fun _ h => ?_) (fun _ h => ?_)
    · refine q_W.sub [] rfl ?_
      exact S_X13_sixteen_58 B hT _ h
    · refine q_iload_n (pc := 48) C 0 rfl dX13_sixteen_48 rfl ?_
      refine q_bipush (pc := 49) (v := (65 : Int32)) C dX13_sixteen_49 (by decide) ?_
      refine q_isub (pc := 51) C dX13_sixteen_51 ?_
      refine q_bipush (pc := 52) (v := (10 : Int32)) C dX13_sixteen_52 (by decide) ?_
      refine q_iadd (pc := 54) C dX13_sixteen_54 ?_
      refine q_goto (pc := 55) (tgt := 59) C dX13_sixteen_55 (by decide) ?_
      refine q_W.sub [] rfl ?_
      exact S_X13_sixteen_59 B hT ((l0 - (65 : Int32)) + (10 : Int32)) _ h
def F_X13_sixteen (κ : Nat → Nat) (l0 : Int32) : q_X Int32 :=
  q_ca (F_X13_isDigit κ l0) fun v1 => q_br (v1 = 0) (q_br (l0 < (97 : Int32)) (F_X13_sixteen_36 κ l0) (q_br ((102 : Int32) < l0) (F_X13_sixteen_36 κ l0) (F_X13_sixteen_59 κ ((l0 - (97 : Int32)) + (10 : Int32))))) (F_X13_sixteen_59 κ (l0 - (48 : Int32)))
theorem M_X13_sixteen (κ : Nat → Nat) (l0 : Int32) : q_mo (F_X13_sixteen κ l0) := (q_mo_ca (M_X13_isDigit κ l0) fun v1 => (q_mo_br (q_mo_br (M_X13_sixteen_36 κ l0) (q_mo_br (M_X13_sixteen_36 κ l0) (M_X13_sixteen_59 κ ((l0 - (97 : Int32)) + (10 : Int32))))) (M_X13_sixteen_59 κ (l0 - (48 : Int32)))))
set_option maxRecDepth 100000 in
set_option maxHeartbeats 4000000 in
theorem K_X13_sixteen {E : q_Ev} (l0 : Int32) : q_Ct E yX13_sixteen (.code yX13_sixteen cX13_sixteen 1 (some .int)) 1 20 [q_I l0] q_oI (F_X13_sixteen (q_kap E) l0) := by
  refine q_enter (by decide) (Nat.le_of_ble_eq_true rfl) (fun Γ σ w h B hT => ?_)
  have C := B.1
  unfold F_X13_sixteen at h
  refine q_iload_n (pc := 0) C 0 rfl dX13_sixteen_0 rfl ?_
  refine q_callS (pc := 1) (As := [q_I l0]) (st := []) (ps := q_psI) C B.2.1 hT q_hpI qm_X13_141 qs_X13_isDigit dX13_sixteen_1 rfl rfl (Nat.le_of_ble_eq_true rfl) (q_flo B.2.2.1 B.2.2.2.1 (by decide) (by decide)) (K_X13_isDigit l0) (M_X13_isDigit (q_kap E) l0) (by exact fun v1 => (q_mo_br (q_mo_br (M_X13_sixteen_36 (q_kap E) l0) (q_mo_br (M_X13_sixteen_36 (q_kap E) l0) (M_X13_sixteen_59 (q_kap E) ((l0 - (97 : Int32)) + (10 : Int32))))) (M_X13_sixteen_59 (q_kap E) (l0 - (48 : Int32))))) h (fun v1 σ h => ?_)
  refine q_W.st (st' := [q_I v1]) rfl ?_
  refine q_if_eq (pc := 4) (tgt := 14) C dX13_sixteen_4 (by decide) h (fun _ h => ?_) (fun _ h => ?_)
  · refine q_iload_n (pc := 14) C 0 rfl dX13_sixteen_14 rfl ?_
    refine q_bipush (pc := 15) (v := (97 : Int32)) C dX13_sixteen_15 (by decide) ?_
    refine q_icmp_lt (pc := 17) (tgt := 36) C dX13_sixteen_17 (by decide) h (fun _ h => ?_) (fun _ h => ?_)
    · exact S_X13_sixteen_36 B hT l0 _ h
    · refine q_iload_n (pc := 20) C 0 rfl dX13_sixteen_20 rfl ?_
      refine q_bipush (pc := 21) (v := (102 : Int32)) C dX13_sixteen_21 (by decide) ?_
      refine q_icmp_gt (pc := 23) (tgt := 36) C dX13_sixteen_23 (by decide) h (fun _ h => ?_) (fun _ h => ?_)
      · exact S_X13_sixteen_36 B hT l0 _ h
      · refine q_iload_n (pc := 26) C 0 rfl dX13_sixteen_26 rfl ?_
        refine q_bipush (pc := 27) (v := (97 : Int32)) C dX13_sixteen_27 (by decide) ?_
        refine q_isub (pc := 29) C dX13_sixteen_29 ?_
        refine q_bipush (pc := 30) (v := (10 : Int32)) C dX13_sixteen_30 (by decide) ?_
        refine q_iadd (pc := 32) C dX13_sixteen_32 ?_
        refine q_goto (pc := 33) (tgt := 59) C dX13_sixteen_33 (by decide) ?_
        refine q_W.sub [] rfl ?_
        exact S_X13_sixteen_59 B hT ((l0 - (97 : Int32)) + (10 : Int32)) _ h
  · refine q_iload_n (pc := 7) C 0 rfl dX13_sixteen_7 rfl ?_
    refine q_bipush (pc := 8) (v := (48 : Int32)) C dX13_sixteen_8 (by decide) ?_
    refine q_isub (pc := 10) C dX13_sixteen_10 ?_
    refine q_goto (pc := 11) (tgt := 59) C dX13_sixteen_11 (by decide) ?_
    refine q_W.sub [] rfl ?_
    exact S_X13_sixteen_59 B hT (l0 - (48 : Int32)) _ h
def F_X13_number_184 (κ : Nat → Nat) (s0 : Int64) : q_X Int64 :=
  q_rt s0
theorem M_X13_number_184 (κ : Nat → Nat) (s0 : Int64) : q_mo (F_X13_number_184 κ s0) := q_mo_rt
theorem N_X13_number_184 (κ : Nat → Nat) (s0 : Int64) : q_ni (F_X13_number_184 κ s0) := q_ni_rt
set_option maxRecDepth 100000 in
set_option maxHeartbeats 4000000 in
theorem S_X13_number_184 {E : q_Ev} {Γ : q_Gm} {w : (Int64 ⊕ q_Exn) × q_St} (B : q_Bd E Γ cX13_number yX13_number.cls 6 2 40 (some .long) yX13_number.name w) (hT : q_nT Γ) (s0 : Int64) (σ : q_St) (h : F_X13_number_184 (q_kap E) s0 σ = some w) : q_W E Γ (q_QF E Γ q_oL w) 6 σ 184 [] [q_L s0] := by
  have C := B.1
  unfold F_X13_number_184 at h
  exact q_lret C B.2.2.2.2.1 dX13_number_184 h
def F_X13_number_121B (κ : Nat → Nat) (r121 : Option Nat → Int32 → Int64 → Int32 → q_X Int64) (l0 : Option Nat) (l2 : Int32) (l3 : Int64) (l5 : Int32) : q_X Int64 :=
  q_br (l2 ≤ l5) (q_br (0 ≤ (lg_cmp l3 (4294967296 : Int64))) (F_X13_number_184 κ (-1 : Int64)) (F_X13_number_184 κ l3)) (q_rd (q_gA l0 16 1) fun v128 => q_rd (q_lI 0 v128 l5) fun v133 => q_ca (F_X13_isDigit κ v133) fun v134 => q_br (¬ v134 = 0) (q_rd (q_gA l0 16 1) fun v150 => q_rd (q_lI 0 v150 l5) fun v155 => r121 l0 l2 ((((10 : Int64) * l3) + v155.toInt64) - (48 : Int64)) (l5 + (1 : Int32))) (q_rt (-1 : Int64)))
theorem M_X13_number_121B (κ : Nat → Nat) (r121 : Option Nat → Int32 → Int64 → Int32 → q_X Int64) (mr121 : ∀ (l0 : Option Nat) (l2 : Int32) (l3 : Int64) (l5 : Int32), q_mo (r121 l0 l2 l3 l5)) (l0 : Option Nat) (l2 : Int32) (l3 : Int64) (l5 : Int32) : q_mo (F_X13_number_121B κ r121 l0 l2 l3 l5) := (q_mo_br (q_mo_br (M_X13_number_184 κ (-1 : Int64)) (M_X13_number_184 κ l3)) (q_mo_rd fun v128 => (q_mo_rd fun v133 => (q_mo_ca (M_X13_isDigit κ v133) fun v134 => (q_mo_br (q_mo_rd fun v150 => (q_mo_rd fun v155 => (mr121 l0 l2 ((((10 : Int64) * l3) + v155.toInt64) - (48 : Int64)) (l5 + (1 : Int32))))) q_mo_rt)))))
set_option maxRecDepth 100000 in
set_option maxHeartbeats 4000000 in
theorem S_X13_number_121B {E : q_Ev} {Γ : q_Gm} {w : (Int64 ⊕ q_Exn) × q_St} (B : q_Bd E Γ cX13_number yX13_number.cls 6 2 40 (some .long) yX13_number.name w) (hT : q_nT Γ) (r121 : Option Nat → Int32 → Int64 → Int32 → q_X Int64) (hr121 : ∀ (l0 : Option Nat) (l2 : Int32) (l3 : Int64) (l5 : Int32) (σ : q_St), r121 l0 l2 l3 l5 σ = some w → q_W E Γ (q_QF E Γ q_oL w) 6 σ 121 [(0, q_R l0), (2, q_I l2), (3, q_L l3), (5, q_I l5)] []) (mr121 : ∀ (l0 : Option Nat) (l2 : Int32) (l3 : Int64) (l5 : Int32), q_mo (r121 l0 l2 l3 l5)) (l0 : Option Nat) (l2 : Int32) (l3 : Int64) (l5 : Int32) (σ : q_St) (h : F_X13_number_121B (q_kap E) r121 l0 l2 l3 l5 σ = some w) : q_W E Γ (q_QF E Γ q_oL w) 6 σ 121 [(0, q_R l0), (2, q_I l2), (3, q_L l3), (5, q_I l5)] [] := by
  have C := B.1
  unfold F_X13_number_121B at h
  refine q_iload (pc := 121) C 3 rfl dX13_number_121 ?_
  refine q_iload_n (pc := 123) C 1 rfl dX13_number_123 rfl ?_
  refine q_icmp_ge (pc := 124) (tgt := 169) C dX13_number_124 (by decide) h (fun _ h => ?_) (fun _ h => ?_)
  · refine q_lload_n (pc := 169) C 2 rfl dX13_number_169 rfl ?_
    refine q_ldc2 (pc := 170) (v := (4294967296 : Int64)) C dX13_number_170 qc_X13_180 ?_
    refine q_lcmp (pc := 173) C dX13_number_173 ?_
    refine q_if_ge (pc := 174) (tgt := 181) C dX13_number_174 (by decide) h (fun _ h => ?_) (fun _ h => ?_)
    · refine q_ldc2 (pc := 181) (v := (-1 : Int64)) C dX13_number_181 qc_X13_169 ?_
      refine q_W.sub [] rfl ?_
      exact S_X13_number_184 B hT (-1 : Int64) _ h
    · refine q_lload_n (pc := 177) C 2 rfl dX13_number_177 rfl ?_
      refine q_goto (pc := 178) (tgt := 184) C dX13_number_178 (by decide) ?_
      refine q_W.sub [] rfl ?_
      exact S_X13_number_184 B hT l3 _ h
  · refine q_aload_n (pc := 127) C 0 rfl dX13_number_127 rfl ?_
    refine q_getA (pc := 128) C dX13_number_128 ql_X13_13 h (fun v128 h => ?_)
    refine q_iload (pc := 131) C 3 rfl dX13_number_131 ?_
    refine q_ldI (pc := 133) C dX13_number_133 (Or.inl ⟨rfl, rfl⟩) h (fun v133 h => ?_)
    refine q_callS (pc := 134) (As := [q_I v133]) (st := []) (ps := q_psI) C B.2.1 hT q_hpI qm_X13_141 qs_X13_isDigit dX13_number_134 rfl rfl (Nat.le_of_ble_eq_true rfl) (q_flo B.2.2.1 B.2.2.2.1 (by decide) (by decide)) (K_X13_isDigit v133) (M_X13_isDigit (q_kap E) v133) (by exact fun v134 => (q_mo_br (q_mo_rd fun v150 => (q_mo_rd fun v155 => (mr121 l0 l2 ((((10 : Int64) * l3) + v155.toInt64) - (48 : Int64)) (l5 + (1 : Int32))))) q_mo_rt)) h (fun v134 σ h => ?_)
    refine q_W.st (st' := [q_I v134]) rfl ?_
    refine q_if_ne (pc := 137) (tgt := 144) C dX13_number_137 (by decide) h (fun _ h => ?_) (fun _ h => ?_)
    · refine q_ldc2 (pc := 144) (v := (10 : Int64)) C dX13_number_144 qc_X13_176 ?_
      refine q_lload_n (pc := 147) C 2 rfl dX13_number_147 rfl ?_
      refine q_lmul (pc := 148) C dX13_number_148 ?_
      refine q_aload_n (pc := 149) C 0 rfl dX13_number_149 rfl ?_
      refine q_getA (pc := 150) C dX13_number_150 ql_X13_13 h (fun v150 h => ?_)
      refine q_iload (pc := 153) C 3 rfl dX13_number_153 ?_
      refine q_ldI (pc := 155) C dX13_number_155 (Or.inl ⟨rfl, rfl⟩) h (fun v155 h => ?_)
      refine q_i2l (pc := 156) C dX13_number_156 ?_
      refine q_ladd (pc := 157) C dX13_number_157 ?_
      refine q_ldc2 (pc := 158) (v := (48 : Int64)) C dX13_number_158 qc_X13_178 ?_
      refine q_lsub (pc := 161) C dX13_number_161 ?_
      refine q_lstore_n (pc := 162) (l' := [(3, q_L ((((10 : Int64) * l3) + v155.toInt64) - (48 : Int64))), (0, q_R l0), (2, q_I l2), (5, q_I l5)]) C dX13_number_162 rfl (by decide) rfl ?_
      refine q_iinc (pc := 163) (v := (1 : Int32)) (l' := [(5, q_I (l5 + (1 : Int32))), (3, q_L ((((10 : Int64) * l3) + v155.toInt64) - (48 : Int64))), (0, q_R l0), (2, q_I l2)]) C 3 rfl dX13_number_163 (by decide) (by decide) rfl ?_
      refine q_goto (pc := 166) (tgt := 121) C dX13_number_166 (by decide) ?_
      refine q_W.sub [2, 3, 1, 0] rfl ?_
      exact hr121 l0 l2 ((((10 : Int64) * l3) + v155.toInt64) - (48 : Int64)) (l5 + (1 : Int32)) _ h
    · refine q_ldc2 (pc := 140) (v := (-1 : Int64)) C dX13_number_140 qc_X13_169 ?_
      exact q_lret C B.2.2.2.2.1 dX13_number_143 h
def F_X13_number_121 (κ : Nat → Nat) : Nat → Option Nat → Int32 → Int64 → Int32 → q_X Int64
  | 0, _, _, _, _ => q_no
  | n + 1, l0, l2, l3, l5 => F_X13_number_121B κ (F_X13_number_121 κ n) l0 l2 l3 l5
theorem M_X13_number_121 (κ : Nat → Nat) : ∀ (n : Nat) (l0 : Option Nat) (l2 : Int32) (l3 : Int64) (l5 : Int32), q_mo (F_X13_number_121 κ n l0 l2 l3 l5)
  | 0, _, _, _, _ => q_mo_no
  | n + 1, l0, l2, l3, l5 => M_X13_number_121B κ (F_X13_number_121 κ n) (M_X13_number_121 κ n) l0 l2 l3 l5
theorem S_X13_number_121 {E : q_Ev} {Γ : q_Gm} {w : (Int64 ⊕ q_Exn) × q_St} (B : q_Bd E Γ cX13_number yX13_number.cls 6 2 40 (some .long) yX13_number.name w) (hT : q_nT Γ) : ∀ (n : Nat) (l0 : Option Nat) (l2 : Int32) (l3 : Int64) (l5 : Int32) (σ : q_St), F_X13_number_121 (q_kap E) n l0 l2 l3 l5 σ = some w → q_W E Γ (q_QF E Γ q_oL w) 6 σ 121 [(0, q_R l0), (2, q_I l2), (3, q_L l3), (5, q_I l5)] []
  | 0, _, _, _, _, _, h => by cases h
  | n + 1, l0, l2, l3, l5, σ, h => S_X13_number_121B B hT (F_X13_number_121 (q_kap E) n) (S_X13_number_121 B hT n) (M_X13_number_121 (q_kap E) n) l0 l2 l3 l5 σ h
def F_X13_number_106 (κ : Nat → Nat) (l0 : Option Nat) (l1 : Int32) (l2 : Int32) (l3 : Int64) : q_X Int64 :=
  q_br ((l2 - l1) ≤ (10 : Int32)) (F_X13_number_121 κ q_fu l0 l2 l3 l1) (q_rt (-1 : Int64))
theorem M_X13_number_106 (κ : Nat → Nat) (l0 : Option Nat) (l1 : Int32) (l2 : Int32) (l3 : Int64) : q_mo (F_X13_number_106 κ l0 l1 l2 l3) := (q_mo_br (M_X13_number_121 κ q_fu l0 l2 l3 l1) q_mo_rt)
set_option maxRecDepth 100000 in
set_option maxHeartbeats 4000000 in
theorem S_X13_number_106 {E : q_Ev} {Γ : q_Gm} {w : (Int64 ⊕ q_Exn) × q_St} (B : q_Bd E Γ cX13_number yX13_number.cls 6 2 40 (some .long) yX13_number.name w) (hT : q_nT Γ) (l0 : Option Nat) (l1 : Int32) (l2 : Int32) (l3 : Int64) (σ : q_St) (h : F_X13_number_106 (q_kap E) l0 l1 l2 l3 σ = some w) : q_W E Γ (q_QF E Γ q_oL w) 6 σ 106 [(0, q_R l0), (1, q_I l1), (2, q_I l2), (3, q_L l3)] [] := by
  have C := B.1
  unfold F_X13_number_106 at h
  refine q_iload_n (pc := 106) C 2 rfl dX13_number_106 rfl ?_
  refine q_iload_n (pc := 107) C 1 rfl dX13_number_107 rfl ?_
  refine q_isub (pc := 108) C dX13_number_108 ?_
  refine q_bipush (pc := 109) (v := (10 : Int32)) C dX13_number_109 (by decide) ?_
  refine q_icmp_le (pc := 111) (tgt := 118) C dX13_number_111 (by decide) h (fun _ h => ?_) (fun _ h => ?_)
  · refine q_iload_n (pc := 118) C 1 rfl dX13_number_118 rfl ?_
    refine q_istore (pc := 119) (l' := [(5, q_I l1), (0, q_R l0), (1, q_I l1), (2, q_I l2), (3, q_L l3)]) C dX13_number_119 (by decide) rfl ?_
    refine q_W.sub [1, 3, 4, 0] rfl ?_
    exact S_X13_number_121 B hT q_fu l0 l2 l3 l1 _ h
  · refine q_ldc2 (pc := 114) (v := (-1 : Int64)) C dX13_number_114 qc_X13_169 ?_
    exact q_lret C B.2.2.2.2.1 dX13_number_117 h
def F_X13_number_48 (κ : Nat → Nat) : q_X Int64 :=
  q_rt (-1 : Int64)
theorem M_X13_number_48 (κ : Nat → Nat) : q_mo (F_X13_number_48 κ) := q_mo_rt
theorem N_X13_number_48 (κ : Nat → Nat) : q_ni (F_X13_number_48 κ) := q_ni_rt
set_option maxRecDepth 100000 in
set_option maxHeartbeats 4000000 in
theorem S_X13_number_48 {E : q_Ev} {Γ : q_Gm} {w : (Int64 ⊕ q_Exn) × q_St} (B : q_Bd E Γ cX13_number yX13_number.cls 6 2 40 (some .long) yX13_number.name w) (hT : q_nT Γ) (σ : q_St) (h : F_X13_number_48 (q_kap E) σ = some w) : q_W E Γ (q_QF E Γ q_oL w) 6 σ 48 [] [] := by
  have C := B.1
  unfold F_X13_number_48 at h
  refine q_ldc2 (pc := 48) (v := (-1 : Int64)) C dX13_number_48 qc_X13_169 ?_
  exact q_lret C B.2.2.2.2.1 dX13_number_51 h
def F_X13_number_57B (κ : Nat → Nat) (r57 : Option Nat → Int32 → Int64 → Int32 → q_X Int64) (l0 : Option Nat) (l2 : Int32) (l3 : Int64) (l5 : Int32) : q_X Int64 :=
  q_br (l2 ≤ l5) (q_rt l3) (q_rd (q_gA l0 16 1) fun v64 => q_rd (q_lI 0 v64 l5) fun v69 => q_ca (F_X13_sixteen κ v69) fun v70 => q_br (0 ≤ v70) (q_rd (q_gA l0 16 1) fun v86 => q_rd (q_lI 0 v86 l5) fun v91 => q_ca (F_X13_sixteen κ v91) fun v92 => r57 l0 l2 (((16 : Int64) * l3) + v92.toInt64) (l5 + (1 : Int32))) (q_rt (-1 : Int64)))
theorem M_X13_number_57B (κ : Nat → Nat) (r57 : Option Nat → Int32 → Int64 → Int32 → q_X Int64) (mr57 : ∀ (l0 : Option Nat) (l2 : Int32) (l3 : Int64) (l5 : Int32), q_mo (r57 l0 l2 l3 l5)) (l0 : Option Nat) (l2 : Int32) (l3 : Int64) (l5 : Int32) : q_mo (F_X13_number_57B κ r57 l0 l2 l3 l5) := (q_mo_br q_mo_rt (q_mo_rd fun v64 => (q_mo_rd fun v69 => (q_mo_ca (M_X13_sixteen κ v69) fun v70 => (q_mo_br (q_mo_rd fun v86 => (q_mo_rd fun v91 => (q_mo_ca (M_X13_sixteen κ v91) fun v92 => (mr57 l0 l2 (((16 : Int64) * l3) + v92.toInt64) (l5 + (1 : Int32)))))) q_mo_rt)))))
set_option maxRecDepth 100000 in
set_option maxHeartbeats 4000000 in
theorem S_X13_number_57B {E : q_Ev} {Γ : q_Gm} {w : (Int64 ⊕ q_Exn) × q_St} (B : q_Bd E Γ cX13_number yX13_number.cls 6 2 40 (some .long) yX13_number.name w) (hT : q_nT Γ) (r57 : Option Nat → Int32 → Int64 → Int32 → q_X Int64) (hr57 : ∀ (l0 : Option Nat) (l2 : Int32) (l3 : Int64) (l5 : Int32) (σ : q_St), r57 l0 l2 l3 l5 σ = some w → q_W E Γ (q_QF E Γ q_oL w) 6 σ 57 [(0, q_R l0), (2, q_I l2), (3, q_L l3), (5, q_I l5)] []) (mr57 : ∀ (l0 : Option Nat) (l2 : Int32) (l3 : Int64) (l5 : Int32), q_mo (r57 l0 l2 l3 l5)) (l0 : Option Nat) (l2 : Int32) (l3 : Int64) (l5 : Int32) (σ : q_St) (h : F_X13_number_57B (q_kap E) r57 l0 l2 l3 l5 σ = some w) : q_W E Γ (q_QF E Γ q_oL w) 6 σ 57 [(0, q_R l0), (2, q_I l2), (3, q_L l3), (5, q_I l5)] [] := by
  have C := B.1
  unfold F_X13_number_57B at h
  refine q_iload (pc := 57) C 3 rfl dX13_number_57 ?_
  refine q_iload_n (pc := 59) C 1 rfl dX13_number_59 rfl ?_
  refine q_icmp_ge (pc := 60) (tgt := 104) C dX13_number_60 (by decide) h (fun _ h => ?_) (fun _ h => ?_)
  · refine q_lload_n (pc := 104) C 2 rfl dX13_number_104 rfl ?_
    exact q_lret C B.2.2.2.2.1 dX13_number_105 h
  · refine q_aload_n (pc := 63) C 0 rfl dX13_number_63 rfl ?_
    refine q_getA (pc := 64) C dX13_number_64 ql_X13_13 h (fun v64 h => ?_)
    refine q_iload (pc := 67) C 3 rfl dX13_number_67 ?_
    refine q_ldI (pc := 69) C dX13_number_69 (Or.inl ⟨rfl, rfl⟩) h (fun v69 h => ?_)
    refine q_callS (pc := 70) (As := [q_I v69]) (st := []) (ps := q_psI) C B.2.1 hT q_hpI qm_X13_171 qs_X13_sixteen dX13_number_70 rfl rfl (Nat.le_of_ble_eq_true rfl) (q_flo B.2.2.1 B.2.2.2.1 (by decide) (by decide)) (K_X13_sixteen v69) (M_X13_sixteen (q_kap E) v69) (by exact fun v70 => (q_mo_br (q_mo_rd fun v86 => (q_mo_rd fun v91 => (q_mo_ca (M_X13_sixteen (q_kap E) v91) fun v92 => (mr57 l0 l2 (((16 : Int64) * l3) + v92.toInt64) (l5 + (1 : Int32)))))) q_mo_rt)) h (fun v70 σ h => ?_)
    refine q_W.st (st' := [q_I v70]) rfl ?_
    refine q_if_ge (pc := 73) (tgt := 80) C dX13_number_73 (by decide) h (fun _ h => ?_) (fun _ h => ?_)
    · refine q_ldc2 (pc := 80) (v := (16 : Int64)) C dX13_number_80 qc_X13_174 ?_
      refine q_lload_n (pc := 83) C 2 rfl dX13_number_83 rfl ?_
      refine q_lmul (pc := 84) C dX13_number_84 ?_
      refine q_aload_n (pc := 85) C 0 rfl dX13_number_85 rfl ?_
      refine q_getA (pc := 86) C dX13_number_86 ql_X13_13 h (fun v86 h => ?_)
      refine q_iload (pc := 89) C 3 rfl dX13_number_89 ?_
      refine q_ldI (pc := 91) C dX13_number_91 (Or.inl ⟨rfl, rfl⟩) h (fun v91 h => ?_)
      refine q_callS (pc := 92) (As := [q_I v91]) (st := [q_L ((16 : Int64) * l3)]) (ps := q_psI) C B.2.1 hT q_hpI qm_X13_171 qs_X13_sixteen dX13_number_92 rfl rfl (Nat.le_of_ble_eq_true rfl) (q_flo B.2.2.1 B.2.2.2.1 (by decide) (by decide)) (K_X13_sixteen v91) (M_X13_sixteen (q_kap E) v91) (by exact fun v92 => (mr57 l0 l2 (((16 : Int64) * l3) + v92.toInt64) (l5 + (1 : Int32)))) h (fun v92 σ h => ?_)
      refine q_W.st (st' := [q_I v92, q_L ((16 : Int64) * l3)]) rfl ?_
      refine q_i2l (pc := 95) C dX13_number_95 ?_
      refine q_ladd (pc := 96) C dX13_number_96 ?_
      refine q_lstore_n (pc := 97) (l' := [(3, q_L (((16 : Int64) * l3) + v92.toInt64)), (0, q_R l0), (2, q_I l2), (5, q_I l5)]) C dX13_number_97 rfl (by decide) rfl ?_
      refine q_iinc (pc := 98) (v := (1 : Int32)) (l' := [(5, q_I (l5 + (1 : Int32))), (3, q_L (((16 : Int64) * l3) + v92.toInt64)), (0, q_R l0), (2, q_I l2)]) C 3 rfl dX13_number_98 (by decide) (by decide) rfl ?_
      refine q_goto (pc := 101) (tgt := 57) C dX13_number_101 (by decide) ?_
      refine q_W.sub [2, 3, 1, 0] rfl ?_
      exact hr57 l0 l2 (((16 : Int64) * l3) + v92.toInt64) (l5 + (1 : Int32)) _ h
    · refine q_ldc2 (pc := 76) (v := (-1 : Int64)) C dX13_number_76 qc_X13_169 ?_
      exact q_lret C B.2.2.2.2.1 dX13_number_79 h
def F_X13_number_57 (κ : Nat → Nat) : Nat → Option Nat → Int32 → Int64 → Int32 → q_X Int64
  | 0, _, _, _, _ => q_no
  | n + 1, l0, l2, l3, l5 => F_X13_number_57B κ (F_X13_number_57 κ n) l0 l2 l3 l5
theorem M_X13_number_57 (κ : Nat → Nat) : ∀ (n : Nat) (l0 : Option Nat) (l2 : Int32) (l3 : Int64) (l5 : Int32), q_mo (F_X13_number_57 κ n l0 l2 l3 l5)
  | 0, _, _, _, _ => q_mo_no
  | n + 1, l0, l2, l3, l5 => M_X13_number_57B κ (F_X13_number_57 κ n) (M_X13_number_57 κ n) l0 l2 l3 l5
theorem S_X13_number_57 {E : q_Ev} {Γ : q_Gm} {w : (Int64 ⊕ q_Exn) × q_St} (B : q_Bd E Γ cX13_number yX13_number.cls 6 2 40 (some .long) yX13_number.name w) (hT : q_nT Γ) : ∀ (n : Nat) (l0 : Option Nat) (l2 : Int32) (l3 : Int64) (l5 : Int32) (σ : q_St), F_X13_number_57 (q_kap E) n l0 l2 l3 l5 σ = some w → q_W E Γ (q_QF E Γ q_oL w) 6 σ 57 [(0, q_R l0), (2, q_I l2), (3, q_L l3), (5, q_I l5)] []
  | 0, _, _, _, _, _, h => by cases h
  | n + 1, l0, l2, l3, l5, σ, h => S_X13_number_57B B hT (F_X13_number_57 (q_kap E) n) (S_X13_number_57 B hT n) (M_X13_number_57 (q_kap E) n) l0 l2 l3 l5 σ h
def F_X13_number (κ : Nat → Nat) (l0 : Option Nat) (l1 : Int32) (l2 : Int32) : q_X Int64 :=
  q_br ((l2 - l1) ≤ (1 : Int32)) (F_X13_number_106 κ l0 l1 l2 (0 : Int64)) (q_rd (q_gA l0 16 1) fun v10 => q_rd (q_lI 0 v10 l1) fun v14 => q_br (¬ v14 = (48 : Int32)) (F_X13_number_106 κ l0 l1 l2 (0 : Int64)) (q_rd (q_gA l0 16 1) fun v21 => q_rd (q_lI 0 v21 (l1 + (1 : Int32))) fun v27 => q_br (¬ v27 = (120 : Int32)) (F_X13_number_106 κ l0 l1 l2 (0 : Int64)) (q_br ((l2 - l1) < (3 : Int32)) (F_X13_number_48 κ) (q_br ((l2 - l1) ≤ (10 : Int32)) (F_X13_number_57 κ q_fu l0 l2 (0 : Int64) (l1 + (2 : Int32))) (F_X13_number_48 κ)))))
theorem M_X13_number (κ : Nat → Nat) (l0 : Option Nat) (l1 : Int32) (l2 : Int32) : q_mo (F_X13_number κ l0 l1 l2) := (q_mo_br (M_X13_number_106 κ l0 l1 l2 (0 : Int64)) (q_mo_rd fun v10 => (q_mo_rd fun v14 => (q_mo_br (M_X13_number_106 κ l0 l1 l2 (0 : Int64)) (q_mo_rd fun v21 => (q_mo_rd fun v27 => (q_mo_br (M_X13_number_106 κ l0 l1 l2 (0 : Int64)) (q_mo_br (M_X13_number_48 κ) (q_mo_br (M_X13_number_57 κ q_fu l0 l2 (0 : Int64) (l1 + (2 : Int32))) (M_X13_number_48 κ))))))))))
set_option maxRecDepth 100000 in
set_option maxHeartbeats 4000000 in
theorem K_X13_number {E : q_Ev} (l0 : Option Nat) (l1 : Int32) (l2 : Int32) : q_Ct E yX13_number (.code yX13_number cX13_number 6 (some .long)) 2 40 [q_R l0, q_I l1, q_I l2] q_oL (F_X13_number (q_kap E) l0 l1 l2) := by
  refine q_enter (by decide) (Nat.le_of_ble_eq_true rfl) (fun Γ σ w h B hT => ?_)
  have C := B.1
  unfold F_X13_number at h
  refine q_lconst (pc := 0) (v := (0 : Int64)) C dX13_number_0 (by decide) ?_
  refine q_lstore_n (pc := 1) (l' := [(3, q_L (0 : Int64)), (0, q_R l0), (1, q_I l1), (2, q_I l2)]) C dX13_number_1 rfl (by decide) rfl ?_
  refine q_iload_n (pc := 2) C 3 rfl dX13_number_2 rfl ?_
  refine q_iload_n (pc := 3) C 2 rfl dX13_number_3 rfl ?_
  refine q_isub (pc := 4) C dX13_number_4 ?_
  refine q_iconst (pc := 5) (v := (1 : Int32)) C dX13_number_5 (by decide) ?_
  refine q_icmp_le (pc := 6) (tgt := 106) C dX13_number_6 (by decide) h (fun _ h => ?_) (fun _ h => ?_)
  · refine q_W.sub [1, 2, 3, 0] rfl ?_
    exact S_X13_number_106 B hT l0 l1 l2 (0 : Int64) _ h
  · refine q_aload_n (pc := 9) C 1 rfl dX13_number_9 rfl ?_
    refine q_getA (pc := 10) C dX13_number_10 ql_X13_13 h (fun v10 h => ?_)
    refine q_iload_n (pc := 13) C 2 rfl dX13_number_13 rfl ?_
    refine q_ldI (pc := 14) C dX13_number_14 (Or.inl ⟨rfl, rfl⟩) h (fun v14 h => ?_)
    refine q_bipush (pc := 15) (v := (48 : Int32)) C dX13_number_15 (by decide) ?_
    refine q_icmp_ne (pc := 17) (tgt := 106) C dX13_number_17 (by decide) h (fun _ h => ?_) (fun _ h => ?_)
    · refine q_W.sub [1, 2, 3, 0] rfl ?_
      exact S_X13_number_106 B hT l0 l1 l2 (0 : Int64) _ h
    · refine q_aload_n (pc := 20) C 1 rfl dX13_number_20 rfl ?_
      refine q_getA (pc := 21) C dX13_number_21 ql_X13_13 h (fun v21 h => ?_)
      refine q_iload_n (pc := 24) C 2 rfl dX13_number_24 rfl ?_
      refine q_iconst (pc := 25) (v := (1 : Int32)) C dX13_number_25 (by decide) ?_
      refine q_iadd (pc := 26) C dX13_number_26 ?_
      refine q_ldI (pc := 27) C dX13_number_27 (Or.inl ⟨rfl, rfl⟩) h (fun v27 h => ?_)
      refine q_bipush (pc := 28) (v := (120 : Int32)) C dX13_number_28 (by decide) ?_
      refine q_icmp_ne (pc := 30) (tgt := 106) C dX13_number_30 (by decide) h (fun _ h => ?_) (fun _ h => ?_)
      · refine q_W.sub [1, 2, 3, 0] rfl ?_
        exact S_X13_number_106 B hT l0 l1 l2 (0 : Int64) _ h
      · refine q_iload_n (pc := 33) C 3 rfl dX13_number_33 rfl ?_
        refine q_iload_n (pc := 34) C 2 rfl dX13_number_34 rfl ?_
        refine q_isub (pc := 35) C dX13_number_35 ?_
        refine q_iconst (pc := 36) (v := (3 : Int32)) C dX13_number_36 (by decide) ?_
        refine q_icmp_lt (pc := 37) (tgt := 48) C dX13_number_37 (by decide) h (fun _ h => ?_) (fun _ h => ?_)
        · refine q_W.sub [] rfl ?_
          exact S_X13_number_48 B hT _ h
        · refine q_iload_n (pc := 40) C 3 rfl dX13_number_40 rfl ?_
          refine q_iload_n (pc := 41) C 2 rfl dX13_number_41 rfl ?_
          refine q_isub (pc := 42) C dX13_number_42 ?_
          refine q_bipush (pc := 43) (v := (10 : Int32)) C dX13_number_43 (by decide) ?_
          refine q_icmp_le (pc := 45) (tgt := 52) C dX13_number_45 (by decide) h (fun _ h => ?_) (fun _ h => ?_)
          · refine q_iload_n (pc := 52) C 2 rfl dX13_number_52 rfl ?_
            refine q_iconst (pc := 53) (v := (2 : Int32)) C dX13_number_53 (by decide) ?_
            refine q_iadd (pc := 54) C dX13_number_54 ?_
            refine q_istore (pc := 55) (l' := [(5, q_I (l1 + (2 : Int32))), (3, q_L (0 : Int64)), (0, q_R l0), (1, q_I l1), (2, q_I l2)]) C dX13_number_55 (by decide) rfl ?_
            refine q_W.sub [2, 4, 1, 0] rfl ?_
            exact S_X13_number_57 B hT q_fu l0 l2 (0 : Int64) (l1 + (2 : Int32)) _ h
          · refine q_W.sub [] rfl ?_
            exact S_X13_number_48 B hT _ h
def F_X13_scan_43B (κ : Nat → Nat) (r7 : Option Nat → Int32 → Int32 → q_X Unit) (r43 : Option Nat → Int32 → Int32 → q_X Unit) (l0 : Option Nat) (l1 : Int32) (l2 : Int32) : q_X Unit :=
  q_rd (q_gI l0 16 14) fun v45 => q_br (v45 ≤ l2) (r7 l0 l1 l2) (q_rd (q_gA l0 16 1) fun v52 => q_rd (q_lI 0 v52 l2) fun v56 => q_br (v56 = (10 : Int32)) (r7 l0 l1 l2) (r43 l0 l1 (l2 + (1 : Int32))))
theorem M_X13_scan_43B (κ : Nat → Nat) (r7 : Option Nat → Int32 → Int32 → q_X Unit) (mr7 : ∀ (l0 : Option Nat) (l1 : Int32) (l2 : Int32), q_mo (r7 l0 l1 l2)) (r43 : Option Nat → Int32 → Int32 → q_X Unit) (mr43 : ∀ (l0 : Option Nat) (l1 : Int32) (l2 : Int32), q_mo (r43 l0 l1 l2)) (l0 : Option Nat) (l1 : Int32) (l2 : Int32) : q_mo (F_X13_scan_43B κ r7 r43 l0 l1 l2) := (q_mo_rd fun v45 => (q_mo_br (mr7 l0 l1 l2) (q_mo_rd fun v52 => (q_mo_rd fun v56 => (q_mo_br (mr7 l0 l1 l2) (mr43 l0 l1 (l2 + (1 : Int32))))))))
set_option maxRecDepth 100000 in
set_option maxHeartbeats 4000000 in
theorem S_X13_scan_43B {E : q_Ev} {Γ : q_Gm} {w : (Unit ⊕ q_Exn) × q_St} (B : q_Bd E Γ cX13_scan yX13_scan.cls 8 4 91 (none) yX13_scan.name w) (hT : q_nT Γ) (r7 : Option Nat → Int32 → Int32 → q_X Unit) (hr7 : ∀ (l0 : Option Nat) (l1 : Int32) (l2 : Int32) (σ : q_St), r7 l0 l1 l2 σ = some w → q_W E Γ (q_QF E Γ q_oV w) 8 σ 7 [(0, q_R l0), (1, q_I l1), (2, q_I l2)] []) (mr7 : ∀ (l0 : Option Nat) (l1 : Int32) (l2 : Int32), q_mo (r7 l0 l1 l2)) (r43 : Option Nat → Int32 → Int32 → q_X Unit) (hr43 : ∀ (l0 : Option Nat) (l1 : Int32) (l2 : Int32) (σ : q_St), r43 l0 l1 l2 σ = some w → q_W E Γ (q_QF E Γ q_oV w) 8 σ 43 [(0, q_R l0), (1, q_I l1), (2, q_I l2)] []) (mr43 : ∀ (l0 : Option Nat) (l1 : Int32) (l2 : Int32), q_mo (r43 l0 l1 l2)) (l0 : Option Nat) (l1 : Int32) (l2 : Int32) (σ : q_St) (h : F_X13_scan_43B (q_kap E) r7 r43 l0 l1 l2 σ = some w) : q_W E Γ (q_QF E Γ q_oV w) 8 σ 43 [(0, q_R l0), (1, q_I l1), (2, q_I l2)] [] := by
  have C := B.1
  unfold F_X13_scan_43B at h
  refine q_iload_n (pc := 43) C 2 rfl dX13_scan_43 rfl ?_
  refine q_aload_n (pc := 44) C 0 rfl dX13_scan_44 rfl ?_
  refine q_getI (pc := 45) C dX13_scan_45 ql_X13_151 h (fun v45 h => ?_)
  refine q_icmp_ge (pc := 48) (tgt := 7) C dX13_scan_48 (by decide) h (fun _ h => ?_) (fun _ h => ?_)
  · exact hr7 l0 l1 l2 _ h
  · refine q_aload_n (pc := 51) C 0 rfl dX13_scan_51 rfl ?_
    refine q_getA (pc := 52) C dX13_scan_52 ql_X13_13 h (fun v52 h => ?_)
    refine q_iload_n (pc := 55) C 2 rfl dX13_scan_55 rfl ?_
    refine q_ldI (pc := 56) C dX13_scan_56 (Or.inl ⟨rfl, rfl⟩) h (fun v56 h => ?_)
    refine q_bipush (pc := 57) (v := (10 : Int32)) C dX13_scan_57 (by decide) ?_
    refine q_icmp_eq (pc := 59) (tgt := 7) C dX13_scan_59 (by decide) h (fun _ h => ?_) (fun _ h => ?_)
    · exact hr7 l0 l1 l2 _ h
    · refine q_iinc (pc := 62) (v := (1 : Int32)) (l' := [(2, q_I (l2 + (1 : Int32))), (0, q_R l0), (1, q_I l1)]) C 2 rfl dX13_scan_62 (by decide) (by decide) rfl ?_
      refine q_goto (pc := 65) (tgt := 43) C dX13_scan_65 (by decide) ?_
      refine q_W.sub [1, 2, 0] rfl ?_
      exact hr43 l0 l1 (l2 + (1 : Int32)) _ h
def F_X13_scan_43 (κ : Nat → Nat) (r7 : Option Nat → Int32 → Int32 → q_X Unit) : Nat → Option Nat → Int32 → Int32 → q_X Unit
  | 0, _, _, _ => q_no
  | n + 1, l0, l1, l2 => F_X13_scan_43B κ r7 (F_X13_scan_43 κ r7 n) l0 l1 l2
theorem M_X13_scan_43 (κ : Nat → Nat) (r7 : Option Nat → Int32 → Int32 → q_X Unit) (mr7 : ∀ (l0 : Option Nat) (l1 : Int32) (l2 : Int32), q_mo (r7 l0 l1 l2)) : ∀ (n : Nat) (l0 : Option Nat) (l1 : Int32) (l2 : Int32), q_mo (F_X13_scan_43 κ r7 n l0 l1 l2)
  | 0, _, _, _ => q_mo_no
  | n + 1, l0, l1, l2 => M_X13_scan_43B κ r7 mr7 (F_X13_scan_43 κ r7 n) (M_X13_scan_43 κ r7 mr7 n) l0 l1 l2
theorem S_X13_scan_43 {E : q_Ev} {Γ : q_Gm} {w : (Unit ⊕ q_Exn) × q_St} (B : q_Bd E Γ cX13_scan yX13_scan.cls 8 4 91 (none) yX13_scan.name w) (hT : q_nT Γ) (r7 : Option Nat → Int32 → Int32 → q_X Unit) (hr7 : ∀ (l0 : Option Nat) (l1 : Int32) (l2 : Int32) (σ : q_St), r7 l0 l1 l2 σ = some w → q_W E Γ (q_QF E Γ q_oV w) 8 σ 7 [(0, q_R l0), (1, q_I l1), (2, q_I l2)] []) (mr7 : ∀ (l0 : Option Nat) (l1 : Int32) (l2 : Int32), q_mo (r7 l0 l1 l2)) : ∀ (n : Nat) (l0 : Option Nat) (l1 : Int32) (l2 : Int32) (σ : q_St), F_X13_scan_43 (q_kap E) r7 n l0 l1 l2 σ = some w → q_W E Γ (q_QF E Γ q_oV w) 8 σ 43 [(0, q_R l0), (1, q_I l1), (2, q_I l2)] []
  | 0, _, _, _, _, h => by cases h
  | n + 1, l0, l1, l2, σ, h => S_X13_scan_43B B hT r7 hr7 mr7 (F_X13_scan_43 (q_kap E) r7 n) (S_X13_scan_43 B hT r7 hr7 mr7 n) (M_X13_scan_43 (q_kap E) r7 mr7 n) l0 l1 l2 σ h
def F_X13_scan_200 (κ : Nat → Nat) (r7 : Option Nat → Int32 → Int32 → q_X Unit) (l0 : Option Nat) (l1 : Int32) (l2 : Int32) (l4 : Int32) (l5 : Int32) (l6 : Int64) : q_X Unit :=
  q_rd (q_gA l0 16 9) fun v201 => q_rd (q_gI l0 16 13) fun v205 => q_wr (q_sI 1 v201 v205 l5) (q_rd (q_gA l0 16 10) fun v212 => q_rd (q_gI l0 16 13) fun v216 => q_wr (q_sI 1 v212 v216 l4) (q_rd (q_gA l0 16 11) fun v223 => q_rd (q_gI l0 16 13) fun v227 => q_wr (q_sI 1 v223 v227 (l2 - l4)) (q_rd (q_gA l0 16 12) fun v236 => q_rd (q_gI l0 16 13) fun v240 => q_wr (q_sL v236 v240 l6) (q_rd (q_gI l0 16 13) fun v248 => q_wr (q_pF l0 16 13 (.int (v248 + (1 : Int32)))) (r7 l0 l1 l2)))))
theorem M_X13_scan_200 (κ : Nat → Nat) (r7 : Option Nat → Int32 → Int32 → q_X Unit) (mr7 : ∀ (l0 : Option Nat) (l1 : Int32) (l2 : Int32), q_mo (r7 l0 l1 l2)) (l0 : Option Nat) (l1 : Int32) (l2 : Int32) (l4 : Int32) (l5 : Int32) (l6 : Int64) : q_mo (F_X13_scan_200 κ r7 l0 l1 l2 l4 l5 l6) := (q_mo_rd fun v201 => (q_mo_rd fun v205 => (q_mo_wr (q_mo_rd fun v212 => (q_mo_rd fun v216 => (q_mo_wr (q_mo_rd fun v223 => (q_mo_rd fun v227 => (q_mo_wr (q_mo_rd fun v236 => (q_mo_rd fun v240 => (q_mo_wr (q_mo_rd fun v248 => (q_mo_wr (mr7 l0 l1 l2)))))))))))))))
set_option maxRecDepth 100000 in
set_option maxHeartbeats 4000000 in
theorem S_X13_scan_200 {E : q_Ev} {Γ : q_Gm} {w : (Unit ⊕ q_Exn) × q_St} (B : q_Bd E Γ cX13_scan yX13_scan.cls 8 4 91 (none) yX13_scan.name w) (hT : q_nT Γ) (r7 : Option Nat → Int32 → Int32 → q_X Unit) (hr7 : ∀ (l0 : Option Nat) (l1 : Int32) (l2 : Int32) (σ : q_St), r7 l0 l1 l2 σ = some w → q_W E Γ (q_QF E Γ q_oV w) 8 σ 7 [(0, q_R l0), (1, q_I l1), (2, q_I l2)] []) (mr7 : ∀ (l0 : Option Nat) (l1 : Int32) (l2 : Int32), q_mo (r7 l0 l1 l2)) (l0 : Option Nat) (l1 : Int32) (l2 : Int32) (l4 : Int32) (l5 : Int32) (l6 : Int64) (σ : q_St) (h : F_X13_scan_200 (q_kap E) r7 l0 l1 l2 l4 l5 l6 σ = some w) : q_W E Γ (q_QF E Γ q_oV w) 8 σ 200 [(0, q_R l0), (1, q_I l1), (2, q_I l2), (4, q_I l4), (5, q_I l5), (6, q_L l6)] [] := by
  have C := B.1
  unfold F_X13_scan_200 at h
  refine q_aload_n (pc := 200) C 0 rfl dX13_scan_200 rfl ?_
  refine q_getA (pc := 201) C dX13_scan_201 ql_X13_26 h (fun v201 h => ?_)
  refine q_aload_n (pc := 204) C 0 rfl dX13_scan_204 rfl ?_
  refine q_getI (pc := 205) C dX13_scan_205 ql_X13_148 h (fun v205 h => ?_)
  refine q_iload (pc := 208) C 4 rfl dX13_scan_208 ?_
  refine q_stI (pc := 210) C dX13_scan_210 h (fun M210 h => ?_)
  refine q_aload_n (pc := 211) C 0 rfl dX13_scan_211 rfl ?_
  refine q_getA (pc := 212) C dX13_scan_212 ql_X13_30 h (fun v212 h => ?_)
  refine q_aload_n (pc := 215) C 0 rfl dX13_scan_215 rfl ?_
  refine q_getI (pc := 216) C dX13_scan_216 ql_X13_148 h (fun v216 h => ?_)
  refine q_iload (pc := 219) C 3 rfl dX13_scan_219 ?_
  refine q_stI (pc := 221) C dX13_scan_221 h (fun M221 h => ?_)
  refine q_aload_n (pc := 222) C 0 rfl dX13_scan_222 rfl ?_
  refine q_getA (pc := 223) C dX13_scan_223 ql_X13_33 h (fun v223 h => ?_)
  refine q_aload_n (pc := 226) C 0 rfl dX13_scan_226 rfl ?_
  refine q_getI (pc := 227) C dX13_scan_227 ql_X13_148 h (fun v227 h => ?_)
  refine q_iload_n (pc := 230) C 2 rfl dX13_scan_230 rfl ?_
  refine q_iload (pc := 231) C 3 rfl dX13_scan_231 ?_
  refine q_isub (pc := 233) C dX13_scan_233 ?_
  refine q_stI (pc := 234) C dX13_scan_234 h (fun M234 h => ?_)
  refine q_aload_n (pc := 235) C 0 rfl dX13_scan_235 rfl ?_
  refine q_getA (pc := 236) C dX13_scan_236 ql_X13_36 h (fun v236 h => ?_)
  refine q_aload_n (pc := 239) C 0 rfl dX13_scan_239 rfl ?_
  refine q_getI (pc := 240) C dX13_scan_240 ql_X13_148 h (fun v240 h => ?_)
  refine q_lload (pc := 243) C 5 rfl dX13_scan_243 ?_
  refine q_stL (pc := 245) C dX13_scan_245 h (fun M245 h => ?_)
  refine q_aload_n (pc := 246) C 0 rfl dX13_scan_246 rfl ?_
  refine q_dup (pc := 247) C dX13_scan_247 rfl ?_
  refine q_getI (pc := 248) C dX13_scan_248 ql_X13_148 h (fun v248 h => ?_)
  refine q_iconst (pc := 251) (v := (1 : Int32)) C dX13_scan_251 (by decide) ?_
  refine q_iadd (pc := 252) C dX13_scan_252 ?_
  refine q_putV (pc := 253) (v := q_I (v248 + (1 : Int32))) C dX13_scan_253 ql_X13_148 (Or.inl rfl) rfl rfl h (fun M253 h => ?_)
  refine q_goto (pc := 256) (tgt := 7) C dX13_scan_256 (by decide) ?_
  refine q_W.sub [0, 1, 2] rfl ?_
  exact hr7 l0 l1 l2 _ h
def F_X13_scan_150 (κ : Nat → Nat) (r7 : Option Nat → Int32 → Int32 → q_X Unit) (l0 : Option Nat) (l1 : Int32) (l2 : Int32) (l4 : Int32) (l6 : Int64) (s0 : Int32) : q_X Unit :=
  F_X13_scan_200 κ r7 l0 l1 l2 l4 s0 l6
theorem M_X13_scan_150 (κ : Nat → Nat) (r7 : Option Nat → Int32 → Int32 → q_X Unit) (mr7 : ∀ (l0 : Option Nat) (l1 : Int32) (l2 : Int32), q_mo (r7 l0 l1 l2)) (l0 : Option Nat) (l1 : Int32) (l2 : Int32) (l4 : Int32) (l6 : Int64) (s0 : Int32) : q_mo (F_X13_scan_150 κ r7 l0 l1 l2 l4 l6 s0) := (M_X13_scan_200 κ r7 mr7 l0 l1 l2 l4 s0 l6)
set_option maxRecDepth 100000 in
set_option maxHeartbeats 4000000 in
theorem S_X13_scan_150 {E : q_Ev} {Γ : q_Gm} {w : (Unit ⊕ q_Exn) × q_St} (B : q_Bd E Γ cX13_scan yX13_scan.cls 8 4 91 (none) yX13_scan.name w) (hT : q_nT Γ) (r7 : Option Nat → Int32 → Int32 → q_X Unit) (hr7 : ∀ (l0 : Option Nat) (l1 : Int32) (l2 : Int32) (σ : q_St), r7 l0 l1 l2 σ = some w → q_W E Γ (q_QF E Γ q_oV w) 8 σ 7 [(0, q_R l0), (1, q_I l1), (2, q_I l2)] []) (mr7 : ∀ (l0 : Option Nat) (l1 : Int32) (l2 : Int32), q_mo (r7 l0 l1 l2)) (l0 : Option Nat) (l1 : Int32) (l2 : Int32) (l4 : Int32) (l6 : Int64) (s0 : Int32) (σ : q_St) (h : F_X13_scan_150 (q_kap E) r7 l0 l1 l2 l4 l6 s0 σ = some w) : q_W E Γ (q_QF E Γ q_oV w) 8 σ 150 [(0, q_R l0), (1, q_I l1), (2, q_I l2), (4, q_I l4), (6, q_L l6)] [q_I s0] := by
  have C := B.1
  unfold F_X13_scan_150 at h
  refine q_istore (pc := 150) (l' := [(5, q_I s0), (0, q_R l0), (1, q_I l1), (2, q_I l2), (4, q_I l4), (6, q_L l6)]) C dX13_scan_150 (by decide) rfl ?_
  refine q_goto (pc := 152) (tgt := 200) C dX13_scan_152 (by decide) ?_
  refine q_W.sub [1, 2, 3, 4, 0, 5] rfl ?_
  exact S_X13_scan_200 B hT r7 hr7 mr7 l0 l1 l2 l4 s0 l6 _ h
def F_X13_scan_176 (κ : Nat → Nat) (r7 : Option Nat → Int32 → Int32 → q_X Unit) (l0 : Option Nat) (l1 : Int32) (l2 : Int32) (l4 : Int32) (l6 : Int64) (s0 : Int32) : q_X Unit :=
  F_X13_scan_200 κ r7 l0 l1 l2 l4 s0 l6
theorem M_X13_scan_176 (κ : Nat → Nat) (r7 : Option Nat → Int32 → Int32 → q_X Unit) (mr7 : ∀ (l0 : Option Nat) (l1 : Int32) (l2 : Int32), q_mo (r7 l0 l1 l2)) (l0 : Option Nat) (l1 : Int32) (l2 : Int32) (l4 : Int32) (l6 : Int64) (s0 : Int32) : q_mo (F_X13_scan_176 κ r7 l0 l1 l2 l4 l6 s0) := (M_X13_scan_200 κ r7 mr7 l0 l1 l2 l4 s0 l6)
set_option maxRecDepth 100000 in
set_option maxHeartbeats 4000000 in
theorem S_X13_scan_176 {E : q_Ev} {Γ : q_Gm} {w : (Unit ⊕ q_Exn) × q_St} (B : q_Bd E Γ cX13_scan yX13_scan.cls 8 4 91 (none) yX13_scan.name w) (hT : q_nT Γ) (r7 : Option Nat → Int32 → Int32 → q_X Unit) (hr7 : ∀ (l0 : Option Nat) (l1 : Int32) (l2 : Int32) (σ : q_St), r7 l0 l1 l2 σ = some w → q_W E Γ (q_QF E Γ q_oV w) 8 σ 7 [(0, q_R l0), (1, q_I l1), (2, q_I l2)] []) (mr7 : ∀ (l0 : Option Nat) (l1 : Int32) (l2 : Int32), q_mo (r7 l0 l1 l2)) (l0 : Option Nat) (l1 : Int32) (l2 : Int32) (l4 : Int32) (l6 : Int64) (s0 : Int32) (σ : q_St) (h : F_X13_scan_176 (q_kap E) r7 l0 l1 l2 l4 l6 s0 σ = some w) : q_W E Γ (q_QF E Γ q_oV w) 8 σ 176 [(0, q_R l0), (1, q_I l1), (2, q_I l2), (4, q_I l4), (6, q_L l6)] [q_I s0] := by
  have C := B.1
  unfold F_X13_scan_176 at h
  refine q_istore (pc := 176) (l' := [(5, q_I s0), (0, q_R l0), (1, q_I l1), (2, q_I l2), (4, q_I l4), (6, q_L l6)]) C dX13_scan_176 (by decide) rfl ?_
  refine q_goto (pc := 178) (tgt := 200) C dX13_scan_178 (by decide) ?_
  refine q_W.sub [1, 2, 3, 4, 0, 5] rfl ?_
  exact S_X13_scan_200 B hT r7 hr7 mr7 l0 l1 l2 l4 s0 l6 _ h
def F_X13_scan_129 (κ : Nat → Nat) (r7 : Option Nat → Int32 → Int32 → q_X Unit) (l0 : Option Nat) (l1 : Int32) (l2 : Int32) (l3 : Int32) (l4 : Int32) (l6 : Int64) : q_X Unit :=
  q_ca (F_X13_isDigit κ l3) fun v130 => q_br (¬ v130 = 0) (q_rd (q_is l0 16) fun _ => q_ca (F_X13_number κ l0 l4 l2) fun v159 => q_br (0 ≤ (lg_cmp v159 (0 : Int64))) (F_X13_scan_176 κ r7 l0 l1 l2 l4 v159 (2 : Int32)) (F_X13_scan_176 κ r7 l0 l1 l2 l4 v159 (5 : Int32))) (q_br ((l2 - l4) ≤ (20 : Int32)) (F_X13_scan_150 κ r7 l0 l1 l2 l4 l6 (1 : Int32)) (F_X13_scan_150 κ r7 l0 l1 l2 l4 l6 (5 : Int32)))
theorem M_X13_scan_129 (κ : Nat → Nat) (r7 : Option Nat → Int32 → Int32 → q_X Unit) (mr7 : ∀ (l0 : Option Nat) (l1 : Int32) (l2 : Int32), q_mo (r7 l0 l1 l2)) (l0 : Option Nat) (l1 : Int32) (l2 : Int32) (l3 : Int32) (l4 : Int32) (l6 : Int64) : q_mo (F_X13_scan_129 κ r7 l0 l1 l2 l3 l4 l6) := (q_mo_ca (M_X13_isDigit κ l3) fun v130 => (q_mo_br (q_mo_rd fun _ => q_mo_ca (M_X13_number κ l0 l4 l2) fun v159 => (q_mo_br (M_X13_scan_176 κ r7 mr7 l0 l1 l2 l4 v159 (2 : Int32)) (M_X13_scan_176 κ r7 mr7 l0 l1 l2 l4 v159 (5 : Int32)))) (q_mo_br (M_X13_scan_150 κ r7 mr7 l0 l1 l2 l4 l6 (1 : Int32)) (M_X13_scan_150 κ r7 mr7 l0 l1 l2 l4 l6 (5 : Int32)))))
set_option maxRecDepth 100000 in
set_option maxHeartbeats 4000000 in
theorem S_X13_scan_129 {E : q_Ev} {Γ : q_Gm} {w : (Unit ⊕ q_Exn) × q_St} (B : q_Bd E Γ cX13_scan yX13_scan.cls 8 4 91 (none) yX13_scan.name w) (hT : q_nT Γ) (r7 : Option Nat → Int32 → Int32 → q_X Unit) (hr7 : ∀ (l0 : Option Nat) (l1 : Int32) (l2 : Int32) (σ : q_St), r7 l0 l1 l2 σ = some w → q_W E Γ (q_QF E Γ q_oV w) 8 σ 7 [(0, q_R l0), (1, q_I l1), (2, q_I l2)] []) (mr7 : ∀ (l0 : Option Nat) (l1 : Int32) (l2 : Int32), q_mo (r7 l0 l1 l2)) (l0 : Option Nat) (l1 : Int32) (l2 : Int32) (l3 : Int32) (l4 : Int32) (l6 : Int64) (σ : q_St) (h : F_X13_scan_129 (q_kap E) r7 l0 l1 l2 l3 l4 l6 σ = some w) : q_W E Γ (q_QF E Γ q_oV w) 8 σ 129 [(0, q_R l0), (1, q_I l1), (2, q_I l2), (3, q_I l3), (4, q_I l4), (6, q_L l6)] [] := by
  have C := B.1
  unfold F_X13_scan_129 at h
  refine q_iload_n (pc := 129) C 3 rfl dX13_scan_129 rfl ?_
  refine q_callS (pc := 130) (As := [q_I l3]) (st := []) (ps := q_psI) C B.2.1 hT q_hpI qm_X13_141 qs_X13_isDigit dX13_scan_130 rfl rfl (Nat.le_of_ble_eq_true rfl) (q_flo B.2.2.1 B.2.2.2.1 (by decide) (by decide)) (K_X13_isDigit l3) (M_X13_isDigit (q_kap E) l3) (by exact fun v130 => (q_mo_br (q_mo_rd fun _ => q_mo_ca (M_X13_number (q_kap E) l0 l4 l2) fun v159 => (q_mo_br (M_X13_scan_176 (q_kap E) r7 mr7 l0 l1 l2 l4 v159 (2 : Int32)) (M_X13_scan_176 (q_kap E) r7 mr7 l0 l1 l2 l4 v159 (5 : Int32)))) (q_mo_br (M_X13_scan_150 (q_kap E) r7 mr7 l0 l1 l2 l4 l6 (1 : Int32)) (M_X13_scan_150 (q_kap E) r7 mr7 l0 l1 l2 l4 l6 (5 : Int32))))) h (fun v130 σ h => ?_)
  refine q_W.st (st' := [q_I v130]) rfl ?_
  refine q_if_ne (pc := 133) (tgt := 155) C dX13_scan_133 (by decide) h (fun _ h => ?_) (fun _ h => ?_)
  · refine q_aload_n (pc := 155) C 0 rfl dX13_scan_155 rfl ?_
    refine q_iload (pc := 156) C 4 rfl dX13_scan_156 ?_
    refine q_iload_n (pc := 158) C 2 rfl dX13_scan_158 rfl ?_
    refine q_callV (pc := 159) (As := [q_I l4, q_I l2]) (st := []) (ps := q_psL) C B.2.1 hT q_hpL qm_X13_157 qv_X13_number dX13_scan_159 rfl rfl (Nat.le_of_ble_eq_true rfl) (q_flo B.2.2.1 B.2.2.2.1 (by decide) (by decide)) (K_X13_number l0 l4 l2) (M_X13_number (q_kap E) l0 l4 l2) (by exact fun v159 => (q_mo_br (M_X13_scan_176 (q_kap E) r7 mr7 l0 l1 l2 l4 v159 (2 : Int32)) (M_X13_scan_176 (q_kap E) r7 mr7 l0 l1 l2 l4 v159 (5 : Int32)))) h (fun v159 σ h => ?_)
    refine q_W.st (st' := [q_L v159]) rfl ?_
    refine q_lstore (pc := 162) (l' := [(6, q_L v159), (0, q_R l0), (1, q_I l1), (2, q_I l2), (3, q_I l3), (4, q_I l4)]) C dX13_scan_162 (by decide) rfl ?_
    refine q_lload (pc := 164) C 0 rfl dX13_scan_164 ?_
    refine q_lconst (pc := 166) (v := (0 : Int64)) C dX13_scan_166 (by decide) ?_
    refine q_lcmp (pc := 167) C dX13_scan_167 ?_
    refine q_if_ge (pc := 168) (tgt := 175) C dX13_scan_168 (by decide) h (fun _ h => ?_) (fun _ h => ?_)
    · refine q_iconst (pc := 175) (v := (2 : Int32)) C dX13_scan_175 (by decide) ?_
      refine q_W.sub [1, 2, 3, 5, 0] rfl ?_
      exact S_X13_scan_176 B hT r7 hr7 mr7 l0 l1 l2 l4 v159 (2 : Int32) _ h
    · refine q_iconst (pc := 171) (v := (5 : Int32)) C dX13_scan_171 (by decide) ?_
      refine q_goto (pc := 172) (tgt := 176) C dX13_scan_172 (by decide) ?_
      refine q_W.sub [1, 2, 3, 5, 0] rfl ?_
      exact S_X13_scan_176 B hT r7 hr7 mr7 l0 l1 l2 l4 v159 (5 : Int32) _ h
  · refine q_iload_n (pc := 136) C 2 rfl dX13_scan_136 rfl ?_
    refine q_iload (pc := 137) C 4 rfl dX13_scan_137 ?_
    refine q_isub (pc := 139) C dX13_scan_139 ?_
    refine q_bipush (pc := 140) (v := (20 : Int32)) C dX13_scan_140 (by decide) ?_
    refine q_icmp_le (pc := 142) (tgt := 149) C dX13_scan_142 (by decide) h (fun _ h => ?_) (fun _ h => ?_)
    · refine q_iconst (pc := 149) (v := (1 : Int32)) C dX13_scan_149 (by decide) ?_
      refine q_W.sub [0, 1, 2, 4, 5] rfl ?_
      exact S_X13_scan_150 B hT r7 hr7 mr7 l0 l1 l2 l4 l6 (1 : Int32) _ h
    · refine q_iconst (pc := 145) (v := (5 : Int32)) C dX13_scan_145 (by decide) ?_
      refine q_goto (pc := 146) (tgt := 150) C dX13_scan_146 (by decide) ?_
      refine q_W.sub [0, 1, 2, 4, 5] rfl ?_
      exact S_X13_scan_150 B hT r7 hr7 mr7 l0 l1 l2 l4 l6 (5 : Int32) _ h
def F_X13_scan_103B (κ : Nat → Nat) (r7 : Option Nat → Int32 → Int32 → q_X Unit) (r103 : Option Nat → Int32 → Int32 → Int32 → Int32 → Int64 → q_X Unit) (l0 : Option Nat) (l1 : Int32) (l2 : Int32) (l3 : Int32) (l4 : Int32) (l6 : Int64) : q_X Unit :=
  q_rd (q_gI l0 16 14) fun v105 => q_br (v105 ≤ l2) (F_X13_scan_129 κ r7 l0 l1 l2 l3 l4 l6) (q_rd (q_gA l0 16 1) fun v112 => q_rd (q_lI 0 v112 l2) fun v116 => q_ca (F_X13_isInName κ v116) fun v117 => q_br (v117 = 0) (F_X13_scan_129 κ r7 l0 l1 l2 l3 l4 l6) (r103 l0 l1 (l2 + (1 : Int32)) l3 l4 l6))
theorem M_X13_scan_103B (κ : Nat → Nat) (r7 : Option Nat → Int32 → Int32 → q_X Unit) (mr7 : ∀ (l0 : Option Nat) (l1 : Int32) (l2 : Int32), q_mo (r7 l0 l1 l2)) (r103 : Option Nat → Int32 → Int32 → Int32 → Int32 → Int64 → q_X Unit) (mr103 : ∀ (l0 : Option Nat) (l1 : Int32) (l2 : Int32) (l3 : Int32) (l4 : Int32) (l6 : Int64), q_mo (r103 l0 l1 l2 l3 l4 l6)) (l0 : Option Nat) (l1 : Int32) (l2 : Int32) (l3 : Int32) (l4 : Int32) (l6 : Int64) : q_mo (F_X13_scan_103B κ r7 r103 l0 l1 l2 l3 l4 l6) := (q_mo_rd fun v105 => (q_mo_br (M_X13_scan_129 κ r7 mr7 l0 l1 l2 l3 l4 l6) (q_mo_rd fun v112 => (q_mo_rd fun v116 => (q_mo_ca (M_X13_isInName κ v116) fun v117 => (q_mo_br (M_X13_scan_129 κ r7 mr7 l0 l1 l2 l3 l4 l6) (mr103 l0 l1 (l2 + (1 : Int32)) l3 l4 l6)))))))
set_option maxRecDepth 100000 in
set_option maxHeartbeats 4000000 in
theorem S_X13_scan_103B {E : q_Ev} {Γ : q_Gm} {w : (Unit ⊕ q_Exn) × q_St} (B : q_Bd E Γ cX13_scan yX13_scan.cls 8 4 91 (none) yX13_scan.name w) (hT : q_nT Γ) (r7 : Option Nat → Int32 → Int32 → q_X Unit) (hr7 : ∀ (l0 : Option Nat) (l1 : Int32) (l2 : Int32) (σ : q_St), r7 l0 l1 l2 σ = some w → q_W E Γ (q_QF E Γ q_oV w) 8 σ 7 [(0, q_R l0), (1, q_I l1), (2, q_I l2)] []) (mr7 : ∀ (l0 : Option Nat) (l1 : Int32) (l2 : Int32), q_mo (r7 l0 l1 l2)) (r103 : Option Nat → Int32 → Int32 → Int32 → Int32 → Int64 → q_X Unit) (hr103 : ∀ (l0 : Option Nat) (l1 : Int32) (l2 : Int32) (l3 : Int32) (l4 : Int32) (l6 : Int64) (σ : q_St), r103 l0 l1 l2 l3 l4 l6 σ = some w → q_W E Γ (q_QF E Γ q_oV w) 8 σ 103 [(0, q_R l0), (1, q_I l1), (2, q_I l2), (3, q_I l3), (4, q_I l4), (6, q_L l6)] []) (mr103 : ∀ (l0 : Option Nat) (l1 : Int32) (l2 : Int32) (l3 : Int32) (l4 : Int32) (l6 : Int64), q_mo (r103 l0 l1 l2 l3 l4 l6)) (l0 : Option Nat) (l1 : Int32) (l2 : Int32) (l3 : Int32) (l4 : Int32) (l6 : Int64) (σ : q_St) (h : F_X13_scan_103B (q_kap E) r7 r103 l0 l1 l2 l3 l4 l6 σ = some w) : q_W E Γ (q_QF E Γ q_oV w) 8 σ 103 [(0, q_R l0), (1, q_I l1), (2, q_I l2), (3, q_I l3), (4, q_I l4), (6, q_L l6)] [] := by
  have C := B.1
  unfold F_X13_scan_103B at h
  refine q_iload_n (pc := 103) C 2 rfl dX13_scan_103 rfl ?_
  refine q_aload_n (pc := 104) C 0 rfl dX13_scan_104 rfl ?_
  refine q_getI (pc := 105) C dX13_scan_105 ql_X13_151 h (fun v105 h => ?_)
  refine q_icmp_ge (pc := 108) (tgt := 129) C dX13_scan_108 (by decide) h (fun _ h => ?_) (fun _ h => ?_)
  · exact S_X13_scan_129 B hT r7 hr7 mr7 l0 l1 l2 l3 l4 l6 _ h
  · refine q_aload_n (pc := 111) C 0 rfl dX13_scan_111 rfl ?_
    refine q_getA (pc := 112) C dX13_scan_112 ql_X13_13 h (fun v112 h => ?_)
    refine q_iload_n (pc := 115) C 2 rfl dX13_scan_115 rfl ?_
    refine q_ldI (pc := 116) C dX13_scan_116 (Or.inl ⟨rfl, rfl⟩) h (fun v116 h => ?_)
    refine q_callS (pc := 117) (As := [q_I v116]) (st := []) (ps := q_psI) C B.2.1 hT q_hpI qm_X13_154 qs_X13_isInName dX13_scan_117 rfl rfl (Nat.le_of_ble_eq_true rfl) (q_flo B.2.2.1 B.2.2.2.1 (by decide) (by decide)) (K_X13_isInName v116) (M_X13_isInName (q_kap E) v116) (by exact fun v117 => (q_mo_br (M_X13_scan_129 (q_kap E) r7 mr7 l0 l1 l2 l3 l4 l6) (mr103 l0 l1 (l2 + (1 : Int32)) l3 l4 l6))) h (fun v117 σ h => ?_)
    refine q_W.st (st' := [q_I v117]) rfl ?_
    refine q_if_eq (pc := 120) (tgt := 129) C dX13_scan_120 (by decide) h (fun _ h => ?_) (fun _ h => ?_)
    · exact S_X13_scan_129 B hT r7 hr7 mr7 l0 l1 l2 l3 l4 l6 _ h
    · refine q_iinc (pc := 123) (v := (1 : Int32)) (l' := [(2, q_I (l2 + (1 : Int32))), (0, q_R l0), (1, q_I l1), (3, q_I l3), (4, q_I l4), (6, q_L l6)]) C 2 rfl dX13_scan_123 (by decide) (by decide) rfl ?_
      refine q_goto (pc := 126) (tgt := 103) C dX13_scan_126 (by decide) ?_
      refine q_W.sub [1, 2, 0, 3, 4, 5] rfl ?_
      exact hr103 l0 l1 (l2 + (1 : Int32)) l3 l4 l6 _ h
def F_X13_scan_103 (κ : Nat → Nat) (r7 : Option Nat → Int32 → Int32 → q_X Unit) : Nat → Option Nat → Int32 → Int32 → Int32 → Int32 → Int64 → q_X Unit
  | 0, _, _, _, _, _, _ => q_no
  | n + 1, l0, l1, l2, l3, l4, l6 => F_X13_scan_103B κ r7 (F_X13_scan_103 κ r7 n) l0 l1 l2 l3 l4 l6
theorem M_X13_scan_103 (κ : Nat → Nat) (r7 : Option Nat → Int32 → Int32 → q_X Unit) (mr7 : ∀ (l0 : Option Nat) (l1 : Int32) (l2 : Int32), q_mo (r7 l0 l1 l2)) : ∀ (n : Nat) (l0 : Option Nat) (l1 : Int32) (l2 : Int32) (l3 : Int32) (l4 : Int32) (l6 : Int64), q_mo (F_X13_scan_103 κ r7 n l0 l1 l2 l3 l4 l6)
  | 0, _, _, _, _, _, _ => q_mo_no
  | n + 1, l0, l1, l2, l3, l4, l6 => M_X13_scan_103B κ r7 mr7 (F_X13_scan_103 κ r7 n) (M_X13_scan_103 κ r7 mr7 n) l0 l1 l2 l3 l4 l6
theorem S_X13_scan_103 {E : q_Ev} {Γ : q_Gm} {w : (Unit ⊕ q_Exn) × q_St} (B : q_Bd E Γ cX13_scan yX13_scan.cls 8 4 91 (none) yX13_scan.name w) (hT : q_nT Γ) (r7 : Option Nat → Int32 → Int32 → q_X Unit) (hr7 : ∀ (l0 : Option Nat) (l1 : Int32) (l2 : Int32) (σ : q_St), r7 l0 l1 l2 σ = some w → q_W E Γ (q_QF E Γ q_oV w) 8 σ 7 [(0, q_R l0), (1, q_I l1), (2, q_I l2)] []) (mr7 : ∀ (l0 : Option Nat) (l1 : Int32) (l2 : Int32), q_mo (r7 l0 l1 l2)) : ∀ (n : Nat) (l0 : Option Nat) (l1 : Int32) (l2 : Int32) (l3 : Int32) (l4 : Int32) (l6 : Int64) (σ : q_St), F_X13_scan_103 (q_kap E) r7 n l0 l1 l2 l3 l4 l6 σ = some w → q_W E Γ (q_QF E Γ q_oV w) 8 σ 103 [(0, q_R l0), (1, q_I l1), (2, q_I l2), (3, q_I l3), (4, q_I l4), (6, q_L l6)] []
  | 0, _, _, _, _, _, _, _, h => by cases h
  | n + 1, l0, l1, l2, l3, l4, l6, σ, h => S_X13_scan_103B B hT r7 hr7 mr7 (F_X13_scan_103 (q_kap E) r7 n) (S_X13_scan_103 B hT r7 hr7 mr7 n) (M_X13_scan_103 (q_kap E) r7 mr7 n) l0 l1 l2 l3 l4 l6 σ h
def F_X13_scan_196 (κ : Nat → Nat) (r7 : Option Nat → Int32 → Int32 → q_X Unit) (l0 : Option Nat) (l1 : Int32) (l2 : Int32) (l3 : Int32) (l4 : Int32) (l5 : Int32) : q_X Unit :=
  F_X13_scan_200 κ r7 l0 l1 l2 l4 l5 l3.toInt64
theorem M_X13_scan_196 (κ : Nat → Nat) (r7 : Option Nat → Int32 → Int32 → q_X Unit) (mr7 : ∀ (l0 : Option Nat) (l1 : Int32) (l2 : Int32), q_mo (r7 l0 l1 l2)) (l0 : Option Nat) (l1 : Int32) (l2 : Int32) (l3 : Int32) (l4 : Int32) (l5 : Int32) : q_mo (F_X13_scan_196 κ r7 l0 l1 l2 l3 l4 l5) := (M_X13_scan_200 κ r7 mr7 l0 l1 l2 l4 l5 l3.toInt64)
set_option maxRecDepth 100000 in
set_option maxHeartbeats 4000000 in
theorem S_X13_scan_196 {E : q_Ev} {Γ : q_Gm} {w : (Unit ⊕ q_Exn) × q_St} (B : q_Bd E Γ cX13_scan yX13_scan.cls 8 4 91 (none) yX13_scan.name w) (hT : q_nT Γ) (r7 : Option Nat → Int32 → Int32 → q_X Unit) (hr7 : ∀ (l0 : Option Nat) (l1 : Int32) (l2 : Int32) (σ : q_St), r7 l0 l1 l2 σ = some w → q_W E Γ (q_QF E Γ q_oV w) 8 σ 7 [(0, q_R l0), (1, q_I l1), (2, q_I l2)] []) (mr7 : ∀ (l0 : Option Nat) (l1 : Int32) (l2 : Int32), q_mo (r7 l0 l1 l2)) (l0 : Option Nat) (l1 : Int32) (l2 : Int32) (l3 : Int32) (l4 : Int32) (l5 : Int32) (σ : q_St) (h : F_X13_scan_196 (q_kap E) r7 l0 l1 l2 l3 l4 l5 σ = some w) : q_W E Γ (q_QF E Γ q_oV w) 8 σ 196 [(0, q_R l0), (1, q_I l1), (2, q_I l2), (3, q_I l3), (4, q_I l4), (5, q_I l5)] [] := by
  have C := B.1
  unfold F_X13_scan_196 at h
  refine q_iload_n (pc := 196) C 3 rfl dX13_scan_196 rfl ?_
  refine q_i2l (pc := 197) C dX13_scan_197 ?_
  refine q_lstore (pc := 198) (l' := [(6, q_L l3.toInt64), (0, q_R l0), (1, q_I l1), (2, q_I l2), (3, q_I l3), (4, q_I l4), (5, q_I l5)]) C dX13_scan_198 (by decide) rfl ?_
  refine q_W.sub [1, 2, 3, 5, 6, 0] rfl ?_
  exact S_X13_scan_200 B hT r7 hr7 mr7 l0 l1 l2 l4 l5 l3.toInt64 _ h
def F_X13_scan_7B (κ : Nat → Nat) (r7 : Option Nat → Int32 → Int32 → q_X Unit) (l0 : Option Nat) (l1 : Int32) (l2 : Int32) : q_X Unit :=
  q_rd (q_gI l0 16 14) fun v9 => q_br (v9 ≤ l2) (q_rd (q_gA l0 16 9) fun v260 => q_rd (q_gI l0 16 13) fun v264 => q_wr (q_sI 1 v260 v264 (0 : Int32)) (q_rd (q_gA l0 16 11) fun v270 => q_rd (q_gI l0 16 13) fun v274 => q_wr (q_sI 1 v270 v274 (0 : Int32)) (q_rd (q_gA l0 16 9) fun v280 => q_rd (q_gI l0 16 13) fun v284 => q_wr (q_sI 1 v280 (v284 + (1 : Int32)) (0 : Int32)) (q_rd (q_gA l0 16 11) fun v292 => q_rd (q_gI l0 16 13) fun v296 => q_wr (q_sI 1 v292 (v296 + (1 : Int32)) (0 : Int32)) (q_rt ()))))) (q_rd (q_gA l0 16 1) fun v16 => q_rd (q_lI 0 v16 l2) fun v20 => q_br (¬ v20 = (32 : Int32)) (q_br (¬ v20 = (35 : Int32)) (q_br (¬ v20 = (10 : Int32)) (q_ca (F_X13_isInName κ v20) fun v97 => q_br (v97 = 0) (q_rd (q_sp (some (κ 2)) 0) fun _ => q_ca (F_J0_indexOf_0f7a4 κ (some (κ 2)) v20) fun v187 => q_br (v187 < 0) (F_X13_scan_196 κ r7 l0 l1 (l2 + (1 : Int32)) v20 l2 (5 : Int32)) (F_X13_scan_196 κ r7 l0 l1 (l2 + (1 : Int32)) v20 l2 (3 : Int32))) (F_X13_scan_103 κ r7 q_fu l0 l1 l2 v20 l2 (0 : Int64))) (q_br (¬ l1 = 0) (F_X13_scan_200 κ r7 l0 l1 (l2 + (1 : Int32)) l2 (4 : Int32) (0 : Int64)) (r7 l0 l1 (l2 + (1 : Int32))))) (F_X13_scan_43 κ r7 q_fu l0 l1 l2)) (r7 l0 l1 (l2 + (1 : Int32))))
theorem M_X13_scan_7B (κ : Nat → Nat) (r7 : Option Nat → Int32 → Int32 → q_X Unit) (mr7 : ∀ (l0 : Option Nat) (l1 : Int32) (l2 : Int32), q_mo (r7 l0 l1 l2)) (l0 : Option Nat) (l1 : Int32) (l2 : Int32) : q_mo (F_X13_scan_7B κ r7 l0 l1 l2) := (q_mo_rd fun v9 => (q_mo_br (q_mo_rd fun v260 => (q_mo_rd fun v264 => (q_mo_wr (q_mo_rd fun v270 => (q_mo_rd fun v274 => (q_mo_wr (q_mo_rd fun v280 => (q_mo_rd fun v284 => (q_mo_wr (q_mo_rd fun v292 => (q_mo_rd fun v296 => (q_mo_wr q_mo_rt)))))))))))) (q_mo_rd fun v16 => (q_mo_rd fun v20 => (q_mo_br (q_mo_br (q_mo_br (q_mo_ca (M_X13_isInName κ v20) fun v97 => (q_mo_br (q_mo_rd fun _ => q_mo_ca (M_J0_indexOf_0f7a4 κ (some (κ 2)) v20) fun v187 => (q_mo_br (M_X13_scan_196 κ r7 mr7 l0 l1 (l2 + (1 : Int32)) v20 l2 (5 : Int32)) (M_X13_scan_196 κ r7 mr7 l0 l1 (l2 + (1 : Int32)) v20 l2 (3 : Int32)))) (M_X13_scan_103 κ r7 mr7 q_fu l0 l1 l2 v20 l2 (0 : Int64)))) (q_mo_br (M_X13_scan_200 κ r7 mr7 l0 l1 (l2 + (1 : Int32)) l2 (4 : Int32) (0 : Int64)) (mr7 l0 l1 (l2 + (1 : Int32))))) (M_X13_scan_43 κ r7 mr7 q_fu l0 l1 l2)) (mr7 l0 l1 (l2 + (1 : Int32))))))))
set_option maxRecDepth 100000 in
set_option maxHeartbeats 4000000 in
theorem S_X13_scan_7B {E : q_Ev} {Γ : q_Gm} {w : (Unit ⊕ q_Exn) × q_St} (B : q_Bd E Γ cX13_scan yX13_scan.cls 8 4 91 (none) yX13_scan.name w) (hT : q_nT Γ) (r7 : Option Nat → Int32 → Int32 → q_X Unit) (hr7 : ∀ (l0 : Option Nat) (l1 : Int32) (l2 : Int32) (σ : q_St), r7 l0 l1 l2 σ = some w → q_W E Γ (q_QF E Γ q_oV w) 8 σ 7 [(0, q_R l0), (1, q_I l1), (2, q_I l2)] []) (mr7 : ∀ (l0 : Option Nat) (l1 : Int32) (l2 : Int32), q_mo (r7 l0 l1 l2)) (l0 : Option Nat) (l1 : Int32) (l2 : Int32) (σ : q_St) (h : F_X13_scan_7B (q_kap E) r7 l0 l1 l2 σ = some w) : q_W E Γ (q_QF E Γ q_oV w) 8 σ 7 [(0, q_R l0), (1, q_I l1), (2, q_I l2)] [] := by
  have C := B.1
  unfold F_X13_scan_7B at h
  refine q_iload_n (pc := 7) C 2 rfl dX13_scan_7 rfl ?_
  refine q_aload_n (pc := 8) C 0 rfl dX13_scan_8 rfl ?_
  refine q_getI (pc := 9) C dX13_scan_9 ql_X13_151 h (fun v9 h => ?_)
  refine q_icmp_ge (pc := 12) (tgt := 259) C dX13_scan_12 (by decide) h (fun _ h => ?_) (fun _ h => ?_)
  · refine q_aload_n (pc := 259) C 0 rfl dX13_scan_259 rfl ?_
    refine q_getA (pc := 260) C dX13_scan_260 ql_X13_26 h (fun v260 h => ?_)
    refine q_aload_n (pc := 263) C 0 rfl dX13_scan_263 rfl ?_
    refine q_getI (pc := 264) C dX13_scan_264 ql_X13_148 h (fun v264 h => ?_)
    refine q_iconst (pc := 267) (v := (0 : Int32)) C dX13_scan_267 (by decide) ?_
    refine q_stI (pc := 268) C dX13_scan_268 h (fun M268 h => ?_)
    refine q_aload_n (pc := 269) C 0 rfl dX13_scan_269 rfl ?_
    refine q_getA (pc := 270) C dX13_scan_270 ql_X13_33 h (fun v270 h => ?_)
    refine q_aload_n (pc := 273) C 0 rfl dX13_scan_273 rfl ?_
    refine q_getI (pc := 274) C dX13_scan_274 ql_X13_148 h (fun v274 h => ?_)
    refine q_iconst (pc := 277) (v := (0 : Int32)) C dX13_scan_277 (by decide) ?_
    refine q_stI (pc := 278) C dX13_scan_278 h (fun M278 h => ?_)
    refine q_aload_n (pc := 279) C 0 rfl dX13_scan_279 rfl ?_
    refine q_getA (pc := 280) C dX13_scan_280 ql_X13_26 h (fun v280 h => ?_)
    refine q_aload_n (pc := 283) C 0 rfl dX13_scan_283 rfl ?_
    refine q_getI (pc := 284) C dX13_scan_284 ql_X13_148 h (fun v284 h => ?_)
    refine q_iconst (pc := 287) (v := (1 : Int32)) C dX13_scan_287 (by decide) ?_
    refine q_iadd (pc := 288) C dX13_scan_288 ?_
    refine q_iconst (pc := 289) (v := (0 : Int32)) C dX13_scan_289 (by decide) ?_
    refine q_stI (pc := 290) C dX13_scan_290 h (fun M290 h => ?_)
    refine q_aload_n (pc := 291) C 0 rfl dX13_scan_291 rfl ?_
    refine q_getA (pc := 292) C dX13_scan_292 ql_X13_33 h (fun v292 h => ?_)
    refine q_aload_n (pc := 295) C 0 rfl dX13_scan_295 rfl ?_
    refine q_getI (pc := 296) C dX13_scan_296 ql_X13_148 h (fun v296 h => ?_)
    refine q_iconst (pc := 299) (v := (1 : Int32)) C dX13_scan_299 (by decide) ?_
    refine q_iadd (pc := 300) C dX13_scan_300 ?_
    refine q_iconst (pc := 301) (v := (0 : Int32)) C dX13_scan_301 (by decide) ?_
    refine q_stI (pc := 302) C dX13_scan_302 h (fun M302 h => ?_)
    exact q_vret C B.2.2.2.2.1 dX13_scan_303 h
  · refine q_aload_n (pc := 15) C 0 rfl dX13_scan_15 rfl ?_
    refine q_getA (pc := 16) C dX13_scan_16 ql_X13_13 h (fun v16 h => ?_)
    refine q_iload_n (pc := 19) C 2 rfl dX13_scan_19 rfl ?_
    refine q_ldI (pc := 20) C dX13_scan_20 (Or.inl ⟨rfl, rfl⟩) h (fun v20 h => ?_)
    refine q_istore_n (pc := 21) (l' := [(3, q_I v20), (0, q_R l0), (1, q_I l1), (2, q_I l2)]) C dX13_scan_21 rfl (by decide) rfl ?_
    refine q_iload_n (pc := 22) C 3 rfl dX13_scan_22 rfl ?_
    refine q_istore (pc := 23) (l' := [(4, q_I l2), (3, q_I v20), (0, q_R l0), (1, q_I l1), (2, q_I l2)]) C dX13_scan_23 (by decide) rfl ?_
    refine q_iload_n (pc := 25) C 1 rfl dX13_scan_25 rfl ?_
    refine q_bipush (pc := 26) (v := (32 : Int32)) C dX13_scan_26 (by decide) ?_
    refine q_icmp_ne (pc := 28) (tgt := 37) C dX13_scan_28 (by decide) h (fun _ h => ?_) (fun _ h => ?_)
    · refine q_iload_n (pc := 37) C 1 rfl dX13_scan_37 rfl ?_
      refine q_bipush (pc := 38) (v := (35 : Int32)) C dX13_scan_38 (by decide) ?_
      refine q_icmp_ne (pc := 40) (tgt := 68) C dX13_scan_40 (by decide) h (fun _ h => ?_) (fun _ h => ?_)
      · refine q_iconst (pc := 68) (v := (5 : Int32)) C dX13_scan_68 (by decide) ?_
        refine q_istore (pc := 69) (l' := [(5, q_I (5 : Int32)), (4, q_I l2), (3, q_I v20), (0, q_R l0), (1, q_I l1), (2, q_I l2)]) C dX13_scan_69 (by decide) rfl ?_
        refine q_lconst (pc := 71) (v := (0 : Int64)) C dX13_scan_71 (by decide) ?_
        refine q_lstore (pc := 72) (l' := [(6, q_L (0 : Int64)), (5, q_I (5 : Int32)), (4, q_I l2), (3, q_I v20), (0, q_R l0), (1, q_I l1), (2, q_I l2)]) C dX13_scan_72 (by decide) rfl ?_
        refine q_iload_n (pc := 74) C 3 rfl dX13_scan_74 rfl ?_
        refine q_bipush (pc := 75) (v := (10 : Int32)) C dX13_scan_75 (by decide) ?_
        refine q_icmp_ne (pc := 77) (tgt := 96) C dX13_scan_77 (by decide) h (fun _ h => ?_) (fun _ h => ?_)
        · refine q_iload_n (pc := 96) C 3 rfl dX13_scan_96 rfl ?_
          refine q_callS (pc := 97) (As := [q_I v20]) (st := []) (ps := q_psI) C B.2.1 hT q_hpI qm_X13_154 qs_X13_isInName dX13_scan_97 rfl rfl (Nat.le_of_ble_eq_true rfl) (q_flo B.2.2.1 B.2.2.2.1 (by decide) (by decide)) (K_X13_isInName v20) (M_X13_isInName (q_kap E) v20) (by exact fun v97 => (q_mo_br (q_mo_rd fun _ => q_mo_ca (M_J0_indexOf_0f7a4 (q_kap E) (some ((q_kap E) 2)) v20) fun v187 => (q_mo_br (M_X13_scan_196 (q_kap E) r7 mr7 l0 l1 (l2 + (1 : Int32)) v20 l2 (5 : Int32)) (M_X13_scan_196 (q_kap E) r7 mr7 l0 l1 (l2 + (1 : Int32)) v20 l2 (3 : Int32)))) (M_X13_scan_103 (q_kap E) r7 mr7 q_fu l0 l1 l2 v20 l2 (0 : Int64)))) h (fun v97 σ h => ?_)
          refine q_W.st (st' := [q_I v97]) rfl ?_
          refine q_if_eq (pc := 100) (tgt := 181) C dX13_scan_100 (by decide) h (fun _ h => ?_) (fun _ h => ?_)
          · refine q_iinc (pc := 181) (v := (1 : Int32)) (l' := [(2, q_I (l2 + (1 : Int32))), (6, q_L (0 : Int64)), (5, q_I (5 : Int32)), (4, q_I l2), (3, q_I v20), (0, q_R l0), (1, q_I l1)]) C 6 rfl dX13_scan_181 (by decide) (by decide) rfl ?_
            refine q_ldcT (pc := 184) (k := 2) (tx := ".,:;=|()[]+-@") C dX13_scan_184 (by decide +kernel) (by decide) ?_
            refine q_iload_n (pc := 186) C 4 rfl dX13_scan_186 rfl ?_
            refine q_callVS (pc := 187) (As := [q_I v20]) (st := []) (ps := q_psI) C B.2.1 hT q_hpI qm_X13_163 qv_J0_indexOf_0f7a4 dX13_scan_187 rfl rfl (Nat.le_of_ble_eq_true rfl) (q_flo B.2.2.1 B.2.2.2.1 (by decide) (by decide)) (K_J0_indexOf_0f7a4 (some ((q_kap E) 2)) v20) (M_J0_indexOf_0f7a4 (q_kap E) (some ((q_kap E) 2)) v20) (by exact fun v187 => (q_mo_br (M_X13_scan_196 (q_kap E) r7 mr7 l0 l1 (l2 + (1 : Int32)) v20 l2 (5 : Int32)) (M_X13_scan_196 (q_kap E) r7 mr7 l0 l1 (l2 + (1 : Int32)) v20 l2 (3 : Int32)))) h (fun v187 σ h => ?_)
            refine q_W.st (st' := [q_I v187]) rfl ?_
            refine q_if_lt (pc := 190) (tgt := 196) C dX13_scan_190 (by decide) h (fun _ h => ?_) (fun _ h => ?_)
            · refine q_W.sub [5, 6, 0, 4, 3, 2] rfl ?_
              exact S_X13_scan_196 B hT r7 hr7 mr7 l0 l1 (l2 + (1 : Int32)) v20 l2 (5 : Int32) _ h
            · refine q_iconst (pc := 193) (v := (3 : Int32)) C dX13_scan_193 (by decide) ?_
              refine q_istore (pc := 194) (l' := [(5, q_I (3 : Int32)), (2, q_I (l2 + (1 : Int32))), (6, q_L (0 : Int64)), (4, q_I l2), (3, q_I v20), (0, q_R l0), (1, q_I l1)]) C dX13_scan_194 (by decide) rfl ?_
              refine q_W.sub [5, 6, 1, 4, 3, 0] rfl ?_
              exact S_X13_scan_196 B hT r7 hr7 mr7 l0 l1 (l2 + (1 : Int32)) v20 l2 (3 : Int32) _ h
          · refine q_W.sub [4, 5, 6, 3, 2, 0] rfl ?_
            exact S_X13_scan_103 B hT r7 hr7 mr7 q_fu l0 l1 l2 v20 l2 (0 : Int64) _ h
        · refine q_iinc (pc := 80) (v := (1 : Int32)) (l' := [(2, q_I (l2 + (1 : Int32))), (6, q_L (0 : Int64)), (5, q_I (5 : Int32)), (4, q_I l2), (3, q_I v20), (0, q_R l0), (1, q_I l1)]) C 6 rfl dX13_scan_80 (by decide) (by decide) rfl ?_
          refine q_iload_n (pc := 83) C 6 rfl dX13_scan_83 rfl ?_
          refine q_if_ne (pc := 84) (tgt := 90) C dX13_scan_84 (by decide) h (fun _ h => ?_) (fun _ h => ?_)
          · refine q_iconst (pc := 90) (v := (4 : Int32)) C dX13_scan_90 (by decide) ?_
            refine q_istore (pc := 91) (l' := [(5, q_I (4 : Int32)), (2, q_I (l2 + (1 : Int32))), (6, q_L (0 : Int64)), (4, q_I l2), (3, q_I v20), (0, q_R l0), (1, q_I l1)]) C dX13_scan_91 (by decide) rfl ?_
            refine q_goto (pc := 93) (tgt := 200) C dX13_scan_93 (by decide) ?_
            refine q_W.sub [5, 6, 1, 3, 0, 2] rfl ?_
            exact S_X13_scan_200 B hT r7 hr7 mr7 l0 l1 (l2 + (1 : Int32)) l2 (4 : Int32) (0 : Int64) _ h
          · refine q_goto (pc := 87) (tgt := 7) C dX13_scan_87 (by decide) ?_
            refine q_W.sub [5, 6, 0] rfl ?_
            exact hr7 l0 l1 (l2 + (1 : Int32)) _ h
      · refine q_W.sub [2, 3, 4] rfl ?_
        exact S_X13_scan_43 B hT r7 hr7 mr7 q_fu l0 l1 l2 _ h
    · refine q_iinc (pc := 31) (v := (1 : Int32)) (l' := [(2, q_I (l2 + (1 : Int32))), (4, q_I l2), (3, q_I v20), (0, q_R l0), (1, q_I l1)]) C 4 rfl dX13_scan_31 (by decide) (by decide) rfl ?_
      refine q_goto (pc := 34) (tgt := 7) C dX13_scan_34 (by decide) ?_
      refine q_W.sub [3, 4, 0] rfl ?_
      exact hr7 l0 l1 (l2 + (1 : Int32)) _ h
def F_X13_scan_7 (κ : Nat → Nat) : Nat → Option Nat → Int32 → Int32 → q_X Unit
  | 0, _, _, _ => q_no
  | n + 1, l0, l1, l2 => F_X13_scan_7B κ (F_X13_scan_7 κ n) l0 l1 l2
theorem M_X13_scan_7 (κ : Nat → Nat) : ∀ (n : Nat) (l0 : Option Nat) (l1 : Int32) (l2 : Int32), q_mo (F_X13_scan_7 κ n l0 l1 l2)
  | 0, _, _, _ => q_mo_no
  | n + 1, l0, l1, l2 => M_X13_scan_7B κ (F_X13_scan_7 κ n) (M_X13_scan_7 κ n) l0 l1 l2
theorem S_X13_scan_7 {E : q_Ev} {Γ : q_Gm} {w : (Unit ⊕ q_Exn) × q_St} (B : q_Bd E Γ cX13_scan yX13_scan.cls 8 4 91 (none) yX13_scan.name w) (hT : q_nT Γ) : ∀ (n : Nat) (l0 : Option Nat) (l1 : Int32) (l2 : Int32) (σ : q_St), F_X13_scan_7 (q_kap E) n l0 l1 l2 σ = some w → q_W E Γ (q_QF E Γ q_oV w) 8 σ 7 [(0, q_R l0), (1, q_I l1), (2, q_I l2)] []
  | 0, _, _, _, _, h => by cases h
  | n + 1, l0, l1, l2, σ, h => S_X13_scan_7B B hT (F_X13_scan_7 (q_kap E) n) (S_X13_scan_7 B hT n) (M_X13_scan_7 (q_kap E) n) l0 l1 l2 σ h
def F_X13_scan (κ : Nat → Nat) (l0 : Option Nat) (l1 : Int32) : q_X Unit :=
  q_wr (q_pF l0 16 13 (.int (0 : Int32))) (F_X13_scan_7 κ q_fu l0 l1 (0 : Int32))
theorem M_X13_scan (κ : Nat → Nat) (l0 : Option Nat) (l1 : Int32) : q_mo (F_X13_scan κ l0 l1) := (q_mo_wr (M_X13_scan_7 κ q_fu l0 l1 (0 : Int32)))
set_option maxRecDepth 100000 in
set_option maxHeartbeats 4000000 in
theorem K_X13_scan {E : q_Ev} (l0 : Option Nat) (l1 : Int32) : q_Ct E yX13_scan (.code yX13_scan cX13_scan 8 (none)) 4 91 [q_R l0, q_I l1] q_oV (F_X13_scan (q_kap E) l0 l1) := by
  refine q_enter (by decide) (Nat.le_of_ble_eq_true rfl) (fun Γ σ w h B hT => ?_)
  have C := B.1
  unfold F_X13_scan at h
  refine q_aload_n (pc := 0) C 0 rfl dX13_scan_0 rfl ?_
  refine q_iconst (pc := 1) (v := (0 : Int32)) C dX13_scan_1 (by decide) ?_
  refine q_putV (pc := 2) (v := q_I (0 : Int32)) C dX13_scan_2 ql_X13_148 (Or.inl rfl) rfl rfl h (fun M2 h => ?_)
  refine q_iconst (pc := 5) (v := (0 : Int32)) C dX13_scan_5 (by decide) ?_
  refine q_istore_n (pc := 6) (l' := [(2, q_I (0 : Int32)), (0, q_R l0), (1, q_I l1)]) C dX13_scan_6 rfl (by decide) rfl ?_
  refine q_W.sub [1, 2, 0] rfl ?_
  exact S_X13_scan_7 B hT q_fu l0 l1 (0 : Int32) _ h
def F_X13_isSign_27 (κ : Nat → Nat) (s0 : Int32) : q_X Int32 :=
  q_rz s0
theorem M_X13_isSign_27 (κ : Nat → Nat) (s0 : Int32) : q_mo (F_X13_isSign_27 κ s0) := q_mo_rz
set_option maxRecDepth 100000 in
set_option maxHeartbeats 4000000 in
theorem S_X13_isSign_27 {E : q_Ev} {Γ : q_Gm} {w : (Int32 ⊕ q_Exn) × q_St} (B : q_Bd E Γ cX13_isSign yX13_isSign.cls 3 0 0 (some .boolean) yX13_isSign.name w) (hT : q_nT Γ) (s0 : Int32) (σ : q_St) (h : F_X13_isSign_27 (q_kap E) s0 σ = some w) : q_W E Γ (q_QF E Γ q_oI w) 3 σ 27 [] [q_I s0] := by
  have C := B.1
  unfold F_X13_isSign_27 at h
  exact q_zret C B.2.2.2.2.1 dX13_isSign_27 h
def F_X13_isSign_26 (κ : Nat → Nat) : q_X Int32 :=
  F_X13_isSign_27 κ (0 : Int32)
theorem M_X13_isSign_26 (κ : Nat → Nat) : q_mo (F_X13_isSign_26 κ) := (M_X13_isSign_27 κ (0 : Int32))
set_option maxRecDepth 100000 in
set_option maxHeartbeats 4000000 in
theorem S_X13_isSign_26 {E : q_Ev} {Γ : q_Gm} {w : (Int32 ⊕ q_Exn) × q_St} (B : q_Bd E Γ cX13_isSign yX13_isSign.cls 3 0 0 (some .boolean) yX13_isSign.name w) (hT : q_nT Γ) (σ : q_St) (h : F_X13_isSign_26 (q_kap E) σ = some w) : q_W E Γ (q_QF E Γ q_oI w) 3 σ 26 [] [] := by
  have C := B.1
  unfold F_X13_isSign_26 at h
  refine q_iconst (pc := 26) (v := (0 : Int32)) C dX13_isSign_26 (by decide) ?_
  exact S_X13_isSign_27 B hT (0 : Int32) _ h
def F_X13_isSign (κ : Nat → Nat) (l0 : Option Nat) (l1 : Int32) (l2 : Int32) : q_X Int32 :=
  q_rd (q_gA l0 16 9) fun v1 => q_rd (q_lI 1 v1 l1) fun v5 => q_br (¬ v5 = (3 : Int32)) (F_X13_isSign_26 κ) (q_rd (q_gA l0 16 12) fun v11 => q_rd (q_lL v11 l1) fun v15 => q_br (¬ (lg_cmp v15 l2.toInt64) = 0) (F_X13_isSign_26 κ) (F_X13_isSign_27 κ (1 : Int32)))
theorem M_X13_isSign (κ : Nat → Nat) (l0 : Option Nat) (l1 : Int32) (l2 : Int32) : q_mo (F_X13_isSign κ l0 l1 l2) := (q_mo_rd fun v1 => (q_mo_rd fun v5 => (q_mo_br (M_X13_isSign_26 κ) (q_mo_rd fun v11 => (q_mo_rd fun v15 => (q_mo_br (M_X13_isSign_26 κ) (M_X13_isSign_27 κ (1 : Int32))))))))
set_option maxRecDepth 100000 in
set_option maxHeartbeats 4000000 in
theorem K_X13_isSign {E : q_Ev} (l0 : Option Nat) (l1 : Int32) (l2 : Int32) : q_Ct E yX13_isSign (.code yX13_isSign cX13_isSign 3 (some .boolean)) 0 0 [q_R l0, q_I l1, q_I l2] q_oI (F_X13_isSign (q_kap E) l0 l1 l2) := by
  refine q_enter (by decide) (Nat.le_of_ble_eq_true rfl) (fun Γ σ w h B hT => ?_)
  have C := B.1
  unfold F_X13_isSign at h
  refine q_aload_n (pc := 0) C 0 rfl dX13_isSign_0 rfl ?_
  refine q_getA (pc := 1) C dX13_isSign_1 ql_X13_26 h (fun v1 h => ?_)
  refine q_iload_n (pc := 4) C 1 rfl dX13_isSign_4 rfl ?_
  refine q_ldI (pc := 5) C dX13_isSign_5 (Or.inr (Or.inl ⟨rfl, rfl⟩)) h (fun v5 h => ?_)
  refine q_iconst (pc := 6) (v := (3 : Int32)) C dX13_isSign_6 (by decide) ?_
  refine q_icmp_ne (pc := 7) (tgt := 26) C dX13_isSign_7 (by decide) h (fun _ h => ?_) (fun _ h => ?_)
  · refine q_W.sub [] rfl ?_
    exact S_X13_isSign_26 B hT _ h
  · refine q_aload_n (pc := 10) C 0 rfl dX13_isSign_10 rfl ?_
    refine q_getA (pc := 11) C dX13_isSign_11 ql_X13_36 h (fun v11 h => ?_)
    refine q_iload_n (pc := 14) C 1 rfl dX13_isSign_14 rfl ?_
    refine q_ldL (pc := 15) C dX13_isSign_15 h (fun v15 h => ?_)
    refine q_iload_n (pc := 16) C 2 rfl dX13_isSign_16 rfl ?_
    refine q_i2l (pc := 17) C dX13_isSign_17 ?_
    refine q_lcmp (pc := 18) C dX13_isSign_18 ?_
    refine q_if_ne (pc := 19) (tgt := 26) C dX13_isSign_19 (by decide) h (fun _ h => ?_) (fun _ h => ?_)
    · refine q_W.sub [] rfl ?_
      exact S_X13_isSign_26 B hT _ h
    · refine q_iconst (pc := 22) (v := (1 : Int32)) C dX13_isSign_22 (by decide) ?_
      refine q_goto (pc := 23) (tgt := 27) C dX13_isSign_23 (by decide) ?_
      refine q_W.sub [] rfl ?_
      exact S_X13_isSign_27 B hT (1 : Int32) _ h
def F_X13_isWord_23 (κ : Nat → Nat) : q_X Int32 :=
  q_rz (0 : Int32)
theorem M_X13_isWord_23 (κ : Nat → Nat) : q_mo (F_X13_isWord_23 κ) := q_mo_rz
set_option maxRecDepth 100000 in
set_option maxHeartbeats 4000000 in
theorem S_X13_isWord_23 {E : q_Ev} {Γ : q_Gm} {w : (Int32 ⊕ q_Exn) × q_St} (B : q_Bd E Γ cX13_isWord yX13_isWord.cls 4 4 85 (some .boolean) yX13_isWord.name w) (hT : q_nT Γ) (σ : q_St) (h : F_X13_isWord_23 (q_kap E) σ = some w) : q_W E Γ (q_QF E Γ q_oI w) 4 σ 23 [] [] := by
  have C := B.1
  unfold F_X13_isWord_23 at h
  refine q_iconst (pc := 23) (v := (0 : Int32)) C dX13_isWord_23 (by decide) ?_
  exact q_zret C B.2.2.2.2.1 dX13_isWord_24 h
def F_X13_isWord_27B (κ : Nat → Nat) (r27 : Option Nat → Int32 → Option Nat → Int32 → q_X Int32) (l0 : Option Nat) (l1 : Int32) (l2 : Option Nat) (l3 : Int32) : q_X Int32 :=
  q_rd (q_sp l2 0) fun _ => q_ca (F_J0_length_8abf5 κ l2) fun v29 => q_br (v29 ≤ l3) (q_rz (1 : Int32)) (q_rd (q_gA l0 16 1) fun v36 => q_rd (q_gA l0 16 10) fun v40 => q_rd (q_lI 1 v40 l1) fun v44 => q_rd (q_lI 0 v36 (v44 + l3)) fun v47 => q_rd (q_sp l2 0) fun _ => q_ca (F_J0_charAt_5068e κ l2 l3) fun v50 => q_br (v47 = v50) (r27 l0 l1 l2 (l3 + (1 : Int32))) (q_rz (0 : Int32)))
theorem M_X13_isWord_27B (κ : Nat → Nat) (r27 : Option Nat → Int32 → Option Nat → Int32 → q_X Int32) (mr27 : ∀ (l0 : Option Nat) (l1 : Int32) (l2 : Option Nat) (l3 : Int32), q_mo (r27 l0 l1 l2 l3)) (l0 : Option Nat) (l1 : Int32) (l2 : Option Nat) (l3 : Int32) : q_mo (F_X13_isWord_27B κ r27 l0 l1 l2 l3) := (q_mo_rd fun _ => q_mo_ca (M_J0_length_8abf5 κ l2) fun v29 => (q_mo_br q_mo_rz (q_mo_rd fun v36 => (q_mo_rd fun v40 => (q_mo_rd fun v44 => (q_mo_rd fun v47 => (q_mo_rd fun _ => q_mo_ca (M_J0_charAt_5068e κ l2 l3) fun v50 => (q_mo_br (mr27 l0 l1 l2 (l3 + (1 : Int32))) q_mo_rz))))))))
set_option maxRecDepth 100000 in
set_option maxHeartbeats 4000000 in
theorem S_X13_isWord_27B {E : q_Ev} {Γ : q_Gm} {w : (Int32 ⊕ q_Exn) × q_St} (B : q_Bd E Γ cX13_isWord yX13_isWord.cls 4 4 85 (some .boolean) yX13_isWord.name w) (hT : q_nT Γ) (r27 : Option Nat → Int32 → Option Nat → Int32 → q_X Int32) (hr27 : ∀ (l0 : Option Nat) (l1 : Int32) (l2 : Option Nat) (l3 : Int32) (σ : q_St), r27 l0 l1 l2 l3 σ = some w → q_W E Γ (q_QF E Γ q_oI w) 4 σ 27 [(0, q_R l0), (1, q_I l1), (2, q_R l2), (3, q_I l3)] []) (mr27 : ∀ (l0 : Option Nat) (l1 : Int32) (l2 : Option Nat) (l3 : Int32), q_mo (r27 l0 l1 l2 l3)) (l0 : Option Nat) (l1 : Int32) (l2 : Option Nat) (l3 : Int32) (σ : q_St) (h : F_X13_isWord_27B (q_kap E) r27 l0 l1 l2 l3 σ = some w) : q_W E Γ (q_QF E Γ q_oI w) 4 σ 27 [(0, q_R l0), (1, q_I l1), (2, q_R l2), (3, q_I l3)] [] := by
  have C := B.1
  unfold F_X13_isWord_27B at h
  refine q_iload_n (pc := 27) C 3 rfl dX13_isWord_27 rfl ?_
  refine q_aload_n (pc := 28) C 2 rfl dX13_isWord_28 rfl ?_
  refine q_callVS (pc := 29) (As := []) (st := [q_I l3]) (ps := q_psI) C B.2.1 hT q_hpI qm_X13_182 qv_J0_length_8abf5 dX13_isWord_29 rfl rfl (Nat.le_of_ble_eq_true rfl) (q_flo B.2.2.1 B.2.2.2.1 (by decide) (by decide)) (K_J0_length_8abf5 l2) (M_J0_length_8abf5 (q_kap E) l2) (by exact fun v29 => (q_mo_br q_mo_rz (q_mo_rd fun v36 => (q_mo_rd fun v40 => (q_mo_rd fun v44 => (q_mo_rd fun v47 => (q_mo_rd fun _ => q_mo_ca (M_J0_charAt_5068e (q_kap E) l2 l3) fun v50 => (q_mo_br (mr27 l0 l1 l2 (l3 + (1 : Int32))) q_mo_rz)))))))) h (fun v29 σ h => ?_)
  refine q_W.st (st' := [q_I v29, q_I l3]) rfl ?_
  refine q_icmp_ge (pc := 32) (tgt := 64) C dX13_isWord_32 (by decide) h (fun _ h => ?_) (fun _ h => ?_)
  · refine q_iconst (pc := 64) (v := (1 : Int32)) C dX13_isWord_64 (by decide) ?_
    exact q_zret C B.2.2.2.2.1 dX13_isWord_65 h
  · refine q_aload_n (pc := 35) C 0 rfl dX13_isWord_35 rfl ?_
    refine q_getA (pc := 36) C dX13_isWord_36 ql_X13_13 h (fun v36 h => ?_)
    refine q_aload_n (pc := 39) C 0 rfl dX13_isWord_39 rfl ?_
    refine q_getA (pc := 40) C dX13_isWord_40 ql_X13_30 h (fun v40 h => ?_)
    refine q_iload_n (pc := 43) C 1 rfl dX13_isWord_43 rfl ?_
    refine q_ldI (pc := 44) C dX13_isWord_44 (Or.inr (Or.inl ⟨rfl, rfl⟩)) h (fun v44 h => ?_)
    refine q_iload_n (pc := 45) C 3 rfl dX13_isWord_45 rfl ?_
    refine q_iadd (pc := 46) C dX13_isWord_46 ?_
    refine q_ldI (pc := 47) C dX13_isWord_47 (Or.inl ⟨rfl, rfl⟩) h (fun v47 h => ?_)
    refine q_aload_n (pc := 48) C 2 rfl dX13_isWord_48 rfl ?_
    refine q_iload_n (pc := 49) C 3 rfl dX13_isWord_49 rfl ?_
    refine q_callVS (pc := 50) (As := [q_I l3]) (st := [q_I v47]) (ps := q_psI) C B.2.1 hT q_hpI qm_X13_186 qv_J0_charAt_5068e dX13_isWord_50 rfl rfl (Nat.le_of_ble_eq_true rfl) (q_flo B.2.2.1 B.2.2.2.1 (by decide) (by decide)) (K_J0_charAt_5068e l2 l3) (M_J0_charAt_5068e (q_kap E) l2 l3) (by exact fun v50 => (q_mo_br (mr27 l0 l1 l2 (l3 + (1 : Int32))) q_mo_rz)) h (fun v50 σ h => ?_)
    refine q_W.st (st' := [q_I v50, q_I v47]) rfl ?_
    refine q_icmp_eq (pc := 53) (tgt := 58) C dX13_isWord_53 (by decide) h (fun _ h => ?_) (fun _ h => ?_)
    · refine q_iinc (pc := 58) (v := (1 : Int32)) (l' := [(3, q_I (l3 + (1 : Int32))), (0, q_R l0), (1, q_I l1), (2, q_R l2)]) C 3 rfl dX13_isWord_58 (by decide) (by decide) rfl ?_
      refine q_goto (pc := 61) (tgt := 27) C dX13_isWord_61 (by decide) ?_
      refine q_W.sub [1, 2, 3, 0] rfl ?_
      exact hr27 l0 l1 l2 (l3 + (1 : Int32)) _ h
    · refine q_iconst (pc := 56) (v := (0 : Int32)) C dX13_isWord_56 (by decide) ?_
      exact q_zret C B.2.2.2.2.1 dX13_isWord_57 h
def F_X13_isWord_27 (κ : Nat → Nat) : Nat → Option Nat → Int32 → Option Nat → Int32 → q_X Int32
  | 0, _, _, _, _ => q_no
  | n + 1, l0, l1, l2, l3 => F_X13_isWord_27B κ (F_X13_isWord_27 κ n) l0 l1 l2 l3
theorem M_X13_isWord_27 (κ : Nat → Nat) : ∀ (n : Nat) (l0 : Option Nat) (l1 : Int32) (l2 : Option Nat) (l3 : Int32), q_mo (F_X13_isWord_27 κ n l0 l1 l2 l3)
  | 0, _, _, _, _ => q_mo_no
  | n + 1, l0, l1, l2, l3 => M_X13_isWord_27B κ (F_X13_isWord_27 κ n) (M_X13_isWord_27 κ n) l0 l1 l2 l3
theorem S_X13_isWord_27 {E : q_Ev} {Γ : q_Gm} {w : (Int32 ⊕ q_Exn) × q_St} (B : q_Bd E Γ cX13_isWord yX13_isWord.cls 4 4 85 (some .boolean) yX13_isWord.name w) (hT : q_nT Γ) : ∀ (n : Nat) (l0 : Option Nat) (l1 : Int32) (l2 : Option Nat) (l3 : Int32) (σ : q_St), F_X13_isWord_27 (q_kap E) n l0 l1 l2 l3 σ = some w → q_W E Γ (q_QF E Γ q_oI w) 4 σ 27 [(0, q_R l0), (1, q_I l1), (2, q_R l2), (3, q_I l3)] []
  | 0, _, _, _, _, _, h => by cases h
  | n + 1, l0, l1, l2, l3, σ, h => S_X13_isWord_27B B hT (F_X13_isWord_27 (q_kap E) n) (S_X13_isWord_27 B hT n) (M_X13_isWord_27 (q_kap E) n) l0 l1 l2 l3 σ h
def F_X13_isWord (κ : Nat → Nat) (l0 : Option Nat) (l1 : Int32) (l2 : Option Nat) : q_X Int32 :=
  q_rd (q_gA l0 16 9) fun v1 => q_rd (q_lI 1 v1 l1) fun v5 => q_br (¬ v5 = (1 : Int32)) (F_X13_isWord_23 κ) (q_rd (q_gA l0 16 11) fun v11 => q_rd (q_lI 1 v11 l1) fun v15 => q_rd (q_sp l2 0) fun _ => q_ca (F_J0_length_8abf5 κ l2) fun v17 => q_br (v15 = v17) (F_X13_isWord_27 κ q_fu l0 l1 l2 (0 : Int32)) (F_X13_isWord_23 κ))
theorem M_X13_isWord (κ : Nat → Nat) (l0 : Option Nat) (l1 : Int32) (l2 : Option Nat) : q_mo (F_X13_isWord κ l0 l1 l2) := (q_mo_rd fun v1 => (q_mo_rd fun v5 => (q_mo_br (M_X13_isWord_23 κ) (q_mo_rd fun v11 => (q_mo_rd fun v15 => (q_mo_rd fun _ => q_mo_ca (M_J0_length_8abf5 κ l2) fun v17 => (q_mo_br (M_X13_isWord_27 κ q_fu l0 l1 l2 (0 : Int32)) (M_X13_isWord_23 κ))))))))
set_option maxRecDepth 100000 in
set_option maxHeartbeats 4000000 in
theorem K_X13_isWord {E : q_Ev} (l0 : Option Nat) (l1 : Int32) (l2 : Option Nat) : q_Ct E yX13_isWord (.code yX13_isWord cX13_isWord 4 (some .boolean)) 4 85 [q_R l0, q_I l1, q_R l2] q_oI (F_X13_isWord (q_kap E) l0 l1 l2) := by
  refine q_enter (by decide) (Nat.le_of_ble_eq_true rfl) (fun Γ σ w h B hT => ?_)
  have C := B.1
  unfold F_X13_isWord at h
  refine q_aload_n (pc := 0) C 0 rfl dX13_isWord_0 rfl ?_
  refine q_getA (pc := 1) C dX13_isWord_1 ql_X13_26 h (fun v1 h => ?_)
  refine q_iload_n (pc := 4) C 1 rfl dX13_isWord_4 rfl ?_
  refine q_ldI (pc := 5) C dX13_isWord_5 (Or.inr (Or.inl ⟨rfl, rfl⟩)) h (fun v5 h => ?_)
  refine q_iconst (pc := 6) (v := (1 : Int32)) C dX13_isWord_6 (by decide) ?_
  refine q_icmp_ne (pc := 7) (tgt := 23) C dX13_isWord_7 (by decide) h (fun _ h => ?_) (fun _ h => ?_)
  · refine q_W.sub [] rfl ?_
    exact S_X13_isWord_23 B hT _ h
  · refine q_aload_n (pc := 10) C 0 rfl dX13_isWord_10 rfl ?_
    refine q_getA (pc := 11) C dX13_isWord_11 ql_X13_33 h (fun v11 h => ?_)
    refine q_iload_n (pc := 14) C 1 rfl dX13_isWord_14 rfl ?_
    refine q_ldI (pc := 15) C dX13_isWord_15 (Or.inr (Or.inl ⟨rfl, rfl⟩)) h (fun v15 h => ?_)
    refine q_aload_n (pc := 16) C 2 rfl dX13_isWord_16 rfl ?_
    refine q_callVS (pc := 17) (As := []) (st := [q_I v15]) (ps := q_psI) C B.2.1 hT q_hpI qm_X13_182 qv_J0_length_8abf5 dX13_isWord_17 rfl rfl (Nat.le_of_ble_eq_true rfl) (q_flo B.2.2.1 B.2.2.2.1 (by decide) (by decide)) (K_J0_length_8abf5 l2) (M_J0_length_8abf5 (q_kap E) l2) (by exact fun v17 => (q_mo_br (M_X13_isWord_27 (q_kap E) q_fu l0 l1 l2 (0 : Int32)) (M_X13_isWord_23 (q_kap E)))) h (fun v17 σ h => ?_)
    refine q_W.st (st' := [q_I v17, q_I v15]) rfl ?_
    refine q_icmp_eq (pc := 20) (tgt := 25) C dX13_isWord_20 (by decide) h (fun _ h => ?_) (fun _ h => ?_)
    · refine q_iconst (pc := 25) (v := (0 : Int32)) C dX13_isWord_25 (by decide) ?_
      refine q_istore_n (pc := 26) (l' := [(3, q_I (0 : Int32)), (0, q_R l0), (1, q_I l1), (2, q_R l2)]) C dX13_isWord_26 rfl (by decide) rfl ?_
      refine q_W.sub [1, 2, 3, 0] rfl ?_
      exact S_X13_isWord_27 B hT q_fu l0 l1 l2 (0 : Int32) _ h
    · refine q_W.sub [] rfl ?_
      exact S_X13_isWord_23 B hT _ h
def F_X13_isName_19B (κ : Nat → Nat) (r19 : Option Nat → Int32 → Int32 → Int32 → q_X Int32) (l0 : Option Nat) (l1 : Int32) (l2 : Int32) (l3 : Int32) : q_X Int32 :=
  q_rd (q_gA l0 16 11) fun v21 => q_rd (q_lI 1 v21 l2) fun v25 => q_br (v25 ≤ l3) (q_rz (1 : Int32)) (q_rd (q_gA l0 16 16) fun v30 => q_rd (q_gA l0 16 17) fun v34 => q_rd (q_lI 1 v34 l1) fun v38 => q_rd (q_lI 0 v30 (v38 + l3)) fun v41 => q_rd (q_gA l0 16 1) fun v43 => q_rd (q_gA l0 16 10) fun v47 => q_rd (q_lI 1 v47 l2) fun v51 => q_rd (q_lI 0 v43 (v51 + l3)) fun v54 => q_br (v41 = v54) (r19 l0 l1 l2 (l3 + (1 : Int32))) (q_rz (0 : Int32)))
theorem M_X13_isName_19B (κ : Nat → Nat) (r19 : Option Nat → Int32 → Int32 → Int32 → q_X Int32) (mr19 : ∀ (l0 : Option Nat) (l1 : Int32) (l2 : Int32) (l3 : Int32), q_mo (r19 l0 l1 l2 l3)) (l0 : Option Nat) (l1 : Int32) (l2 : Int32) (l3 : Int32) : q_mo (F_X13_isName_19B κ r19 l0 l1 l2 l3) := (q_mo_rd fun v21 => (q_mo_rd fun v25 => (q_mo_br q_mo_rz (q_mo_rd fun v30 => (q_mo_rd fun v34 => (q_mo_rd fun v38 => (q_mo_rd fun v41 => (q_mo_rd fun v43 => (q_mo_rd fun v47 => (q_mo_rd fun v51 => (q_mo_rd fun v54 => (q_mo_br (mr19 l0 l1 l2 (l3 + (1 : Int32))) q_mo_rz))))))))))))
set_option maxRecDepth 100000 in
set_option maxHeartbeats 4000000 in
theorem S_X13_isName_19B {E : q_Ev} {Γ : q_Gm} {w : (Int32 ⊕ q_Exn) × q_St} (B : q_Bd E Γ cX13_isName yX13_isName.cls 4 0 0 (some .boolean) yX13_isName.name w) (hT : q_nT Γ) (r19 : Option Nat → Int32 → Int32 → Int32 → q_X Int32) (hr19 : ∀ (l0 : Option Nat) (l1 : Int32) (l2 : Int32) (l3 : Int32) (σ : q_St), r19 l0 l1 l2 l3 σ = some w → q_W E Γ (q_QF E Γ q_oI w) 4 σ 19 [(0, q_R l0), (1, q_I l1), (2, q_I l2), (3, q_I l3)] []) (mr19 : ∀ (l0 : Option Nat) (l1 : Int32) (l2 : Int32) (l3 : Int32), q_mo (r19 l0 l1 l2 l3)) (l0 : Option Nat) (l1 : Int32) (l2 : Int32) (l3 : Int32) (σ : q_St) (h : F_X13_isName_19B (q_kap E) r19 l0 l1 l2 l3 σ = some w) : q_W E Γ (q_QF E Γ q_oI w) 4 σ 19 [(0, q_R l0), (1, q_I l1), (2, q_I l2), (3, q_I l3)] [] := by
  have C := B.1
  unfold F_X13_isName_19B at h
  refine q_iload_n (pc := 19) C 3 rfl dX13_isName_19 rfl ?_
  refine q_aload_n (pc := 20) C 0 rfl dX13_isName_20 rfl ?_
  refine q_getA (pc := 21) C dX13_isName_21 ql_X13_33 h (fun v21 h => ?_)
  refine q_iload_n (pc := 24) C 2 rfl dX13_isName_24 rfl ?_
  refine q_ldI (pc := 25) C dX13_isName_25 (Or.inr (Or.inl ⟨rfl, rfl⟩)) h (fun v25 h => ?_)
  refine q_icmp_ge (pc := 26) (tgt := 66) C dX13_isName_26 (by decide) h (fun _ h => ?_) (fun _ h => ?_)
  · refine q_iconst (pc := 66) (v := (1 : Int32)) C dX13_isName_66 (by decide) ?_
    exact q_zret C B.2.2.2.2.1 dX13_isName_67 h
  · refine q_aload_n (pc := 29) C 0 rfl dX13_isName_29 rfl ?_
    refine q_getA (pc := 30) C dX13_isName_30 ql_X13_41 h (fun v30 h => ?_)
    refine q_aload_n (pc := 33) C 0 rfl dX13_isName_33 rfl ?_
    refine q_getA (pc := 34) C dX13_isName_34 ql_X13_44 h (fun v34 h => ?_)
    refine q_iload_n (pc := 37) C 1 rfl dX13_isName_37 rfl ?_
    refine q_ldI (pc := 38) C dX13_isName_38 (Or.inr (Or.inl ⟨rfl, rfl⟩)) h (fun v38 h => ?_)
    refine q_iload_n (pc := 39) C 3 rfl dX13_isName_39 rfl ?_
    refine q_iadd (pc := 40) C dX13_isName_40 ?_
    refine q_ldI (pc := 41) C dX13_isName_41 (Or.inl ⟨rfl, rfl⟩) h (fun v41 h => ?_)
    refine q_aload_n (pc := 42) C 0 rfl dX13_isName_42 rfl ?_
    refine q_getA (pc := 43) C dX13_isName_43 ql_X13_13 h (fun v43 h => ?_)
    refine q_aload_n (pc := 46) C 0 rfl dX13_isName_46 rfl ?_
    refine q_getA (pc := 47) C dX13_isName_47 ql_X13_30 h (fun v47 h => ?_)
    refine q_iload_n (pc := 50) C 2 rfl dX13_isName_50 rfl ?_
    refine q_ldI (pc := 51) C dX13_isName_51 (Or.inr (Or.inl ⟨rfl, rfl⟩)) h (fun v51 h => ?_)
    refine q_iload_n (pc := 52) C 3 rfl dX13_isName_52 rfl ?_
    refine q_iadd (pc := 53) C dX13_isName_53 ?_
    refine q_ldI (pc := 54) C dX13_isName_54 (Or.inl ⟨rfl, rfl⟩) h (fun v54 h => ?_)
    refine q_icmp_eq (pc := 55) (tgt := 60) C dX13_isName_55 (by decide) h (fun _ h => ?_) (fun _ h => ?_)
    · refine q_iinc (pc := 60) (v := (1 : Int32)) (l' := [(3, q_I (l3 + (1 : Int32))), (0, q_R l0), (1, q_I l1), (2, q_I l2)]) C 3 rfl dX13_isName_60 (by decide) (by decide) rfl ?_
      refine q_goto (pc := 63) (tgt := 19) C dX13_isName_63 (by decide) ?_
      refine q_W.sub [1, 2, 3, 0] rfl ?_
      exact hr19 l0 l1 l2 (l3 + (1 : Int32)) _ h
    · refine q_iconst (pc := 58) (v := (0 : Int32)) C dX13_isName_58 (by decide) ?_
      exact q_zret C B.2.2.2.2.1 dX13_isName_59 h
def F_X13_isName_19 (κ : Nat → Nat) : Nat → Option Nat → Int32 → Int32 → Int32 → q_X Int32
  | 0, _, _, _, _ => q_no
  | n + 1, l0, l1, l2, l3 => F_X13_isName_19B κ (F_X13_isName_19 κ n) l0 l1 l2 l3
theorem M_X13_isName_19 (κ : Nat → Nat) : ∀ (n : Nat) (l0 : Option Nat) (l1 : Int32) (l2 : Int32) (l3 : Int32), q_mo (F_X13_isName_19 κ n l0 l1 l2 l3)
  | 0, _, _, _, _ => q_mo_no
  | n + 1, l0, l1, l2, l3 => M_X13_isName_19B κ (F_X13_isName_19 κ n) (M_X13_isName_19 κ n) l0 l1 l2 l3
theorem S_X13_isName_19 {E : q_Ev} {Γ : q_Gm} {w : (Int32 ⊕ q_Exn) × q_St} (B : q_Bd E Γ cX13_isName yX13_isName.cls 4 0 0 (some .boolean) yX13_isName.name w) (hT : q_nT Γ) : ∀ (n : Nat) (l0 : Option Nat) (l1 : Int32) (l2 : Int32) (l3 : Int32) (σ : q_St), F_X13_isName_19 (q_kap E) n l0 l1 l2 l3 σ = some w → q_W E Γ (q_QF E Γ q_oI w) 4 σ 19 [(0, q_R l0), (1, q_I l1), (2, q_I l2), (3, q_I l3)] []
  | 0, _, _, _, _, _, h => by cases h
  | n + 1, l0, l1, l2, l3, σ, h => S_X13_isName_19B B hT (F_X13_isName_19 (q_kap E) n) (S_X13_isName_19 B hT n) (M_X13_isName_19 (q_kap E) n) l0 l1 l2 l3 σ h
def F_X13_isName (κ : Nat → Nat) (l0 : Option Nat) (l1 : Int32) (l2 : Int32) : q_X Int32 :=
  q_rd (q_gA l0 16 18) fun v1 => q_rd (q_lI 1 v1 l1) fun v5 => q_rd (q_gA l0 16 11) fun v7 => q_rd (q_lI 1 v7 l2) fun v11 => q_br (v5 = v11) (F_X13_isName_19 κ q_fu l0 l1 l2 (0 : Int32)) (q_rz (0 : Int32))
theorem M_X13_isName (κ : Nat → Nat) (l0 : Option Nat) (l1 : Int32) (l2 : Int32) : q_mo (F_X13_isName κ l0 l1 l2) := (q_mo_rd fun v1 => (q_mo_rd fun v5 => (q_mo_rd fun v7 => (q_mo_rd fun v11 => (q_mo_br (M_X13_isName_19 κ q_fu l0 l1 l2 (0 : Int32)) q_mo_rz)))))
set_option maxRecDepth 100000 in
set_option maxHeartbeats 4000000 in
theorem K_X13_isName {E : q_Ev} (l0 : Option Nat) (l1 : Int32) (l2 : Int32) : q_Ct E yX13_isName (.code yX13_isName cX13_isName 4 (some .boolean)) 0 0 [q_R l0, q_I l1, q_I l2] q_oI (F_X13_isName (q_kap E) l0 l1 l2) := by
  refine q_enter (by decide) (Nat.le_of_ble_eq_true rfl) (fun Γ σ w h B hT => ?_)
  have C := B.1
  unfold F_X13_isName at h
  refine q_aload_n (pc := 0) C 0 rfl dX13_isName_0 rfl ?_
  refine q_getA (pc := 1) C dX13_isName_1 ql_X13_47 h (fun v1 h => ?_)
  refine q_iload_n (pc := 4) C 1 rfl dX13_isName_4 rfl ?_
  refine q_ldI (pc := 5) C dX13_isName_5 (Or.inr (Or.inl ⟨rfl, rfl⟩)) h (fun v5 h => ?_)
  refine q_aload_n (pc := 6) C 0 rfl dX13_isName_6 rfl ?_
  refine q_getA (pc := 7) C dX13_isName_7 ql_X13_33 h (fun v7 h => ?_)
  refine q_iload_n (pc := 10) C 2 rfl dX13_isName_10 rfl ?_
  refine q_ldI (pc := 11) C dX13_isName_11 (Or.inr (Or.inl ⟨rfl, rfl⟩)) h (fun v11 h => ?_)
  refine q_icmp_eq (pc := 12) (tgt := 17) C dX13_isName_12 (by decide) h (fun _ h => ?_) (fun _ h => ?_)
  · refine q_iconst (pc := 17) (v := (0 : Int32)) C dX13_isName_17 (by decide) ?_
    refine q_istore_n (pc := 18) (l' := [(3, q_I (0 : Int32)), (0, q_R l0), (1, q_I l1), (2, q_I l2)]) C dX13_isName_18 rfl (by decide) rfl ?_
    refine q_W.sub [1, 2, 3, 0] rfl ?_
    exact S_X13_isName_19 B hT q_fu l0 l1 l2 (0 : Int32) _ h
  · refine q_iconst (pc := 15) (v := (0 : Int32)) C dX13_isName_15 (by decide) ?_
    exact q_zret C B.2.2.2.2.1 dX13_isName_16 h
def F_X13_nameOf_2B (κ : Nat → Nat) (r2 : Option Nat → Int32 → Int32 → q_X Int32) (l0 : Option Nat) (l1 : Int32) (l2 : Int32) : q_X Int32 :=
  q_rd (q_gI l0 16 19) fun v4 => q_br (v4 ≤ l2) (q_rd (q_gA l0 16 17) fun v28 => q_rd (q_gI l0 16 19) fun v32 => q_rd (q_gI l0 16 20) fun v36 => q_wr (q_sI 1 v28 v32 v36) (q_rd (q_gA l0 16 18) fun v41 => q_rd (q_gI l0 16 19) fun v45 => q_rd (q_gA l0 16 11) fun v49 => q_rd (q_lI 1 v49 l1) fun v53 => q_wr (q_sI 1 v41 v45 v53) (q_rd (q_gA l0 16 1) fun v56 => q_rd (q_gA l0 16 10) fun v60 => q_rd (q_lI 1 v60 l1) fun v64 => q_rd (q_gA l0 16 16) fun v66 => q_rd (q_gI l0 16 20) fun v70 => q_rd (q_gA l0 16 11) fun v74 => q_rd (q_lI 1 v74 l1) fun v78 => q_wr (q_cB v56 v64 v66 v70 v78) (q_rd (q_gI l0 16 20) fun v84 => q_rd (q_gA l0 16 11) fun v88 => q_rd (q_lI 1 v88 l1) fun v92 => q_wr (q_pF l0 16 20 (.int (v84 + v92))) (q_rd (q_gI l0 16 19) fun v99 => q_wr (q_pF l0 16 19 (.int (v99 + (1 : Int32)))) (q_rd (q_gI l0 16 19) fun v108 => q_rt (v108 - (1 : Int32)))))))) (q_rd (q_is l0 16) fun _ => q_ca (F_X13_isName κ l0 l2 l1) fun v13 => q_br (v13 = 0) (r2 l0 l1 (l2 + (1 : Int32))) (q_rt l2))
theorem M_X13_nameOf_2B (κ : Nat → Nat) (r2 : Option Nat → Int32 → Int32 → q_X Int32) (mr2 : ∀ (l0 : Option Nat) (l1 : Int32) (l2 : Int32), q_mo (r2 l0 l1 l2)) (l0 : Option Nat) (l1 : Int32) (l2 : Int32) : q_mo (F_X13_nameOf_2B κ r2 l0 l1 l2) := (q_mo_rd fun v4 => (q_mo_br (q_mo_rd fun v28 => (q_mo_rd fun v32 => (q_mo_rd fun v36 => (q_mo_wr (q_mo_rd fun v41 => (q_mo_rd fun v45 => (q_mo_rd fun v49 => (q_mo_rd fun v53 => (q_mo_wr (q_mo_rd fun v56 => (q_mo_rd fun v60 => (q_mo_rd fun v64 => (q_mo_rd fun v66 => (q_mo_rd fun v70 => (q_mo_rd fun v74 => (q_mo_rd fun v78 => (q_mo_wr (q_mo_rd fun v84 => (q_mo_rd fun v88 => (q_mo_rd fun v92 => (q_mo_wr (q_mo_rd fun v99 => (q_mo_wr (q_mo_rd fun v108 => q_mo_rt)))))))))))))))))))))))) (q_mo_rd fun _ => q_mo_ca (M_X13_isName κ l0 l2 l1) fun v13 => (q_mo_br (mr2 l0 l1 (l2 + (1 : Int32))) q_mo_rt))))
set_option maxRecDepth 100000 in
set_option maxHeartbeats 4000000 in
theorem S_X13_nameOf_2B {E : q_Ev} {Γ : q_Gm} {w : (Int32 ⊕ q_Exn) × q_St} (B : q_Bd E Γ cX13_nameOf yX13_nameOf.cls 3 1 40 (some .int) yX13_nameOf.name w) (hT : q_nT Γ) (r2 : Option Nat → Int32 → Int32 → q_X Int32) (hr2 : ∀ (l0 : Option Nat) (l1 : Int32) (l2 : Int32) (σ : q_St), r2 l0 l1 l2 σ = some w → q_W E Γ (q_QF E Γ q_oI w) 3 σ 2 [(0, q_R l0), (1, q_I l1), (2, q_I l2)] []) (mr2 : ∀ (l0 : Option Nat) (l1 : Int32) (l2 : Int32), q_mo (r2 l0 l1 l2)) (l0 : Option Nat) (l1 : Int32) (l2 : Int32) (σ : q_St) (h : F_X13_nameOf_2B (q_kap E) r2 l0 l1 l2 σ = some w) : q_W E Γ (q_QF E Γ q_oI w) 3 σ 2 [(0, q_R l0), (1, q_I l1), (2, q_I l2)] [] := by
  have C := B.1
  unfold F_X13_nameOf_2B at h
  refine q_iload_n (pc := 2) C 2 rfl dX13_nameOf_2 rfl ?_
  refine q_aload_n (pc := 3) C 0 rfl dX13_nameOf_3 rfl ?_
  refine q_getI (pc := 4) C dX13_nameOf_4 ql_X13_190 h (fun v4 h => ?_)
  refine q_icmp_ge (pc := 7) (tgt := 27) C dX13_nameOf_7 (by decide) h (fun _ h => ?_) (fun _ h => ?_)
  · refine q_aload_n (pc := 27) C 0 rfl dX13_nameOf_27 rfl ?_
    refine q_getA (pc := 28) C dX13_nameOf_28 ql_X13_44 h (fun v28 h => ?_)
    refine q_aload_n (pc := 31) C 0 rfl dX13_nameOf_31 rfl ?_
    refine q_getI (pc := 32) C dX13_nameOf_32 ql_X13_190 h (fun v32 h => ?_)
    refine q_aload_n (pc := 35) C 0 rfl dX13_nameOf_35 rfl ?_
    refine q_getI (pc := 36) C dX13_nameOf_36 ql_X13_197 h (fun v36 h => ?_)
    refine q_stI (pc := 39) C dX13_nameOf_39 h (fun M39 h => ?_)
    refine q_aload_n (pc := 40) C 0 rfl dX13_nameOf_40 rfl ?_
    refine q_getA (pc := 41) C dX13_nameOf_41 ql_X13_47 h (fun v41 h => ?_)
    refine q_aload_n (pc := 44) C 0 rfl dX13_nameOf_44 rfl ?_
    refine q_getI (pc := 45) C dX13_nameOf_45 ql_X13_190 h (fun v45 h => ?_)
    refine q_aload_n (pc := 48) C 0 rfl dX13_nameOf_48 rfl ?_
    refine q_getA (pc := 49) C dX13_nameOf_49 ql_X13_33 h (fun v49 h => ?_)
    refine q_iload_n (pc := 52) C 1 rfl dX13_nameOf_52 rfl ?_
    refine q_ldI (pc := 53) C dX13_nameOf_53 (Or.inr (Or.inl ⟨rfl, rfl⟩)) h (fun v53 h => ?_)
    refine q_stI (pc := 54) C dX13_nameOf_54 h (fun M54 h => ?_)
    refine q_aload_n (pc := 55) C 0 rfl dX13_nameOf_55 rfl ?_
    refine q_getA (pc := 56) C dX13_nameOf_56 ql_X13_13 h (fun v56 h => ?_)
    refine q_aload_n (pc := 59) C 0 rfl dX13_nameOf_59 rfl ?_
    refine q_getA (pc := 60) C dX13_nameOf_60 ql_X13_30 h (fun v60 h => ?_)
    refine q_iload_n (pc := 63) C 1 rfl dX13_nameOf_63 rfl ?_
    refine q_ldI (pc := 64) C dX13_nameOf_64 (Or.inr (Or.inl ⟨rfl, rfl⟩)) h (fun v64 h => ?_)
    refine q_aload_n (pc := 65) C 0 rfl dX13_nameOf_65 rfl ?_
    refine q_getA (pc := 66) C dX13_nameOf_66 ql_X13_41 h (fun v66 h => ?_)
    refine q_aload_n (pc := 69) C 0 rfl dX13_nameOf_69 rfl ?_
    refine q_getI (pc := 70) C dX13_nameOf_70 ql_X13_197 h (fun v70 h => ?_)
    refine q_aload_n (pc := 73) C 0 rfl dX13_nameOf_73 rfl ?_
    refine q_getA (pc := 74) C dX13_nameOf_74 ql_X13_33 h (fun v74 h => ?_)
    refine q_iload_n (pc := 77) C 1 rfl dX13_nameOf_77 rfl ?_
    refine q_ldI (pc := 78) C dX13_nameOf_78 (Or.inr (Or.inl ⟨rfl, rfl⟩)) h (fun v78 h => ?_)
    refine q_cpB (pc := 79) C dX13_nameOf_79 qy_X13_200 (q_flo B.2.2.1 B.2.2.2.1 (by decide) (by decide)) (Nat.le_of_ble_eq_true rfl) h (fun M79 h => ?_)
    refine q_aload_n (pc := 82) C 0 rfl dX13_nameOf_82 rfl ?_
    refine q_dup (pc := 83) C dX13_nameOf_83 rfl ?_
    refine q_getI (pc := 84) C dX13_nameOf_84 ql_X13_197 h (fun v84 h => ?_)
    refine q_aload_n (pc := 87) C 0 rfl dX13_nameOf_87 rfl ?_
    refine q_getA (pc := 88) C dX13_nameOf_88 ql_X13_33 h (fun v88 h => ?_)
    refine q_iload_n (pc := 91) C 1 rfl dX13_nameOf_91 rfl ?_
    refine q_ldI (pc := 92) C dX13_nameOf_92 (Or.inr (Or.inl ⟨rfl, rfl⟩)) h (fun v92 h => ?_)
    refine q_iadd (pc := 93) C dX13_nameOf_93 ?_
    refine q_putV (pc := 94) (v := q_I (v84 + v92)) C dX13_nameOf_94 ql_X13_197 (Or.inl rfl) rfl rfl h (fun M94 h => ?_)
    refine q_aload_n (pc := 97) C 0 rfl dX13_nameOf_97 rfl ?_
    refine q_dup (pc := 98) C dX13_nameOf_98 rfl ?_
    refine q_getI (pc := 99) C dX13_nameOf_99 ql_X13_190 h (fun v99 h => ?_)
    refine q_iconst (pc := 102) (v := (1 : Int32)) C dX13_nameOf_102 (by decide) ?_
    refine q_iadd (pc := 103) C dX13_nameOf_103 ?_
    refine q_putV (pc := 104) (v := q_I (v99 + (1 : Int32))) C dX13_nameOf_104 ql_X13_190 (Or.inl rfl) rfl rfl h (fun M104 h => ?_)
    refine q_aload_n (pc := 107) C 0 rfl dX13_nameOf_107 rfl ?_
    refine q_getI (pc := 108) C dX13_nameOf_108 ql_X13_190 h (fun v108 h => ?_)
    refine q_iconst (pc := 111) (v := (1 : Int32)) C dX13_nameOf_111 (by decide) ?_
    refine q_isub (pc := 112) C dX13_nameOf_112 ?_
    exact q_iret C B.2.2.2.2.1 dX13_nameOf_113 h
  · refine q_aload_n (pc := 10) C 0 rfl dX13_nameOf_10 rfl ?_
    refine q_iload_n (pc := 11) C 2 rfl dX13_nameOf_11 rfl ?_
    refine q_iload_n (pc := 12) C 1 rfl dX13_nameOf_12 rfl ?_
    refine q_callV (pc := 13) (As := [q_I l2, q_I l1]) (st := []) (ps := q_psI) C B.2.1 hT q_hpI qm_X13_193 qv_X13_isName dX13_nameOf_13 rfl rfl (Nat.le_of_ble_eq_true rfl) (q_flo B.2.2.1 B.2.2.2.1 (by decide) (by decide)) (K_X13_isName l0 l2 l1) (M_X13_isName (q_kap E) l0 l2 l1) (by exact fun v13 => (q_mo_br (mr2 l0 l1 (l2 + (1 : Int32))) q_mo_rt)) h (fun v13 σ h => ?_)
    refine q_W.st (st' := [q_I v13]) rfl ?_
    refine q_if_eq (pc := 16) (tgt := 21) C dX13_nameOf_16 (by decide) h (fun _ h => ?_) (fun _ h => ?_)
    · refine q_iinc (pc := 21) (v := (1 : Int32)) (l' := [(2, q_I (l2 + (1 : Int32))), (0, q_R l0), (1, q_I l1)]) C 2 rfl dX13_nameOf_21 (by decide) (by decide) rfl ?_
      refine q_goto (pc := 24) (tgt := 2) C dX13_nameOf_24 (by decide) ?_
      refine q_W.sub [1, 2, 0] rfl ?_
      exact hr2 l0 l1 (l2 + (1 : Int32)) _ h
    · refine q_iload_n (pc := 19) C 2 rfl dX13_nameOf_19 rfl ?_
      exact q_iret C B.2.2.2.2.1 dX13_nameOf_20 h
def F_X13_nameOf_2 (κ : Nat → Nat) : Nat → Option Nat → Int32 → Int32 → q_X Int32
  | 0, _, _, _ => q_no
  | n + 1, l0, l1, l2 => F_X13_nameOf_2B κ (F_X13_nameOf_2 κ n) l0 l1 l2
theorem M_X13_nameOf_2 (κ : Nat → Nat) : ∀ (n : Nat) (l0 : Option Nat) (l1 : Int32) (l2 : Int32), q_mo (F_X13_nameOf_2 κ n l0 l1 l2)
  | 0, _, _, _ => q_mo_no
  | n + 1, l0, l1, l2 => M_X13_nameOf_2B κ (F_X13_nameOf_2 κ n) (M_X13_nameOf_2 κ n) l0 l1 l2
theorem S_X13_nameOf_2 {E : q_Ev} {Γ : q_Gm} {w : (Int32 ⊕ q_Exn) × q_St} (B : q_Bd E Γ cX13_nameOf yX13_nameOf.cls 3 1 40 (some .int) yX13_nameOf.name w) (hT : q_nT Γ) : ∀ (n : Nat) (l0 : Option Nat) (l1 : Int32) (l2 : Int32) (σ : q_St), F_X13_nameOf_2 (q_kap E) n l0 l1 l2 σ = some w → q_W E Γ (q_QF E Γ q_oI w) 3 σ 2 [(0, q_R l0), (1, q_I l1), (2, q_I l2)] []
  | 0, _, _, _, _, h => by cases h
  | n + 1, l0, l1, l2, σ, h => S_X13_nameOf_2B B hT (F_X13_nameOf_2 (q_kap E) n) (S_X13_nameOf_2 B hT n) (M_X13_nameOf_2 (q_kap E) n) l0 l1 l2 σ h
def F_X13_nameOf (κ : Nat → Nat) (l0 : Option Nat) (l1 : Int32) : q_X Int32 :=
  F_X13_nameOf_2 κ q_fu l0 l1 (0 : Int32)
theorem M_X13_nameOf (κ : Nat → Nat) (l0 : Option Nat) (l1 : Int32) : q_mo (F_X13_nameOf κ l0 l1) := (M_X13_nameOf_2 κ q_fu l0 l1 (0 : Int32))
set_option maxRecDepth 100000 in
set_option maxHeartbeats 4000000 in
theorem K_X13_nameOf {E : q_Ev} (l0 : Option Nat) (l1 : Int32) : q_Ct E yX13_nameOf (.code yX13_nameOf cX13_nameOf 3 (some .int)) 1 40 [q_R l0, q_I l1] q_oI (F_X13_nameOf (q_kap E) l0 l1) := by
  refine q_enter (by decide) (Nat.le_of_ble_eq_true rfl) (fun Γ σ w h B hT => ?_)
  have C := B.1
  unfold F_X13_nameOf at h
  refine q_iconst (pc := 0) (v := (0 : Int32)) C dX13_nameOf_0 (by decide) ?_
  refine q_istore_n (pc := 1) (l' := [(2, q_I (0 : Int32)), (0, q_R l0), (1, q_I l1)]) C dX13_nameOf_1 rfl (by decide) rfl ?_
  refine q_W.sub [1, 2, 0] rfl ?_
  exact S_X13_nameOf_2 B hT q_fu l0 l1 (0 : Int32) _ h
def F_X13_expectName (κ : Nat → Nat) (l0 : Option Nat) : q_X Int32 :=
  q_rd (q_gA l0 16 9) fun v1 => q_rd (q_gI l0 16 15) fun v5 => q_rd (q_lI 1 v1 v5) fun v8 => q_br (v8 = (1 : Int32)) (q_rd (q_gI l0 16 15) fun v28 => q_wr (q_pF l0 16 15 (.int (v28 + (1 : Int32)))) (q_rd (q_gI l0 16 15) fun v37 => q_rt (v37 - (1 : Int32)))) (q_mk (.inr (.inl (15, [.null, .null, .null, .null, .null, .int 0, .int 0, .int 0]))) 8 fun a13 => q_rd (q_gI l0 16 15) fun v19 => q_gd (¬ (some a13) = none) (q_ca (F_X12_init κ (some a13) (1 : Int32) v19) fun _v22 => q_rd (q_is (some a13) 15) fun _ => q_tr RX12 (some a13)))
theorem M_X13_expectName (κ : Nat → Nat) (l0 : Option Nat) : q_mo (F_X13_expectName κ l0) := (q_mo_rd fun v1 => (q_mo_rd fun v5 => (q_mo_rd fun v8 => (q_mo_br (q_mo_rd fun v28 => (q_mo_wr (q_mo_rd fun v37 => q_mo_rt))) (q_mo_mk fun a13 => (q_mo_rd fun v19 => (q_mo_gd (q_mo_ca (M_X12_init κ (some a13) (1 : Int32) v19) fun _v22 => (q_mo_rd fun _ => q_mo_tr)))))))))
set_option maxRecDepth 100000 in
set_option maxHeartbeats 4000000 in
theorem K_X13_expectName {E : q_Ev} (l0 : Option Nat) : q_Ct E yX13_expectName (.code yX13_expectName cX13_expectName 1 (some .int)) 5 114 [q_R l0] q_oI (F_X13_expectName (q_kap E) l0) := by
  refine q_enter (by decide) (Nat.le_of_ble_eq_true rfl) (fun Γ σ w h B hT => ?_)
  have C := B.1
  unfold F_X13_expectName at h
  refine q_aload_n (pc := 0) C 0 rfl dX13_expectName_0 rfl ?_
  refine q_getA (pc := 1) C dX13_expectName_1 ql_X13_26 h (fun v1 h => ?_)
  refine q_aload_n (pc := 4) C 0 rfl dX13_expectName_4 rfl ?_
  refine q_getI (pc := 5) C dX13_expectName_5 ql_X13_206 h (fun v5 h => ?_)
  refine q_ldI (pc := 8) C dX13_expectName_8 (Or.inr (Or.inl ⟨rfl, rfl⟩)) h (fun v8 h => ?_)
  refine q_iconst (pc := 9) (v := (1 : Int32)) C dX13_expectName_9 (by decide) ?_
  refine q_icmp_eq (pc := 10) (tgt := 26) C dX13_expectName_10 (by decide) h (fun _ h => ?_) (fun _ h => ?_)
  · refine q_aload_n (pc := 26) C 0 rfl dX13_expectName_26 rfl ?_
    refine q_dup (pc := 27) C dX13_expectName_27 rfl ?_
    refine q_getI (pc := 28) C dX13_expectName_28 ql_X13_206 h (fun v28 h => ?_)
    refine q_iconst (pc := 31) (v := (1 : Int32)) C dX13_expectName_31 (by decide) ?_
    refine q_iadd (pc := 32) C dX13_expectName_32 ?_
    refine q_putV (pc := 33) (v := q_I (v28 + (1 : Int32))) C dX13_expectName_33 ql_X13_206 (Or.inl rfl) rfl rfl h (fun M33 h => ?_)
    refine q_aload_n (pc := 36) C 0 rfl dX13_expectName_36 rfl ?_
    refine q_getI (pc := 37) C dX13_expectName_37 ql_X13_206 h (fun v37 h => ?_)
    refine q_iconst (pc := 40) (v := (1 : Int32)) C dX13_expectName_40 (by decide) ?_
    refine q_isub (pc := 41) C dX13_expectName_41 ?_
    exact q_iret C B.2.2.2.2.1 dX13_expectName_42 h
  · refine q_new (pc := 13) C dX13_expectName_13 qn_X13_209 (by exact fun a13 => (q_mo_rd fun v19 => (q_mo_gd (q_mo_ca (M_X12_init (q_kap E) (some a13) (1 : Int32) v19) fun _v22 => (q_mo_rd fun _ => q_mo_tr))))) B.2.1 h (fun a13 σ h => ?_)
    refine q_dup (pc := 16) C dX13_expectName_16 rfl ?_
    refine q_iconst (pc := 17) (v := (1 : Int32)) C dX13_expectName_17 (by decide) ?_
    refine q_aload_n (pc := 18) C 0 rfl dX13_expectName_18 rfl ?_
    refine q_getI (pc := 19) C dX13_expectName_19 ql_X13_206 h (fun v19 h => ?_)
    refine q_callI (pc := 22) (As := [q_I (1 : Int32), q_I v19]) (st := [q_R (some a13)]) C B.2.1 (fun _ => rfl) qm_X13_211 qI_X12_init dX13_expectName_22 rfl rfl (Nat.le_of_ble_eq_true rfl) (q_flo B.2.2.1 B.2.2.2.1 (by decide) (by decide)) (K_X12_init (some a13) (1 : Int32) v19) (M_X12_init (q_kap E) (some a13) (1 : Int32) v19) (N_X12_init (q_kap E) (some a13) (1 : Int32) v19) (by exact fun _v22 => (q_mo_rd fun _ => q_mo_tr)) h (fun _v22 σ h => ?_)
    exact q_athrow (pc := 25) (ci := 15) C hT rfl dX13_expectName_25 h
def F_X13_expectNumber_54 (κ : Nat → Nat) (l0 : Option Nat) : q_X Int32 :=
  q_mk (.inr (.inl (15, [.null, .null, .null, .null, .null, .int 0, .int 0, .int 0]))) 8 fun a54 => q_rd (q_gI l0 16 15) fun v60 => q_gd (¬ (some a54) = none) (q_ca (F_X12_init κ (some a54) (3 : Int32) v60) fun _v63 => q_rd (q_is (some a54) 15) fun _ => q_tr RX12 (some a54))
theorem M_X13_expectNumber_54 (κ : Nat → Nat) (l0 : Option Nat) : q_mo (F_X13_expectNumber_54 κ l0) := (q_mo_mk fun a54 => (q_mo_rd fun v60 => (q_mo_gd (q_mo_ca (M_X12_init κ (some a54) (3 : Int32) v60) fun _v63 => (q_mo_rd fun _ => q_mo_tr)))))
set_option maxRecDepth 100000 in
set_option maxHeartbeats 4000000 in
theorem S_X13_expectNumber_54 {E : q_Ev} {Γ : q_Gm} {w : (Int32 ⊕ q_Exn) × q_St} (B : q_Bd E Γ cX13_expectNumber yX13_expectNumber.cls 5 5 114 (some .int) yX13_expectNumber.name w) (hT : q_nT Γ) (l0 : Option Nat) (σ : q_St) (h : F_X13_expectNumber_54 (q_kap E) l0 σ = some w) : q_W E Γ (q_QF E Γ q_oI w) 5 σ 54 [(0, q_R l0)] [] := by
  have C := B.1
  unfold F_X13_expectNumber_54 at h
  refine q_new (pc := 54) C dX13_expectNumber_54 qn_X13_209 (by exact fun a54 => (q_mo_rd fun v60 => (q_mo_gd (q_mo_ca (M_X12_init (q_kap E) (some a54) (3 : Int32) v60) fun _v63 => (q_mo_rd fun _ => q_mo_tr))))) B.2.1 h (fun a54 σ h => ?_)
  refine q_dup (pc := 57) C dX13_expectNumber_57 rfl ?_
  refine q_iconst (pc := 58) (v := (3 : Int32)) C dX13_expectNumber_58 (by decide) ?_
  refine q_aload_n (pc := 59) C 0 rfl dX13_expectNumber_59 rfl ?_
  refine q_getI (pc := 60) C dX13_expectNumber_60 ql_X13_206 h (fun v60 h => ?_)
  refine q_callI (pc := 63) (As := [q_I (3 : Int32), q_I v60]) (st := [q_R (some a54)]) C B.2.1 (fun _ => rfl) qm_X13_211 qI_X12_init dX13_expectNumber_63 rfl rfl (Nat.le_of_ble_eq_true rfl) (q_flo B.2.2.1 B.2.2.2.1 (by decide) (by decide)) (K_X12_init (some a54) (3 : Int32) v60) (M_X12_init (q_kap E) (some a54) (3 : Int32) v60) (N_X12_init (q_kap E) (some a54) (3 : Int32) v60) (by exact fun _v63 => (q_mo_rd fun _ => q_mo_tr)) h (fun _v63 σ h => ?_)
  exact q_athrow (pc := 66) (ci := 15) C hT rfl dX13_expectNumber_66 h
def F_X13_expectNumber (κ : Nat → Nat) (l0 : Option Nat) (l1 : Int64) (l3 : Int64) : q_X Int32 :=
  q_rd (q_gA l0 16 9) fun v1 => q_rd (q_gI l0 16 15) fun v5 => q_rd (q_lI 1 v1 v5) fun v8 => q_br (v8 = (2 : Int32)) (q_rd (q_gA l0 16 12) fun v27 => q_rd (q_gI l0 16 15) fun v31 => q_rd (q_lL v27 v31) fun v34 => q_br ((lg_cmp v34 l1) < 0) (F_X13_expectNumber_54 κ l0) (q_rd (q_gA l0 16 12) fun v41 => q_rd (q_gI l0 16 15) fun v45 => q_rd (q_lL v41 v45) fun v48 => q_br ((lg_cmp v48 l3) ≤ 0) (q_rd (q_gI l0 16 15) fun v69 => q_wr (q_pF l0 16 15 (.int (v69 + (1 : Int32)))) (q_rd (q_gA l0 16 12) fun v78 => q_rd (q_gI l0 16 15) fun v82 => q_rd (q_lL v78 (v82 - (1 : Int32))) fun v87 => q_rt v87.toInt32)) (F_X13_expectNumber_54 κ l0))) (q_mk (.inr (.inl (15, [.null, .null, .null, .null, .null, .int 0, .int 0, .int 0]))) 8 fun a13 => q_rd (q_gI l0 16 15) fun v19 => q_gd (¬ (some a13) = none) (q_ca (F_X12_init κ (some a13) (1 : Int32) v19) fun _v22 => q_rd (q_is (some a13) 15) fun _ => q_tr RX12 (some a13)))
theorem M_X13_expectNumber (κ : Nat → Nat) (l0 : Option Nat) (l1 : Int64) (l3 : Int64) : q_mo (F_X13_expectNumber κ l0 l1 l3) := (q_mo_rd fun v1 => (q_mo_rd fun v5 => (q_mo_rd fun v8 => (q_mo_br (q_mo_rd fun v27 => (q_mo_rd fun v31 => (q_mo_rd fun v34 => (q_mo_br (M_X13_expectNumber_54 κ l0) (q_mo_rd fun v41 => (q_mo_rd fun v45 => (q_mo_rd fun v48 => (q_mo_br (q_mo_rd fun v69 => (q_mo_wr (q_mo_rd fun v78 => (q_mo_rd fun v82 => (q_mo_rd fun v87 => q_mo_rt))))) (M_X13_expectNumber_54 κ l0))))))))) (q_mo_mk fun a13 => (q_mo_rd fun v19 => (q_mo_gd (q_mo_ca (M_X12_init κ (some a13) (1 : Int32) v19) fun _v22 => (q_mo_rd fun _ => q_mo_tr)))))))))
set_option maxRecDepth 100000 in
set_option maxHeartbeats 4000000 in
theorem K_X13_expectNumber {E : q_Ev} (l0 : Option Nat) (l1 : Int64) (l3 : Int64) : q_Ct E yX13_expectNumber (.code yX13_expectNumber cX13_expectNumber 5 (some .int)) 5 114 [q_R l0, q_L l1, q_L l3] q_oI (F_X13_expectNumber (q_kap E) l0 l1 l3) := by
  refine q_enter (by decide) (Nat.le_of_ble_eq_true rfl) (fun Γ σ w h B hT => ?_)
  have C := B.1
  unfold F_X13_expectNumber at h
  refine q_aload_n (pc := 0) C 0 rfl dX13_expectNumber_0 rfl ?_
  refine q_getA (pc := 1) C dX13_expectNumber_1 ql_X13_26 h (fun v1 h => ?_)
  refine q_aload_n (pc := 4) C 0 rfl dX13_expectNumber_4 rfl ?_
  refine q_getI (pc := 5) C dX13_expectNumber_5 ql_X13_206 h (fun v5 h => ?_)
  refine q_ldI (pc := 8) C dX13_expectNumber_8 (Or.inr (Or.inl ⟨rfl, rfl⟩)) h (fun v8 h => ?_)
  refine q_iconst (pc := 9) (v := (2 : Int32)) C dX13_expectNumber_9 (by decide) ?_
  refine q_icmp_eq (pc := 10) (tgt := 26) C dX13_expectNumber_10 (by decide) h (fun _ h => ?_) (fun _ h => ?_)
  · refine q_aload_n (pc := 26) C 0 rfl dX13_expectNumber_26 rfl ?_
    refine q_getA (pc := 27) C dX13_expectNumber_27 ql_X13_36 h (fun v27 h => ?_)
    refine q_aload_n (pc := 30) C 0 rfl dX13_expectNumber_30 rfl ?_
    refine q_getI (pc := 31) C dX13_expectNumber_31 ql_X13_206 h (fun v31 h => ?_)
    refine q_ldL (pc := 34) C dX13_expectNumber_34 h (fun v34 h => ?_)
    refine q_lload_n (pc := 35) C 1 rfl dX13_expectNumber_35 rfl ?_
    refine q_lcmp (pc := 36) C dX13_expectNumber_36 ?_
    refine q_if_lt (pc := 37) (tgt := 54) C dX13_expectNumber_37 (by decide) h (fun _ h => ?_) (fun _ h => ?_)
    · refine q_W.sub [0] rfl ?_
      exact S_X13_expectNumber_54 B hT l0 _ h
    · refine q_aload_n (pc := 40) C 0 rfl dX13_expectNumber_40 rfl ?_
      refine q_getA (pc := 41) C dX13_expectNumber_41 ql_X13_36 h (fun v41 h => ?_)
      refine q_aload_n (pc := 44) C 0 rfl dX13_expectNumber_44 rfl ?_
      refine q_getI (pc := 45) C dX13_expectNumber_45 ql_X13_206 h (fun v45 h => ?_)
      refine q_ldL (pc := 48) C dX13_expectNumber_48 h (fun v48 h => ?_)
      refine q_lload_n (pc := 49) C 2 rfl dX13_expectNumber_49 rfl ?_
      refine q_lcmp (pc := 50) C dX13_expectNumber_50 ?_
      refine q_if_le (pc := 51) (tgt := 67) C dX13_expectNumber_51 (by decide) h (fun _ h => ?_) (fun _ h => ?_)
      · refine q_aload_n (pc := 67) C 0 rfl dX13_expectNumber_67 rfl ?_
        refine q_dup (pc := 68) C dX13_expectNumber_68 rfl ?_
        refine q_getI (pc := 69) C dX13_expectNumber_69 ql_X13_206 h (fun v69 h => ?_)
        refine q_iconst (pc := 72) (v := (1 : Int32)) C dX13_expectNumber_72 (by decide) ?_
        refine q_iadd (pc := 73) C dX13_expectNumber_73 ?_
        refine q_putV (pc := 74) (v := q_I (v69 + (1 : Int32))) C dX13_expectNumber_74 ql_X13_206 (Or.inl rfl) rfl rfl h (fun M74 h => ?_)
        refine q_aload_n (pc := 77) C 0 rfl dX13_expectNumber_77 rfl ?_
        refine q_getA (pc := 78) C dX13_expectNumber_78 ql_X13_36 h (fun v78 h => ?_)
        refine q_aload_n (pc := 81) C 0 rfl dX13_expectNumber_81 rfl ?_
        refine q_getI (pc := 82) C dX13_expectNumber_82 ql_X13_206 h (fun v82 h => ?_)
        refine q_iconst (pc := 85) (v := (1 : Int32)) C dX13_expectNumber_85 (by decide) ?_
        refine q_isub (pc := 86) C dX13_expectNumber_86 ?_
        refine q_ldL (pc := 87) C dX13_expectNumber_87 h (fun v87 h => ?_)
        refine q_l2i (pc := 88) C dX13_expectNumber_88 ?_
        exact q_iret C B.2.2.2.2.1 dX13_expectNumber_89 h
      · refine q_W.sub [0] rfl ?_
        exact S_X13_expectNumber_54 B hT l0 _ h
  · refine q_new (pc := 13) C dX13_expectNumber_13 qn_X13_209 (by exact fun a13 => (q_mo_rd fun v19 => (q_mo_gd (q_mo_ca (M_X12_init (q_kap E) (some a13) (1 : Int32) v19) fun _v22 => (q_mo_rd fun _ => q_mo_tr))))) B.2.1 h (fun a13 σ h => ?_)
    refine q_dup (pc := 16) C dX13_expectNumber_16 rfl ?_
    refine q_iconst (pc := 17) (v := (1 : Int32)) C dX13_expectNumber_17 (by decide) ?_
    refine q_aload_n (pc := 18) C 0 rfl dX13_expectNumber_18 rfl ?_
    refine q_getI (pc := 19) C dX13_expectNumber_19 ql_X13_206 h (fun v19 h => ?_)
    refine q_callI (pc := 22) (As := [q_I (1 : Int32), q_I v19]) (st := [q_R (some a13)]) C B.2.1 (fun _ => rfl) qm_X13_211 qI_X12_init dX13_expectNumber_22 rfl rfl (Nat.le_of_ble_eq_true rfl) (q_flo B.2.2.1 B.2.2.2.1 (by decide) (by decide)) (K_X12_init (some a13) (1 : Int32) v19) (M_X12_init (q_kap E) (some a13) (1 : Int32) v19) (N_X12_init (q_kap E) (some a13) (1 : Int32) v19) (by exact fun _v22 => (q_mo_rd fun _ => q_mo_tr)) h (fun _v22 σ h => ?_)
    exact q_athrow (pc := 25) (ci := 15) C hT rfl dX13_expectNumber_25 h
def F_X13_expect (κ : Nat → Nat) (l0 : Option Nat) (l1 : Int32) : q_X Unit :=
  q_rd (q_gI l0 16 15) fun v2 => q_rd (q_is l0 16) fun _ => q_ca (F_X13_isSign κ l0 v2 l1) fun v6 => q_br (¬ v6 = 0) (q_rd (q_gI l0 16 15) fun v27 => q_wr (q_pF l0 16 15 (.int (v27 + (1 : Int32)))) (q_rt ())) (q_mk (.inr (.inl (15, [.null, .null, .null, .null, .null, .int 0, .int 0, .int 0]))) 8 fun a12 => q_rd (q_gI l0 16 15) fun v18 => q_gd (¬ (some a12) = none) (q_ca (F_X12_init κ (some a12) (1 : Int32) v18) fun _v21 => q_rd (q_is (some a12) 15) fun _ => q_tr RX12 (some a12)))
theorem M_X13_expect (κ : Nat → Nat) (l0 : Option Nat) (l1 : Int32) : q_mo (F_X13_expect κ l0 l1) := (q_mo_rd fun v2 => (q_mo_rd fun _ => q_mo_ca (M_X13_isSign κ l0 v2 l1) fun v6 => (q_mo_br (q_mo_rd fun v27 => (q_mo_wr q_mo_rt)) (q_mo_mk fun a12 => (q_mo_rd fun v18 => (q_mo_gd (q_mo_ca (M_X12_init κ (some a12) (1 : Int32) v18) fun _v21 => (q_mo_rd fun _ => q_mo_tr))))))))
set_option maxRecDepth 100000 in
set_option maxHeartbeats 4000000 in
theorem K_X13_expect {E : q_Ev} (l0 : Option Nat) (l1 : Int32) : q_Ct E yX13_expect (.code yX13_expect cX13_expect 2 (none)) 5 114 [q_R l0, q_I l1] q_oV (F_X13_expect (q_kap E) l0 l1) := by
  refine q_enter (by decide) (Nat.le_of_ble_eq_true rfl) (fun Γ σ w h B hT => ?_)
  have C := B.1
  unfold F_X13_expect at h
  refine q_aload_n (pc := 0) C 0 rfl dX13_expect_0 rfl ?_
  refine q_aload_n (pc := 1) C 0 rfl dX13_expect_1 rfl ?_
  refine q_getI (pc := 2) C dX13_expect_2 ql_X13_206 h (fun v2 h => ?_)
  refine q_iload_n (pc := 5) C 1 rfl dX13_expect_5 rfl ?_
  refine q_callV (pc := 6) (As := [q_I v2, q_I l1]) (st := []) (ps := q_psI) C B.2.1 hT q_hpI qm_X13_214 qv_X13_isSign dX13_expect_6 rfl rfl (Nat.le_of_ble_eq_true rfl) (q_flo B.2.2.1 B.2.2.2.1 (by decide) (by decide)) (K_X13_isSign l0 v2 l1) (M_X13_isSign (q_kap E) l0 v2 l1) (by exact fun v6 => (q_mo_br (q_mo_rd fun v27 => (q_mo_wr q_mo_rt)) (q_mo_mk fun a12 => (q_mo_rd fun v18 => (q_mo_gd (q_mo_ca (M_X12_init (q_kap E) (some a12) (1 : Int32) v18) fun _v21 => (q_mo_rd fun _ => q_mo_tr))))))) h (fun v6 σ h => ?_)
  refine q_W.st (st' := [q_I v6]) rfl ?_
  refine q_if_ne (pc := 9) (tgt := 25) C dX13_expect_9 (by decide) h (fun _ h => ?_) (fun _ h => ?_)
  · refine q_aload_n (pc := 25) C 0 rfl dX13_expect_25 rfl ?_
    refine q_dup (pc := 26) C dX13_expect_26 rfl ?_
    refine q_getI (pc := 27) C dX13_expect_27 ql_X13_206 h (fun v27 h => ?_)
    refine q_iconst (pc := 30) (v := (1 : Int32)) C dX13_expect_30 (by decide) ?_
    refine q_iadd (pc := 31) C dX13_expect_31 ?_
    refine q_putV (pc := 32) (v := q_I (v27 + (1 : Int32))) C dX13_expect_32 ql_X13_206 (Or.inl rfl) rfl rfl h (fun M32 h => ?_)
    exact q_vret C B.2.2.2.2.1 dX13_expect_35 h
  · refine q_new (pc := 12) C dX13_expect_12 qn_X13_209 (by exact fun a12 => (q_mo_rd fun v18 => (q_mo_gd (q_mo_ca (M_X12_init (q_kap E) (some a12) (1 : Int32) v18) fun _v21 => (q_mo_rd fun _ => q_mo_tr))))) B.2.1 h (fun a12 σ h => ?_)
    refine q_dup (pc := 15) C dX13_expect_15 rfl ?_
    refine q_iconst (pc := 16) (v := (1 : Int32)) C dX13_expect_16 (by decide) ?_
    refine q_aload_n (pc := 17) C 0 rfl dX13_expect_17 rfl ?_
    refine q_getI (pc := 18) C dX13_expect_18 ql_X13_206 h (fun v18 h => ?_)
    refine q_callI (pc := 21) (As := [q_I (1 : Int32), q_I v18]) (st := [q_R (some a12)]) C B.2.1 (fun _ => rfl) qm_X13_211 qI_X12_init dX13_expect_21 rfl rfl (Nat.le_of_ble_eq_true rfl) (q_flo B.2.2.1 B.2.2.2.1 (by decide) (by decide)) (K_X12_init (some a12) (1 : Int32) v18) (M_X12_init (q_kap E) (some a12) (1 : Int32) v18) (N_X12_init (q_kap E) (some a12) (1 : Int32) v18) (by exact fun _v21 => (q_mo_rd fun _ => q_mo_tr)) h (fun _v21 σ h => ?_)
    exact q_athrow (pc := 24) (ci := 15) C hT rfl dX13_expect_24 h
def F_X13_needed_2B (κ : Nat → Nat) (r2 : Int32 → Int32 → q_X Int32) (l0 : Int32) (l1 : Int32) : q_X Int32 :=
  q_br ((l0 >>> (l1 &&& 31)) ≤ 0) (q_rt l1) (r2 l0 (l1 + (1 : Int32)))
theorem M_X13_needed_2B (κ : Nat → Nat) (r2 : Int32 → Int32 → q_X Int32) (mr2 : ∀ (l0 : Int32) (l1 : Int32), q_mo (r2 l0 l1)) (l0 : Int32) (l1 : Int32) : q_mo (F_X13_needed_2B κ r2 l0 l1) := (q_mo_br q_mo_rt (mr2 l0 (l1 + (1 : Int32))))
set_option maxRecDepth 100000 in
set_option maxHeartbeats 4000000 in
theorem S_X13_needed_2B {E : q_Ev} {Γ : q_Gm} {w : (Int32 ⊕ q_Exn) × q_St} (B : q_Bd E Γ cX13_needed yX13_needed.cls 2 0 0 (some .int) yX13_needed.name w) (hT : q_nT Γ) (r2 : Int32 → Int32 → q_X Int32) (hr2 : ∀ (l0 : Int32) (l1 : Int32) (σ : q_St), r2 l0 l1 σ = some w → q_W E Γ (q_QF E Γ q_oI w) 2 σ 2 [(0, q_I l0), (1, q_I l1)] []) (mr2 : ∀ (l0 : Int32) (l1 : Int32), q_mo (r2 l0 l1)) (l0 : Int32) (l1 : Int32) (σ : q_St) (h : F_X13_needed_2B (q_kap E) r2 l0 l1 σ = some w) : q_W E Γ (q_QF E Γ q_oI w) 2 σ 2 [(0, q_I l0), (1, q_I l1)] [] := by
  have C := B.1
  unfold F_X13_needed_2B at h
  refine q_iload_n (pc := 2) C 0 rfl dX13_needed_2 rfl ?_
  refine q_iload_n (pc := 3) C 1 rfl dX13_needed_3 rfl ?_
  refine q_ishr (pc := 4) C dX13_needed_4 ?_
  refine q_if_le (pc := 5) (tgt := 14) C dX13_needed_5 (by decide) h (fun _ h => ?_) (fun _ h => ?_)
  · refine q_iload_n (pc := 14) C 1 rfl dX13_needed_14 rfl ?_
    exact q_iret C B.2.2.2.2.1 dX13_needed_15 h
  · refine q_iinc (pc := 8) (v := (1 : Int32)) (l' := [(1, q_I (l1 + (1 : Int32))), (0, q_I l0)]) C 1 rfl dX13_needed_8 (by decide) (by decide) rfl ?_
    refine q_goto (pc := 11) (tgt := 2) C dX13_needed_11 (by decide) ?_
    refine q_W.sub [1, 0] rfl ?_
    exact hr2 l0 (l1 + (1 : Int32)) _ h
def F_X13_needed_2 (κ : Nat → Nat) : Nat → Int32 → Int32 → q_X Int32
  | 0, _, _ => q_no
  | n + 1, l0, l1 => F_X13_needed_2B κ (F_X13_needed_2 κ n) l0 l1
theorem M_X13_needed_2 (κ : Nat → Nat) : ∀ (n : Nat) (l0 : Int32) (l1 : Int32), q_mo (F_X13_needed_2 κ n l0 l1)
  | 0, _, _ => q_mo_no
  | n + 1, l0, l1 => M_X13_needed_2B κ (F_X13_needed_2 κ n) (M_X13_needed_2 κ n) l0 l1
theorem S_X13_needed_2 {E : q_Ev} {Γ : q_Gm} {w : (Int32 ⊕ q_Exn) × q_St} (B : q_Bd E Γ cX13_needed yX13_needed.cls 2 0 0 (some .int) yX13_needed.name w) (hT : q_nT Γ) : ∀ (n : Nat) (l0 : Int32) (l1 : Int32) (σ : q_St), F_X13_needed_2 (q_kap E) n l0 l1 σ = some w → q_W E Γ (q_QF E Γ q_oI w) 2 σ 2 [(0, q_I l0), (1, q_I l1)] []
  | 0, _, _, _, h => by cases h
  | n + 1, l0, l1, σ, h => S_X13_needed_2B B hT (F_X13_needed_2 (q_kap E) n) (S_X13_needed_2 B hT n) (M_X13_needed_2 (q_kap E) n) l0 l1 σ h
def F_X13_needed (κ : Nat → Nat) (l0 : Int32) : q_X Int32 :=
  F_X13_needed_2 κ q_fu l0 (1 : Int32)
theorem M_X13_needed (κ : Nat → Nat) (l0 : Int32) : q_mo (F_X13_needed κ l0) := (M_X13_needed_2 κ q_fu l0 (1 : Int32))
set_option maxRecDepth 100000 in
set_option maxHeartbeats 4000000 in
theorem K_X13_needed {E : q_Ev} (l0 : Int32) : q_Ct E yX13_needed (.code yX13_needed cX13_needed 2 (some .int)) 0 0 [q_I l0] q_oI (F_X13_needed (q_kap E) l0) := by
  refine q_enter (by decide) (Nat.le_of_ble_eq_true rfl) (fun Γ σ w h B hT => ?_)
  have C := B.1
  unfold F_X13_needed at h
  refine q_iconst (pc := 0) (v := (1 : Int32)) C dX13_needed_0 (by decide) ?_
  refine q_istore_n (pc := 1) (l' := [(1, q_I (1 : Int32)), (0, q_I l0)]) C dX13_needed_1 rfl (by decide) rfl ?_
  refine q_W.sub [1, 0] rfl ?_
  exact S_X13_needed_2 B hT q_fu l0 (1 : Int32) _ h
