def F_X13_isEnd_24 (κ : Nat → Nat) (s0 : Int32) : q_X Int32 :=
  q_rz s0
theorem M_X13_isEnd_24 (κ : Nat → Nat) (s0 : Int32) : q_mo (F_X13_isEnd_24 κ s0) := q_mo_rz
set_option maxRecDepth 100000 in
set_option maxHeartbeats 4000000 in
theorem S_X13_isEnd_24 {E : q_Ev} {Γ : q_Gm} {w : (Int32 ⊕ q_Exn) × q_St} (B : q_Bd E Γ cX13_isEnd yX13_isEnd.cls 2 0 0 (some .boolean) yX13_isEnd.name w) (hT : q_nT Γ) (s0 : Int32) (σ : q_St) (h : F_X13_isEnd_24 (q_kap E) s0 σ = some w) : q_W E Γ (q_QF E Γ q_oI w) 2 σ 24 [] [q_I s0] := by
  have C := B.1
  unfold F_X13_isEnd_24 at h
  exact q_zret C B.2.2.2.2.1 dX13_isEnd_24 h
def F_X13_isEnd_19 (κ : Nat → Nat) : q_X Int32 :=
  F_X13_isEnd_24 κ (1 : Int32)
theorem M_X13_isEnd_19 (κ : Nat → Nat) : q_mo (F_X13_isEnd_19 κ) := (M_X13_isEnd_24 κ (1 : Int32))
set_option maxRecDepth 100000 in
set_option maxHeartbeats 4000000 in
theorem S_X13_isEnd_19 {E : q_Ev} {Γ : q_Gm} {w : (Int32 ⊕ q_Exn) × q_St} (B : q_Bd E Γ cX13_isEnd yX13_isEnd.cls 2 0 0 (some .boolean) yX13_isEnd.name w) (hT : q_nT Γ) (σ : q_St) (h : F_X13_isEnd_19 (q_kap E) σ = some w) : q_W E Γ (q_QF E Γ q_oI w) 2 σ 19 [] [] := by
  have C := B.1
  unfold F_X13_isEnd_19 at h
  refine q_iconst (pc := 19) (v := (1 : Int32)) C dX13_isEnd_19 (by decide) ?_
  refine q_goto (pc := 20) (tgt := 24) C dX13_isEnd_20 (by decide) ?_
  exact S_X13_isEnd_24 B hT (1 : Int32) _ h
def F_X13_isEnd (κ : Nat → Nat) (l0 : Option Nat) (l1 : Int32) : q_X Int32 :=
  q_rd (q_gA l0 16 9) fun v1 => q_rd (q_lI 1 v1 l1) fun v5 => q_br (v5 = (4 : Int32)) (F_X13_isEnd_19 κ) (q_rd (q_gA l0 16 9) fun v11 => q_rd (q_lI 1 v11 l1) fun v15 => q_br (¬ v15 = 0) (F_X13_isEnd_24 κ (0 : Int32)) (F_X13_isEnd_19 κ))
theorem M_X13_isEnd (κ : Nat → Nat) (l0 : Option Nat) (l1 : Int32) : q_mo (F_X13_isEnd κ l0 l1) := (q_mo_rd fun v1 => (q_mo_rd fun v5 => (q_mo_br (M_X13_isEnd_19 κ) (q_mo_rd fun v11 => (q_mo_rd fun v15 => (q_mo_br (M_X13_isEnd_24 κ (0 : Int32)) (M_X13_isEnd_19 κ)))))))
set_option maxRecDepth 100000 in
set_option maxHeartbeats 4000000 in
theorem K_X13_isEnd {E : q_Ev} (l0 : Option Nat) (l1 : Int32) : q_Ct E yX13_isEnd (.code yX13_isEnd cX13_isEnd 2 (some .boolean)) 0 0 [q_R l0, q_I l1] q_oI (F_X13_isEnd (q_kap E) l0 l1) := by
  refine q_enter (by decide) (Nat.le_of_ble_eq_true rfl) (fun Γ σ w h B hT => ?_)
  have C := B.1
  unfold F_X13_isEnd at h
  refine q_aload_n (pc := 0) C 0 rfl dX13_isEnd_0 rfl ?_
  refine q_getA (pc := 1) C dX13_isEnd_1 ql_X13_26 h (fun v1 h => ?_)
  refine q_iload_n (pc := 4) C 1 rfl dX13_isEnd_4 rfl ?_
  refine q_ldI (pc := 5) C dX13_isEnd_5 (Or.inr (Or.inl ⟨rfl, rfl⟩)) h (fun v5 h => ?_)
  refine q_iconst (pc := 6) (v := (4 : Int32)) C dX13_isEnd_6 (by decide) ?_
  refine q_icmp_eq (pc := 7) (tgt := 19) C dX13_isEnd_7 (by decide) h (fun _ h => ?_) (fun _ h => ?_)
  · refine q_W.sub [] rfl ?_
    exact S_X13_isEnd_19 B hT _ h
  · refine q_aload_n (pc := 10) C 0 rfl dX13_isEnd_10 rfl ?_
    refine q_getA (pc := 11) C dX13_isEnd_11 ql_X13_26 h (fun v11 h => ?_)
    refine q_iload_n (pc := 14) C 1 rfl dX13_isEnd_14 rfl ?_
    refine q_ldI (pc := 15) C dX13_isEnd_15 (Or.inr (Or.inl ⟨rfl, rfl⟩)) h (fun v15 h => ?_)
    refine q_if_ne (pc := 16) (tgt := 23) C dX13_isEnd_16 (by decide) h (fun _ h => ?_) (fun _ h => ?_)
    · refine q_iconst (pc := 23) (v := (0 : Int32)) C dX13_isEnd_23 (by decide) ?_
      refine q_W.sub [] rfl ?_
      exact S_X13_isEnd_24 B hT (0 : Int32) _ h
    · refine q_W.sub [] rfl ?_
      exact S_X13_isEnd_19 B hT _ h
def F_X13_isSame_19B (κ : Nat → Nat) (r19 : Option Nat → Int32 → Int32 → Int32 → q_X Int32) (l0 : Option Nat) (l1 : Int32) (l2 : Int32) (l3 : Int32) : q_X Int32 :=
  q_rd (q_gA l0 16 11) fun v21 => q_rd (q_lI 1 v21 l1) fun v25 => q_br (v25 ≤ l3) (q_rz (1 : Int32)) (q_rd (q_gA l0 16 1) fun v30 => q_rd (q_gA l0 16 10) fun v34 => q_rd (q_lI 1 v34 l1) fun v38 => q_rd (q_lI 0 v30 (v38 + l3)) fun v41 => q_rd (q_gA l0 16 1) fun v43 => q_rd (q_gA l0 16 10) fun v47 => q_rd (q_lI 1 v47 l2) fun v51 => q_rd (q_lI 0 v43 (v51 + l3)) fun v54 => q_br (v41 = v54) (r19 l0 l1 l2 (l3 + (1 : Int32))) (q_rz (0 : Int32)))
theorem M_X13_isSame_19B (κ : Nat → Nat) (r19 : Option Nat → Int32 → Int32 → Int32 → q_X Int32) (mr19 : ∀ (l0 : Option Nat) (l1 : Int32) (l2 : Int32) (l3 : Int32), q_mo (r19 l0 l1 l2 l3)) (l0 : Option Nat) (l1 : Int32) (l2 : Int32) (l3 : Int32) : q_mo (F_X13_isSame_19B κ r19 l0 l1 l2 l3) := (q_mo_rd fun v21 => (q_mo_rd fun v25 => (q_mo_br q_mo_rz (q_mo_rd fun v30 => (q_mo_rd fun v34 => (q_mo_rd fun v38 => (q_mo_rd fun v41 => (q_mo_rd fun v43 => (q_mo_rd fun v47 => (q_mo_rd fun v51 => (q_mo_rd fun v54 => (q_mo_br (mr19 l0 l1 l2 (l3 + (1 : Int32))) q_mo_rz))))))))))))
set_option maxRecDepth 100000 in
set_option maxHeartbeats 4000000 in
theorem S_X13_isSame_19B {E : q_Ev} {Γ : q_Gm} {w : (Int32 ⊕ q_Exn) × q_St} (B : q_Bd E Γ cX13_isSame yX13_isSame.cls 4 0 0 (some .boolean) yX13_isSame.name w) (hT : q_nT Γ) (r19 : Option Nat → Int32 → Int32 → Int32 → q_X Int32) (hr19 : ∀ (l0 : Option Nat) (l1 : Int32) (l2 : Int32) (l3 : Int32) (σ : q_St), r19 l0 l1 l2 l3 σ = some w → q_W E Γ (q_QF E Γ q_oI w) 4 σ 19 [(0, q_R l0), (1, q_I l1), (2, q_I l2), (3, q_I l3)] []) (mr19 : ∀ (l0 : Option Nat) (l1 : Int32) (l2 : Int32) (l3 : Int32), q_mo (r19 l0 l1 l2 l3)) (l0 : Option Nat) (l1 : Int32) (l2 : Int32) (l3 : Int32) (σ : q_St) (h : F_X13_isSame_19B (q_kap E) r19 l0 l1 l2 l3 σ = some w) : q_W E Γ (q_QF E Γ q_oI w) 4 σ 19 [(0, q_R l0), (1, q_I l1), (2, q_I l2), (3, q_I l3)] [] := by
  have C := B.1
  unfold F_X13_isSame_19B at h
  refine q_iload_n (pc := 19) C 3 rfl dX13_isSame_19 rfl ?_
  refine q_aload_n (pc := 20) C 0 rfl dX13_isSame_20 rfl ?_
  refine q_getA (pc := 21) C dX13_isSame_21 ql_X13_33 h (fun v21 h => ?_)
  refine q_iload_n (pc := 24) C 1 rfl dX13_isSame_24 rfl ?_
  refine q_ldI (pc := 25) C dX13_isSame_25 (Or.inr (Or.inl ⟨rfl, rfl⟩)) h (fun v25 h => ?_)
  refine q_icmp_ge (pc := 26) (tgt := 66) C dX13_isSame_26 (by decide) h (fun _ h => ?_) (fun _ h => ?_)
  · refine q_iconst (pc := 66) (v := (1 : Int32)) C dX13_isSame_66 (by decide) ?_
    exact q_zret C B.2.2.2.2.1 dX13_isSame_67 h
  · refine q_aload_n (pc := 29) C 0 rfl dX13_isSame_29 rfl ?_
    refine q_getA (pc := 30) C dX13_isSame_30 ql_X13_13 h (fun v30 h => ?_)
    refine q_aload_n (pc := 33) C 0 rfl dX13_isSame_33 rfl ?_
    refine q_getA (pc := 34) C dX13_isSame_34 ql_X13_30 h (fun v34 h => ?_)
    refine q_iload_n (pc := 37) C 1 rfl dX13_isSame_37 rfl ?_
    refine q_ldI (pc := 38) C dX13_isSame_38 (Or.inr (Or.inl ⟨rfl, rfl⟩)) h (fun v38 h => ?_)
    refine q_iload_n (pc := 39) C 3 rfl dX13_isSame_39 rfl ?_
    refine q_iadd (pc := 40) C dX13_isSame_40 ?_
    refine q_ldI (pc := 41) C dX13_isSame_41 (Or.inl ⟨rfl, rfl⟩) h (fun v41 h => ?_)
    refine q_aload_n (pc := 42) C 0 rfl dX13_isSame_42 rfl ?_
    refine q_getA (pc := 43) C dX13_isSame_43 ql_X13_13 h (fun v43 h => ?_)
    refine q_aload_n (pc := 46) C 0 rfl dX13_isSame_46 rfl ?_
    refine q_getA (pc := 47) C dX13_isSame_47 ql_X13_30 h (fun v47 h => ?_)
    refine q_iload_n (pc := 50) C 2 rfl dX13_isSame_50 rfl ?_
    refine q_ldI (pc := 51) C dX13_isSame_51 (Or.inr (Or.inl ⟨rfl, rfl⟩)) h (fun v51 h => ?_)
    refine q_iload_n (pc := 52) C 3 rfl dX13_isSame_52 rfl ?_
    refine q_iadd (pc := 53) C dX13_isSame_53 ?_
    refine q_ldI (pc := 54) C dX13_isSame_54 (Or.inl ⟨rfl, rfl⟩) h (fun v54 h => ?_)
    refine q_icmp_eq (pc := 55) (tgt := 60) C dX13_isSame_55 (by decide) h (fun _ h => ?_) (fun _ h => ?_)
    · refine q_iinc (pc := 60) (v := (1 : Int32)) (l' := [(3, q_I (l3 + (1 : Int32))), (0, q_R l0), (1, q_I l1), (2, q_I l2)]) C 3 rfl dX13_isSame_60 (by decide) (by decide) rfl ?_
      refine q_goto (pc := 63) (tgt := 19) C dX13_isSame_63 (by decide) ?_
      refine q_W.sub [1, 2, 3, 0] rfl ?_
      exact hr19 l0 l1 l2 (l3 + (1 : Int32)) _ h
    · refine q_iconst (pc := 58) (v := (0 : Int32)) C dX13_isSame_58 (by decide) ?_
      exact q_zret C B.2.2.2.2.1 dX13_isSame_59 h
def F_X13_isSame_19 (κ : Nat → Nat) : Nat → Option Nat → Int32 → Int32 → Int32 → q_X Int32
  | 0, _, _, _, _ => q_no
  | n + 1, l0, l1, l2, l3 => F_X13_isSame_19B κ (F_X13_isSame_19 κ n) l0 l1 l2 l3
theorem M_X13_isSame_19 (κ : Nat → Nat) : ∀ (n : Nat) (l0 : Option Nat) (l1 : Int32) (l2 : Int32) (l3 : Int32), q_mo (F_X13_isSame_19 κ n l0 l1 l2 l3)
  | 0, _, _, _, _ => q_mo_no
  | n + 1, l0, l1, l2, l3 => M_X13_isSame_19B κ (F_X13_isSame_19 κ n) (M_X13_isSame_19 κ n) l0 l1 l2 l3
theorem S_X13_isSame_19 {E : q_Ev} {Γ : q_Gm} {w : (Int32 ⊕ q_Exn) × q_St} (B : q_Bd E Γ cX13_isSame yX13_isSame.cls 4 0 0 (some .boolean) yX13_isSame.name w) (hT : q_nT Γ) : ∀ (n : Nat) (l0 : Option Nat) (l1 : Int32) (l2 : Int32) (l3 : Int32) (σ : q_St), F_X13_isSame_19 (q_kap E) n l0 l1 l2 l3 σ = some w → q_W E Γ (q_QF E Γ q_oI w) 4 σ 19 [(0, q_R l0), (1, q_I l1), (2, q_I l2), (3, q_I l3)] []
  | 0, _, _, _, _, _, h => by cases h
  | n + 1, l0, l1, l2, l3, σ, h => S_X13_isSame_19B B hT (F_X13_isSame_19 (q_kap E) n) (S_X13_isSame_19 B hT n) (M_X13_isSame_19 (q_kap E) n) l0 l1 l2 l3 σ h
def F_X13_isSame (κ : Nat → Nat) (l0 : Option Nat) (l1 : Int32) (l2 : Int32) : q_X Int32 :=
  q_rd (q_gA l0 16 11) fun v1 => q_rd (q_lI 1 v1 l1) fun v5 => q_rd (q_gA l0 16 11) fun v7 => q_rd (q_lI 1 v7 l2) fun v11 => q_br (v5 = v11) (F_X13_isSame_19 κ q_fu l0 l1 l2 (0 : Int32)) (q_rz (0 : Int32))
theorem M_X13_isSame (κ : Nat → Nat) (l0 : Option Nat) (l1 : Int32) (l2 : Int32) : q_mo (F_X13_isSame κ l0 l1 l2) := (q_mo_rd fun v1 => (q_mo_rd fun v5 => (q_mo_rd fun v7 => (q_mo_rd fun v11 => (q_mo_br (M_X13_isSame_19 κ q_fu l0 l1 l2 (0 : Int32)) q_mo_rz)))))
set_option maxRecDepth 100000 in
set_option maxHeartbeats 4000000 in
theorem K_X13_isSame {E : q_Ev} (l0 : Option Nat) (l1 : Int32) (l2 : Int32) : q_Ct E yX13_isSame (.code yX13_isSame cX13_isSame 4 (some .boolean)) 0 0 [q_R l0, q_I l1, q_I l2] q_oI (F_X13_isSame (q_kap E) l0 l1 l2) := by
  refine q_enter (by decide) (Nat.le_of_ble_eq_true rfl) (fun Γ σ w h B hT => ?_)
  have C := B.1
  unfold F_X13_isSame at h
  refine q_aload_n (pc := 0) C 0 rfl dX13_isSame_0 rfl ?_
  refine q_getA (pc := 1) C dX13_isSame_1 ql_X13_33 h (fun v1 h => ?_)
  refine q_iload_n (pc := 4) C 1 rfl dX13_isSame_4 rfl ?_
  refine q_ldI (pc := 5) C dX13_isSame_5 (Or.inr (Or.inl ⟨rfl, rfl⟩)) h (fun v5 h => ?_)
  refine q_aload_n (pc := 6) C 0 rfl dX13_isSame_6 rfl ?_
  refine q_getA (pc := 7) C dX13_isSame_7 ql_X13_33 h (fun v7 h => ?_)
  refine q_iload_n (pc := 10) C 2 rfl dX13_isSame_10 rfl ?_
  refine q_ldI (pc := 11) C dX13_isSame_11 (Or.inr (Or.inl ⟨rfl, rfl⟩)) h (fun v11 h => ?_)
  refine q_icmp_eq (pc := 12) (tgt := 17) C dX13_isSame_12 (by decide) h (fun _ h => ?_) (fun _ h => ?_)
  · refine q_iconst (pc := 17) (v := (0 : Int32)) C dX13_isSame_17 (by decide) ?_
    refine q_istore_n (pc := 18) (l' := [(3, q_I (0 : Int32)), (0, q_R l0), (1, q_I l1), (2, q_I l2)]) C dX13_isSame_18 rfl (by decide) rfl ?_
    refine q_W.sub [1, 2, 3, 0] rfl ?_
    exact S_X13_isSame_19 B hT q_fu l0 l1 l2 (0 : Int32) _ h
  · refine q_iconst (pc := 15) (v := (0 : Int32)) C dX13_isSame_15 (by decide) ?_
    exact q_zret C B.2.2.2.2.1 dX13_isSame_16 h
def F_X13_labelAt_2B (κ : Nat → Nat) (r2 : Option Nat → Int32 → Int32 → q_X Int32) (l0 : Option Nat) (l1 : Int32) (l2 : Int32) : q_X Int32 :=
  q_rd (q_gI l0 16 43) fun v4 => q_br (v4 ≤ l2) (q_rt (-1 : Int32)) (q_rd (q_gA l0 16 53) fun v12 => q_rd (q_lI 1 v12 l2) fun v16 => q_rd (q_is l0 16) fun _ => q_ca (F_X13_isSame κ l0 v16 l1) fun v18 => q_br (v18 = 0) (r2 l0 l1 (l2 + (1 : Int32))) (q_rt l2))
theorem M_X13_labelAt_2B (κ : Nat → Nat) (r2 : Option Nat → Int32 → Int32 → q_X Int32) (mr2 : ∀ (l0 : Option Nat) (l1 : Int32) (l2 : Int32), q_mo (r2 l0 l1 l2)) (l0 : Option Nat) (l1 : Int32) (l2 : Int32) : q_mo (F_X13_labelAt_2B κ r2 l0 l1 l2) := (q_mo_rd fun v4 => (q_mo_br q_mo_rt (q_mo_rd fun v12 => (q_mo_rd fun v16 => (q_mo_rd fun _ => q_mo_ca (M_X13_isSame κ l0 v16 l1) fun v18 => (q_mo_br (mr2 l0 l1 (l2 + (1 : Int32))) q_mo_rt))))))
set_option maxRecDepth 100000 in
set_option maxHeartbeats 4000000 in
theorem S_X13_labelAt_2B {E : q_Ev} {Γ : q_Gm} {w : (Int32 ⊕ q_Exn) × q_St} (B : q_Bd E Γ cX13_labelAt yX13_labelAt.cls 3 1 23 (some .int) yX13_labelAt.name w) (hT : q_nT Γ) (r2 : Option Nat → Int32 → Int32 → q_X Int32) (hr2 : ∀ (l0 : Option Nat) (l1 : Int32) (l2 : Int32) (σ : q_St), r2 l0 l1 l2 σ = some w → q_W E Γ (q_QF E Γ q_oI w) 3 σ 2 [(0, q_R l0), (1, q_I l1), (2, q_I l2)] []) (mr2 : ∀ (l0 : Option Nat) (l1 : Int32) (l2 : Int32), q_mo (r2 l0 l1 l2)) (l0 : Option Nat) (l1 : Int32) (l2 : Int32) (σ : q_St) (h : F_X13_labelAt_2B (q_kap E) r2 l0 l1 l2 σ = some w) : q_W E Γ (q_QF E Γ q_oI w) 3 σ 2 [(0, q_R l0), (1, q_I l1), (2, q_I l2)] [] := by
  have C := B.1
  unfold F_X13_labelAt_2B at h
  refine q_iload_n (pc := 2) C 2 rfl dX13_labelAt_2 rfl ?_
  refine q_aload_n (pc := 3) C 0 rfl dX13_labelAt_3 rfl ?_
  refine q_getI (pc := 4) C dX13_labelAt_4 ql_X13_286 h (fun v4 h => ?_)
  refine q_icmp_ge (pc := 7) (tgt := 32) C dX13_labelAt_7 (by decide) h (fun _ h => ?_) (fun _ h => ?_)
  · refine q_iconst (pc := 32) (v := (-1 : Int32)) C dX13_labelAt_32 (by decide) ?_
    exact q_iret C B.2.2.2.2.1 dX13_labelAt_33 h
  · refine q_aload_n (pc := 10) C 0 rfl dX13_labelAt_10 rfl ?_
    refine q_aload_n (pc := 11) C 0 rfl dX13_labelAt_11 rfl ?_
    refine q_getA (pc := 12) C dX13_labelAt_12 ql_X13_126 h (fun v12 h => ?_)
    refine q_iload_n (pc := 15) C 2 rfl dX13_labelAt_15 rfl ?_
    refine q_ldI (pc := 16) C dX13_labelAt_16 (Or.inr (Or.inl ⟨rfl, rfl⟩)) h (fun v16 h => ?_)
    refine q_iload_n (pc := 17) C 1 rfl dX13_labelAt_17 rfl ?_
    refine q_callV (pc := 18) (As := [q_I v16, q_I l1]) (st := []) (ps := q_psI) C B.2.1 hT q_hpI qm_X13_292 qv_X13_isSame dX13_labelAt_18 rfl rfl (Nat.le_of_ble_eq_true rfl) (q_flo B.2.2.1 B.2.2.2.1 (by decide) (by decide)) (K_X13_isSame l0 v16 l1) (M_X13_isSame (q_kap E) l0 v16 l1) (by exact fun v18 => (q_mo_br (mr2 l0 l1 (l2 + (1 : Int32))) q_mo_rt)) h (fun v18 σ h => ?_)
    refine q_W.st (st' := [q_I v18]) rfl ?_
    refine q_if_eq (pc := 21) (tgt := 26) C dX13_labelAt_21 (by decide) h (fun _ h => ?_) (fun _ h => ?_)
    · refine q_iinc (pc := 26) (v := (1 : Int32)) (l' := [(2, q_I (l2 + (1 : Int32))), (0, q_R l0), (1, q_I l1)]) C 2 rfl dX13_labelAt_26 (by decide) (by decide) rfl ?_
      refine q_goto (pc := 29) (tgt := 2) C dX13_labelAt_29 (by decide) ?_
      refine q_W.sub [1, 2, 0] rfl ?_
      exact hr2 l0 l1 (l2 + (1 : Int32)) _ h
    · refine q_iload_n (pc := 24) C 2 rfl dX13_labelAt_24 rfl ?_
      exact q_iret C B.2.2.2.2.1 dX13_labelAt_25 h
def F_X13_labelAt_2 (κ : Nat → Nat) : Nat → Option Nat → Int32 → Int32 → q_X Int32
  | 0, _, _, _ => q_no
  | n + 1, l0, l1, l2 => F_X13_labelAt_2B κ (F_X13_labelAt_2 κ n) l0 l1 l2
theorem M_X13_labelAt_2 (κ : Nat → Nat) : ∀ (n : Nat) (l0 : Option Nat) (l1 : Int32) (l2 : Int32), q_mo (F_X13_labelAt_2 κ n l0 l1 l2)
  | 0, _, _, _ => q_mo_no
  | n + 1, l0, l1, l2 => M_X13_labelAt_2B κ (F_X13_labelAt_2 κ n) (M_X13_labelAt_2 κ n) l0 l1 l2
theorem S_X13_labelAt_2 {E : q_Ev} {Γ : q_Gm} {w : (Int32 ⊕ q_Exn) × q_St} (B : q_Bd E Γ cX13_labelAt yX13_labelAt.cls 3 1 23 (some .int) yX13_labelAt.name w) (hT : q_nT Γ) : ∀ (n : Nat) (l0 : Option Nat) (l1 : Int32) (l2 : Int32) (σ : q_St), F_X13_labelAt_2 (q_kap E) n l0 l1 l2 σ = some w → q_W E Γ (q_QF E Γ q_oI w) 3 σ 2 [(0, q_R l0), (1, q_I l1), (2, q_I l2)] []
  | 0, _, _, _, _, h => by cases h
  | n + 1, l0, l1, l2, σ, h => S_X13_labelAt_2B B hT (F_X13_labelAt_2 (q_kap E) n) (S_X13_labelAt_2 B hT n) (M_X13_labelAt_2 (q_kap E) n) l0 l1 l2 σ h
def F_X13_labelAt (κ : Nat → Nat) (l0 : Option Nat) (l1 : Int32) : q_X Int32 :=
  F_X13_labelAt_2 κ q_fu l0 l1 (0 : Int32)
theorem M_X13_labelAt (κ : Nat → Nat) (l0 : Option Nat) (l1 : Int32) : q_mo (F_X13_labelAt κ l0 l1) := (M_X13_labelAt_2 κ q_fu l0 l1 (0 : Int32))
set_option maxRecDepth 100000 in
set_option maxHeartbeats 4000000 in
theorem K_X13_labelAt {E : q_Ev} (l0 : Option Nat) (l1 : Int32) : q_Ct E yX13_labelAt (.code yX13_labelAt cX13_labelAt 3 (some .int)) 1 23 [q_R l0, q_I l1] q_oI (F_X13_labelAt (q_kap E) l0 l1) := by
  refine q_enter (by decide) (Nat.le_of_ble_eq_true rfl) (fun Γ σ w h B hT => ?_)
  have C := B.1
  unfold F_X13_labelAt at h
  refine q_iconst (pc := 0) (v := (0 : Int32)) C dX13_labelAt_0 (by decide) ?_
  refine q_istore_n (pc := 1) (l' := [(2, q_I (0 : Int32)), (0, q_R l0), (1, q_I l1)]) C dX13_labelAt_1 rfl (by decide) rfl ?_
  refine q_W.sub [1, 2, 0] rfl ?_
  exact S_X13_labelAt_2 B hT q_fu l0 l1 (0 : Int32) _ h
def F_X13_lines_396 (κ : Nat → Nat) (r15 : Option Nat → q_X Unit) (l0 : Option Nat) (l1 : Int32) : q_X Unit :=
  q_rd (q_gA l0 16 51) fun v397 => q_rd (q_gI l0 16 15) fun v402 => q_wr (q_sI 1 v397 l1 v402) (q_rd (q_gA l0 16 9) fun v407 => q_rd (q_gI l0 16 15) fun v411 => q_rd (q_lI 1 v407 v411) fun v414 => q_br (¬ v414 = 0) (q_rd (q_gA l0 16 9) fun v420 => q_rd (q_gI l0 16 15) fun v424 => q_rd (q_lI 1 v420 v424) fun v427 => q_br (v427 = (4 : Int32)) (q_rd (q_gI l0 16 15) fun v447 => q_wr (q_pF l0 16 15 (.int (v447 + (1 : Int32)))) (r15 l0)) (q_mk (.inr (.inl (15, [.null, .null, .null, .null, .null, .int 0, .int 0, .int 0]))) 8 fun a432 => q_rd (q_gI l0 16 15) fun v438 => q_gd (¬ (some a432) = none) (q_ca (F_X12_init κ (some a432) (1 : Int32) v438) fun _v441 => q_rd (q_is (some a432) 15) fun _ => q_tr RX12 (some a432)))) (q_rt ()))
theorem M_X13_lines_396 (κ : Nat → Nat) (r15 : Option Nat → q_X Unit) (mr15 : ∀ (l0 : Option Nat), q_mo (r15 l0)) (l0 : Option Nat) (l1 : Int32) : q_mo (F_X13_lines_396 κ r15 l0 l1) := (q_mo_rd fun v397 => (q_mo_rd fun v402 => (q_mo_wr (q_mo_rd fun v407 => (q_mo_rd fun v411 => (q_mo_rd fun v414 => (q_mo_br (q_mo_rd fun v420 => (q_mo_rd fun v424 => (q_mo_rd fun v427 => (q_mo_br (q_mo_rd fun v447 => (q_mo_wr (mr15 l0))) (q_mo_mk fun a432 => (q_mo_rd fun v438 => (q_mo_gd (q_mo_ca (M_X12_init κ (some a432) (1 : Int32) v438) fun _v441 => (q_mo_rd fun _ => q_mo_tr))))))))) q_mo_rt)))))))
set_option maxRecDepth 100000 in
set_option maxHeartbeats 4000000 in
theorem S_X13_lines_396 {E : q_Ev} {Γ : q_Gm} {w : (Unit ⊕ q_Exn) × q_St} (B : q_Bd E Γ cX13_lines yX13_lines.cls 2 6 138 (none) yX13_lines.name w) (hT : q_nT Γ) (r15 : Option Nat → q_X Unit) (hr15 : ∀ (l0 : Option Nat) (σ : q_St), r15 l0 σ = some w → q_W E Γ (q_QF E Γ q_oV w) 2 σ 15 [(0, q_R l0)] []) (mr15 : ∀ (l0 : Option Nat), q_mo (r15 l0)) (l0 : Option Nat) (l1 : Int32) (σ : q_St) (h : F_X13_lines_396 (q_kap E) r15 l0 l1 σ = some w) : q_W E Γ (q_QF E Γ q_oV w) 2 σ 396 [(0, q_R l0), (1, q_I l1)] [] := by
  have C := B.1
  unfold F_X13_lines_396 at h
  refine q_aload_n (pc := 396) C 0 rfl dX13_lines_396 rfl ?_
  refine q_getA (pc := 397) C dX13_lines_397 ql_X13_123 h (fun v397 h => ?_)
  refine q_iload_n (pc := 400) C 1 rfl dX13_lines_400 rfl ?_
  refine q_aload_n (pc := 401) C 0 rfl dX13_lines_401 rfl ?_
  refine q_getI (pc := 402) C dX13_lines_402 ql_X13_206 h (fun v402 h => ?_)
  refine q_stI (pc := 405) C dX13_lines_405 h (fun M405 h => ?_)
  refine q_aload_n (pc := 406) C 0 rfl dX13_lines_406 rfl ?_
  refine q_getA (pc := 407) C dX13_lines_407 ql_X13_26 h (fun v407 h => ?_)
  refine q_aload_n (pc := 410) C 0 rfl dX13_lines_410 rfl ?_
  refine q_getI (pc := 411) C dX13_lines_411 ql_X13_206 h (fun v411 h => ?_)
  refine q_ldI (pc := 414) C dX13_lines_414 (Or.inr (Or.inl ⟨rfl, rfl⟩)) h (fun v414 h => ?_)
  refine q_if_ne (pc := 415) (tgt := 419) C dX13_lines_415 (by decide) h (fun _ h => ?_) (fun _ h => ?_)
  · refine q_aload_n (pc := 419) C 0 rfl dX13_lines_419 rfl ?_
    refine q_getA (pc := 420) C dX13_lines_420 ql_X13_26 h (fun v420 h => ?_)
    refine q_aload_n (pc := 423) C 0 rfl dX13_lines_423 rfl ?_
    refine q_getI (pc := 424) C dX13_lines_424 ql_X13_206 h (fun v424 h => ?_)
    refine q_ldI (pc := 427) C dX13_lines_427 (Or.inr (Or.inl ⟨rfl, rfl⟩)) h (fun v427 h => ?_)
    refine q_iconst (pc := 428) (v := (4 : Int32)) C dX13_lines_428 (by decide) ?_
    refine q_icmp_eq (pc := 429) (tgt := 445) C dX13_lines_429 (by decide) h (fun _ h => ?_) (fun _ h => ?_)
    · refine q_aload_n (pc := 445) C 0 rfl dX13_lines_445 rfl ?_
      refine q_dup (pc := 446) C dX13_lines_446 rfl ?_
      refine q_getI (pc := 447) C dX13_lines_447 ql_X13_206 h (fun v447 h => ?_)
      refine q_iconst (pc := 450) (v := (1 : Int32)) C dX13_lines_450 (by decide) ?_
      refine q_iadd (pc := 451) C dX13_lines_451 ?_
      refine q_putV (pc := 452) (v := q_I (v447 + (1 : Int32))) C dX13_lines_452 ql_X13_206 (Or.inl rfl) rfl rfl h (fun M452 h => ?_)
      refine q_goto (pc := 455) (tgt := 15) C dX13_lines_455 (by decide) ?_
      refine q_W.sub [0] rfl ?_
      exact hr15 l0 _ h
    · refine q_new (pc := 432) C dX13_lines_432 qn_X13_209 (by exact fun a432 => (q_mo_rd fun v438 => (q_mo_gd (q_mo_ca (M_X12_init (q_kap E) (some a432) (1 : Int32) v438) fun _v441 => (q_mo_rd fun _ => q_mo_tr))))) B.2.1 h (fun a432 σ h => ?_)
      refine q_dup (pc := 435) C dX13_lines_435 rfl ?_
      refine q_iconst (pc := 436) (v := (1 : Int32)) C dX13_lines_436 (by decide) ?_
      refine q_aload_n (pc := 437) C 0 rfl dX13_lines_437 rfl ?_
      refine q_getI (pc := 438) C dX13_lines_438 ql_X13_206 h (fun v438 h => ?_)
      refine q_callI (pc := 441) (As := [q_I (1 : Int32), q_I v438]) (st := [q_R (some a432)]) C B.2.1 (fun _ => rfl) qm_X13_211 qI_X12_init dX13_lines_441 rfl rfl (Nat.le_of_ble_eq_true rfl) (q_flo B.2.2.1 B.2.2.2.1 (by decide) (by decide)) (K_X12_init (some a432) (1 : Int32) v438) (M_X12_init (q_kap E) (some a432) (1 : Int32) v438) (N_X12_init (q_kap E) (some a432) (1 : Int32) v438) (by exact fun _v441 => (q_mo_rd fun _ => q_mo_tr)) h (fun _v441 σ h => ?_)
      exact q_athrow (pc := 444) (ci := 15) C hT rfl dX13_lines_444 h
  · exact q_vret C B.2.2.2.2.1 dX13_lines_418 h
def F_X13_lines_179B (κ : Nat → Nat) (r15 : Option Nat → q_X Unit) (r179 : Option Nat → Int32 → q_X Unit) (l0 : Option Nat) (l1 : Int32) : q_X Unit :=
  q_rd (q_gI l0 16 15) fun v181 => q_rd (q_is l0 16) fun _ => q_ca (F_X13_isEnd κ l0 v181) fun v184 => q_br (¬ v184 = 0) (F_X13_lines_396 κ r15 l0 l1) (q_rd (q_gI l0 16 15) fun v192 => q_wr (q_pF l0 16 15 (.int (v192 + (1 : Int32)))) (r179 l0 l1))
theorem M_X13_lines_179B (κ : Nat → Nat) (r15 : Option Nat → q_X Unit) (mr15 : ∀ (l0 : Option Nat), q_mo (r15 l0)) (r179 : Option Nat → Int32 → q_X Unit) (mr179 : ∀ (l0 : Option Nat) (l1 : Int32), q_mo (r179 l0 l1)) (l0 : Option Nat) (l1 : Int32) : q_mo (F_X13_lines_179B κ r15 r179 l0 l1) := (q_mo_rd fun v181 => (q_mo_rd fun _ => q_mo_ca (M_X13_isEnd κ l0 v181) fun v184 => (q_mo_br (M_X13_lines_396 κ r15 mr15 l0 l1) (q_mo_rd fun v192 => (q_mo_wr (mr179 l0 l1))))))
set_option maxRecDepth 100000 in
set_option maxHeartbeats 4000000 in
theorem S_X13_lines_179B {E : q_Ev} {Γ : q_Gm} {w : (Unit ⊕ q_Exn) × q_St} (B : q_Bd E Γ cX13_lines yX13_lines.cls 2 6 138 (none) yX13_lines.name w) (hT : q_nT Γ) (r15 : Option Nat → q_X Unit) (hr15 : ∀ (l0 : Option Nat) (σ : q_St), r15 l0 σ = some w → q_W E Γ (q_QF E Γ q_oV w) 2 σ 15 [(0, q_R l0)] []) (mr15 : ∀ (l0 : Option Nat), q_mo (r15 l0)) (r179 : Option Nat → Int32 → q_X Unit) (hr179 : ∀ (l0 : Option Nat) (l1 : Int32) (σ : q_St), r179 l0 l1 σ = some w → q_W E Γ (q_QF E Γ q_oV w) 2 σ 179 [(0, q_R l0), (1, q_I l1)] []) (mr179 : ∀ (l0 : Option Nat) (l1 : Int32), q_mo (r179 l0 l1)) (l0 : Option Nat) (l1 : Int32) (σ : q_St) (h : F_X13_lines_179B (q_kap E) r15 r179 l0 l1 σ = some w) : q_W E Γ (q_QF E Γ q_oV w) 2 σ 179 [(0, q_R l0), (1, q_I l1)] [] := by
  have C := B.1
  unfold F_X13_lines_179B at h
  refine q_aload_n (pc := 179) C 0 rfl dX13_lines_179 rfl ?_
  refine q_aload_n (pc := 180) C 0 rfl dX13_lines_180 rfl ?_
  refine q_getI (pc := 181) C dX13_lines_181 ql_X13_206 h (fun v181 h => ?_)
  refine q_callV (pc := 184) (As := [q_I v181]) (st := []) (ps := q_psI) C B.2.1 hT q_hpI qm_X13_301 qv_X13_isEnd dX13_lines_184 rfl rfl (Nat.le_of_ble_eq_true rfl) (q_flo B.2.2.1 B.2.2.2.1 (by decide) (by decide)) (K_X13_isEnd l0 v181) (M_X13_isEnd (q_kap E) l0 v181) (by exact fun v184 => (q_mo_br (M_X13_lines_396 (q_kap E) r15 mr15 l0 l1) (q_mo_rd fun v192 => (q_mo_wr (mr179 l0 l1))))) h (fun v184 σ h => ?_)
  refine q_W.st (st' := [q_I v184]) rfl ?_
  refine q_if_ne (pc := 187) (tgt := 396) C dX13_lines_187 (by decide) h (fun _ h => ?_) (fun _ h => ?_)
  · exact S_X13_lines_396 B hT r15 hr15 mr15 l0 l1 _ h
  · refine q_aload_n (pc := 190) C 0 rfl dX13_lines_190 rfl ?_
    refine q_dup (pc := 191) C dX13_lines_191 rfl ?_
    refine q_getI (pc := 192) C dX13_lines_192 ql_X13_206 h (fun v192 h => ?_)
    refine q_iconst (pc := 195) (v := (1 : Int32)) C dX13_lines_195 (by decide) ?_
    refine q_iadd (pc := 196) C dX13_lines_196 ?_
    refine q_putV (pc := 197) (v := q_I (v192 + (1 : Int32))) C dX13_lines_197 ql_X13_206 (Or.inl rfl) rfl rfl h (fun M197 h => ?_)
    refine q_goto (pc := 200) (tgt := 179) C dX13_lines_200 (by decide) ?_
    exact hr179 l0 l1 _ h
def F_X13_lines_179 (κ : Nat → Nat) (r15 : Option Nat → q_X Unit) : Nat → Option Nat → Int32 → q_X Unit
  | 0, _, _ => q_no
  | n + 1, l0, l1 => F_X13_lines_179B κ r15 (F_X13_lines_179 κ r15 n) l0 l1
theorem M_X13_lines_179 (κ : Nat → Nat) (r15 : Option Nat → q_X Unit) (mr15 : ∀ (l0 : Option Nat), q_mo (r15 l0)) : ∀ (n : Nat) (l0 : Option Nat) (l1 : Int32), q_mo (F_X13_lines_179 κ r15 n l0 l1)
  | 0, _, _ => q_mo_no
  | n + 1, l0, l1 => M_X13_lines_179B κ r15 mr15 (F_X13_lines_179 κ r15 n) (M_X13_lines_179 κ r15 mr15 n) l0 l1
theorem S_X13_lines_179 {E : q_Ev} {Γ : q_Gm} {w : (Unit ⊕ q_Exn) × q_St} (B : q_Bd E Γ cX13_lines yX13_lines.cls 2 6 138 (none) yX13_lines.name w) (hT : q_nT Γ) (r15 : Option Nat → q_X Unit) (hr15 : ∀ (l0 : Option Nat) (σ : q_St), r15 l0 σ = some w → q_W E Γ (q_QF E Γ q_oV w) 2 σ 15 [(0, q_R l0)] []) (mr15 : ∀ (l0 : Option Nat), q_mo (r15 l0)) : ∀ (n : Nat) (l0 : Option Nat) (l1 : Int32) (σ : q_St), F_X13_lines_179 (q_kap E) r15 n l0 l1 σ = some w → q_W E Γ (q_QF E Γ q_oV w) 2 σ 179 [(0, q_R l0), (1, q_I l1)] []
  | 0, _, _, _, h => by cases h
  | n + 1, l0, l1, σ, h => S_X13_lines_179B B hT r15 hr15 mr15 (F_X13_lines_179 (q_kap E) r15 n) (S_X13_lines_179 B hT r15 hr15 mr15 n) (M_X13_lines_179 (q_kap E) r15 mr15 n) l0 l1 σ h
def F_X13_lines_346B (κ : Nat → Nat) (r15 : Option Nat → q_X Unit) (r346 : Option Nat → Int32 → q_X Unit) (l0 : Option Nat) (l1 : Int32) : q_X Unit :=
  q_rd (q_gI l0 16 15) fun v348 => q_rd (q_is l0 16) fun _ => q_ca (F_X13_isSign κ l0 v348 (44 : Int32)) fun v353 => q_br (v353 = 0) (F_X13_lines_396 κ r15 l0 l1) (q_rd (q_gI l0 16 15) fun v361 => q_wr (q_pF l0 16 15 (.int (v361 + (1 : Int32)))) (q_rd (q_gI l0 16 21) fun v373 => q_rd (q_is l0 16) fun _ => q_ca (F_X13_expectNumber κ l0 (0 : Int64) (((1 : Int64) <<< (v373.toInt64 &&& 63)) - (1 : Int64))) fun v379 => q_rd (q_gA l0 16 50) fun v384 => q_rd (q_lI 1 v384 l1) fun v389 => q_wr (q_sI 1 v384 l1 (v389 + (1 : Int32))) (r346 l0 l1)))
theorem M_X13_lines_346B (κ : Nat → Nat) (r15 : Option Nat → q_X Unit) (mr15 : ∀ (l0 : Option Nat), q_mo (r15 l0)) (r346 : Option Nat → Int32 → q_X Unit) (mr346 : ∀ (l0 : Option Nat) (l1 : Int32), q_mo (r346 l0 l1)) (l0 : Option Nat) (l1 : Int32) : q_mo (F_X13_lines_346B κ r15 r346 l0 l1) := (q_mo_rd fun v348 => (q_mo_rd fun _ => q_mo_ca (M_X13_isSign κ l0 v348 (44 : Int32)) fun v353 => (q_mo_br (M_X13_lines_396 κ r15 mr15 l0 l1) (q_mo_rd fun v361 => (q_mo_wr (q_mo_rd fun v373 => (q_mo_rd fun _ => q_mo_ca (M_X13_expectNumber κ l0 (0 : Int64) (((1 : Int64) <<< (v373.toInt64 &&& 63)) - (1 : Int64))) fun v379 => (q_mo_rd fun v384 => (q_mo_rd fun v389 => (q_mo_wr (mr346 l0 l1)))))))))))
set_option maxRecDepth 100000 in
set_option maxHeartbeats 4000000 in
theorem S_X13_lines_346B {E : q_Ev} {Γ : q_Gm} {w : (Unit ⊕ q_Exn) × q_St} (B : q_Bd E Γ cX13_lines yX13_lines.cls 2 6 138 (none) yX13_lines.name w) (hT : q_nT Γ) (r15 : Option Nat → q_X Unit) (hr15 : ∀ (l0 : Option Nat) (σ : q_St), r15 l0 σ = some w → q_W E Γ (q_QF E Γ q_oV w) 2 σ 15 [(0, q_R l0)] []) (mr15 : ∀ (l0 : Option Nat), q_mo (r15 l0)) (r346 : Option Nat → Int32 → q_X Unit) (hr346 : ∀ (l0 : Option Nat) (l1 : Int32) (σ : q_St), r346 l0 l1 σ = some w → q_W E Γ (q_QF E Γ q_oV w) 2 σ 346 [(0, q_R l0), (1, q_I l1)] []) (mr346 : ∀ (l0 : Option Nat) (l1 : Int32), q_mo (r346 l0 l1)) (l0 : Option Nat) (l1 : Int32) (σ : q_St) (h : F_X13_lines_346B (q_kap E) r15 r346 l0 l1 σ = some w) : q_W E Γ (q_QF E Γ q_oV w) 2 σ 346 [(0, q_R l0), (1, q_I l1)] [] := by
  have C := B.1
  unfold F_X13_lines_346B at h
  refine q_aload_n (pc := 346) C 0 rfl dX13_lines_346 rfl ?_
  refine q_aload_n (pc := 347) C 0 rfl dX13_lines_347 rfl ?_
  refine q_getI (pc := 348) C dX13_lines_348 ql_X13_206 h (fun v348 h => ?_)
  refine q_bipush (pc := 351) (v := (44 : Int32)) C dX13_lines_351 (by decide) ?_
  refine q_callV (pc := 353) (As := [q_I v348, q_I (44 : Int32)]) (st := []) (ps := q_psI) C B.2.1 hT q_hpI qm_X13_214 qv_X13_isSign dX13_lines_353 rfl rfl (Nat.le_of_ble_eq_true rfl) (q_flo B.2.2.1 B.2.2.2.1 (by decide) (by decide)) (K_X13_isSign l0 v348 (44 : Int32)) (M_X13_isSign (q_kap E) l0 v348 (44 : Int32)) (by exact fun v353 => (q_mo_br (M_X13_lines_396 (q_kap E) r15 mr15 l0 l1) (q_mo_rd fun v361 => (q_mo_wr (q_mo_rd fun v373 => (q_mo_rd fun _ => q_mo_ca (M_X13_expectNumber (q_kap E) l0 (0 : Int64) (((1 : Int64) <<< (v373.toInt64 &&& 63)) - (1 : Int64))) fun v379 => (q_mo_rd fun v384 => (q_mo_rd fun v389 => (q_mo_wr (mr346 l0 l1)))))))))) h (fun v353 σ h => ?_)
  refine q_W.st (st' := [q_I v353]) rfl ?_
  refine q_if_eq (pc := 356) (tgt := 396) C dX13_lines_356 (by decide) h (fun _ h => ?_) (fun _ h => ?_)
  · exact S_X13_lines_396 B hT r15 hr15 mr15 l0 l1 _ h
  · refine q_aload_n (pc := 359) C 0 rfl dX13_lines_359 rfl ?_
    refine q_dup (pc := 360) C dX13_lines_360 rfl ?_
    refine q_getI (pc := 361) C dX13_lines_361 ql_X13_206 h (fun v361 h => ?_)
    refine q_iconst (pc := 364) (v := (1 : Int32)) C dX13_lines_364 (by decide) ?_
    refine q_iadd (pc := 365) C dX13_lines_365 ?_
    refine q_putV (pc := 366) (v := q_I (v361 + (1 : Int32))) C dX13_lines_366 ql_X13_206 (Or.inl rfl) rfl rfl h (fun M366 h => ?_)
    refine q_aload_n (pc := 369) C 0 rfl dX13_lines_369 rfl ?_
    refine q_lconst (pc := 370) (v := (0 : Int64)) C dX13_lines_370 (by decide) ?_
    refine q_lconst (pc := 371) (v := (1 : Int64)) C dX13_lines_371 (by decide) ?_
    refine q_aload_n (pc := 372) C 0 rfl dX13_lines_372 rfl ?_
    refine q_getI (pc := 373) C dX13_lines_373 ql_X13_217 h (fun v373 h => ?_)
    refine q_lshl (pc := 376) C dX13_lines_376 ?_
    refine q_lconst (pc := 377) (v := (1 : Int64)) C dX13_lines_377 (by decide) ?_
    refine q_lsub (pc := 378) C dX13_lines_378 ?_
    refine q_callV (pc := 379) (As := [q_L (0 : Int64), q_L (((1 : Int64) <<< (v373.toInt64 &&& 63)) - (1 : Int64))]) (st := []) (ps := q_psI) C B.2.1 hT q_hpI qm_X13_274 qv_X13_expectNumber dX13_lines_379 rfl rfl (Nat.le_of_ble_eq_true rfl) (q_flo B.2.2.1 B.2.2.2.1 (by decide) (by decide)) (K_X13_expectNumber l0 (0 : Int64) (((1 : Int64) <<< (v373.toInt64 &&& 63)) - (1 : Int64))) (M_X13_expectNumber (q_kap E) l0 (0 : Int64) (((1 : Int64) <<< (v373.toInt64 &&& 63)) - (1 : Int64))) (by exact fun v379 => (q_mo_rd fun v384 => (q_mo_rd fun v389 => (q_mo_wr (mr346 l0 l1))))) h (fun v379 σ h => ?_)
    refine q_W.st (st' := [q_I v379]) rfl ?_
    refine q_pop (pc := 382) C dX13_lines_382 rfl ?_
    refine q_aload_n (pc := 383) C 0 rfl dX13_lines_383 rfl ?_
    refine q_getA (pc := 384) C dX13_lines_384 ql_X13_120 h (fun v384 h => ?_)
    refine q_iload_n (pc := 387) C 1 rfl dX13_lines_387 rfl ?_
    refine q_dup2_11 (pc := 388) C dX13_lines_388 rfl rfl ?_
    refine q_ldI (pc := 389) C dX13_lines_389 (Or.inr (Or.inl ⟨rfl, rfl⟩)) h (fun v389 h => ?_)
    refine q_iconst (pc := 390) (v := (1 : Int32)) C dX13_lines_390 (by decide) ?_
    refine q_iadd (pc := 391) C dX13_lines_391 ?_
    refine q_stI (pc := 392) C dX13_lines_392 h (fun M392 h => ?_)
    refine q_goto (pc := 393) (tgt := 346) C dX13_lines_393 (by decide) ?_
    exact hr346 l0 l1 _ h
def F_X13_lines_346 (κ : Nat → Nat) (r15 : Option Nat → q_X Unit) : Nat → Option Nat → Int32 → q_X Unit
  | 0, _, _ => q_no
  | n + 1, l0, l1 => F_X13_lines_346B κ r15 (F_X13_lines_346 κ r15 n) l0 l1
theorem M_X13_lines_346 (κ : Nat → Nat) (r15 : Option Nat → q_X Unit) (mr15 : ∀ (l0 : Option Nat), q_mo (r15 l0)) : ∀ (n : Nat) (l0 : Option Nat) (l1 : Int32), q_mo (F_X13_lines_346 κ r15 n l0 l1)
  | 0, _, _ => q_mo_no
  | n + 1, l0, l1 => M_X13_lines_346B κ r15 mr15 (F_X13_lines_346 κ r15 n) (M_X13_lines_346 κ r15 mr15 n) l0 l1
theorem S_X13_lines_346 {E : q_Ev} {Γ : q_Gm} {w : (Unit ⊕ q_Exn) × q_St} (B : q_Bd E Γ cX13_lines yX13_lines.cls 2 6 138 (none) yX13_lines.name w) (hT : q_nT Γ) (r15 : Option Nat → q_X Unit) (hr15 : ∀ (l0 : Option Nat) (σ : q_St), r15 l0 σ = some w → q_W E Γ (q_QF E Γ q_oV w) 2 σ 15 [(0, q_R l0)] []) (mr15 : ∀ (l0 : Option Nat), q_mo (r15 l0)) : ∀ (n : Nat) (l0 : Option Nat) (l1 : Int32) (σ : q_St), F_X13_lines_346 (q_kap E) r15 n l0 l1 σ = some w → q_W E Γ (q_QF E Γ q_oV w) 2 σ 346 [(0, q_R l0), (1, q_I l1)] []
  | 0, _, _, _, h => by cases h
  | n + 1, l0, l1, σ, h => S_X13_lines_346B B hT r15 hr15 mr15 (F_X13_lines_346 (q_kap E) r15 n) (S_X13_lines_346 B hT r15 hr15 mr15 n) (M_X13_lines_346 (q_kap E) r15 mr15 n) l0 l1 σ h
def F_X13_lines_267 (κ : Nat → Nat) (r15 : Option Nat → q_X Unit) (l0 : Option Nat) (l1 : Int32) (s0 : Option Nat) (s1 : Int32) (s2 : Int32) : q_X Unit :=
  q_wr (q_sI 1 s0 s1 s2) (q_rd (q_gA l0 16 47) fun v269 => q_rd (q_lI 1 v269 l1) fun v273 => q_br (¬ v273 = 0) (q_rd (q_gI l0 16 15) fun v292 => q_wr (q_pF l0 16 15 (.int (v292 + (1 : Int32)))) (q_rd (q_gA l0 16 47) fun v301 => q_rd (q_lI 1 v301 l1) fun v305 => q_br (¬ v305 = (3 : Int32)) (q_rd (q_gI l0 16 21) fun v326 => q_rd (q_is l0 16) fun _ => q_ca (F_X13_expectNumber κ l0 (0 : Int64) (((1 : Int64) <<< (v326.toInt64 &&& 63)) - (1 : Int64))) fun v332 => q_rd (q_gA l0 16 50) fun v337 => q_rd (q_lI 1 v337 l1) fun v342 => q_wr (q_sI 1 v337 l1 (v342 + (1 : Int32))) (F_X13_lines_346 κ r15 q_fu l0 l1)) (q_rd (q_is l0 16) fun _ => q_ca (F_X13_expectNumber κ l0 (0 : Int64) (4095 : Int64)) fun v315 => F_X13_lines_396 κ r15 l0 l1))) (q_mk (.inr (.inl (15, [.null, .null, .null, .null, .null, .int 0, .int 0, .int 0]))) 8 fun a277 => q_rd (q_gI l0 16 15) fun v283 => q_gd (¬ (some a277) = none) (q_ca (F_X12_init κ (some a277) (1 : Int32) v283) fun _v286 => q_rd (q_is (some a277) 15) fun _ => q_tr RX12 (some a277))))
theorem M_X13_lines_267 (κ : Nat → Nat) (r15 : Option Nat → q_X Unit) (mr15 : ∀ (l0 : Option Nat), q_mo (r15 l0)) (l0 : Option Nat) (l1 : Int32) (s0 : Option Nat) (s1 : Int32) (s2 : Int32) : q_mo (F_X13_lines_267 κ r15 l0 l1 s0 s1 s2) := (q_mo_wr (q_mo_rd fun v269 => (q_mo_rd fun v273 => (q_mo_br (q_mo_rd fun v292 => (q_mo_wr (q_mo_rd fun v301 => (q_mo_rd fun v305 => (q_mo_br (q_mo_rd fun v326 => (q_mo_rd fun _ => q_mo_ca (M_X13_expectNumber κ l0 (0 : Int64) (((1 : Int64) <<< (v326.toInt64 &&& 63)) - (1 : Int64))) fun v332 => (q_mo_rd fun v337 => (q_mo_rd fun v342 => (q_mo_wr (M_X13_lines_346 κ r15 mr15 q_fu l0 l1)))))) (q_mo_rd fun _ => q_mo_ca (M_X13_expectNumber κ l0 (0 : Int64) (4095 : Int64)) fun v315 => (M_X13_lines_396 κ r15 mr15 l0 l1))))))) (q_mo_mk fun a277 => (q_mo_rd fun v283 => (q_mo_gd (q_mo_ca (M_X12_init κ (some a277) (1 : Int32) v283) fun _v286 => (q_mo_rd fun _ => q_mo_tr)))))))))
set_option maxRecDepth 100000 in
set_option maxHeartbeats 4000000 in
theorem S_X13_lines_267 {E : q_Ev} {Γ : q_Gm} {w : (Unit ⊕ q_Exn) × q_St} (B : q_Bd E Γ cX13_lines yX13_lines.cls 2 6 138 (none) yX13_lines.name w) (hT : q_nT Γ) (r15 : Option Nat → q_X Unit) (hr15 : ∀ (l0 : Option Nat) (σ : q_St), r15 l0 σ = some w → q_W E Γ (q_QF E Γ q_oV w) 2 σ 15 [(0, q_R l0)] []) (mr15 : ∀ (l0 : Option Nat), q_mo (r15 l0)) (l0 : Option Nat) (l1 : Int32) (s0 : Option Nat) (s1 : Int32) (s2 : Int32) (σ : q_St) (h : F_X13_lines_267 (q_kap E) r15 l0 l1 s0 s1 s2 σ = some w) : q_W E Γ (q_QF E Γ q_oV w) 2 σ 267 [(0, q_R l0), (1, q_I l1)] [q_I s2, q_I s1, q_R s0] := by
  have C := B.1
  unfold F_X13_lines_267 at h
  refine q_stI (pc := 267) C dX13_lines_267 h (fun M267 h => ?_)
  refine q_aload_n (pc := 268) C 0 rfl dX13_lines_268 rfl ?_
  refine q_getA (pc := 269) C dX13_lines_269 ql_X13_111 h (fun v269 h => ?_)
  refine q_iload_n (pc := 272) C 1 rfl dX13_lines_272 rfl ?_
  refine q_ldI (pc := 273) C dX13_lines_273 (Or.inr (Or.inl ⟨rfl, rfl⟩)) h (fun v273 h => ?_)
  refine q_if_ne (pc := 274) (tgt := 290) C dX13_lines_274 (by decide) h (fun _ h => ?_) (fun _ h => ?_)
  · refine q_aload_n (pc := 290) C 0 rfl dX13_lines_290 rfl ?_
    refine q_dup (pc := 291) C dX13_lines_291 rfl ?_
    refine q_getI (pc := 292) C dX13_lines_292 ql_X13_206 h (fun v292 h => ?_)
    refine q_iconst (pc := 295) (v := (1 : Int32)) C dX13_lines_295 (by decide) ?_
    refine q_iadd (pc := 296) C dX13_lines_296 ?_
    refine q_putV (pc := 297) (v := q_I (v292 + (1 : Int32))) C dX13_lines_297 ql_X13_206 (Or.inl rfl) rfl rfl h (fun M297 h => ?_)
    refine q_aload_n (pc := 300) C 0 rfl dX13_lines_300 rfl ?_
    refine q_getA (pc := 301) C dX13_lines_301 ql_X13_111 h (fun v301 h => ?_)
    refine q_iload_n (pc := 304) C 1 rfl dX13_lines_304 rfl ?_
    refine q_ldI (pc := 305) C dX13_lines_305 (Or.inr (Or.inl ⟨rfl, rfl⟩)) h (fun v305 h => ?_)
    refine q_iconst (pc := 306) (v := (3 : Int32)) C dX13_lines_306 (by decide) ?_
    refine q_icmp_ne (pc := 307) (tgt := 322) C dX13_lines_307 (by decide) h (fun _ h => ?_) (fun _ h => ?_)
    · refine q_aload_n (pc := 322) C 0 rfl dX13_lines_322 rfl ?_
      refine q_lconst (pc := 323) (v := (0 : Int64)) C dX13_lines_323 (by decide) ?_
      refine q_lconst (pc := 324) (v := (1 : Int64)) C dX13_lines_324 (by decide) ?_
      refine q_aload_n (pc := 325) C 0 rfl dX13_lines_325 rfl ?_
      refine q_getI (pc := 326) C dX13_lines_326 ql_X13_217 h (fun v326 h => ?_)
      refine q_lshl (pc := 329) C dX13_lines_329 ?_
      refine q_lconst (pc := 330) (v := (1 : Int64)) C dX13_lines_330 (by decide) ?_
      refine q_lsub (pc := 331) C dX13_lines_331 ?_
      refine q_callV (pc := 332) (As := [q_L (0 : Int64), q_L (((1 : Int64) <<< (v326.toInt64 &&& 63)) - (1 : Int64))]) (st := []) (ps := q_psI) C B.2.1 hT q_hpI qm_X13_274 qv_X13_expectNumber dX13_lines_332 rfl rfl (Nat.le_of_ble_eq_true rfl) (q_flo B.2.2.1 B.2.2.2.1 (by decide) (by decide)) (K_X13_expectNumber l0 (0 : Int64) (((1 : Int64) <<< (v326.toInt64 &&& 63)) - (1 : Int64))) (M_X13_expectNumber (q_kap E) l0 (0 : Int64) (((1 : Int64) <<< (v326.toInt64 &&& 63)) - (1 : Int64))) (by exact fun v332 => (q_mo_rd fun v337 => (q_mo_rd fun v342 => (q_mo_wr (M_X13_lines_346 (q_kap E) r15 mr15 q_fu l0 l1))))) h (fun v332 σ h => ?_)
      refine q_W.st (st' := [q_I v332]) rfl ?_
      refine q_pop (pc := 335) C dX13_lines_335 rfl ?_
      refine q_aload_n (pc := 336) C 0 rfl dX13_lines_336 rfl ?_
      refine q_getA (pc := 337) C dX13_lines_337 ql_X13_120 h (fun v337 h => ?_)
      refine q_iload_n (pc := 340) C 1 rfl dX13_lines_340 rfl ?_
      refine q_dup2_11 (pc := 341) C dX13_lines_341 rfl rfl ?_
      refine q_ldI (pc := 342) C dX13_lines_342 (Or.inr (Or.inl ⟨rfl, rfl⟩)) h (fun v342 h => ?_)
      refine q_iconst (pc := 343) (v := (1 : Int32)) C dX13_lines_343 (by decide) ?_
      refine q_iadd (pc := 344) C dX13_lines_344 ?_
      refine q_stI (pc := 345) C dX13_lines_345 h (fun M345 h => ?_)
      exact S_X13_lines_346 B hT r15 hr15 mr15 q_fu l0 l1 _ h
    · refine q_aload_n (pc := 310) C 0 rfl dX13_lines_310 rfl ?_
      refine q_lconst (pc := 311) (v := (0 : Int64)) C dX13_lines_311 (by decide) ?_
      refine q_ldc2 (pc := 312) (v := (4095 : Int64)) C dX13_lines_312 qc_X13_305 ?_
      refine q_callV (pc := 315) (As := [q_L (0 : Int64), q_L (4095 : Int64)]) (st := []) (ps := q_psI) C B.2.1 hT q_hpI qm_X13_274 qv_X13_expectNumber dX13_lines_315 rfl rfl (Nat.le_of_ble_eq_true rfl) (q_flo B.2.2.1 B.2.2.2.1 (by decide) (by decide)) (K_X13_expectNumber l0 (0 : Int64) (4095 : Int64)) (M_X13_expectNumber (q_kap E) l0 (0 : Int64) (4095 : Int64)) (by exact fun v315 => (M_X13_lines_396 (q_kap E) r15 mr15 l0 l1)) h (fun v315 σ h => ?_)
      refine q_W.st (st' := [q_I v315]) rfl ?_
      refine q_pop (pc := 318) C dX13_lines_318 rfl ?_
      refine q_goto (pc := 319) (tgt := 396) C dX13_lines_319 (by decide) ?_
      exact S_X13_lines_396 B hT r15 hr15 mr15 l0 l1 _ h
  · refine q_new (pc := 277) C dX13_lines_277 qn_X13_209 (by exact fun a277 => (q_mo_rd fun v283 => (q_mo_gd (q_mo_ca (M_X12_init (q_kap E) (some a277) (1 : Int32) v283) fun _v286 => (q_mo_rd fun _ => q_mo_tr))))) B.2.1 h (fun a277 σ h => ?_)
    refine q_dup (pc := 280) C dX13_lines_280 rfl ?_
    refine q_iconst (pc := 281) (v := (1 : Int32)) C dX13_lines_281 (by decide) ?_
    refine q_aload_n (pc := 282) C 0 rfl dX13_lines_282 rfl ?_
    refine q_getI (pc := 283) C dX13_lines_283 ql_X13_206 h (fun v283 h => ?_)
    refine q_callI (pc := 286) (As := [q_I (1 : Int32), q_I v283]) (st := [q_R (some a277)]) C B.2.1 (fun _ => rfl) qm_X13_211 qI_X12_init dX13_lines_286 rfl rfl (Nat.le_of_ble_eq_true rfl) (q_flo B.2.2.1 B.2.2.2.1 (by decide) (by decide)) (K_X12_init (some a277) (1 : Int32) v283) (M_X12_init (q_kap E) (some a277) (1 : Int32) v283) (N_X12_init (q_kap E) (some a277) (1 : Int32) v283) (by exact fun _v286 => (q_mo_rd fun _ => q_mo_tr)) h (fun _v286 σ h => ?_)
    exact q_athrow (pc := 289) (ci := 15) C hT rfl dX13_lines_289 h
def F_X13_lines_142 (κ : Nat → Nat) (r15 : Option Nat → q_X Unit) (l0 : Option Nat) (l1 : Int32) : q_X Unit :=
  q_rd (q_gA l0 16 46) fun v143 => q_rd (q_gI l0 16 15) fun v148 => q_wr (q_sI 1 v143 l1 v148) (q_rd (q_gA l0 16 47) fun v153 => q_wr (q_sI 1 v153 l1 (0 : Int32)) (q_rd (q_gA l0 16 9) fun v160 => q_rd (q_gI l0 16 15) fun v164 => q_rd (q_lI 1 v160 v164) fun v167 => q_br (¬ v167 = (1 : Int32)) (q_rd (q_gI l0 16 15) fun v205 => q_rd (q_is l0 16) fun _ => q_ca (F_X13_isSign κ l0 v205 (46 : Int32)) fun v210 => q_br (v210 = 0) (F_X13_lines_396 κ r15 l0 l1) (q_rd (q_gI l0 16 15) fun v218 => q_wr (q_pF l0 16 15 (.int (v218 + (1 : Int32)))) (q_rd (q_gA l0 16 47) fun v227 => q_rd (q_gI l0 16 15) fun v233 => q_rd (q_is l0 16) fun _ => q_ca (F_X13_isWord κ l0 v233 (some (κ 3))) fun v238 => q_br (v238 = 0) (q_rd (q_gI l0 16 15) fun v250 => q_rd (q_is l0 16) fun _ => q_ca (F_X13_isWord κ l0 v250 (some (κ 13))) fun v256 => q_br (v256 = 0) (F_X13_lines_267 κ r15 l0 l1 v227 l1 (0 : Int32)) (F_X13_lines_267 κ r15 l0 l1 v227 l1 (3 : Int32))) (F_X13_lines_267 κ r15 l0 l1 v227 l1 (2 : Int32))))) (q_rd (q_gA l0 16 47) fun v173 => q_wr (q_sI 1 v173 l1 (1 : Int32)) (F_X13_lines_179 κ r15 q_fu l0 l1))))
theorem M_X13_lines_142 (κ : Nat → Nat) (r15 : Option Nat → q_X Unit) (mr15 : ∀ (l0 : Option Nat), q_mo (r15 l0)) (l0 : Option Nat) (l1 : Int32) : q_mo (F_X13_lines_142 κ r15 l0 l1) := (q_mo_rd fun v143 => (q_mo_rd fun v148 => (q_mo_wr (q_mo_rd fun v153 => (q_mo_wr (q_mo_rd fun v160 => (q_mo_rd fun v164 => (q_mo_rd fun v167 => (q_mo_br (q_mo_rd fun v205 => (q_mo_rd fun _ => q_mo_ca (M_X13_isSign κ l0 v205 (46 : Int32)) fun v210 => (q_mo_br (M_X13_lines_396 κ r15 mr15 l0 l1) (q_mo_rd fun v218 => (q_mo_wr (q_mo_rd fun v227 => (q_mo_rd fun v233 => (q_mo_rd fun _ => q_mo_ca (M_X13_isWord κ l0 v233 (some (κ 3))) fun v238 => (q_mo_br (q_mo_rd fun v250 => (q_mo_rd fun _ => q_mo_ca (M_X13_isWord κ l0 v250 (some (κ 13))) fun v256 => (q_mo_br (M_X13_lines_267 κ r15 mr15 l0 l1 v227 l1 (0 : Int32)) (M_X13_lines_267 κ r15 mr15 l0 l1 v227 l1 (3 : Int32))))) (M_X13_lines_267 κ r15 mr15 l0 l1 v227 l1 (2 : Int32))))))))))) (q_mo_rd fun v173 => (q_mo_wr (M_X13_lines_179 κ r15 mr15 q_fu l0 l1))))))))))))
set_option maxRecDepth 100000 in
set_option maxHeartbeats 4000000 in
theorem S_X13_lines_142 {E : q_Ev} {Γ : q_Gm} {w : (Unit ⊕ q_Exn) × q_St} (B : q_Bd E Γ cX13_lines yX13_lines.cls 2 6 138 (none) yX13_lines.name w) (hT : q_nT Γ) (r15 : Option Nat → q_X Unit) (hr15 : ∀ (l0 : Option Nat) (σ : q_St), r15 l0 σ = some w → q_W E Γ (q_QF E Γ q_oV w) 2 σ 15 [(0, q_R l0)] []) (mr15 : ∀ (l0 : Option Nat), q_mo (r15 l0)) (l0 : Option Nat) (l1 : Int32) (σ : q_St) (h : F_X13_lines_142 (q_kap E) r15 l0 l1 σ = some w) : q_W E Γ (q_QF E Γ q_oV w) 2 σ 142 [(0, q_R l0), (1, q_I l1)] [] := by
  have C := B.1
  unfold F_X13_lines_142 at h
  refine q_aload_n (pc := 142) C 0 rfl dX13_lines_142 rfl ?_
  refine q_getA (pc := 143) C dX13_lines_143 ql_X13_108 h (fun v143 h => ?_)
  refine q_iload_n (pc := 146) C 1 rfl dX13_lines_146 rfl ?_
  refine q_aload_n (pc := 147) C 0 rfl dX13_lines_147 rfl ?_
  refine q_getI (pc := 148) C dX13_lines_148 ql_X13_206 h (fun v148 h => ?_)
  refine q_stI (pc := 151) C dX13_lines_151 h (fun M151 h => ?_)
  refine q_aload_n (pc := 152) C 0 rfl dX13_lines_152 rfl ?_
  refine q_getA (pc := 153) C dX13_lines_153 ql_X13_111 h (fun v153 h => ?_)
  refine q_iload_n (pc := 156) C 1 rfl dX13_lines_156 rfl ?_
  refine q_iconst (pc := 157) (v := (0 : Int32)) C dX13_lines_157 (by decide) ?_
  refine q_stI (pc := 158) C dX13_lines_158 h (fun M158 h => ?_)
  refine q_aload_n (pc := 159) C 0 rfl dX13_lines_159 rfl ?_
  refine q_getA (pc := 160) C dX13_lines_160 ql_X13_26 h (fun v160 h => ?_)
  refine q_aload_n (pc := 163) C 0 rfl dX13_lines_163 rfl ?_
  refine q_getI (pc := 164) C dX13_lines_164 ql_X13_206 h (fun v164 h => ?_)
  refine q_ldI (pc := 167) C dX13_lines_167 (Or.inr (Or.inl ⟨rfl, rfl⟩)) h (fun v167 h => ?_)
  refine q_iconst (pc := 168) (v := (1 : Int32)) C dX13_lines_168 (by decide) ?_
  refine q_icmp_ne (pc := 169) (tgt := 203) C dX13_lines_169 (by decide) h (fun _ h => ?_) (fun _ h => ?_)
  · refine q_aload_n (pc := 203) C 0 rfl dX13_lines_203 rfl ?_
    refine q_aload_n (pc := 204) C 0 rfl dX13_lines_204 rfl ?_
    refine q_getI (pc := 205) C dX13_lines_205 ql_X13_206 h (fun v205 h => ?_)
    refine q_bipush (pc := 208) (v := (46 : Int32)) C dX13_lines_208 (by decide) ?_
    refine q_callV (pc := 210) (As := [q_I v205, q_I (46 : Int32)]) (st := []) (ps := q_psI) C B.2.1 hT q_hpI qm_X13_214 qv_X13_isSign dX13_lines_210 rfl rfl (Nat.le_of_ble_eq_true rfl) (q_flo B.2.2.1 B.2.2.2.1 (by decide) (by decide)) (K_X13_isSign l0 v205 (46 : Int32)) (M_X13_isSign (q_kap E) l0 v205 (46 : Int32)) (by exact fun v210 => (q_mo_br (M_X13_lines_396 (q_kap E) r15 mr15 l0 l1) (q_mo_rd fun v218 => (q_mo_wr (q_mo_rd fun v227 => (q_mo_rd fun v233 => (q_mo_rd fun _ => q_mo_ca (M_X13_isWord (q_kap E) l0 v233 (some ((q_kap E) 3))) fun v238 => (q_mo_br (q_mo_rd fun v250 => (q_mo_rd fun _ => q_mo_ca (M_X13_isWord (q_kap E) l0 v250 (some ((q_kap E) 13))) fun v256 => (q_mo_br (M_X13_lines_267 (q_kap E) r15 mr15 l0 l1 v227 l1 (0 : Int32)) (M_X13_lines_267 (q_kap E) r15 mr15 l0 l1 v227 l1 (3 : Int32))))) (M_X13_lines_267 (q_kap E) r15 mr15 l0 l1 v227 l1 (2 : Int32)))))))))) h (fun v210 σ h => ?_)
    refine q_W.st (st' := [q_I v210]) rfl ?_
    refine q_if_eq (pc := 213) (tgt := 396) C dX13_lines_213 (by decide) h (fun _ h => ?_) (fun _ h => ?_)
    · exact S_X13_lines_396 B hT r15 hr15 mr15 l0 l1 _ h
    · refine q_aload_n (pc := 216) C 0 rfl dX13_lines_216 rfl ?_
      refine q_dup (pc := 217) C dX13_lines_217 rfl ?_
      refine q_getI (pc := 218) C dX13_lines_218 ql_X13_206 h (fun v218 h => ?_)
      refine q_iconst (pc := 221) (v := (1 : Int32)) C dX13_lines_221 (by decide) ?_
      refine q_iadd (pc := 222) C dX13_lines_222 ?_
      refine q_putV (pc := 223) (v := q_I (v218 + (1 : Int32))) C dX13_lines_223 ql_X13_206 (Or.inl rfl) rfl rfl h (fun M223 h => ?_)
      refine q_aload_n (pc := 226) C 0 rfl dX13_lines_226 rfl ?_
      refine q_getA (pc := 227) C dX13_lines_227 ql_X13_111 h (fun v227 h => ?_)
      refine q_iload_n (pc := 230) C 1 rfl dX13_lines_230 rfl ?_
      refine q_aload_n (pc := 231) C 0 rfl dX13_lines_231 rfl ?_
      refine q_aload_n (pc := 232) C 0 rfl dX13_lines_232 rfl ?_
      refine q_getI (pc := 233) C dX13_lines_233 ql_X13_206 h (fun v233 h => ?_)
      refine q_ldcT (pc := 236) (k := 3) (tx := "word") C dX13_lines_236 (by decide +kernel) (by decide) ?_
      refine q_callV (pc := 238) (As := [q_I v233, q_R (some ((q_kap E) 3))]) (st := [q_I l1, q_R v227]) (ps := q_psI) C B.2.1 hT q_hpI qm_X13_233 qv_X13_isWord dX13_lines_238 rfl rfl (Nat.le_of_ble_eq_true rfl) (q_flo B.2.2.1 B.2.2.2.1 (by decide) (by decide)) (K_X13_isWord l0 v233 (some ((q_kap E) 3))) (M_X13_isWord (q_kap E) l0 v233 (some ((q_kap E) 3))) (by exact fun v238 => (q_mo_br (q_mo_rd fun v250 => (q_mo_rd fun _ => q_mo_ca (M_X13_isWord (q_kap E) l0 v250 (some ((q_kap E) 13))) fun v256 => (q_mo_br (M_X13_lines_267 (q_kap E) r15 mr15 l0 l1 v227 l1 (0 : Int32)) (M_X13_lines_267 (q_kap E) r15 mr15 l0 l1 v227 l1 (3 : Int32))))) (M_X13_lines_267 (q_kap E) r15 mr15 l0 l1 v227 l1 (2 : Int32)))) h (fun v238 σ h => ?_)
      refine q_W.st (st' := [q_I v238, q_I l1, q_R v227]) rfl ?_
      refine q_if_eq (pc := 241) (tgt := 248) C dX13_lines_241 (by decide) h (fun _ h => ?_) (fun _ h => ?_)
      · refine q_aload_n (pc := 248) C 0 rfl dX13_lines_248 rfl ?_
        refine q_aload_n (pc := 249) C 0 rfl dX13_lines_249 rfl ?_
        refine q_getI (pc := 250) C dX13_lines_250 ql_X13_206 h (fun v250 h => ?_)
        refine q_ldcTw (pc := 253) (k := 13) (tx := "at") C dX13_lines_253 (by decide +kernel) (by decide) ?_
        refine q_callV (pc := 256) (As := [q_I v250, q_R (some ((q_kap E) 13))]) (st := [q_I l1, q_R v227]) (ps := q_psI) C B.2.1 hT q_hpI qm_X13_233 qv_X13_isWord dX13_lines_256 rfl rfl (Nat.le_of_ble_eq_true rfl) (q_flo B.2.2.1 B.2.2.2.1 (by decide) (by decide)) (K_X13_isWord l0 v250 (some ((q_kap E) 13))) (M_X13_isWord (q_kap E) l0 v250 (some ((q_kap E) 13))) (by exact fun v256 => (q_mo_br (M_X13_lines_267 (q_kap E) r15 mr15 l0 l1 v227 l1 (0 : Int32)) (M_X13_lines_267 (q_kap E) r15 mr15 l0 l1 v227 l1 (3 : Int32)))) h (fun v256 σ h => ?_)
        refine q_W.st (st' := [q_I v256, q_I l1, q_R v227]) rfl ?_
        refine q_if_eq (pc := 259) (tgt := 266) C dX13_lines_259 (by decide) h (fun _ h => ?_) (fun _ h => ?_)
        · refine q_iconst (pc := 266) (v := (0 : Int32)) C dX13_lines_266 (by decide) ?_
          exact S_X13_lines_267 B hT r15 hr15 mr15 l0 l1 v227 l1 (0 : Int32) _ h
        · refine q_iconst (pc := 262) (v := (3 : Int32)) C dX13_lines_262 (by decide) ?_
          refine q_goto (pc := 263) (tgt := 267) C dX13_lines_263 (by decide) ?_
          exact S_X13_lines_267 B hT r15 hr15 mr15 l0 l1 v227 l1 (3 : Int32) _ h
      · refine q_iconst (pc := 244) (v := (2 : Int32)) C dX13_lines_244 (by decide) ?_
        refine q_goto (pc := 245) (tgt := 267) C dX13_lines_245 (by decide) ?_
        exact S_X13_lines_267 B hT r15 hr15 mr15 l0 l1 v227 l1 (2 : Int32) _ h
  · refine q_aload_n (pc := 172) C 0 rfl dX13_lines_172 rfl ?_
    refine q_getA (pc := 173) C dX13_lines_173 ql_X13_111 h (fun v173 h => ?_)
    refine q_iload_n (pc := 176) C 1 rfl dX13_lines_176 rfl ?_
    refine q_iconst (pc := 177) (v := (1 : Int32)) C dX13_lines_177 (by decide) ?_
    refine q_stI (pc := 178) C dX13_lines_178 h (fun M178 h => ?_)
    exact S_X13_lines_179 B hT r15 hr15 mr15 q_fu l0 l1 _ h
def F_X13_lines_15B (κ : Nat → Nat) (r15 : Option Nat → q_X Unit) (l0 : Option Nat) : q_X Unit :=
  q_rd (q_gI l0 16 52) fun v16 => q_rd (q_gI l0 16 52) fun v22 => q_wr (q_pF l0 16 52 (.int (v22 + (1 : Int32)))) (q_rd (q_gA l0 16 45) fun v31 => q_rd (q_gI l0 16 15) fun v36 => q_wr (q_sI 1 v31 v16 v36) (q_rd (q_gA l0 16 50) fun v41 => q_wr (q_sI 1 v41 v16 (0 : Int32)) (q_rd (q_gA l0 16 9) fun v48 => q_rd (q_gI l0 16 15) fun v52 => q_rd (q_lI 1 v48 v52) fun v55 => q_br (¬ v55 = (1 : Int32)) (F_X13_lines_142 κ r15 l0 v16) (q_rd (q_gI l0 16 15) fun v62 => q_rd (q_is l0 16) fun _ => q_ca (F_X13_isSign κ l0 (v62 + (1 : Int32)) (58 : Int32)) fun v69 => q_br (v69 = 0) (F_X13_lines_142 κ r15 l0 v16) (q_rd (q_gI l0 16 15) fun v77 => q_rd (q_is l0 16) fun _ => q_ca (F_X13_labelAt κ l0 v77) fun v80 => q_br (v80 < 0) (q_rd (q_gA l0 16 53) fun v100 => q_rd (q_gI l0 16 43) fun v104 => q_rd (q_gI l0 16 15) fun v108 => q_wr (q_sI 1 v100 v104 v108) (q_rd (q_gA l0 16 54) fun v113 => q_rd (q_gI l0 16 43) fun v117 => q_wr (q_sI 1 v113 v117 v16) (q_rd (q_gI l0 16 43) fun v124 => q_wr (q_pF l0 16 43 (.int (v124 + (1 : Int32)))) (q_rd (q_gI l0 16 15) fun v134 => q_wr (q_pF l0 16 15 (.int (v134 + (2 : Int32)))) (F_X13_lines_142 κ r15 l0 v16))))) (q_mk (.inr (.inl (15, [.null, .null, .null, .null, .null, .int 0, .int 0, .int 0]))) 8 fun a86 => q_rd (q_gI l0 16 15) fun v92 => q_gd (¬ (some a86) = none) (q_ca (F_X12_init κ (some a86) (2 : Int32) v92) fun _v95 => q_rd (q_is (some a86) 15) fun _ => q_tr RX12 (some a86))))))))
theorem M_X13_lines_15B (κ : Nat → Nat) (r15 : Option Nat → q_X Unit) (mr15 : ∀ (l0 : Option Nat), q_mo (r15 l0)) (l0 : Option Nat) : q_mo (F_X13_lines_15B κ r15 l0) := (q_mo_rd fun v16 => (q_mo_rd fun v22 => (q_mo_wr (q_mo_rd fun v31 => (q_mo_rd fun v36 => (q_mo_wr (q_mo_rd fun v41 => (q_mo_wr (q_mo_rd fun v48 => (q_mo_rd fun v52 => (q_mo_rd fun v55 => (q_mo_br (M_X13_lines_142 κ r15 mr15 l0 v16) (q_mo_rd fun v62 => (q_mo_rd fun _ => q_mo_ca (M_X13_isSign κ l0 (v62 + (1 : Int32)) (58 : Int32)) fun v69 => (q_mo_br (M_X13_lines_142 κ r15 mr15 l0 v16) (q_mo_rd fun v77 => (q_mo_rd fun _ => q_mo_ca (M_X13_labelAt κ l0 v77) fun v80 => (q_mo_br (q_mo_rd fun v100 => (q_mo_rd fun v104 => (q_mo_rd fun v108 => (q_mo_wr (q_mo_rd fun v113 => (q_mo_rd fun v117 => (q_mo_wr (q_mo_rd fun v124 => (q_mo_wr (q_mo_rd fun v134 => (q_mo_wr (M_X13_lines_142 κ r15 mr15 l0 v16)))))))))))) (q_mo_mk fun a86 => (q_mo_rd fun v92 => (q_mo_gd (q_mo_ca (M_X12_init κ (some a86) (2 : Int32) v92) fun _v95 => (q_mo_rd fun _ => q_mo_tr)))))))))))))))))))))))
set_option maxRecDepth 100000 in
set_option maxHeartbeats 4000000 in
theorem S_X13_lines_15B {E : q_Ev} {Γ : q_Gm} {w : (Unit ⊕ q_Exn) × q_St} (B : q_Bd E Γ cX13_lines yX13_lines.cls 2 6 138 (none) yX13_lines.name w) (hT : q_nT Γ) (r15 : Option Nat → q_X Unit) (hr15 : ∀ (l0 : Option Nat) (σ : q_St), r15 l0 σ = some w → q_W E Γ (q_QF E Γ q_oV w) 2 σ 15 [(0, q_R l0)] []) (mr15 : ∀ (l0 : Option Nat), q_mo (r15 l0)) (l0 : Option Nat) (σ : q_St) (h : F_X13_lines_15B (q_kap E) r15 l0 σ = some w) : q_W E Γ (q_QF E Γ q_oV w) 2 σ 15 [(0, q_R l0)] [] := by
  have C := B.1
  unfold F_X13_lines_15B at h
  refine q_aload_n (pc := 15) C 0 rfl dX13_lines_15 rfl ?_
  refine q_getI (pc := 16) C dX13_lines_16 ql_X13_295 h (fun v16 h => ?_)
  refine q_istore_n (pc := 19) (l' := [(1, q_I v16), (0, q_R l0)]) C dX13_lines_19 rfl (by decide) rfl ?_
  refine q_aload_n (pc := 20) C 1 rfl dX13_lines_20 rfl ?_
  refine q_dup (pc := 21) C dX13_lines_21 rfl ?_
  refine q_getI (pc := 22) C dX13_lines_22 ql_X13_295 h (fun v22 h => ?_)
  refine q_iconst (pc := 25) (v := (1 : Int32)) C dX13_lines_25 (by decide) ?_
  refine q_iadd (pc := 26) C dX13_lines_26 ?_
  refine q_putV (pc := 27) (v := q_I (v22 + (1 : Int32))) C dX13_lines_27 ql_X13_295 (Or.inl rfl) rfl rfl h (fun M27 h => ?_)
  refine q_aload_n (pc := 30) C 1 rfl dX13_lines_30 rfl ?_
  refine q_getA (pc := 31) C dX13_lines_31 ql_X13_105 h (fun v31 h => ?_)
  refine q_iload_n (pc := 34) C 0 rfl dX13_lines_34 rfl ?_
  refine q_aload_n (pc := 35) C 1 rfl dX13_lines_35 rfl ?_
  refine q_getI (pc := 36) C dX13_lines_36 ql_X13_206 h (fun v36 h => ?_)
  refine q_stI (pc := 39) C dX13_lines_39 h (fun M39 h => ?_)
  refine q_aload_n (pc := 40) C 1 rfl dX13_lines_40 rfl ?_
  refine q_getA (pc := 41) C dX13_lines_41 ql_X13_120 h (fun v41 h => ?_)
  refine q_iload_n (pc := 44) C 0 rfl dX13_lines_44 rfl ?_
  refine q_iconst (pc := 45) (v := (0 : Int32)) C dX13_lines_45 (by decide) ?_
  refine q_stI (pc := 46) C dX13_lines_46 h (fun M46 h => ?_)
  refine q_aload_n (pc := 47) C 1 rfl dX13_lines_47 rfl ?_
  refine q_getA (pc := 48) C dX13_lines_48 ql_X13_26 h (fun v48 h => ?_)
  refine q_aload_n (pc := 51) C 1 rfl dX13_lines_51 rfl ?_
  refine q_getI (pc := 52) C dX13_lines_52 ql_X13_206 h (fun v52 h => ?_)
  refine q_ldI (pc := 55) C dX13_lines_55 (Or.inr (Or.inl ⟨rfl, rfl⟩)) h (fun v55 h => ?_)
  refine q_iconst (pc := 56) (v := (1 : Int32)) C dX13_lines_56 (by decide) ?_
  refine q_icmp_ne (pc := 57) (tgt := 142) C dX13_lines_57 (by decide) h (fun _ h => ?_) (fun _ h => ?_)
  · refine q_W.sub [1, 0] rfl ?_
    exact S_X13_lines_142 B hT r15 hr15 mr15 l0 v16 _ h
  · refine q_aload_n (pc := 60) C 1 rfl dX13_lines_60 rfl ?_
    refine q_aload_n (pc := 61) C 1 rfl dX13_lines_61 rfl ?_
    refine q_getI (pc := 62) C dX13_lines_62 ql_X13_206 h (fun v62 h => ?_)
    refine q_iconst (pc := 65) (v := (1 : Int32)) C dX13_lines_65 (by decide) ?_
    refine q_iadd (pc := 66) C dX13_lines_66 ?_
    refine q_bipush (pc := 67) (v := (58 : Int32)) C dX13_lines_67 (by decide) ?_
    refine q_callV (pc := 69) (As := [q_I (v62 + (1 : Int32)), q_I (58 : Int32)]) (st := []) (ps := q_psI) C B.2.1 hT q_hpI qm_X13_214 qv_X13_isSign dX13_lines_69 rfl rfl (Nat.le_of_ble_eq_true rfl) (q_flo B.2.2.1 B.2.2.2.1 (by decide) (by decide)) (K_X13_isSign l0 (v62 + (1 : Int32)) (58 : Int32)) (M_X13_isSign (q_kap E) l0 (v62 + (1 : Int32)) (58 : Int32)) (by exact fun v69 => (q_mo_br (M_X13_lines_142 (q_kap E) r15 mr15 l0 v16) (q_mo_rd fun v77 => (q_mo_rd fun _ => q_mo_ca (M_X13_labelAt (q_kap E) l0 v77) fun v80 => (q_mo_br (q_mo_rd fun v100 => (q_mo_rd fun v104 => (q_mo_rd fun v108 => (q_mo_wr (q_mo_rd fun v113 => (q_mo_rd fun v117 => (q_mo_wr (q_mo_rd fun v124 => (q_mo_wr (q_mo_rd fun v134 => (q_mo_wr (M_X13_lines_142 (q_kap E) r15 mr15 l0 v16)))))))))))) (q_mo_mk fun a86 => (q_mo_rd fun v92 => (q_mo_gd (q_mo_ca (M_X12_init (q_kap E) (some a86) (2 : Int32) v92) fun _v95 => (q_mo_rd fun _ => q_mo_tr)))))))))) h (fun v69 σ h => ?_)
    refine q_W.st (st' := [q_I v69]) rfl ?_
    refine q_if_eq (pc := 72) (tgt := 142) C dX13_lines_72 (by decide) h (fun _ h => ?_) (fun _ h => ?_)
    · refine q_W.sub [1, 0] rfl ?_
      exact S_X13_lines_142 B hT r15 hr15 mr15 l0 v16 _ h
    · refine q_aload_n (pc := 75) C 1 rfl dX13_lines_75 rfl ?_
      refine q_aload_n (pc := 76) C 1 rfl dX13_lines_76 rfl ?_
      refine q_getI (pc := 77) C dX13_lines_77 ql_X13_206 h (fun v77 h => ?_)
      refine q_callV (pc := 80) (As := [q_I v77]) (st := []) (ps := q_psI) C B.2.1 hT q_hpI qm_X13_298 qv_X13_labelAt dX13_lines_80 rfl rfl (Nat.le_of_ble_eq_true rfl) (q_flo B.2.2.1 B.2.2.2.1 (by decide) (by decide)) (K_X13_labelAt l0 v77) (M_X13_labelAt (q_kap E) l0 v77) (by exact fun v80 => (q_mo_br (q_mo_rd fun v100 => (q_mo_rd fun v104 => (q_mo_rd fun v108 => (q_mo_wr (q_mo_rd fun v113 => (q_mo_rd fun v117 => (q_mo_wr (q_mo_rd fun v124 => (q_mo_wr (q_mo_rd fun v134 => (q_mo_wr (M_X13_lines_142 (q_kap E) r15 mr15 l0 v16)))))))))))) (q_mo_mk fun a86 => (q_mo_rd fun v92 => (q_mo_gd (q_mo_ca (M_X12_init (q_kap E) (some a86) (2 : Int32) v92) fun _v95 => (q_mo_rd fun _ => q_mo_tr))))))) h (fun v80 σ h => ?_)
      refine q_W.st (st' := [q_I v80]) rfl ?_
      refine q_if_lt (pc := 83) (tgt := 99) C dX13_lines_83 (by decide) h (fun _ h => ?_) (fun _ h => ?_)
      · refine q_aload_n (pc := 99) C 1 rfl dX13_lines_99 rfl ?_
        refine q_getA (pc := 100) C dX13_lines_100 ql_X13_126 h (fun v100 h => ?_)
        refine q_aload_n (pc := 103) C 1 rfl dX13_lines_103 rfl ?_
        refine q_getI (pc := 104) C dX13_lines_104 ql_X13_286 h (fun v104 h => ?_)
        refine q_aload_n (pc := 107) C 1 rfl dX13_lines_107 rfl ?_
        refine q_getI (pc := 108) C dX13_lines_108 ql_X13_206 h (fun v108 h => ?_)
        refine q_stI (pc := 111) C dX13_lines_111 h (fun M111 h => ?_)
        refine q_aload_n (pc := 112) C 1 rfl dX13_lines_112 rfl ?_
        refine q_getA (pc := 113) C dX13_lines_113 ql_X13_129 h (fun v113 h => ?_)
        refine q_aload_n (pc := 116) C 1 rfl dX13_lines_116 rfl ?_
        refine q_getI (pc := 117) C dX13_lines_117 ql_X13_286 h (fun v117 h => ?_)
        refine q_iload_n (pc := 120) C 0 rfl dX13_lines_120 rfl ?_
        refine q_stI (pc := 121) C dX13_lines_121 h (fun M121 h => ?_)
        refine q_aload_n (pc := 122) C 1 rfl dX13_lines_122 rfl ?_
        refine q_dup (pc := 123) C dX13_lines_123 rfl ?_
        refine q_getI (pc := 124) C dX13_lines_124 ql_X13_286 h (fun v124 h => ?_)
        refine q_iconst (pc := 127) (v := (1 : Int32)) C dX13_lines_127 (by decide) ?_
        refine q_iadd (pc := 128) C dX13_lines_128 ?_
        refine q_putV (pc := 129) (v := q_I (v124 + (1 : Int32))) C dX13_lines_129 ql_X13_286 (Or.inl rfl) rfl rfl h (fun M129 h => ?_)
        refine q_aload_n (pc := 132) C 1 rfl dX13_lines_132 rfl ?_
        refine q_dup (pc := 133) C dX13_lines_133 rfl ?_
        refine q_getI (pc := 134) C dX13_lines_134 ql_X13_206 h (fun v134 h => ?_)
        refine q_iconst (pc := 137) (v := (2 : Int32)) C dX13_lines_137 (by decide) ?_
        refine q_iadd (pc := 138) C dX13_lines_138 ?_
        refine q_putV (pc := 139) (v := q_I (v134 + (2 : Int32))) C dX13_lines_139 ql_X13_206 (Or.inl rfl) rfl rfl h (fun M139 h => ?_)
        refine q_W.sub [1, 0] rfl ?_
        exact S_X13_lines_142 B hT r15 hr15 mr15 l0 v16 _ h
      · refine q_new (pc := 86) C dX13_lines_86 qn_X13_209 (by exact fun a86 => (q_mo_rd fun v92 => (q_mo_gd (q_mo_ca (M_X12_init (q_kap E) (some a86) (2 : Int32) v92) fun _v95 => (q_mo_rd fun _ => q_mo_tr))))) B.2.1 h (fun a86 σ h => ?_)
        refine q_dup (pc := 89) C dX13_lines_89 rfl ?_
        refine q_iconst (pc := 90) (v := (2 : Int32)) C dX13_lines_90 (by decide) ?_
        refine q_aload_n (pc := 91) C 1 rfl dX13_lines_91 rfl ?_
        refine q_getI (pc := 92) C dX13_lines_92 ql_X13_206 h (fun v92 h => ?_)
        refine q_callI (pc := 95) (As := [q_I (2 : Int32), q_I v92]) (st := [q_R (some a86)]) C B.2.1 (fun _ => rfl) qm_X13_211 qI_X12_init dX13_lines_95 rfl rfl (Nat.le_of_ble_eq_true rfl) (q_flo B.2.2.1 B.2.2.2.1 (by decide) (by decide)) (K_X12_init (some a86) (2 : Int32) v92) (M_X12_init (q_kap E) (some a86) (2 : Int32) v92) (N_X12_init (q_kap E) (some a86) (2 : Int32) v92) (by exact fun _v95 => (q_mo_rd fun _ => q_mo_tr)) h (fun _v95 σ h => ?_)
        exact q_athrow (pc := 98) (ci := 15) C hT rfl dX13_lines_98 h
def F_X13_lines_15 (κ : Nat → Nat) : Nat → Option Nat → q_X Unit
  | 0, _ => q_no
  | n + 1, l0 => F_X13_lines_15B κ (F_X13_lines_15 κ n) l0
theorem M_X13_lines_15 (κ : Nat → Nat) : ∀ (n : Nat) (l0 : Option Nat), q_mo (F_X13_lines_15 κ n l0)
  | 0, _ => q_mo_no
  | n + 1, l0 => M_X13_lines_15B κ (F_X13_lines_15 κ n) (M_X13_lines_15 κ n) l0
theorem S_X13_lines_15 {E : q_Ev} {Γ : q_Gm} {w : (Unit ⊕ q_Exn) × q_St} (B : q_Bd E Γ cX13_lines yX13_lines.cls 2 6 138 (none) yX13_lines.name w) (hT : q_nT Γ) : ∀ (n : Nat) (l0 : Option Nat) (σ : q_St), F_X13_lines_15 (q_kap E) n l0 σ = some w → q_W E Γ (q_QF E Γ q_oV w) 2 σ 15 [(0, q_R l0)] []
  | 0, _, _, h => by cases h
  | n + 1, l0, σ, h => S_X13_lines_15B B hT (F_X13_lines_15 (q_kap E) n) (S_X13_lines_15 B hT n) (M_X13_lines_15 (q_kap E) n) l0 σ h
def F_X13_lines (κ : Nat → Nat) (l0 : Option Nat) : q_X Unit :=
  q_wr (q_pF l0 16 15 (.int (0 : Int32))) (q_wr (q_pF l0 16 52 (.int (0 : Int32))) (q_wr (q_pF l0 16 43 (.int (0 : Int32))) (F_X13_lines_15 κ q_fu l0)))
theorem M_X13_lines (κ : Nat → Nat) (l0 : Option Nat) : q_mo (F_X13_lines κ l0) := (q_mo_wr (q_mo_wr (q_mo_wr (M_X13_lines_15 κ q_fu l0))))
set_option maxRecDepth 100000 in
set_option maxHeartbeats 4000000 in
theorem K_X13_lines {E : q_Ev} (l0 : Option Nat) : q_Ct E yX13_lines (.code yX13_lines cX13_lines 2 (none)) 6 138 [q_R l0] q_oV (F_X13_lines (q_kap E) l0) := by
  refine q_enter (by decide) (Nat.le_of_ble_eq_true rfl) (fun Γ σ w h B hT => ?_)
  have C := B.1
  unfold F_X13_lines at h
  refine q_aload_n (pc := 0) C 0 rfl dX13_lines_0 rfl ?_
  refine q_iconst (pc := 1) (v := (0 : Int32)) C dX13_lines_1 (by decide) ?_
  refine q_putV (pc := 2) (v := q_I (0 : Int32)) C dX13_lines_2 ql_X13_206 (Or.inl rfl) rfl rfl h (fun M2 h => ?_)
  refine q_aload_n (pc := 5) C 0 rfl dX13_lines_5 rfl ?_
  refine q_iconst (pc := 6) (v := (0 : Int32)) C dX13_lines_6 (by decide) ?_
  refine q_putV (pc := 7) (v := q_I (0 : Int32)) C dX13_lines_7 ql_X13_295 (Or.inl rfl) rfl rfl h (fun M7 h => ?_)
  refine q_aload_n (pc := 10) C 0 rfl dX13_lines_10 rfl ?_
  refine q_iconst (pc := 11) (v := (0 : Int32)) C dX13_lines_11 (by decide) ?_
  refine q_putV (pc := 12) (v := q_I (0 : Int32)) C dX13_lines_12 ql_X13_286 (Or.inl rfl) rfl rfl h (fun M12 h => ?_)
  exact S_X13_lines_15 B hT q_fu l0 _ h
def F_X13_operand_70 (κ : Nat → Nat) : q_X Int32 :=
  q_rt (-1 : Int32)
theorem M_X13_operand_70 (κ : Nat → Nat) : q_mo (F_X13_operand_70 κ) := q_mo_rt
theorem N_X13_operand_70 (κ : Nat → Nat) : q_ni (F_X13_operand_70 κ) := q_ni_rt
set_option maxRecDepth 100000 in
set_option maxHeartbeats 4000000 in
theorem S_X13_operand_70 {E : q_Ev} {Γ : q_Gm} {w : (Int32 ⊕ q_Exn) × q_St} (B : q_Bd E Γ cX13_operand yX13_operand.cls 8 2 45 (some .int) yX13_operand.name w) (hT : q_nT Γ) (σ : q_St) (h : F_X13_operand_70 (q_kap E) σ = some w) : q_W E Γ (q_QF E Γ q_oI w) 8 σ 70 [] [] := by
  have C := B.1
  unfold F_X13_operand_70 at h
  refine q_iconst (pc := 70) (v := (-1 : Int32)) C dX13_operand_70 (by decide) ?_
  exact q_iret C B.2.2.2.2.1 dX13_operand_71 h
def F_X13_operand_221 (κ : Nat → Nat) : q_X Int32 :=
  q_rt (-1 : Int32)
theorem M_X13_operand_221 (κ : Nat → Nat) : q_mo (F_X13_operand_221 κ) := q_mo_rt
theorem N_X13_operand_221 (κ : Nat → Nat) : q_ni (F_X13_operand_221 κ) := q_ni_rt
set_option maxRecDepth 100000 in
set_option maxHeartbeats 4000000 in
theorem S_X13_operand_221 {E : q_Ev} {Γ : q_Gm} {w : (Int32 ⊕ q_Exn) × q_St} (B : q_Bd E Γ cX13_operand yX13_operand.cls 8 2 45 (some .int) yX13_operand.name w) (hT : q_nT Γ) (σ : q_St) (h : F_X13_operand_221 (q_kap E) σ = some w) : q_W E Γ (q_QF E Γ q_oI w) 8 σ 221 [] [] := by
  have C := B.1
  unfold F_X13_operand_221 at h
  refine q_iconst (pc := 221) (v := (-1 : Int32)) C dX13_operand_221 (by decide) ?_
  exact q_iret C B.2.2.2.2.1 dX13_operand_222 h
def F_X13_operand_223 (κ : Nat → Nat) (l0 : Option Nat) (l1 : Int32) (l3 : Int32) (l6 : Int32) : q_X Int32 :=
  q_rd (q_gA l0 16 56) fun v224 => q_wr (q_sL v224 l3 l6.toInt64) (q_rt (l1 + (1 : Int32)))
theorem M_X13_operand_223 (κ : Nat → Nat) (l0 : Option Nat) (l1 : Int32) (l3 : Int32) (l6 : Int32) : q_mo (F_X13_operand_223 κ l0 l1 l3 l6) := (q_mo_rd fun v224 => (q_mo_wr q_mo_rt))
theorem N_X13_operand_223 (κ : Nat → Nat) (l0 : Option Nat) (l1 : Int32) (l3 : Int32) (l6 : Int32) : q_ni (F_X13_operand_223 κ l0 l1 l3 l6) := (q_ni_rd fun v224 => (q_ni_wr q_ni_rt))
set_option maxRecDepth 100000 in
set_option maxHeartbeats 4000000 in
theorem S_X13_operand_223 {E : q_Ev} {Γ : q_Gm} {w : (Int32 ⊕ q_Exn) × q_St} (B : q_Bd E Γ cX13_operand yX13_operand.cls 8 2 45 (some .int) yX13_operand.name w) (hT : q_nT Γ) (l0 : Option Nat) (l1 : Int32) (l3 : Int32) (l6 : Int32) (σ : q_St) (h : F_X13_operand_223 (q_kap E) l0 l1 l3 l6 σ = some w) : q_W E Γ (q_QF E Γ q_oI w) 8 σ 223 [(0, q_R l0), (1, q_I l1), (3, q_I l3), (6, q_I l6)] [] := by
  have C := B.1
  unfold F_X13_operand_223 at h
  refine q_aload_n (pc := 223) C 0 rfl dX13_operand_223 rfl ?_
  refine q_getA (pc := 224) C dX13_operand_224 ql_X13_135 h (fun v224 h => ?_)
  refine q_iload_n (pc := 227) C 2 rfl dX13_operand_227 rfl ?_
  refine q_iload (pc := 228) C 3 rfl dX13_operand_228 ?_
  refine q_i2l (pc := 230) C dX13_operand_230 ?_
  refine q_stL (pc := 231) C dX13_operand_231 h (fun M231 h => ?_)
  refine q_iload_n (pc := 232) C 1 rfl dX13_operand_232 rfl ?_
  refine q_iconst (pc := 233) (v := (1 : Int32)) C dX13_operand_233 (by decide) ?_
  refine q_iadd (pc := 234) C dX13_operand_234 ?_
  exact q_iret C B.2.2.2.2.1 dX13_operand_235 h
def F_X13_operand_126B (κ : Nat → Nat) (r126 : Option Nat → Int32 → Int32 → Int32 → Int32 → Int32 → Int32 → q_X Int32) (l0 : Option Nat) (l1 : Int32) (l2 : Int32) (l3 : Int32) (l5 : Int32) (l6 : Int32) (l7 : Int32) : q_X Int32 :=
  q_rd (q_gA l0 16 11) fun v129 => q_rd (q_lI 1 v129 l1) fun v133 => q_br (v133 ≤ l7) (q_rd (q_gA l0 16 27) fun v193 => q_rd (q_lI 1 v193 l2) fun v197 => q_br (v197 ≤ l6) (F_X13_operand_221 κ) (q_rd (q_gA l0 16 11) fun v202 => q_rd (q_lI 1 v202 l1) fun v206 => q_br (¬ v206 = (l5 + (2 : Int32))) (F_X13_operand_223 κ l0 l1 l3 l6) (q_br ((10 : Int32) ≤ l6) (F_X13_operand_223 κ l0 l1 l3 l6) (F_X13_operand_221 κ)))) (q_rd (q_gA l0 16 1) fun v138 => q_rd (q_gA l0 16 10) fun v142 => q_rd (q_lI 1 v142 l1) fun v146 => q_rd (q_lI 0 v138 (v146 + l7)) fun v150 => q_ca (F_X13_isDigit κ v150) fun v151 => q_br (¬ v151 = 0) (q_rd (q_gA l0 16 1) fun v165 => q_rd (q_gA l0 16 10) fun v169 => q_rd (q_lI 1 v169 l1) fun v173 => q_rd (q_lI 0 v165 (v173 + l7)) fun v177 => r126 l0 l1 l2 l3 l5 ((((10 : Int32) * l6) + v177) - (48 : Int32)) (l7 + (1 : Int32))) (q_rt (-1 : Int32)))
theorem M_X13_operand_126B (κ : Nat → Nat) (r126 : Option Nat → Int32 → Int32 → Int32 → Int32 → Int32 → Int32 → q_X Int32) (mr126 : ∀ (l0 : Option Nat) (l1 : Int32) (l2 : Int32) (l3 : Int32) (l5 : Int32) (l6 : Int32) (l7 : Int32), q_mo (r126 l0 l1 l2 l3 l5 l6 l7)) (l0 : Option Nat) (l1 : Int32) (l2 : Int32) (l3 : Int32) (l5 : Int32) (l6 : Int32) (l7 : Int32) : q_mo (F_X13_operand_126B κ r126 l0 l1 l2 l3 l5 l6 l7) := (q_mo_rd fun v129 => (q_mo_rd fun v133 => (q_mo_br (q_mo_rd fun v193 => (q_mo_rd fun v197 => (q_mo_br (M_X13_operand_221 κ) (q_mo_rd fun v202 => (q_mo_rd fun v206 => (q_mo_br (M_X13_operand_223 κ l0 l1 l3 l6) (q_mo_br (M_X13_operand_223 κ l0 l1 l3 l6) (M_X13_operand_221 κ)))))))) (q_mo_rd fun v138 => (q_mo_rd fun v142 => (q_mo_rd fun v146 => (q_mo_rd fun v150 => (q_mo_ca (M_X13_isDigit κ v150) fun v151 => (q_mo_br (q_mo_rd fun v165 => (q_mo_rd fun v169 => (q_mo_rd fun v173 => (q_mo_rd fun v177 => (mr126 l0 l1 l2 l3 l5 ((((10 : Int32) * l6) + v177) - (48 : Int32)) (l7 + (1 : Int32))))))) q_mo_rt)))))))))
set_option maxRecDepth 100000 in
set_option maxHeartbeats 4000000 in
theorem S_X13_operand_126B {E : q_Ev} {Γ : q_Gm} {w : (Int32 ⊕ q_Exn) × q_St} (B : q_Bd E Γ cX13_operand yX13_operand.cls 8 2 45 (some .int) yX13_operand.name w) (hT : q_nT Γ) (r126 : Option Nat → Int32 → Int32 → Int32 → Int32 → Int32 → Int32 → q_X Int32) (hr126 : ∀ (l0 : Option Nat) (l1 : Int32) (l2 : Int32) (l3 : Int32) (l5 : Int32) (l6 : Int32) (l7 : Int32) (σ : q_St), r126 l0 l1 l2 l3 l5 l6 l7 σ = some w → q_W E Γ (q_QF E Γ q_oI w) 8 σ 126 [(0, q_R l0), (1, q_I l1), (2, q_I l2), (3, q_I l3), (5, q_I l5), (6, q_I l6), (7, q_I l7)] []) (mr126 : ∀ (l0 : Option Nat) (l1 : Int32) (l2 : Int32) (l3 : Int32) (l5 : Int32) (l6 : Int32) (l7 : Int32), q_mo (r126 l0 l1 l2 l3 l5 l6 l7)) (l0 : Option Nat) (l1 : Int32) (l2 : Int32) (l3 : Int32) (l5 : Int32) (l6 : Int32) (l7 : Int32) (σ : q_St) (h : F_X13_operand_126B (q_kap E) r126 l0 l1 l2 l3 l5 l6 l7 σ = some w) : q_W E Γ (q_QF E Γ q_oI w) 8 σ 126 [(0, q_R l0), (1, q_I l1), (2, q_I l2), (3, q_I l3), (5, q_I l5), (6, q_I l6), (7, q_I l7)] [] := by
  have C := B.1
  unfold F_X13_operand_126B at h
  refine q_iload (pc := 126) C 6 rfl dX13_operand_126 ?_
  refine q_aload_n (pc := 128) C 0 rfl dX13_operand_128 rfl ?_
  refine q_getA (pc := 129) C dX13_operand_129 ql_X13_33 h (fun v129 h => ?_)
  refine q_iload_n (pc := 132) C 1 rfl dX13_operand_132 rfl ?_
  refine q_ldI (pc := 133) C dX13_operand_133 (Or.inr (Or.inl ⟨rfl, rfl⟩)) h (fun v133 h => ?_)
  refine q_icmp_ge (pc := 134) (tgt := 190) C dX13_operand_134 (by decide) h (fun _ h => ?_) (fun _ h => ?_)
  · refine q_iload (pc := 190) C 5 rfl dX13_operand_190 ?_
    refine q_aload_n (pc := 192) C 0 rfl dX13_operand_192 rfl ?_
    refine q_getA (pc := 193) C dX13_operand_193 ql_X13_59 h (fun v193 h => ?_)
    refine q_iload_n (pc := 196) C 2 rfl dX13_operand_196 rfl ?_
    refine q_ldI (pc := 197) C dX13_operand_197 (Or.inr (Or.inl ⟨rfl, rfl⟩)) h (fun v197 h => ?_)
    refine q_icmp_ge (pc := 198) (tgt := 221) C dX13_operand_198 (by decide) h (fun _ h => ?_) (fun _ h => ?_)
    · refine q_W.sub [] rfl ?_
      exact S_X13_operand_221 B hT _ h
    · refine q_aload_n (pc := 201) C 0 rfl dX13_operand_201 rfl ?_
      refine q_getA (pc := 202) C dX13_operand_202 ql_X13_33 h (fun v202 h => ?_)
      refine q_iload_n (pc := 205) C 1 rfl dX13_operand_205 rfl ?_
      refine q_ldI (pc := 206) C dX13_operand_206 (Or.inr (Or.inl ⟨rfl, rfl⟩)) h (fun v206 h => ?_)
      refine q_iload (pc := 207) C 4 rfl dX13_operand_207 ?_
      refine q_iconst (pc := 209) (v := (2 : Int32)) C dX13_operand_209 (by decide) ?_
      refine q_iadd (pc := 210) C dX13_operand_210 ?_
      refine q_icmp_ne (pc := 211) (tgt := 223) C dX13_operand_211 (by decide) h (fun _ h => ?_) (fun _ h => ?_)
      · refine q_W.sub [0, 1, 3, 5] rfl ?_
        exact S_X13_operand_223 B hT l0 l1 l3 l6 _ h
      · refine q_iload (pc := 214) C 5 rfl dX13_operand_214 ?_
        refine q_bipush (pc := 216) (v := (10 : Int32)) C dX13_operand_216 (by decide) ?_
        refine q_icmp_ge (pc := 218) (tgt := 223) C dX13_operand_218 (by decide) h (fun _ h => ?_) (fun _ h => ?_)
        · refine q_W.sub [0, 1, 3, 5] rfl ?_
          exact S_X13_operand_223 B hT l0 l1 l3 l6 _ h
        · refine q_W.sub [] rfl ?_
          exact S_X13_operand_221 B hT _ h
  · refine q_aload_n (pc := 137) C 0 rfl dX13_operand_137 rfl ?_
    refine q_getA (pc := 138) C dX13_operand_138 ql_X13_13 h (fun v138 h => ?_)
    refine q_aload_n (pc := 141) C 0 rfl dX13_operand_141 rfl ?_
    refine q_getA (pc := 142) C dX13_operand_142 ql_X13_30 h (fun v142 h => ?_)
    refine q_iload_n (pc := 145) C 1 rfl dX13_operand_145 rfl ?_
    refine q_ldI (pc := 146) C dX13_operand_146 (Or.inr (Or.inl ⟨rfl, rfl⟩)) h (fun v146 h => ?_)
    refine q_iload (pc := 147) C 6 rfl dX13_operand_147 ?_
    refine q_iadd (pc := 149) C dX13_operand_149 ?_
    refine q_ldI (pc := 150) C dX13_operand_150 (Or.inl ⟨rfl, rfl⟩) h (fun v150 h => ?_)
    refine q_callS (pc := 151) (As := [q_I v150]) (st := []) (ps := q_psI) C B.2.1 hT q_hpI qm_X13_141 qs_X13_isDigit dX13_operand_151 rfl rfl (Nat.le_of_ble_eq_true rfl) (q_flo B.2.2.1 B.2.2.2.1 (by decide) (by decide)) (K_X13_isDigit v150) (M_X13_isDigit (q_kap E) v150) (by exact fun v151 => (q_mo_br (q_mo_rd fun v165 => (q_mo_rd fun v169 => (q_mo_rd fun v173 => (q_mo_rd fun v177 => (mr126 l0 l1 l2 l3 l5 ((((10 : Int32) * l6) + v177) - (48 : Int32)) (l7 + (1 : Int32))))))) q_mo_rt)) h (fun v151 σ h => ?_)
    refine q_W.st (st' := [q_I v151]) rfl ?_
    refine q_if_ne (pc := 154) (tgt := 159) C dX13_operand_154 (by decide) h (fun _ h => ?_) (fun _ h => ?_)
    · refine q_bipush (pc := 159) (v := (10 : Int32)) C dX13_operand_159 (by decide) ?_
      refine q_iload (pc := 161) C 5 rfl dX13_operand_161 ?_
      refine q_imul (pc := 163) C dX13_operand_163 ?_
      refine q_aload_n (pc := 164) C 0 rfl dX13_operand_164 rfl ?_
      refine q_getA (pc := 165) C dX13_operand_165 ql_X13_13 h (fun v165 h => ?_)
      refine q_aload_n (pc := 168) C 0 rfl dX13_operand_168 rfl ?_
      refine q_getA (pc := 169) C dX13_operand_169 ql_X13_30 h (fun v169 h => ?_)
      refine q_iload_n (pc := 172) C 1 rfl dX13_operand_172 rfl ?_
      refine q_ldI (pc := 173) C dX13_operand_173 (Or.inr (Or.inl ⟨rfl, rfl⟩)) h (fun v173 h => ?_)
      refine q_iload (pc := 174) C 6 rfl dX13_operand_174 ?_
      refine q_iadd (pc := 176) C dX13_operand_176 ?_
      refine q_ldI (pc := 177) C dX13_operand_177 (Or.inl ⟨rfl, rfl⟩) h (fun v177 h => ?_)
      refine q_iadd (pc := 178) C dX13_operand_178 ?_
      refine q_bipush (pc := 179) (v := (48 : Int32)) C dX13_operand_179 (by decide) ?_
      refine q_isub (pc := 181) C dX13_operand_181 ?_
      refine q_istore (pc := 182) (l' := [(6, q_I ((((10 : Int32) * l6) + v177) - (48 : Int32))), (0, q_R l0), (1, q_I l1), (2, q_I l2), (3, q_I l3), (5, q_I l5), (7, q_I l7)]) C dX13_operand_182 (by decide) rfl ?_
      refine q_iinc (pc := 184) (v := (1 : Int32)) (l' := [(7, q_I (l7 + (1 : Int32))), (6, q_I ((((10 : Int32) * l6) + v177) - (48 : Int32))), (0, q_R l0), (1, q_I l1), (2, q_I l2), (3, q_I l3), (5, q_I l5)]) C 6 rfl dX13_operand_184 (by decide) (by decide) rfl ?_
      refine q_goto (pc := 187) (tgt := 126) C dX13_operand_187 (by decide) ?_
      refine q_W.sub [2, 3, 4, 5, 6, 1, 0] rfl ?_
      exact hr126 l0 l1 l2 l3 l5 ((((10 : Int32) * l6) + v177) - (48 : Int32)) (l7 + (1 : Int32)) _ h
    · refine q_iconst (pc := 157) (v := (-1 : Int32)) C dX13_operand_157 (by decide) ?_
      exact q_iret C B.2.2.2.2.1 dX13_operand_158 h
def F_X13_operand_126 (κ : Nat → Nat) : Nat → Option Nat → Int32 → Int32 → Int32 → Int32 → Int32 → Int32 → q_X Int32
  | 0, _, _, _, _, _, _, _ => q_no
  | n + 1, l0, l1, l2, l3, l5, l6, l7 => F_X13_operand_126B κ (F_X13_operand_126 κ n) l0 l1 l2 l3 l5 l6 l7
theorem M_X13_operand_126 (κ : Nat → Nat) : ∀ (n : Nat) (l0 : Option Nat) (l1 : Int32) (l2 : Int32) (l3 : Int32) (l5 : Int32) (l6 : Int32) (l7 : Int32), q_mo (F_X13_operand_126 κ n l0 l1 l2 l3 l5 l6 l7)
  | 0, _, _, _, _, _, _, _ => q_mo_no
  | n + 1, l0, l1, l2, l3, l5, l6, l7 => M_X13_operand_126B κ (F_X13_operand_126 κ n) (M_X13_operand_126 κ n) l0 l1 l2 l3 l5 l6 l7
theorem S_X13_operand_126 {E : q_Ev} {Γ : q_Gm} {w : (Int32 ⊕ q_Exn) × q_St} (B : q_Bd E Γ cX13_operand yX13_operand.cls 8 2 45 (some .int) yX13_operand.name w) (hT : q_nT Γ) : ∀ (n : Nat) (l0 : Option Nat) (l1 : Int32) (l2 : Int32) (l3 : Int32) (l5 : Int32) (l6 : Int32) (l7 : Int32) (σ : q_St), F_X13_operand_126 (q_kap E) n l0 l1 l2 l3 l5 l6 l7 σ = some w → q_W E Γ (q_QF E Γ q_oI w) 8 σ 126 [(0, q_R l0), (1, q_I l1), (2, q_I l2), (3, q_I l3), (5, q_I l5), (6, q_I l6), (7, q_I l7)] []
  | 0, _, _, _, _, _, _, _, _, h => by cases h
  | n + 1, l0, l1, l2, l3, l5, l6, l7, σ, h => S_X13_operand_126B B hT (F_X13_operand_126 (q_kap E) n) (S_X13_operand_126 B hT n) (M_X13_operand_126 (q_kap E) n) l0 l1 l2 l3 l5 l6 l7 σ h
def F_X13_operand_75B (κ : Nat → Nat) (r75 : Option Nat → Int32 → Int32 → Int32 → Int32 → Int32 → Int32 → Int32 → q_X Int32) (l0 : Option Nat) (l1 : Int32) (l2 : Int32) (l3 : Int32) (l4 : Int32) (l5 : Int32) (l6 : Int32) (l7 : Int32) : q_X Int32 :=
  q_br (l5 ≤ l7) (F_X13_operand_126 κ q_fu l0 l1 l2 l3 l5 l6 l5) (q_rd (q_gA l0 16 16) fun v83 => q_rd (q_gA l0 16 17) fun v87 => q_rd (q_lI 1 v87 l4) fun v92 => q_rd (q_lI 0 v83 (v92 + l7)) fun v96 => q_rd (q_gA l0 16 1) fun v98 => q_rd (q_gA l0 16 10) fun v102 => q_rd (q_lI 1 v102 l1) fun v106 => q_rd (q_lI 0 v98 (v106 + l7)) fun v110 => q_br (v96 = v110) (r75 l0 l1 l2 l3 l4 l5 l6 (l7 + (1 : Int32))) (q_rt (-1 : Int32)))
theorem M_X13_operand_75B (κ : Nat → Nat) (r75 : Option Nat → Int32 → Int32 → Int32 → Int32 → Int32 → Int32 → Int32 → q_X Int32) (mr75 : ∀ (l0 : Option Nat) (l1 : Int32) (l2 : Int32) (l3 : Int32) (l4 : Int32) (l5 : Int32) (l6 : Int32) (l7 : Int32), q_mo (r75 l0 l1 l2 l3 l4 l5 l6 l7)) (l0 : Option Nat) (l1 : Int32) (l2 : Int32) (l3 : Int32) (l4 : Int32) (l5 : Int32) (l6 : Int32) (l7 : Int32) : q_mo (F_X13_operand_75B κ r75 l0 l1 l2 l3 l4 l5 l6 l7) := (q_mo_br (M_X13_operand_126 κ q_fu l0 l1 l2 l3 l5 l6 l5) (q_mo_rd fun v83 => (q_mo_rd fun v87 => (q_mo_rd fun v92 => (q_mo_rd fun v96 => (q_mo_rd fun v98 => (q_mo_rd fun v102 => (q_mo_rd fun v106 => (q_mo_rd fun v110 => (q_mo_br (mr75 l0 l1 l2 l3 l4 l5 l6 (l7 + (1 : Int32))) q_mo_rt))))))))))
set_option maxRecDepth 100000 in
set_option maxHeartbeats 4000000 in
theorem S_X13_operand_75B {E : q_Ev} {Γ : q_Gm} {w : (Int32 ⊕ q_Exn) × q_St} (B : q_Bd E Γ cX13_operand yX13_operand.cls 8 2 45 (some .int) yX13_operand.name w) (hT : q_nT Γ) (r75 : Option Nat → Int32 → Int32 → Int32 → Int32 → Int32 → Int32 → Int32 → q_X Int32) (hr75 : ∀ (l0 : Option Nat) (l1 : Int32) (l2 : Int32) (l3 : Int32) (l4 : Int32) (l5 : Int32) (l6 : Int32) (l7 : Int32) (σ : q_St), r75 l0 l1 l2 l3 l4 l5 l6 l7 σ = some w → q_W E Γ (q_QF E Γ q_oI w) 8 σ 75 [(0, q_R l0), (1, q_I l1), (2, q_I l2), (3, q_I l3), (4, q_I l4), (5, q_I l5), (6, q_I l6), (7, q_I l7)] []) (mr75 : ∀ (l0 : Option Nat) (l1 : Int32) (l2 : Int32) (l3 : Int32) (l4 : Int32) (l5 : Int32) (l6 : Int32) (l7 : Int32), q_mo (r75 l0 l1 l2 l3 l4 l5 l6 l7)) (l0 : Option Nat) (l1 : Int32) (l2 : Int32) (l3 : Int32) (l4 : Int32) (l5 : Int32) (l6 : Int32) (l7 : Int32) (σ : q_St) (h : F_X13_operand_75B (q_kap E) r75 l0 l1 l2 l3 l4 l5 l6 l7 σ = some w) : q_W E Γ (q_QF E Γ q_oI w) 8 σ 75 [(0, q_R l0), (1, q_I l1), (2, q_I l2), (3, q_I l3), (4, q_I l4), (5, q_I l5), (6, q_I l6), (7, q_I l7)] [] := by
  have C := B.1
  unfold F_X13_operand_75B at h
  refine q_iload (pc := 75) C 7 rfl dX13_operand_75 ?_
  refine q_iload (pc := 77) C 5 rfl dX13_operand_77 ?_
  refine q_icmp_ge (pc := 79) (tgt := 122) C dX13_operand_79 (by decide) h (fun _ h => ?_) (fun _ h => ?_)
  · refine q_iload (pc := 122) C 5 rfl dX13_operand_122 ?_
    refine q_istore (pc := 124) (l' := [(7, q_I l5), (0, q_R l0), (1, q_I l1), (2, q_I l2), (3, q_I l3), (4, q_I l4), (5, q_I l5), (6, q_I l6)]) C dX13_operand_124 (by decide) rfl ?_
    refine q_W.sub [1, 2, 3, 4, 6, 7, 0] rfl ?_
    exact S_X13_operand_126 B hT q_fu l0 l1 l2 l3 l5 l6 l5 _ h
  · refine q_aload_n (pc := 82) C 0 rfl dX13_operand_82 rfl ?_
    refine q_getA (pc := 83) C dX13_operand_83 ql_X13_41 h (fun v83 h => ?_)
    refine q_aload_n (pc := 86) C 0 rfl dX13_operand_86 rfl ?_
    refine q_getA (pc := 87) C dX13_operand_87 ql_X13_44 h (fun v87 h => ?_)
    refine q_iload (pc := 90) C 4 rfl dX13_operand_90 ?_
    refine q_ldI (pc := 92) C dX13_operand_92 (Or.inr (Or.inl ⟨rfl, rfl⟩)) h (fun v92 h => ?_)
    refine q_iload (pc := 93) C 7 rfl dX13_operand_93 ?_
    refine q_iadd (pc := 95) C dX13_operand_95 ?_
    refine q_ldI (pc := 96) C dX13_operand_96 (Or.inl ⟨rfl, rfl⟩) h (fun v96 h => ?_)
    refine q_aload_n (pc := 97) C 0 rfl dX13_operand_97 rfl ?_
    refine q_getA (pc := 98) C dX13_operand_98 ql_X13_13 h (fun v98 h => ?_)
    refine q_aload_n (pc := 101) C 0 rfl dX13_operand_101 rfl ?_
    refine q_getA (pc := 102) C dX13_operand_102 ql_X13_30 h (fun v102 h => ?_)
    refine q_iload_n (pc := 105) C 1 rfl dX13_operand_105 rfl ?_
    refine q_ldI (pc := 106) C dX13_operand_106 (Or.inr (Or.inl ⟨rfl, rfl⟩)) h (fun v106 h => ?_)
    refine q_iload (pc := 107) C 7 rfl dX13_operand_107 ?_
    refine q_iadd (pc := 109) C dX13_operand_109 ?_
    refine q_ldI (pc := 110) C dX13_operand_110 (Or.inl ⟨rfl, rfl⟩) h (fun v110 h => ?_)
    refine q_icmp_eq (pc := 111) (tgt := 116) C dX13_operand_111 (by decide) h (fun _ h => ?_) (fun _ h => ?_)
    · refine q_iinc (pc := 116) (v := (1 : Int32)) (l' := [(7, q_I (l7 + (1 : Int32))), (0, q_R l0), (1, q_I l1), (2, q_I l2), (3, q_I l3), (4, q_I l4), (5, q_I l5), (6, q_I l6)]) C 7 rfl dX13_operand_116 (by decide) (by decide) rfl ?_
      refine q_goto (pc := 119) (tgt := 75) C dX13_operand_119 (by decide) ?_
      refine q_W.sub [1, 2, 3, 4, 5, 6, 7, 0] rfl ?_
      exact hr75 l0 l1 l2 l3 l4 l5 l6 (l7 + (1 : Int32)) _ h
    · refine q_iconst (pc := 114) (v := (-1 : Int32)) C dX13_operand_114 (by decide) ?_
      exact q_iret C B.2.2.2.2.1 dX13_operand_115 h
def F_X13_operand_75 (κ : Nat → Nat) : Nat → Option Nat → Int32 → Int32 → Int32 → Int32 → Int32 → Int32 → Int32 → q_X Int32
  | 0, _, _, _, _, _, _, _, _ => q_no
  | n + 1, l0, l1, l2, l3, l4, l5, l6, l7 => F_X13_operand_75B κ (F_X13_operand_75 κ n) l0 l1 l2 l3 l4 l5 l6 l7
theorem M_X13_operand_75 (κ : Nat → Nat) : ∀ (n : Nat) (l0 : Option Nat) (l1 : Int32) (l2 : Int32) (l3 : Int32) (l4 : Int32) (l5 : Int32) (l6 : Int32) (l7 : Int32), q_mo (F_X13_operand_75 κ n l0 l1 l2 l3 l4 l5 l6 l7)
  | 0, _, _, _, _, _, _, _, _ => q_mo_no
  | n + 1, l0, l1, l2, l3, l4, l5, l6, l7 => M_X13_operand_75B κ (F_X13_operand_75 κ n) (M_X13_operand_75 κ n) l0 l1 l2 l3 l4 l5 l6 l7
theorem S_X13_operand_75 {E : q_Ev} {Γ : q_Gm} {w : (Int32 ⊕ q_Exn) × q_St} (B : q_Bd E Γ cX13_operand yX13_operand.cls 8 2 45 (some .int) yX13_operand.name w) (hT : q_nT Γ) : ∀ (n : Nat) (l0 : Option Nat) (l1 : Int32) (l2 : Int32) (l3 : Int32) (l4 : Int32) (l5 : Int32) (l6 : Int32) (l7 : Int32) (σ : q_St), F_X13_operand_75 (q_kap E) n l0 l1 l2 l3 l4 l5 l6 l7 σ = some w → q_W E Γ (q_QF E Γ q_oI w) 8 σ 75 [(0, q_R l0), (1, q_I l1), (2, q_I l2), (3, q_I l3), (4, q_I l4), (5, q_I l5), (6, q_I l6), (7, q_I l7)] []
  | 0, _, _, _, _, _, _, _, _, _, h => by cases h
  | n + 1, l0, l1, l2, l3, l4, l5, l6, l7, σ, h => S_X13_operand_75B B hT (F_X13_operand_75 (q_kap E) n) (S_X13_operand_75 B hT n) (M_X13_operand_75 (q_kap E) n) l0 l1 l2 l3 l4 l5 l6 l7 σ h
def F_X13_operand_261B (κ : Nat → Nat) (r261 : Option Nat → Int32 → Int32 → Int32 → Int32 → q_X Int32) (l0 : Option Nat) (l1 : Int32) (l2 : Int32) (l3 : Int32) (l4 : Int32) : q_X Int32 :=
  q_rd (q_gA l0 16 27) fun v264 => q_rd (q_lI 1 v264 l2) fun v268 => q_br (v268 ≤ l4) (q_rt (-1 : Int32)) (q_rd (q_gA l0 16 29) fun v274 => q_rd (q_lI 1 v274 (((32 : Int32) * l2) + l4)) fun v284 => q_rd (q_is l0 16) fun _ => q_ca (F_X13_isName κ l0 v284 l1) fun v286 => q_br (¬ v286 = 0) (q_rd (q_gA l0 16 56) fun v296 => q_wr (q_sL v296 l3 l4.toInt64) (q_rt (l1 + (1 : Int32)))) (r261 l0 l1 l2 l3 (l4 + (1 : Int32))))
theorem M_X13_operand_261B (κ : Nat → Nat) (r261 : Option Nat → Int32 → Int32 → Int32 → Int32 → q_X Int32) (mr261 : ∀ (l0 : Option Nat) (l1 : Int32) (l2 : Int32) (l3 : Int32) (l4 : Int32), q_mo (r261 l0 l1 l2 l3 l4)) (l0 : Option Nat) (l1 : Int32) (l2 : Int32) (l3 : Int32) (l4 : Int32) : q_mo (F_X13_operand_261B κ r261 l0 l1 l2 l3 l4) := (q_mo_rd fun v264 => (q_mo_rd fun v268 => (q_mo_br q_mo_rt (q_mo_rd fun v274 => (q_mo_rd fun v284 => (q_mo_rd fun _ => q_mo_ca (M_X13_isName κ l0 v284 l1) fun v286 => (q_mo_br (q_mo_rd fun v296 => (q_mo_wr q_mo_rt)) (mr261 l0 l1 l2 l3 (l4 + (1 : Int32))))))))))
set_option maxRecDepth 100000 in
set_option maxHeartbeats 4000000 in
theorem S_X13_operand_261B {E : q_Ev} {Γ : q_Gm} {w : (Int32 ⊕ q_Exn) × q_St} (B : q_Bd E Γ cX13_operand yX13_operand.cls 8 2 45 (some .int) yX13_operand.name w) (hT : q_nT Γ) (r261 : Option Nat → Int32 → Int32 → Int32 → Int32 → q_X Int32) (hr261 : ∀ (l0 : Option Nat) (l1 : Int32) (l2 : Int32) (l3 : Int32) (l4 : Int32) (σ : q_St), r261 l0 l1 l2 l3 l4 σ = some w → q_W E Γ (q_QF E Γ q_oI w) 8 σ 261 [(0, q_R l0), (1, q_I l1), (2, q_I l2), (3, q_I l3), (4, q_I l4)] []) (mr261 : ∀ (l0 : Option Nat) (l1 : Int32) (l2 : Int32) (l3 : Int32) (l4 : Int32), q_mo (r261 l0 l1 l2 l3 l4)) (l0 : Option Nat) (l1 : Int32) (l2 : Int32) (l3 : Int32) (l4 : Int32) (σ : q_St) (h : F_X13_operand_261B (q_kap E) r261 l0 l1 l2 l3 l4 σ = some w) : q_W E Γ (q_QF E Γ q_oI w) 8 σ 261 [(0, q_R l0), (1, q_I l1), (2, q_I l2), (3, q_I l3), (4, q_I l4)] [] := by
  have C := B.1
  unfold F_X13_operand_261B at h
  refine q_iload (pc := 261) C 4 rfl dX13_operand_261 ?_
  refine q_aload_n (pc := 263) C 0 rfl dX13_operand_263 rfl ?_
  refine q_getA (pc := 264) C dX13_operand_264 ql_X13_59 h (fun v264 h => ?_)
  refine q_iload_n (pc := 267) C 2 rfl dX13_operand_267 rfl ?_
  refine q_ldI (pc := 268) C dX13_operand_268 (Or.inr (Or.inl ⟨rfl, rfl⟩)) h (fun v268 h => ?_)
  refine q_icmp_ge (pc := 269) (tgt := 314) C dX13_operand_269 (by decide) h (fun _ h => ?_) (fun _ h => ?_)
  · refine q_iconst (pc := 314) (v := (-1 : Int32)) C dX13_operand_314 (by decide) ?_
    exact q_iret C B.2.2.2.2.1 dX13_operand_315 h
  · refine q_aload_n (pc := 272) C 0 rfl dX13_operand_272 rfl ?_
    refine q_aload_n (pc := 273) C 0 rfl dX13_operand_273 rfl ?_
    refine q_getA (pc := 274) C dX13_operand_274 ql_X13_65 h (fun v274 h => ?_)
    refine q_bipush (pc := 277) (v := (32 : Int32)) C dX13_operand_277 (by decide) ?_
    refine q_iload_n (pc := 279) C 2 rfl dX13_operand_279 rfl ?_
    refine q_imul (pc := 280) C dX13_operand_280 ?_
    refine q_iload (pc := 281) C 4 rfl dX13_operand_281 ?_
    refine q_iadd (pc := 283) C dX13_operand_283 ?_
    refine q_ldI (pc := 284) C dX13_operand_284 (Or.inr (Or.inl ⟨rfl, rfl⟩)) h (fun v284 h => ?_)
    refine q_iload_n (pc := 285) C 1 rfl dX13_operand_285 rfl ?_
    refine q_callV (pc := 286) (As := [q_I v284, q_I l1]) (st := []) (ps := q_psI) C B.2.1 hT q_hpI qm_X13_193 qv_X13_isName dX13_operand_286 rfl rfl (Nat.le_of_ble_eq_true rfl) (q_flo B.2.2.1 B.2.2.2.1 (by decide) (by decide)) (K_X13_isName l0 v284 l1) (M_X13_isName (q_kap E) l0 v284 l1) (by exact fun v286 => (q_mo_br (q_mo_rd fun v296 => (q_mo_wr q_mo_rt)) (mr261 l0 l1 l2 l3 (l4 + (1 : Int32))))) h (fun v286 σ h => ?_)
    refine q_W.st (st' := [q_I v286]) rfl ?_
    refine q_if_ne (pc := 289) (tgt := 295) C dX13_operand_289 (by decide) h (fun _ h => ?_) (fun _ h => ?_)
    · refine q_aload_n (pc := 295) C 0 rfl dX13_operand_295 rfl ?_
      refine q_getA (pc := 296) C dX13_operand_296 ql_X13_135 h (fun v296 h => ?_)
      refine q_iload_n (pc := 299) C 3 rfl dX13_operand_299 rfl ?_
      refine q_iload (pc := 300) C 4 rfl dX13_operand_300 ?_
      refine q_i2l (pc := 302) C dX13_operand_302 ?_
      refine q_stL (pc := 303) C dX13_operand_303 h (fun M303 h => ?_)
      refine q_iload_n (pc := 304) C 1 rfl dX13_operand_304 rfl ?_
      refine q_iconst (pc := 305) (v := (1 : Int32)) C dX13_operand_305 (by decide) ?_
      refine q_iadd (pc := 306) C dX13_operand_306 ?_
      exact q_iret C B.2.2.2.2.1 dX13_operand_307 h
    · refine q_goto (pc := 292) (tgt := 308) C dX13_operand_292 (by decide) ?_
      refine q_iinc (pc := 308) (v := (1 : Int32)) (l' := [(4, q_I (l4 + (1 : Int32))), (0, q_R l0), (1, q_I l1), (2, q_I l2), (3, q_I l3)]) C 4 rfl dX13_operand_308 (by decide) (by decide) rfl ?_
      refine q_goto (pc := 311) (tgt := 261) C dX13_operand_311 (by decide) ?_
      refine q_W.sub [1, 2, 3, 4, 0] rfl ?_
      exact hr261 l0 l1 l2 l3 (l4 + (1 : Int32)) _ h
def F_X13_operand_261 (κ : Nat → Nat) : Nat → Option Nat → Int32 → Int32 → Int32 → Int32 → q_X Int32
  | 0, _, _, _, _, _ => q_no
  | n + 1, l0, l1, l2, l3, l4 => F_X13_operand_261B κ (F_X13_operand_261 κ n) l0 l1 l2 l3 l4
theorem M_X13_operand_261 (κ : Nat → Nat) : ∀ (n : Nat) (l0 : Option Nat) (l1 : Int32) (l2 : Int32) (l3 : Int32) (l4 : Int32), q_mo (F_X13_operand_261 κ n l0 l1 l2 l3 l4)
  | 0, _, _, _, _, _ => q_mo_no
  | n + 1, l0, l1, l2, l3, l4 => M_X13_operand_261B κ (F_X13_operand_261 κ n) (M_X13_operand_261 κ n) l0 l1 l2 l3 l4
theorem S_X13_operand_261 {E : q_Ev} {Γ : q_Gm} {w : (Int32 ⊕ q_Exn) × q_St} (B : q_Bd E Γ cX13_operand yX13_operand.cls 8 2 45 (some .int) yX13_operand.name w) (hT : q_nT Γ) : ∀ (n : Nat) (l0 : Option Nat) (l1 : Int32) (l2 : Int32) (l3 : Int32) (l4 : Int32) (σ : q_St), F_X13_operand_261 (q_kap E) n l0 l1 l2 l3 l4 σ = some w → q_W E Γ (q_QF E Γ q_oI w) 8 σ 261 [(0, q_R l0), (1, q_I l1), (2, q_I l2), (3, q_I l3), (4, q_I l4)] []
  | 0, _, _, _, _, _, _, h => by cases h
  | n + 1, l0, l1, l2, l3, l4, σ, h => S_X13_operand_261B B hT (F_X13_operand_261 (q_kap E) n) (S_X13_operand_261 B hT n) (M_X13_operand_261 (q_kap E) n) l0 l1 l2 l3 l4 σ h
def F_X13_operand_502 (κ : Nat → Nat) (l1 : Int32) : q_X Int32 :=
  q_rt (l1 + (1 : Int32))
theorem M_X13_operand_502 (κ : Nat → Nat) (l1 : Int32) : q_mo (F_X13_operand_502 κ l1) := q_mo_rt
theorem N_X13_operand_502 (κ : Nat → Nat) (l1 : Int32) : q_ni (F_X13_operand_502 κ l1) := q_ni_rt
set_option maxRecDepth 100000 in
set_option maxHeartbeats 4000000 in
theorem S_X13_operand_502 {E : q_Ev} {Γ : q_Gm} {w : (Int32 ⊕ q_Exn) × q_St} (B : q_Bd E Γ cX13_operand yX13_operand.cls 8 2 45 (some .int) yX13_operand.name w) (hT : q_nT Γ) (l1 : Int32) (σ : q_St) (h : F_X13_operand_502 (q_kap E) l1 σ = some w) : q_W E Γ (q_QF E Γ q_oI w) 8 σ 502 [(1, q_I l1)] [] := by
  have C := B.1
  unfold F_X13_operand_502 at h
  refine q_iload_n (pc := 502) C 0 rfl dX13_operand_502 rfl ?_
  refine q_iconst (pc := 503) (v := (1 : Int32)) C dX13_operand_503 (by decide) ?_
  refine q_iadd (pc := 504) C dX13_operand_504 ?_
  exact q_iret C B.2.2.2.2.1 dX13_operand_505 h
def F_X13_operand_497 (κ : Nat → Nat) (l1 : Int32) (s0 : Option Nat) (s1 : Int32) (s2 : Int64) : q_X Int32 :=
  q_wr (q_sL s0 s1 s2) (q_rt (l1 + (3 : Int32)))
theorem M_X13_operand_497 (κ : Nat → Nat) (l1 : Int32) (s0 : Option Nat) (s1 : Int32) (s2 : Int64) : q_mo (F_X13_operand_497 κ l1 s0 s1 s2) := (q_mo_wr q_mo_rt)
theorem N_X13_operand_497 (κ : Nat → Nat) (l1 : Int32) (s0 : Option Nat) (s1 : Int32) (s2 : Int64) : q_ni (F_X13_operand_497 κ l1 s0 s1 s2) := (q_ni_wr q_ni_rt)
set_option maxRecDepth 100000 in
set_option maxHeartbeats 4000000 in
theorem S_X13_operand_497 {E : q_Ev} {Γ : q_Gm} {w : (Int32 ⊕ q_Exn) × q_St} (B : q_Bd E Γ cX13_operand yX13_operand.cls 8 2 45 (some .int) yX13_operand.name w) (hT : q_nT Γ) (l1 : Int32) (s0 : Option Nat) (s1 : Int32) (s2 : Int64) (σ : q_St) (h : F_X13_operand_497 (q_kap E) l1 s0 s1 s2 σ = some w) : q_W E Γ (q_QF E Γ q_oI w) 8 σ 497 [(1, q_I l1)] [q_L s2, q_I s1, q_R s0] := by
  have C := B.1
  unfold F_X13_operand_497 at h
  refine q_stL (pc := 497) C dX13_operand_497 h (fun M497 h => ?_)
  refine q_iload_n (pc := 498) C 0 rfl dX13_operand_498 rfl ?_
  refine q_iconst (pc := 499) (v := (3 : Int32)) C dX13_operand_499 (by decide) ?_
  refine q_iadd (pc := 500) C dX13_operand_500 ?_
  exact q_iret C B.2.2.2.2.1 dX13_operand_501 h
def F_X13_operand_448 (κ : Nat → Nat) (l0 : Option Nat) (l1 : Int32) (l3 : Int32) : q_X Int32 :=
  q_rd (q_gA l0 16 9) fun v449 => q_rd (q_lI 1 v449 (l1 + (2 : Int32))) fun v455 => q_br (¬ v455 = (2 : Int32)) (F_X13_operand_502 κ l1) (q_rd (q_gA l0 16 56) fun v461 => q_rd (q_is l0 16) fun _ => q_ca (F_X13_isSign κ l0 (l1 + (1 : Int32)) (43 : Int32)) fun v471 => q_br (v471 = 0) (q_rd (q_gA l0 16 12) fun v489 => q_rd (q_lL v489 (l1 + (2 : Int32))) fun v495 => F_X13_operand_497 κ l1 v461 l3 (-v495)) (q_rd (q_gA l0 16 12) fun v478 => q_rd (q_lL v478 (l1 + (2 : Int32))) fun v484 => F_X13_operand_497 κ l1 v461 l3 v484))
theorem M_X13_operand_448 (κ : Nat → Nat) (l0 : Option Nat) (l1 : Int32) (l3 : Int32) : q_mo (F_X13_operand_448 κ l0 l1 l3) := (q_mo_rd fun v449 => (q_mo_rd fun v455 => (q_mo_br (M_X13_operand_502 κ l1) (q_mo_rd fun v461 => (q_mo_rd fun _ => q_mo_ca (M_X13_isSign κ l0 (l1 + (1 : Int32)) (43 : Int32)) fun v471 => (q_mo_br (q_mo_rd fun v489 => (q_mo_rd fun v495 => (M_X13_operand_497 κ l1 v461 l3 (-v495)))) (q_mo_rd fun v478 => (q_mo_rd fun v484 => (M_X13_operand_497 κ l1 v461 l3 v484)))))))))
set_option maxRecDepth 100000 in
set_option maxHeartbeats 4000000 in
theorem S_X13_operand_448 {E : q_Ev} {Γ : q_Gm} {w : (Int32 ⊕ q_Exn) × q_St} (B : q_Bd E Γ cX13_operand yX13_operand.cls 8 2 45 (some .int) yX13_operand.name w) (hT : q_nT Γ) (l0 : Option Nat) (l1 : Int32) (l3 : Int32) (σ : q_St) (h : F_X13_operand_448 (q_kap E) l0 l1 l3 σ = some w) : q_W E Γ (q_QF E Γ q_oI w) 8 σ 448 [(0, q_R l0), (1, q_I l1), (3, q_I l3)] [] := by
  have C := B.1
  unfold F_X13_operand_448 at h
  refine q_aload_n (pc := 448) C 0 rfl dX13_operand_448 rfl ?_
  refine q_getA (pc := 449) C dX13_operand_449 ql_X13_26 h (fun v449 h => ?_)
  refine q_iload_n (pc := 452) C 1 rfl dX13_operand_452 rfl ?_
  refine q_iconst (pc := 453) (v := (2 : Int32)) C dX13_operand_453 (by decide) ?_
  refine q_iadd (pc := 454) C dX13_operand_454 ?_
  refine q_ldI (pc := 455) C dX13_operand_455 (Or.inr (Or.inl ⟨rfl, rfl⟩)) h (fun v455 h => ?_)
  refine q_iconst (pc := 456) (v := (2 : Int32)) C dX13_operand_456 (by decide) ?_
  refine q_icmp_ne (pc := 457) (tgt := 502) C dX13_operand_457 (by decide) h (fun _ h => ?_) (fun _ h => ?_)
  · refine q_W.sub [1] rfl ?_
    exact S_X13_operand_502 B hT l1 _ h
  · refine q_aload_n (pc := 460) C 0 rfl dX13_operand_460 rfl ?_
    refine q_getA (pc := 461) C dX13_operand_461 ql_X13_135 h (fun v461 h => ?_)
    refine q_iload_n (pc := 464) C 2 rfl dX13_operand_464 rfl ?_
    refine q_aload_n (pc := 465) C 0 rfl dX13_operand_465 rfl ?_
    refine q_iload_n (pc := 466) C 1 rfl dX13_operand_466 rfl ?_
    refine q_iconst (pc := 467) (v := (1 : Int32)) C dX13_operand_467 (by decide) ?_
    refine q_iadd (pc := 468) C dX13_operand_468 ?_
    refine q_bipush (pc := 469) (v := (43 : Int32)) C dX13_operand_469 (by decide) ?_
    refine q_callV (pc := 471) (As := [q_I (l1 + (1 : Int32)), q_I (43 : Int32)]) (st := [q_I l3, q_R v461]) (ps := q_psI) C B.2.1 hT q_hpI qm_X13_214 qv_X13_isSign dX13_operand_471 rfl rfl (Nat.le_of_ble_eq_true rfl) (q_flo B.2.2.1 B.2.2.2.1 (by decide) (by decide)) (K_X13_isSign l0 (l1 + (1 : Int32)) (43 : Int32)) (M_X13_isSign (q_kap E) l0 (l1 + (1 : Int32)) (43 : Int32)) (by exact fun v471 => (q_mo_br (q_mo_rd fun v489 => (q_mo_rd fun v495 => (M_X13_operand_497 (q_kap E) l1 v461 l3 (-v495)))) (q_mo_rd fun v478 => (q_mo_rd fun v484 => (M_X13_operand_497 (q_kap E) l1 v461 l3 v484))))) h (fun v471 σ h => ?_)
    refine q_W.st (st' := [q_I v471, q_I l3, q_R v461]) rfl ?_
    refine q_if_eq (pc := 474) (tgt := 488) C dX13_operand_474 (by decide) h (fun _ h => ?_) (fun _ h => ?_)
    · refine q_aload_n (pc := 488) C 0 rfl dX13_operand_488 rfl ?_
      refine q_getA (pc := 489) C dX13_operand_489 ql_X13_36 h (fun v489 h => ?_)
      refine q_iload_n (pc := 492) C 1 rfl dX13_operand_492 rfl ?_
      refine q_iconst (pc := 493) (v := (2 : Int32)) C dX13_operand_493 (by decide) ?_
      refine q_iadd (pc := 494) C dX13_operand_494 ?_
      refine q_ldL (pc := 495) C dX13_operand_495 h (fun v495 h => ?_)
      refine q_lneg (pc := 496) C dX13_operand_496 ?_
      refine q_W.sub [1] rfl ?_
      exact S_X13_operand_497 B hT l1 v461 l3 (-v495) _ h
    · refine q_aload_n (pc := 477) C 0 rfl dX13_operand_477 rfl ?_
      refine q_getA (pc := 478) C dX13_operand_478 ql_X13_36 h (fun v478 h => ?_)
      refine q_iload_n (pc := 481) C 1 rfl dX13_operand_481 rfl ?_
      refine q_iconst (pc := 482) (v := (2 : Int32)) C dX13_operand_482 (by decide) ?_
      refine q_iadd (pc := 483) C dX13_operand_483 ?_
      refine q_ldL (pc := 484) C dX13_operand_484 h (fun v484 h => ?_)
      refine q_goto (pc := 485) (tgt := 497) C dX13_operand_485 (by decide) ?_
      refine q_W.sub [1] rfl ?_
      exact S_X13_operand_497 B hT l1 v461 l3 v484 _ h
def F_X13_operand_383 (κ : Nat → Nat) (l0 : Option Nat) (l1 : Int32) (l3 : Int32) : q_X Int32 :=
  q_rd (q_gA l0 16 9) fun v384 => q_rd (q_lI 1 v384 l1) fun v388 => q_br (v388 = (1 : Int32)) (q_rd (q_gA l0 16 55) fun v396 => q_rd (q_is l0 16) fun _ => q_ca (F_X13_labelAt κ l0 l1) fun v402 => q_wr (q_sI 1 v396 l3 v402) (q_rd (q_gA l0 16 56) fun v407 => q_wr (q_sL v407 l3 (0 : Int64)) (q_rd (q_gA l0 16 55) fun v414 => q_rd (q_lI 1 v414 l3) fun v418 => q_br (0 ≤ v418) (q_rd (q_is l0 16) fun _ => q_ca (F_X13_isSign κ l0 (l1 + (1 : Int32)) (43 : Int32)) fun v430 => q_br (¬ v430 = 0) (F_X13_operand_448 κ l0 l1 l3) (q_rd (q_is l0 16) fun _ => q_ca (F_X13_isSign κ l0 (l1 + (1 : Int32)) (45 : Int32)) fun v442 => q_br (v442 = 0) (F_X13_operand_502 κ l1) (F_X13_operand_448 κ l0 l1 l3))) (q_rt (-1 : Int32))))) (q_rt (-1 : Int32))
theorem M_X13_operand_383 (κ : Nat → Nat) (l0 : Option Nat) (l1 : Int32) (l3 : Int32) : q_mo (F_X13_operand_383 κ l0 l1 l3) := (q_mo_rd fun v384 => (q_mo_rd fun v388 => (q_mo_br (q_mo_rd fun v396 => (q_mo_rd fun _ => q_mo_ca (M_X13_labelAt κ l0 l1) fun v402 => (q_mo_wr (q_mo_rd fun v407 => (q_mo_wr (q_mo_rd fun v414 => (q_mo_rd fun v418 => (q_mo_br (q_mo_rd fun _ => q_mo_ca (M_X13_isSign κ l0 (l1 + (1 : Int32)) (43 : Int32)) fun v430 => (q_mo_br (M_X13_operand_448 κ l0 l1 l3) (q_mo_rd fun _ => q_mo_ca (M_X13_isSign κ l0 (l1 + (1 : Int32)) (45 : Int32)) fun v442 => (q_mo_br (M_X13_operand_502 κ l1) (M_X13_operand_448 κ l0 l1 l3))))) q_mo_rt)))))))) q_mo_rt)))
set_option maxRecDepth 100000 in
set_option maxHeartbeats 4000000 in
theorem S_X13_operand_383 {E : q_Ev} {Γ : q_Gm} {w : (Int32 ⊕ q_Exn) × q_St} (B : q_Bd E Γ cX13_operand yX13_operand.cls 8 2 45 (some .int) yX13_operand.name w) (hT : q_nT Γ) (l0 : Option Nat) (l1 : Int32) (l3 : Int32) (σ : q_St) (h : F_X13_operand_383 (q_kap E) l0 l1 l3 σ = some w) : q_W E Γ (q_QF E Γ q_oI w) 8 σ 383 [(0, q_R l0), (1, q_I l1), (3, q_I l3)] [] := by
  have C := B.1
  unfold F_X13_operand_383 at h
  refine q_aload_n (pc := 383) C 0 rfl dX13_operand_383 rfl ?_
  refine q_getA (pc := 384) C dX13_operand_384 ql_X13_26 h (fun v384 h => ?_)
  refine q_iload_n (pc := 387) C 1 rfl dX13_operand_387 rfl ?_
  refine q_ldI (pc := 388) C dX13_operand_388 (Or.inr (Or.inl ⟨rfl, rfl⟩)) h (fun v388 h => ?_)
  refine q_iconst (pc := 389) (v := (1 : Int32)) C dX13_operand_389 (by decide) ?_
  refine q_icmp_eq (pc := 390) (tgt := 395) C dX13_operand_390 (by decide) h (fun _ h => ?_) (fun _ h => ?_)
  · refine q_aload_n (pc := 395) C 0 rfl dX13_operand_395 rfl ?_
    refine q_getA (pc := 396) C dX13_operand_396 ql_X13_132 h (fun v396 h => ?_)
    refine q_iload_n (pc := 399) C 2 rfl dX13_operand_399 rfl ?_
    refine q_aload_n (pc := 400) C 0 rfl dX13_operand_400 rfl ?_
    refine q_iload_n (pc := 401) C 1 rfl dX13_operand_401 rfl ?_
    refine q_callV (pc := 402) (As := [q_I l1]) (st := [q_I l3, q_R v396]) (ps := q_psI) C B.2.1 hT q_hpI qm_X13_298 qv_X13_labelAt dX13_operand_402 rfl rfl (Nat.le_of_ble_eq_true rfl) (q_flo B.2.2.1 B.2.2.2.1 (by decide) (by decide)) (K_X13_labelAt l0 l1) (M_X13_labelAt (q_kap E) l0 l1) (by exact fun v402 => (q_mo_wr (q_mo_rd fun v407 => (q_mo_wr (q_mo_rd fun v414 => (q_mo_rd fun v418 => (q_mo_br (q_mo_rd fun _ => q_mo_ca (M_X13_isSign (q_kap E) l0 (l1 + (1 : Int32)) (43 : Int32)) fun v430 => (q_mo_br (M_X13_operand_448 (q_kap E) l0 l1 l3) (q_mo_rd fun _ => q_mo_ca (M_X13_isSign (q_kap E) l0 (l1 + (1 : Int32)) (45 : Int32)) fun v442 => (q_mo_br (M_X13_operand_502 (q_kap E) l1) (M_X13_operand_448 (q_kap E) l0 l1 l3))))) q_mo_rt))))))) h (fun v402 σ h => ?_)
    refine q_W.st (st' := [q_I v402, q_I l3, q_R v396]) rfl ?_
    refine q_stI (pc := 405) C dX13_operand_405 h (fun M405 h => ?_)
    refine q_aload_n (pc := 406) C 0 rfl dX13_operand_406 rfl ?_
    refine q_getA (pc := 407) C dX13_operand_407 ql_X13_135 h (fun v407 h => ?_)
    refine q_iload_n (pc := 410) C 2 rfl dX13_operand_410 rfl ?_
    refine q_lconst (pc := 411) (v := (0 : Int64)) C dX13_operand_411 (by decide) ?_
    refine q_stL (pc := 412) C dX13_operand_412 h (fun M412 h => ?_)
    refine q_aload_n (pc := 413) C 0 rfl dX13_operand_413 rfl ?_
    refine q_getA (pc := 414) C dX13_operand_414 ql_X13_132 h (fun v414 h => ?_)
    refine q_iload_n (pc := 417) C 2 rfl dX13_operand_417 rfl ?_
    refine q_ldI (pc := 418) C dX13_operand_418 (Or.inr (Or.inl ⟨rfl, rfl⟩)) h (fun v418 h => ?_)
    refine q_if_ge (pc := 419) (tgt := 424) C dX13_operand_419 (by decide) h (fun _ h => ?_) (fun _ h => ?_)
    · refine q_aload_n (pc := 424) C 0 rfl dX13_operand_424 rfl ?_
      refine q_iload_n (pc := 425) C 1 rfl dX13_operand_425 rfl ?_
      refine q_iconst (pc := 426) (v := (1 : Int32)) C dX13_operand_426 (by decide) ?_
      refine q_iadd (pc := 427) C dX13_operand_427 ?_
      refine q_bipush (pc := 428) (v := (43 : Int32)) C dX13_operand_428 (by decide) ?_
      refine q_callV (pc := 430) (As := [q_I (l1 + (1 : Int32)), q_I (43 : Int32)]) (st := []) (ps := q_psI) C B.2.1 hT q_hpI qm_X13_214 qv_X13_isSign dX13_operand_430 rfl rfl (Nat.le_of_ble_eq_true rfl) (q_flo B.2.2.1 B.2.2.2.1 (by decide) (by decide)) (K_X13_isSign l0 (l1 + (1 : Int32)) (43 : Int32)) (M_X13_isSign (q_kap E) l0 (l1 + (1 : Int32)) (43 : Int32)) (by exact fun v430 => (q_mo_br (M_X13_operand_448 (q_kap E) l0 l1 l3) (q_mo_rd fun _ => q_mo_ca (M_X13_isSign (q_kap E) l0 (l1 + (1 : Int32)) (45 : Int32)) fun v442 => (q_mo_br (M_X13_operand_502 (q_kap E) l1) (M_X13_operand_448 (q_kap E) l0 l1 l3))))) h (fun v430 σ h => ?_)
      refine q_W.st (st' := [q_I v430]) rfl ?_
      refine q_if_ne (pc := 433) (tgt := 448) C dX13_operand_433 (by decide) h (fun _ h => ?_) (fun _ h => ?_)
      · exact S_X13_operand_448 B hT l0 l1 l3 _ h
      · refine q_aload_n (pc := 436) C 0 rfl dX13_operand_436 rfl ?_
        refine q_iload_n (pc := 437) C 1 rfl dX13_operand_437 rfl ?_
        refine q_iconst (pc := 438) (v := (1 : Int32)) C dX13_operand_438 (by decide) ?_
        refine q_iadd (pc := 439) C dX13_operand_439 ?_
        refine q_bipush (pc := 440) (v := (45 : Int32)) C dX13_operand_440 (by decide) ?_
        refine q_callV (pc := 442) (As := [q_I (l1 + (1 : Int32)), q_I (45 : Int32)]) (st := []) (ps := q_psI) C B.2.1 hT q_hpI qm_X13_214 qv_X13_isSign dX13_operand_442 rfl rfl (Nat.le_of_ble_eq_true rfl) (q_flo B.2.2.1 B.2.2.2.1 (by decide) (by decide)) (K_X13_isSign l0 (l1 + (1 : Int32)) (45 : Int32)) (M_X13_isSign (q_kap E) l0 (l1 + (1 : Int32)) (45 : Int32)) (by exact fun v442 => (q_mo_br (M_X13_operand_502 (q_kap E) l1) (M_X13_operand_448 (q_kap E) l0 l1 l3))) h (fun v442 σ h => ?_)
        refine q_W.st (st' := [q_I v442]) rfl ?_
        refine q_if_eq (pc := 445) (tgt := 502) C dX13_operand_445 (by decide) h (fun _ h => ?_) (fun _ h => ?_)
        · refine q_W.sub [1] rfl ?_
          exact S_X13_operand_502 B hT l1 _ h
        · exact S_X13_operand_448 B hT l0 l1 l3 _ h
    · refine q_iconst (pc := 422) (v := (-1 : Int32)) C dX13_operand_422 (by decide) ?_
      exact q_iret C B.2.2.2.2.1 dX13_operand_423 h
  · refine q_iconst (pc := 393) (v := (-1 : Int32)) C dX13_operand_393 (by decide) ?_
    exact q_iret C B.2.2.2.2.1 dX13_operand_394 h
def F_X13_operand (κ : Nat → Nat) (l0 : Option Nat) (l1 : Int32) (l2 : Int32) (l3 : Int32) : q_X Int32 :=
  q_rd (q_gA l0 16 55) fun v1 => q_wr (q_sI 1 v1 l3 (-1 : Int32)) (q_rd (q_gA l0 16 25) fun v8 => q_rd (q_lI 1 v8 l2) fun v12 => q_br (¬ v12 = 0) (q_rd (q_gA l0 16 25) fun v237 => q_rd (q_lI 1 v237 l2) fun v241 => q_br (¬ v241 = (4 : Int32)) (q_rd (q_gA l0 16 9) fun v317 => q_rd (q_lI 1 v317 l1) fun v321 => q_br (¬ v321 = (2 : Int32)) (q_rd (q_is l0 16) fun _ => q_ca (F_X13_isSign κ l0 l1 (45 : Int32)) fun v346 => q_br (v346 = 0) (F_X13_operand_383 κ l0 l1 l3) (q_rd (q_gA l0 16 9) fun v353 => q_rd (q_lI 1 v353 (l1 + (1 : Int32))) fun v359 => q_br (¬ v359 = (2 : Int32)) (F_X13_operand_383 κ l0 l1 l3) (q_rd (q_gA l0 16 56) fun v365 => q_rd (q_gA l0 16 12) fun v370 => q_rd (q_lL v370 (l1 + (1 : Int32))) fun v376 => q_wr (q_sL v365 l3 (-v376)) (q_rt (l1 + (2 : Int32)))))) (q_rd (q_gA l0 16 56) fun v327 => q_rd (q_gA l0 16 12) fun v332 => q_rd (q_lL v332 l1) fun v336 => q_wr (q_sL v327 l3 v336) (q_rt (l1 + (1 : Int32))))) (q_rd (q_gA l0 16 9) fun v247 => q_rd (q_lI 1 v247 l1) fun v251 => q_br (v251 = (1 : Int32)) (F_X13_operand_261 κ q_fu l0 l1 l2 l3 (0 : Int32)) (q_rt (-1 : Int32)))) (q_rd (q_gA l0 16 26) fun v17 => q_rd (q_lI 1 v17 l2) fun v21 => q_rd (q_gA l0 16 18) fun v25 => q_rd (q_lI 1 v25 v21) fun v30 => q_rd (q_gA l0 16 9) fun v37 => q_rd (q_lI 1 v37 l1) fun v41 => q_br (¬ v41 = (1 : Int32)) (F_X13_operand_70 κ) (q_rd (q_gA l0 16 11) fun v47 => q_rd (q_lI 1 v47 l1) fun v51 => q_br (v51 ≤ v30) (F_X13_operand_70 κ) (q_rd (q_gA l0 16 11) fun v58 => q_rd (q_lI 1 v58 l1) fun v62 => q_br (v62 ≤ (v30 + (2 : Int32))) (F_X13_operand_75 κ q_fu l0 l1 l2 l3 v21 v30 (0 : Int32) (0 : Int32)) (F_X13_operand_70 κ)))))
theorem M_X13_operand (κ : Nat → Nat) (l0 : Option Nat) (l1 : Int32) (l2 : Int32) (l3 : Int32) : q_mo (F_X13_operand κ l0 l1 l2 l3) := (q_mo_rd fun v1 => (q_mo_wr (q_mo_rd fun v8 => (q_mo_rd fun v12 => (q_mo_br (q_mo_rd fun v237 => (q_mo_rd fun v241 => (q_mo_br (q_mo_rd fun v317 => (q_mo_rd fun v321 => (q_mo_br (q_mo_rd fun _ => q_mo_ca (M_X13_isSign κ l0 l1 (45 : Int32)) fun v346 => (q_mo_br (M_X13_operand_383 κ l0 l1 l3) (q_mo_rd fun v353 => (q_mo_rd fun v359 => (q_mo_br (M_X13_operand_383 κ l0 l1 l3) (q_mo_rd fun v365 => (q_mo_rd fun v370 => (q_mo_rd fun v376 => (q_mo_wr q_mo_rt))))))))) (q_mo_rd fun v327 => (q_mo_rd fun v332 => (q_mo_rd fun v336 => (q_mo_wr q_mo_rt))))))) (q_mo_rd fun v247 => (q_mo_rd fun v251 => (q_mo_br (M_X13_operand_261 κ q_fu l0 l1 l2 l3 (0 : Int32)) q_mo_rt)))))) (q_mo_rd fun v17 => (q_mo_rd fun v21 => (q_mo_rd fun v25 => (q_mo_rd fun v30 => (q_mo_rd fun v37 => (q_mo_rd fun v41 => (q_mo_br (M_X13_operand_70 κ) (q_mo_rd fun v47 => (q_mo_rd fun v51 => (q_mo_br (M_X13_operand_70 κ) (q_mo_rd fun v58 => (q_mo_rd fun v62 => (q_mo_br (M_X13_operand_75 κ q_fu l0 l1 l2 l3 v21 v30 (0 : Int32) (0 : Int32)) (M_X13_operand_70 κ)))))))))))))))))))
set_option maxRecDepth 100000 in
set_option maxHeartbeats 4000000 in
theorem K_X13_operand {E : q_Ev} (l0 : Option Nat) (l1 : Int32) (l2 : Int32) (l3 : Int32) : q_Ct E yX13_operand (.code yX13_operand cX13_operand 8 (some .int)) 2 45 [q_R l0, q_I l1, q_I l2, q_I l3] q_oI (F_X13_operand (q_kap E) l0 l1 l2 l3) := by
  refine q_enter (by decide) (Nat.le_of_ble_eq_true rfl) (fun Γ σ w h B hT => ?_)
  have C := B.1
  unfold F_X13_operand at h
  refine q_aload_n (pc := 0) C 0 rfl dX13_operand_0 rfl ?_
  refine q_getA (pc := 1) C dX13_operand_1 ql_X13_132 h (fun v1 h => ?_)
  refine q_iload_n (pc := 4) C 3 rfl dX13_operand_4 rfl ?_
  refine q_iconst (pc := 5) (v := (-1 : Int32)) C dX13_operand_5 (by decide) ?_
  refine q_stI (pc := 6) C dX13_operand_6 h (fun M6 h => ?_)
  refine q_aload_n (pc := 7) C 0 rfl dX13_operand_7 rfl ?_
  refine q_getA (pc := 8) C dX13_operand_8 ql_X13_53 h (fun v8 h => ?_)
  refine q_iload_n (pc := 11) C 2 rfl dX13_operand_11 rfl ?_
  refine q_ldI (pc := 12) C dX13_operand_12 (Or.inr (Or.inl ⟨rfl, rfl⟩)) h (fun v12 h => ?_)
  refine q_if_ne (pc := 13) (tgt := 236) C dX13_operand_13 (by decide) h (fun _ h => ?_) (fun _ h => ?_)
  · refine q_aload_n (pc := 236) C 0 rfl dX13_operand_236 rfl ?_
    refine q_getA (pc := 237) C dX13_operand_237 ql_X13_53 h (fun v237 h => ?_)
    refine q_iload_n (pc := 240) C 2 rfl dX13_operand_240 rfl ?_
    refine q_ldI (pc := 241) C dX13_operand_241 (Or.inr (Or.inl ⟨rfl, rfl⟩)) h (fun v241 h => ?_)
    refine q_iconst (pc := 242) (v := (4 : Int32)) C dX13_operand_242 (by decide) ?_
    refine q_icmp_ne (pc := 243) (tgt := 316) C dX13_operand_243 (by decide) h (fun _ h => ?_) (fun _ h => ?_)
    · refine q_aload_n (pc := 316) C 0 rfl dX13_operand_316 rfl ?_
      refine q_getA (pc := 317) C dX13_operand_317 ql_X13_26 h (fun v317 h => ?_)
      refine q_iload_n (pc := 320) C 1 rfl dX13_operand_320 rfl ?_
      refine q_ldI (pc := 321) C dX13_operand_321 (Or.inr (Or.inl ⟨rfl, rfl⟩)) h (fun v321 h => ?_)
      refine q_iconst (pc := 322) (v := (2 : Int32)) C dX13_operand_322 (by decide) ?_
      refine q_icmp_ne (pc := 323) (tgt := 342) C dX13_operand_323 (by decide) h (fun _ h => ?_) (fun _ h => ?_)
      · refine q_aload_n (pc := 342) C 0 rfl dX13_operand_342 rfl ?_
        refine q_iload_n (pc := 343) C 1 rfl dX13_operand_343 rfl ?_
        refine q_bipush (pc := 344) (v := (45 : Int32)) C dX13_operand_344 (by decide) ?_
        refine q_callV (pc := 346) (As := [q_I l1, q_I (45 : Int32)]) (st := []) (ps := q_psI) C B.2.1 hT q_hpI qm_X13_214 qv_X13_isSign dX13_operand_346 rfl rfl (Nat.le_of_ble_eq_true rfl) (q_flo B.2.2.1 B.2.2.2.1 (by decide) (by decide)) (K_X13_isSign l0 l1 (45 : Int32)) (M_X13_isSign (q_kap E) l0 l1 (45 : Int32)) (by exact fun v346 => (q_mo_br (M_X13_operand_383 (q_kap E) l0 l1 l3) (q_mo_rd fun v353 => (q_mo_rd fun v359 => (q_mo_br (M_X13_operand_383 (q_kap E) l0 l1 l3) (q_mo_rd fun v365 => (q_mo_rd fun v370 => (q_mo_rd fun v376 => (q_mo_wr q_mo_rt))))))))) h (fun v346 σ h => ?_)
        refine q_W.st (st' := [q_I v346]) rfl ?_
        refine q_if_eq (pc := 349) (tgt := 383) C dX13_operand_349 (by decide) h (fun _ h => ?_) (fun _ h => ?_)
        · refine q_W.sub [0, 1, 3] rfl ?_
          exact S_X13_operand_383 B hT l0 l1 l3 _ h
        · refine q_aload_n (pc := 352) C 0 rfl dX13_operand_352 rfl ?_
          refine q_getA (pc := 353) C dX13_operand_353 ql_X13_26 h (fun v353 h => ?_)
          refine q_iload_n (pc := 356) C 1 rfl dX13_operand_356 rfl ?_
          refine q_iconst (pc := 357) (v := (1 : Int32)) C dX13_operand_357 (by decide) ?_
          refine q_iadd (pc := 358) C dX13_operand_358 ?_
          refine q_ldI (pc := 359) C dX13_operand_359 (Or.inr (Or.inl ⟨rfl, rfl⟩)) h (fun v359 h => ?_)
          refine q_iconst (pc := 360) (v := (2 : Int32)) C dX13_operand_360 (by decide) ?_
          refine q_icmp_ne (pc := 361) (tgt := 383) C dX13_operand_361 (by decide) h (fun _ h => ?_) (fun _ h => ?_)
          · refine q_W.sub [0, 1, 3] rfl ?_
            exact S_X13_operand_383 B hT l0 l1 l3 _ h
          · refine q_aload_n (pc := 364) C 0 rfl dX13_operand_364 rfl ?_
            refine q_getA (pc := 365) C dX13_operand_365 ql_X13_135 h (fun v365 h => ?_)
            refine q_iload_n (pc := 368) C 3 rfl dX13_operand_368 rfl ?_
            refine q_aload_n (pc := 369) C 0 rfl dX13_operand_369 rfl ?_
            refine q_getA (pc := 370) C dX13_operand_370 ql_X13_36 h (fun v370 h => ?_)
            refine q_iload_n (pc := 373) C 1 rfl dX13_operand_373 rfl ?_
            refine q_iconst (pc := 374) (v := (1 : Int32)) C dX13_operand_374 (by decide) ?_
            refine q_iadd (pc := 375) C dX13_operand_375 ?_
            refine q_ldL (pc := 376) C dX13_operand_376 h (fun v376 h => ?_)
            refine q_lneg (pc := 377) C dX13_operand_377 ?_
            refine q_stL (pc := 378) C dX13_operand_378 h (fun M378 h => ?_)
            refine q_iload_n (pc := 379) C 1 rfl dX13_operand_379 rfl ?_
            refine q_iconst (pc := 380) (v := (2 : Int32)) C dX13_operand_380 (by decide) ?_
            refine q_iadd (pc := 381) C dX13_operand_381 ?_
            exact q_iret C B.2.2.2.2.1 dX13_operand_382 h
      · refine q_aload_n (pc := 326) C 0 rfl dX13_operand_326 rfl ?_
        refine q_getA (pc := 327) C dX13_operand_327 ql_X13_135 h (fun v327 h => ?_)
        refine q_iload_n (pc := 330) C 3 rfl dX13_operand_330 rfl ?_
        refine q_aload_n (pc := 331) C 0 rfl dX13_operand_331 rfl ?_
        refine q_getA (pc := 332) C dX13_operand_332 ql_X13_36 h (fun v332 h => ?_)
        refine q_iload_n (pc := 335) C 1 rfl dX13_operand_335 rfl ?_
        refine q_ldL (pc := 336) C dX13_operand_336 h (fun v336 h => ?_)
        refine q_stL (pc := 337) C dX13_operand_337 h (fun M337 h => ?_)
        refine q_iload_n (pc := 338) C 1 rfl dX13_operand_338 rfl ?_
        refine q_iconst (pc := 339) (v := (1 : Int32)) C dX13_operand_339 (by decide) ?_
        refine q_iadd (pc := 340) C dX13_operand_340 ?_
        exact q_iret C B.2.2.2.2.1 dX13_operand_341 h
    · refine q_aload_n (pc := 246) C 0 rfl dX13_operand_246 rfl ?_
      refine q_getA (pc := 247) C dX13_operand_247 ql_X13_26 h (fun v247 h => ?_)
      refine q_iload_n (pc := 250) C 1 rfl dX13_operand_250 rfl ?_
      refine q_ldI (pc := 251) C dX13_operand_251 (Or.inr (Or.inl ⟨rfl, rfl⟩)) h (fun v251 h => ?_)
      refine q_iconst (pc := 252) (v := (1 : Int32)) C dX13_operand_252 (by decide) ?_
      refine q_icmp_eq (pc := 253) (tgt := 258) C dX13_operand_253 (by decide) h (fun _ h => ?_) (fun _ h => ?_)
      · refine q_iconst (pc := 258) (v := (0 : Int32)) C dX13_operand_258 (by decide) ?_
        refine q_istore (pc := 259) (l' := [(4, q_I (0 : Int32)), (0, q_R l0), (1, q_I l1), (2, q_I l2), (3, q_I l3)]) C dX13_operand_259 (by decide) rfl ?_
        refine q_W.sub [1, 2, 3, 4, 0] rfl ?_
        exact S_X13_operand_261 B hT q_fu l0 l1 l2 l3 (0 : Int32) _ h
      · refine q_iconst (pc := 256) (v := (-1 : Int32)) C dX13_operand_256 (by decide) ?_
        exact q_iret C B.2.2.2.2.1 dX13_operand_257 h
  · refine q_aload_n (pc := 16) C 0 rfl dX13_operand_16 rfl ?_
    refine q_getA (pc := 17) C dX13_operand_17 ql_X13_56 h (fun v17 h => ?_)
    refine q_iload_n (pc := 20) C 2 rfl dX13_operand_20 rfl ?_
    refine q_ldI (pc := 21) C dX13_operand_21 (Or.inr (Or.inl ⟨rfl, rfl⟩)) h (fun v21 h => ?_)
    refine q_istore (pc := 22) (l' := [(4, q_I v21), (0, q_R l0), (1, q_I l1), (2, q_I l2), (3, q_I l3)]) C dX13_operand_22 (by decide) rfl ?_
    refine q_aload_n (pc := 24) C 1 rfl dX13_operand_24 rfl ?_
    refine q_getA (pc := 25) C dX13_operand_25 ql_X13_47 h (fun v25 h => ?_)
    refine q_iload (pc := 28) C 0 rfl dX13_operand_28 ?_
    refine q_ldI (pc := 30) C dX13_operand_30 (Or.inr (Or.inl ⟨rfl, rfl⟩)) h (fun v30 h => ?_)
    refine q_istore (pc := 31) (l' := [(5, q_I v30), (4, q_I v21), (0, q_R l0), (1, q_I l1), (2, q_I l2), (3, q_I l3)]) C dX13_operand_31 (by decide) rfl ?_
    refine q_iconst (pc := 33) (v := (0 : Int32)) C dX13_operand_33 (by decide) ?_
    refine q_istore (pc := 34) (l' := [(6, q_I (0 : Int32)), (5, q_I v30), (4, q_I v21), (0, q_R l0), (1, q_I l1), (2, q_I l2), (3, q_I l3)]) C dX13_operand_34 (by decide) rfl ?_
    refine q_aload_n (pc := 36) C 3 rfl dX13_operand_36 rfl ?_
    refine q_getA (pc := 37) C dX13_operand_37 ql_X13_26 h (fun v37 h => ?_)
    refine q_iload_n (pc := 40) C 4 rfl dX13_operand_40 rfl ?_
    refine q_ldI (pc := 41) C dX13_operand_41 (Or.inr (Or.inl ⟨rfl, rfl⟩)) h (fun v41 h => ?_)
    refine q_iconst (pc := 42) (v := (1 : Int32)) C dX13_operand_42 (by decide) ?_
    refine q_icmp_ne (pc := 43) (tgt := 70) C dX13_operand_43 (by decide) h (fun _ h => ?_) (fun _ h => ?_)
    · refine q_W.sub [] rfl ?_
      exact S_X13_operand_70 B hT _ h
    · refine q_aload_n (pc := 46) C 3 rfl dX13_operand_46 rfl ?_
      refine q_getA (pc := 47) C dX13_operand_47 ql_X13_33 h (fun v47 h => ?_)
      refine q_iload_n (pc := 50) C 4 rfl dX13_operand_50 rfl ?_
      refine q_ldI (pc := 51) C dX13_operand_51 (Or.inr (Or.inl ⟨rfl, rfl⟩)) h (fun v51 h => ?_)
      refine q_iload (pc := 52) C 1 rfl dX13_operand_52 ?_
      refine q_icmp_le (pc := 54) (tgt := 70) C dX13_operand_54 (by decide) h (fun _ h => ?_) (fun _ h => ?_)
      · refine q_W.sub [] rfl ?_
        exact S_X13_operand_70 B hT _ h
      · refine q_aload_n (pc := 57) C 3 rfl dX13_operand_57 rfl ?_
        refine q_getA (pc := 58) C dX13_operand_58 ql_X13_33 h (fun v58 h => ?_)
        refine q_iload_n (pc := 61) C 4 rfl dX13_operand_61 rfl ?_
        refine q_ldI (pc := 62) C dX13_operand_62 (Or.inr (Or.inl ⟨rfl, rfl⟩)) h (fun v62 h => ?_)
        refine q_iload (pc := 63) C 1 rfl dX13_operand_63 ?_
        refine q_iconst (pc := 65) (v := (2 : Int32)) C dX13_operand_65 (by decide) ?_
        refine q_iadd (pc := 66) C dX13_operand_66 ?_
        refine q_icmp_le (pc := 67) (tgt := 72) C dX13_operand_67 (by decide) h (fun _ h => ?_) (fun _ h => ?_)
        · refine q_iconst (pc := 72) (v := (0 : Int32)) C dX13_operand_72 (by decide) ?_
          refine q_istore (pc := 73) (l' := [(7, q_I (0 : Int32)), (6, q_I (0 : Int32)), (5, q_I v30), (4, q_I v21), (0, q_R l0), (1, q_I l1), (2, q_I l2), (3, q_I l3)]) C dX13_operand_73 (by decide) rfl ?_
          refine q_W.sub [4, 5, 6, 7, 3, 2, 1, 0] rfl ?_
          exact S_X13_operand_75 B hT q_fu l0 l1 l2 l3 v21 v30 (0 : Int32) (0 : Int32) _ h
        · refine q_W.sub [] rfl ?_
          exact S_X13_operand_70 B hT _ h
def F_X13_isForm_106 (κ : Nat → Nat) (r29 : Option Nat → Int32 → Int32 → Int32 → Int32 → q_X Int32) (l0 : Option Nat) (l1 : Int32) (l2 : Int32) (l3 : Int32) (l4 : Int32) : q_X Int32 :=
  r29 l0 l1 l2 l3 (l4 + (1 : Int32))
theorem M_X13_isForm_106 (κ : Nat → Nat) (r29 : Option Nat → Int32 → Int32 → Int32 → Int32 → q_X Int32) (mr29 : ∀ (l0 : Option Nat) (l1 : Int32) (l2 : Int32) (l3 : Int32) (l4 : Int32), q_mo (r29 l0 l1 l2 l3 l4)) (l0 : Option Nat) (l1 : Int32) (l2 : Int32) (l3 : Int32) (l4 : Int32) : q_mo (F_X13_isForm_106 κ r29 l0 l1 l2 l3 l4) := (mr29 l0 l1 l2 l3 (l4 + (1 : Int32)))
set_option maxRecDepth 100000 in
set_option maxHeartbeats 4000000 in
theorem S_X13_isForm_106 {E : q_Ev} {Γ : q_Gm} {w : (Int32 ⊕ q_Exn) × q_St} (B : q_Bd E Γ cX13_isForm yX13_isForm.cls 6 3 72 (some .boolean) yX13_isForm.name w) (hT : q_nT Γ) (r29 : Option Nat → Int32 → Int32 → Int32 → Int32 → q_X Int32) (hr29 : ∀ (l0 : Option Nat) (l1 : Int32) (l2 : Int32) (l3 : Int32) (l4 : Int32) (σ : q_St), r29 l0 l1 l2 l3 l4 σ = some w → q_W E Γ (q_QF E Γ q_oI w) 6 σ 29 [(0, q_R l0), (1, q_I l1), (2, q_I l2), (3, q_I l3), (4, q_I l4)] []) (mr29 : ∀ (l0 : Option Nat) (l1 : Int32) (l2 : Int32) (l3 : Int32) (l4 : Int32), q_mo (r29 l0 l1 l2 l3 l4)) (l0 : Option Nat) (l1 : Int32) (l2 : Int32) (l3 : Int32) (l4 : Int32) (σ : q_St) (h : F_X13_isForm_106 (q_kap E) r29 l0 l1 l2 l3 l4 σ = some w) : q_W E Γ (q_QF E Γ q_oI w) 6 σ 106 [(0, q_R l0), (1, q_I l1), (2, q_I l2), (3, q_I l3), (4, q_I l4)] [] := by
  have C := B.1
  unfold F_X13_isForm_106 at h
  refine q_iinc (pc := 106) (v := (1 : Int32)) (l' := [(4, q_I (l4 + (1 : Int32))), (0, q_R l0), (1, q_I l1), (2, q_I l2), (3, q_I l3)]) C 4 rfl dX13_isForm_106 (by decide) (by decide) rfl ?_
  refine q_goto (pc := 109) (tgt := 29) C dX13_isForm_109 (by decide) ?_
  refine q_W.sub [1, 2, 3, 4, 0] rfl ?_
  exact hr29 l0 l1 l2 l3 (l4 + (1 : Int32)) _ h
def F_X13_isForm_127 (κ : Nat → Nat) (s0 : Int32) : q_X Int32 :=
  q_rz s0
theorem M_X13_isForm_127 (κ : Nat → Nat) (s0 : Int32) : q_mo (F_X13_isForm_127 κ s0) := q_mo_rz
set_option maxRecDepth 100000 in
set_option maxHeartbeats 4000000 in
theorem S_X13_isForm_127 {E : q_Ev} {Γ : q_Gm} {w : (Int32 ⊕ q_Exn) × q_St} (B : q_Bd E Γ cX13_isForm yX13_isForm.cls 6 3 72 (some .boolean) yX13_isForm.name w) (hT : q_nT Γ) (s0 : Int32) (σ : q_St) (h : F_X13_isForm_127 (q_kap E) s0 σ = some w) : q_W E Γ (q_QF E Γ q_oI w) 6 σ 127 [] [q_I s0] := by
  have C := B.1
  unfold F_X13_isForm_127 at h
  exact q_zret C B.2.2.2.2.1 dX13_isForm_127 h
def F_X13_isForm_29B (κ : Nat → Nat) (r29 : Option Nat → Int32 → Int32 → Int32 → Int32 → q_X Int32) (l0 : Option Nat) (l1 : Int32) (l2 : Int32) (l3 : Int32) (l4 : Int32) : q_X Int32 :=
  q_rd (q_gA l0 16 31) fun v32 => q_rd (q_lI 1 v32 l2) fun v36 => q_br (v36 ≤ l4) (q_rd (q_gA l0 16 51) fun v114 => q_rd (q_lI 1 v114 l1) fun v118 => q_br (¬ l3 = v118) (F_X13_isForm_127 κ (0 : Int32)) (F_X13_isForm_127 κ (1 : Int32))) (q_rd (q_gA l0 16 35) fun v41 => q_rd (q_lI 1 v41 (((12 : Int32) * l2) + l4)) fun v51 => q_br (v51 < 0) (q_rd (q_gA l0 16 37) fun v80 => q_rd (q_lI 1 v80 ((((5 : Int32) * l2) - (1 : Int32)) - v51)) fun v91 => q_rd (q_is l0 16) fun _ => q_ca (F_X13_operand κ l0 l3 v91 ((-1 : Int32) - v51)) fun v96 => q_br (0 ≤ v96) (F_X13_isForm_106 κ r29 l0 l1 l2 v96 l4) (q_rz (0 : Int32))) (q_rd (q_is l0 16) fun _ => q_ca (F_X13_isSign κ l0 l3 v51) fun v63 => q_br (¬ v63 = 0) (F_X13_isForm_106 κ r29 l0 l1 l2 (l3 + (1 : Int32)) l4) (q_rz (0 : Int32))))
theorem M_X13_isForm_29B (κ : Nat → Nat) (r29 : Option Nat → Int32 → Int32 → Int32 → Int32 → q_X Int32) (mr29 : ∀ (l0 : Option Nat) (l1 : Int32) (l2 : Int32) (l3 : Int32) (l4 : Int32), q_mo (r29 l0 l1 l2 l3 l4)) (l0 : Option Nat) (l1 : Int32) (l2 : Int32) (l3 : Int32) (l4 : Int32) : q_mo (F_X13_isForm_29B κ r29 l0 l1 l2 l3 l4) := (q_mo_rd fun v32 => (q_mo_rd fun v36 => (q_mo_br (q_mo_rd fun v114 => (q_mo_rd fun v118 => (q_mo_br (M_X13_isForm_127 κ (0 : Int32)) (M_X13_isForm_127 κ (1 : Int32))))) (q_mo_rd fun v41 => (q_mo_rd fun v51 => (q_mo_br (q_mo_rd fun v80 => (q_mo_rd fun v91 => (q_mo_rd fun _ => q_mo_ca (M_X13_operand κ l0 l3 v91 ((-1 : Int32) - v51)) fun v96 => (q_mo_br (M_X13_isForm_106 κ r29 mr29 l0 l1 l2 v96 l4) q_mo_rz)))) (q_mo_rd fun _ => q_mo_ca (M_X13_isSign κ l0 l3 v51) fun v63 => (q_mo_br (M_X13_isForm_106 κ r29 mr29 l0 l1 l2 (l3 + (1 : Int32)) l4) q_mo_rz))))))))
set_option maxRecDepth 100000 in
set_option maxHeartbeats 4000000 in
theorem S_X13_isForm_29B {E : q_Ev} {Γ : q_Gm} {w : (Int32 ⊕ q_Exn) × q_St} (B : q_Bd E Γ cX13_isForm yX13_isForm.cls 6 3 72 (some .boolean) yX13_isForm.name w) (hT : q_nT Γ) (r29 : Option Nat → Int32 → Int32 → Int32 → Int32 → q_X Int32) (hr29 : ∀ (l0 : Option Nat) (l1 : Int32) (l2 : Int32) (l3 : Int32) (l4 : Int32) (σ : q_St), r29 l0 l1 l2 l3 l4 σ = some w → q_W E Γ (q_QF E Γ q_oI w) 6 σ 29 [(0, q_R l0), (1, q_I l1), (2, q_I l2), (3, q_I l3), (4, q_I l4)] []) (mr29 : ∀ (l0 : Option Nat) (l1 : Int32) (l2 : Int32) (l3 : Int32) (l4 : Int32), q_mo (r29 l0 l1 l2 l3 l4)) (l0 : Option Nat) (l1 : Int32) (l2 : Int32) (l3 : Int32) (l4 : Int32) (σ : q_St) (h : F_X13_isForm_29B (q_kap E) r29 l0 l1 l2 l3 l4 σ = some w) : q_W E Γ (q_QF E Γ q_oI w) 6 σ 29 [(0, q_R l0), (1, q_I l1), (2, q_I l2), (3, q_I l3), (4, q_I l4)] [] := by
  have C := B.1
  unfold F_X13_isForm_29B at h
  refine q_iload (pc := 29) C 4 rfl dX13_isForm_29 ?_
  refine q_aload_n (pc := 31) C 0 rfl dX13_isForm_31 rfl ?_
  refine q_getA (pc := 32) C dX13_isForm_32 ql_X13_71 h (fun v32 h => ?_)
  refine q_iload_n (pc := 35) C 2 rfl dX13_isForm_35 rfl ?_
  refine q_ldI (pc := 36) C dX13_isForm_36 (Or.inr (Or.inl ⟨rfl, rfl⟩)) h (fun v36 h => ?_)
  refine q_icmp_ge (pc := 37) (tgt := 112) C dX13_isForm_37 (by decide) h (fun _ h => ?_) (fun _ h => ?_)
  · refine q_iload_n (pc := 112) C 3 rfl dX13_isForm_112 rfl ?_
    refine q_aload_n (pc := 113) C 0 rfl dX13_isForm_113 rfl ?_
    refine q_getA (pc := 114) C dX13_isForm_114 ql_X13_123 h (fun v114 h => ?_)
    refine q_iload_n (pc := 117) C 1 rfl dX13_isForm_117 rfl ?_
    refine q_ldI (pc := 118) C dX13_isForm_118 (Or.inr (Or.inl ⟨rfl, rfl⟩)) h (fun v118 h => ?_)
    refine q_icmp_ne (pc := 119) (tgt := 126) C dX13_isForm_119 (by decide) h (fun _ h => ?_) (fun _ h => ?_)
    · refine q_iconst (pc := 126) (v := (0 : Int32)) C dX13_isForm_126 (by decide) ?_
      refine q_W.sub [] rfl ?_
      exact S_X13_isForm_127 B hT (0 : Int32) _ h
    · refine q_iconst (pc := 122) (v := (1 : Int32)) C dX13_isForm_122 (by decide) ?_
      refine q_goto (pc := 123) (tgt := 127) C dX13_isForm_123 (by decide) ?_
      refine q_W.sub [] rfl ?_
      exact S_X13_isForm_127 B hT (1 : Int32) _ h
  · refine q_aload_n (pc := 40) C 0 rfl dX13_isForm_40 rfl ?_
    refine q_getA (pc := 41) C dX13_isForm_41 ql_X13_83 h (fun v41 h => ?_)
    refine q_bipush (pc := 44) (v := (12 : Int32)) C dX13_isForm_44 (by decide) ?_
    refine q_iload_n (pc := 46) C 2 rfl dX13_isForm_46 rfl ?_
    refine q_imul (pc := 47) C dX13_isForm_47 ?_
    refine q_iload (pc := 48) C 4 rfl dX13_isForm_48 ?_
    refine q_iadd (pc := 50) C dX13_isForm_50 ?_
    refine q_ldI (pc := 51) C dX13_isForm_51 (Or.inr (Or.inl ⟨rfl, rfl⟩)) h (fun v51 h => ?_)
    refine q_istore (pc := 52) (l' := [(5, q_I v51), (0, q_R l0), (1, q_I l1), (2, q_I l2), (3, q_I l3), (4, q_I l4)]) C dX13_isForm_52 (by decide) rfl ?_
    refine q_iload (pc := 54) C 0 rfl dX13_isForm_54 ?_
    refine q_if_lt (pc := 56) (tgt := 77) C dX13_isForm_56 (by decide) h (fun _ h => ?_) (fun _ h => ?_)
    · refine q_aload_n (pc := 77) C 1 rfl dX13_isForm_77 rfl ?_
      refine q_iload_n (pc := 78) C 4 rfl dX13_isForm_78 rfl ?_
      refine q_aload_n (pc := 79) C 1 rfl dX13_isForm_79 rfl ?_
      refine q_getA (pc := 80) C dX13_isForm_80 ql_X13_89 h (fun v80 h => ?_)
      refine q_iconst (pc := 83) (v := (5 : Int32)) C dX13_isForm_83 (by decide) ?_
      refine q_iload_n (pc := 84) C 3 rfl dX13_isForm_84 rfl ?_
      refine q_imul (pc := 85) C dX13_isForm_85 ?_
      refine q_iconst (pc := 86) (v := (1 : Int32)) C dX13_isForm_86 (by decide) ?_
      refine q_isub (pc := 87) C dX13_isForm_87 ?_
      refine q_iload (pc := 88) C 0 rfl dX13_isForm_88 ?_
      refine q_isub (pc := 90) C dX13_isForm_90 ?_
      refine q_ldI (pc := 91) C dX13_isForm_91 (Or.inr (Or.inl ⟨rfl, rfl⟩)) h (fun v91 h => ?_)
      refine q_iconst (pc := 92) (v := (-1 : Int32)) C dX13_isForm_92 (by decide) ?_
      refine q_iload (pc := 93) C 0 rfl dX13_isForm_93 ?_
      refine q_isub (pc := 95) C dX13_isForm_95 ?_
      refine q_callV (pc := 96) (As := [q_I l3, q_I v91, q_I ((-1 : Int32) - v51)]) (st := []) (ps := q_psI) C B.2.1 hT q_hpI qm_X13_307 qv_X13_operand dX13_isForm_96 rfl rfl (Nat.le_of_ble_eq_true rfl) (q_flo B.2.2.1 B.2.2.2.1 (by decide) (by decide)) (K_X13_operand l0 l3 v91 ((-1 : Int32) - v51)) (M_X13_operand (q_kap E) l0 l3 v91 ((-1 : Int32) - v51)) (by exact fun v96 => (q_mo_br (M_X13_isForm_106 (q_kap E) r29 mr29 l0 l1 l2 v96 l4) q_mo_rz)) h (fun v96 σ h => ?_)
      refine q_W.st (st' := [q_I v96]) rfl ?_
      refine q_istore_n (pc := 99) (l' := [(3, q_I v96), (5, q_I v51), (0, q_R l0), (1, q_I l1), (2, q_I l2), (4, q_I l4)]) C dX13_isForm_99 rfl (by decide) rfl ?_
      refine q_iload_n (pc := 100) C 0 rfl dX13_isForm_100 rfl ?_
      refine q_if_ge (pc := 101) (tgt := 106) C dX13_isForm_101 (by decide) h (fun _ h => ?_) (fun _ h => ?_)
      · refine q_W.sub [2, 3, 4, 0, 5] rfl ?_
        exact S_X13_isForm_106 B hT r29 hr29 mr29 l0 l1 l2 v96 l4 _ h
      · refine q_iconst (pc := 104) (v := (0 : Int32)) C dX13_isForm_104 (by decide) ?_
        exact q_zret C B.2.2.2.2.1 dX13_isForm_105 h
    · refine q_aload_n (pc := 59) C 1 rfl dX13_isForm_59 rfl ?_
      refine q_iload_n (pc := 60) C 4 rfl dX13_isForm_60 rfl ?_
      refine q_iload (pc := 61) C 0 rfl dX13_isForm_61 ?_
      refine q_callV (pc := 63) (As := [q_I l3, q_I v51]) (st := []) (ps := q_psI) C B.2.1 hT q_hpI qm_X13_214 qv_X13_isSign dX13_isForm_63 rfl rfl (Nat.le_of_ble_eq_true rfl) (q_flo B.2.2.1 B.2.2.2.1 (by decide) (by decide)) (K_X13_isSign l0 l3 v51) (M_X13_isSign (q_kap E) l0 l3 v51) (by exact fun v63 => (q_mo_br (M_X13_isForm_106 (q_kap E) r29 mr29 l0 l1 l2 (l3 + (1 : Int32)) l4) q_mo_rz)) h (fun v63 σ h => ?_)
      refine q_W.st (st' := [q_I v63]) rfl ?_
      refine q_if_ne (pc := 66) (tgt := 71) C dX13_isForm_66 (by decide) h (fun _ h => ?_) (fun _ h => ?_)
      · refine q_iinc (pc := 71) (v := (1 : Int32)) (l' := [(3, q_I (l3 + (1 : Int32))), (5, q_I v51), (0, q_R l0), (1, q_I l1), (2, q_I l2), (4, q_I l4)]) C 4 rfl dX13_isForm_71 (by decide) (by decide) rfl ?_
        refine q_goto (pc := 74) (tgt := 106) C dX13_isForm_74 (by decide) ?_
        refine q_W.sub [2, 3, 4, 0, 5] rfl ?_
        exact S_X13_isForm_106 B hT r29 hr29 mr29 l0 l1 l2 (l3 + (1 : Int32)) l4 _ h
      · refine q_iconst (pc := 69) (v := (0 : Int32)) C dX13_isForm_69 (by decide) ?_
        exact q_zret C B.2.2.2.2.1 dX13_isForm_70 h
def F_X13_isForm_29 (κ : Nat → Nat) : Nat → Option Nat → Int32 → Int32 → Int32 → Int32 → q_X Int32
  | 0, _, _, _, _, _ => q_no
  | n + 1, l0, l1, l2, l3, l4 => F_X13_isForm_29B κ (F_X13_isForm_29 κ n) l0 l1 l2 l3 l4
theorem M_X13_isForm_29 (κ : Nat → Nat) : ∀ (n : Nat) (l0 : Option Nat) (l1 : Int32) (l2 : Int32) (l3 : Int32) (l4 : Int32), q_mo (F_X13_isForm_29 κ n l0 l1 l2 l3 l4)
  | 0, _, _, _, _, _ => q_mo_no
  | n + 1, l0, l1, l2, l3, l4 => M_X13_isForm_29B κ (F_X13_isForm_29 κ n) (M_X13_isForm_29 κ n) l0 l1 l2 l3 l4
theorem S_X13_isForm_29 {E : q_Ev} {Γ : q_Gm} {w : (Int32 ⊕ q_Exn) × q_St} (B : q_Bd E Γ cX13_isForm yX13_isForm.cls 6 3 72 (some .boolean) yX13_isForm.name w) (hT : q_nT Γ) : ∀ (n : Nat) (l0 : Option Nat) (l1 : Int32) (l2 : Int32) (l3 : Int32) (l4 : Int32) (σ : q_St), F_X13_isForm_29 (q_kap E) n l0 l1 l2 l3 l4 σ = some w → q_W E Γ (q_QF E Γ q_oI w) 6 σ 29 [(0, q_R l0), (1, q_I l1), (2, q_I l2), (3, q_I l3), (4, q_I l4)] []
  | 0, _, _, _, _, _, _, h => by cases h
  | n + 1, l0, l1, l2, l3, l4, σ, h => S_X13_isForm_29B B hT (F_X13_isForm_29 (q_kap E) n) (S_X13_isForm_29 B hT n) (M_X13_isForm_29 (q_kap E) n) l0 l1 l2 l3 l4 σ h
def F_X13_isForm (κ : Nat → Nat) (l0 : Option Nat) (l1 : Int32) (l2 : Int32) : q_X Int32 :=
  q_rd (q_gA l0 16 46) fun v1 => q_rd (q_lI 1 v1 l1) fun v5 => q_rd (q_gA l0 16 30) fun v9 => q_rd (q_lI 1 v9 l2) fun v13 => q_rd (q_is l0 16) fun _ => q_ca (F_X13_isName κ l0 v13 v5) fun v15 => q_br (¬ v15 = 0) (F_X13_isForm_29 κ q_fu l0 l1 l2 (v5 + (1 : Int32)) (0 : Int32)) (q_rz (0 : Int32))
theorem M_X13_isForm (κ : Nat → Nat) (l0 : Option Nat) (l1 : Int32) (l2 : Int32) : q_mo (F_X13_isForm κ l0 l1 l2) := (q_mo_rd fun v1 => (q_mo_rd fun v5 => (q_mo_rd fun v9 => (q_mo_rd fun v13 => (q_mo_rd fun _ => q_mo_ca (M_X13_isName κ l0 v13 v5) fun v15 => (q_mo_br (M_X13_isForm_29 κ q_fu l0 l1 l2 (v5 + (1 : Int32)) (0 : Int32)) q_mo_rz))))))
set_option maxRecDepth 100000 in
set_option maxHeartbeats 4000000 in
theorem K_X13_isForm {E : q_Ev} (l0 : Option Nat) (l1 : Int32) (l2 : Int32) : q_Ct E yX13_isForm (.code yX13_isForm cX13_isForm 6 (some .boolean)) 3 72 [q_R l0, q_I l1, q_I l2] q_oI (F_X13_isForm (q_kap E) l0 l1 l2) := by
  refine q_enter (by decide) (Nat.le_of_ble_eq_true rfl) (fun Γ σ w h B hT => ?_)
  have C := B.1
  unfold F_X13_isForm at h
  refine q_aload_n (pc := 0) C 0 rfl dX13_isForm_0 rfl ?_
  refine q_getA (pc := 1) C dX13_isForm_1 ql_X13_108 h (fun v1 h => ?_)
  refine q_iload_n (pc := 4) C 1 rfl dX13_isForm_4 rfl ?_
  refine q_ldI (pc := 5) C dX13_isForm_5 (Or.inr (Or.inl ⟨rfl, rfl⟩)) h (fun v5 h => ?_)
  refine q_istore_n (pc := 6) (l' := [(3, q_I v5), (0, q_R l0), (1, q_I l1), (2, q_I l2)]) C dX13_isForm_6 rfl (by decide) rfl ?_
  refine q_aload_n (pc := 7) C 1 rfl dX13_isForm_7 rfl ?_
  refine q_aload_n (pc := 8) C 1 rfl dX13_isForm_8 rfl ?_
  refine q_getA (pc := 9) C dX13_isForm_9 ql_X13_68 h (fun v9 h => ?_)
  refine q_iload_n (pc := 12) C 3 rfl dX13_isForm_12 rfl ?_
  refine q_ldI (pc := 13) C dX13_isForm_13 (Or.inr (Or.inl ⟨rfl, rfl⟩)) h (fun v13 h => ?_)
  refine q_iload_n (pc := 14) C 0 rfl dX13_isForm_14 rfl ?_
  refine q_callV (pc := 15) (As := [q_I v13, q_I v5]) (st := []) (ps := q_psI) C B.2.1 hT q_hpI qm_X13_193 qv_X13_isName dX13_isForm_15 rfl rfl (Nat.le_of_ble_eq_true rfl) (q_flo B.2.2.1 B.2.2.2.1 (by decide) (by decide)) (K_X13_isName l0 v13 v5) (M_X13_isName (q_kap E) l0 v13 v5) (by exact fun v15 => (q_mo_br (M_X13_isForm_29 (q_kap E) q_fu l0 l1 l2 (v5 + (1 : Int32)) (0 : Int32)) q_mo_rz)) h (fun v15 σ h => ?_)
  refine q_W.st (st' := [q_I v15]) rfl ?_
  refine q_if_ne (pc := 18) (tgt := 23) C dX13_isForm_18 (by decide) h (fun _ h => ?_) (fun _ h => ?_)
  · refine q_iinc (pc := 23) (v := (1 : Int32)) (l' := [(3, q_I (v5 + (1 : Int32))), (0, q_R l0), (1, q_I l1), (2, q_I l2)]) C 0 rfl dX13_isForm_23 (by decide) (by decide) rfl ?_
    refine q_iconst (pc := 26) (v := (0 : Int32)) C dX13_isForm_26 (by decide) ?_
    refine q_istore (pc := 27) (l' := [(4, q_I (0 : Int32)), (3, q_I (v5 + (1 : Int32))), (0, q_R l0), (1, q_I l1), (2, q_I l2)]) C dX13_isForm_27 (by decide) rfl ?_
    refine q_W.sub [2, 3, 4, 1, 0] rfl ?_
    exact S_X13_isForm_29 B hT q_fu l0 l1 l2 (v5 + (1 : Int32)) (0 : Int32) _ h
  · refine q_iconst (pc := 21) (v := (0 : Int32)) C dX13_isForm_21 (by decide) ?_
    exact q_zret C B.2.2.2.2.1 dX13_isForm_22 h
def F_X13_value_77 (κ : Nat → Nat) (s0 : Int64) : q_X Int64 :=
  q_rt s0
theorem M_X13_value_77 (κ : Nat → Nat) (s0 : Int64) : q_mo (F_X13_value_77 κ s0) := q_mo_rt
theorem N_X13_value_77 (κ : Nat → Nat) (s0 : Int64) : q_ni (F_X13_value_77 κ s0) := q_ni_rt
set_option maxRecDepth 100000 in
set_option maxHeartbeats 4000000 in
theorem S_X13_value_77 {E : q_Ev} {Γ : q_Gm} {w : (Int64 ⊕ q_Exn) × q_St} (B : q_Bd E Γ cX13_value yX13_value.cls 7 0 0 (some .long) yX13_value.name w) (hT : q_nT Γ) (s0 : Int64) (σ : q_St) (h : F_X13_value_77 (q_kap E) s0 σ = some w) : q_W E Γ (q_QF E Γ q_oL w) 7 σ 77 [] [q_L s0] := by
  have C := B.1
  unfold F_X13_value_77 at h
  exact q_lret C B.2.2.2.2.1 dX13_value_77 h
def F_X13_value_47 (κ : Nat → Nat) (l0 : Option Nat) (l1 : Int32) (l4 : Int32) (s0 : Int64) (s1 : Int32) : q_X Int64 :=
  q_rd (q_gA l0 16 25) fun v52 => q_rd (q_lI 1 v52 l4) fun v57 => q_br (¬ v57 = (3 : Int32)) (F_X13_value_77 κ (s0 + s1.toInt64)) (q_rd (q_gA l0 16 49) fun v65 => q_rd (q_lI 1 v65 l1) fun v69 => F_X13_value_77 κ ((s0 + s1.toInt64) - v69.toInt64))
theorem M_X13_value_47 (κ : Nat → Nat) (l0 : Option Nat) (l1 : Int32) (l4 : Int32) (s0 : Int64) (s1 : Int32) : q_mo (F_X13_value_47 κ l0 l1 l4 s0 s1) := (q_mo_rd fun v52 => (q_mo_rd fun v57 => (q_mo_br (M_X13_value_77 κ (s0 + s1.toInt64)) (q_mo_rd fun v65 => (q_mo_rd fun v69 => (M_X13_value_77 κ ((s0 + s1.toInt64) - v69.toInt64)))))))
theorem N_X13_value_47 (κ : Nat → Nat) (l0 : Option Nat) (l1 : Int32) (l4 : Int32) (s0 : Int64) (s1 : Int32) : q_ni (F_X13_value_47 κ l0 l1 l4 s0 s1) := (q_ni_rd fun v52 => (q_ni_rd fun v57 => (q_ni_br (N_X13_value_77 κ (s0 + s1.toInt64)) (q_ni_rd fun v65 => (q_ni_rd fun v69 => (N_X13_value_77 κ ((s0 + s1.toInt64) - v69.toInt64)))))))
set_option maxRecDepth 100000 in
set_option maxHeartbeats 4000000 in
theorem S_X13_value_47 {E : q_Ev} {Γ : q_Gm} {w : (Int64 ⊕ q_Exn) × q_St} (B : q_Bd E Γ cX13_value yX13_value.cls 7 0 0 (some .long) yX13_value.name w) (hT : q_nT Γ) (l0 : Option Nat) (l1 : Int32) (l4 : Int32) (s0 : Int64) (s1 : Int32) (σ : q_St) (h : F_X13_value_47 (q_kap E) l0 l1 l4 s0 s1 σ = some w) : q_W E Γ (q_QF E Γ q_oL w) 7 σ 47 [(0, q_R l0), (1, q_I l1), (4, q_I l4)] [q_I s1, q_L s0] := by
  have C := B.1
  unfold F_X13_value_47 at h
  refine q_i2l (pc := 47) C dX13_value_47 ?_
  refine q_ladd (pc := 48) C dX13_value_48 ?_
  refine q_lstore (pc := 49) (l' := [(5, q_L (s0 + s1.toInt64)), (0, q_R l0), (1, q_I l1), (4, q_I l4)]) C dX13_value_49 (by decide) rfl ?_
  refine q_aload_n (pc := 51) C 1 rfl dX13_value_51 rfl ?_
  refine q_getA (pc := 52) C dX13_value_52 ql_X13_53 h (fun v52 h => ?_)
  refine q_iload (pc := 55) C 3 rfl dX13_value_55 ?_
  refine q_ldI (pc := 57) C dX13_value_57 (Or.inr (Or.inl ⟨rfl, rfl⟩)) h (fun v57 h => ?_)
  refine q_iconst (pc := 58) (v := (3 : Int32)) C dX13_value_58 (by decide) ?_
  refine q_icmp_ne (pc := 59) (tgt := 75) C dX13_value_59 (by decide) h (fun _ h => ?_) (fun _ h => ?_)
  · refine q_lload (pc := 75) C 0 rfl dX13_value_75 ?_
    refine q_W.sub [] rfl ?_
    exact S_X13_value_77 B hT (s0 + s1.toInt64) _ h
  · refine q_lload (pc := 62) C 0 rfl dX13_value_62 ?_
    refine q_aload_n (pc := 64) C 1 rfl dX13_value_64 rfl ?_
    refine q_getA (pc := 65) C dX13_value_65 ql_X13_117 h (fun v65 h => ?_)
    refine q_iload_n (pc := 68) C 2 rfl dX13_value_68 rfl ?_
    refine q_ldI (pc := 69) C dX13_value_69 (Or.inr (Or.inl ⟨rfl, rfl⟩)) h (fun v69 h => ?_)
    refine q_i2l (pc := 70) C dX13_value_70 ?_
    refine q_lsub (pc := 71) C dX13_value_71 ?_
    refine q_goto (pc := 72) (tgt := 77) C dX13_value_72 (by decide) ?_
    refine q_W.sub [] rfl ?_
    exact S_X13_value_77 B hT ((s0 + s1.toInt64) - v69.toInt64) _ h
def F_X13_value (κ : Nat → Nat) (l0 : Option Nat) (l1 : Int32) (l2 : Int32) (l3 : Int32) : q_X Int64 :=
  q_rd (q_gA l0 16 37) fun v1 => q_rd (q_lI 1 v1 (((5 : Int32) * l2) + l3)) fun v9 => q_rd (q_gA l0 16 56) fun v13 => q_rd (q_lL v13 l3) fun v17 => q_rd (q_gA l0 16 55) fun v19 => q_rd (q_lI 1 v19 l3) fun v23 => q_br (0 ≤ v23) (q_rd (q_gA l0 16 49) fun v32 => q_rd (q_gA l0 16 54) fun v36 => q_rd (q_gA l0 16 55) fun v40 => q_rd (q_lI 1 v40 l3) fun v44 => q_rd (q_lI 1 v36 v44) fun v45 => q_rd (q_lI 1 v32 v45) fun v46 => F_X13_value_47 κ l0 l1 v9 v17 v46) (F_X13_value_47 κ l0 l1 v9 v17 (0 : Int32))
theorem M_X13_value (κ : Nat → Nat) (l0 : Option Nat) (l1 : Int32) (l2 : Int32) (l3 : Int32) : q_mo (F_X13_value κ l0 l1 l2 l3) := (q_mo_rd fun v1 => (q_mo_rd fun v9 => (q_mo_rd fun v13 => (q_mo_rd fun v17 => (q_mo_rd fun v19 => (q_mo_rd fun v23 => (q_mo_br (q_mo_rd fun v32 => (q_mo_rd fun v36 => (q_mo_rd fun v40 => (q_mo_rd fun v44 => (q_mo_rd fun v45 => (q_mo_rd fun v46 => (M_X13_value_47 κ l0 l1 v9 v17 v46))))))) (M_X13_value_47 κ l0 l1 v9 v17 (0 : Int32)))))))))
theorem N_X13_value (κ : Nat → Nat) (l0 : Option Nat) (l1 : Int32) (l2 : Int32) (l3 : Int32) : q_ni (F_X13_value κ l0 l1 l2 l3) := (q_ni_rd fun v1 => (q_ni_rd fun v9 => (q_ni_rd fun v13 => (q_ni_rd fun v17 => (q_ni_rd fun v19 => (q_ni_rd fun v23 => (q_ni_br (q_ni_rd fun v32 => (q_ni_rd fun v36 => (q_ni_rd fun v40 => (q_ni_rd fun v44 => (q_ni_rd fun v45 => (q_ni_rd fun v46 => (N_X13_value_47 κ l0 l1 v9 v17 v46))))))) (N_X13_value_47 κ l0 l1 v9 v17 (0 : Int32)))))))))
set_option maxRecDepth 100000 in
set_option maxHeartbeats 4000000 in
theorem K_X13_value {E : q_Ev} (l0 : Option Nat) (l1 : Int32) (l2 : Int32) (l3 : Int32) : q_Ct E yX13_value (.code yX13_value cX13_value 7 (some .long)) 0 0 [q_R l0, q_I l1, q_I l2, q_I l3] q_oL (F_X13_value (q_kap E) l0 l1 l2 l3) := by
  refine q_enter (by decide) (Nat.le_of_ble_eq_true rfl) (fun Γ σ w h B hT => ?_)
  have C := B.1
  unfold F_X13_value at h
  refine q_aload_n (pc := 0) C 0 rfl dX13_value_0 rfl ?_
  refine q_getA (pc := 1) C dX13_value_1 ql_X13_89 h (fun v1 h => ?_)
  refine q_iconst (pc := 4) (v := (5 : Int32)) C dX13_value_4 (by decide) ?_
  refine q_iload_n (pc := 5) C 2 rfl dX13_value_5 rfl ?_
  refine q_imul (pc := 6) C dX13_value_6 ?_
  refine q_iload_n (pc := 7) C 3 rfl dX13_value_7 rfl ?_
  refine q_iadd (pc := 8) C dX13_value_8 ?_
  refine q_ldI (pc := 9) C dX13_value_9 (Or.inr (Or.inl ⟨rfl, rfl⟩)) h (fun v9 h => ?_)
  refine q_istore (pc := 10) (l' := [(4, q_I v9), (0, q_R l0), (1, q_I l1), (2, q_I l2), (3, q_I l3)]) C dX13_value_10 (by decide) rfl ?_
  refine q_aload_n (pc := 12) C 1 rfl dX13_value_12 rfl ?_
  refine q_getA (pc := 13) C dX13_value_13 ql_X13_135 h (fun v13 h => ?_)
  refine q_iload_n (pc := 16) C 4 rfl dX13_value_16 rfl ?_
  refine q_ldL (pc := 17) C dX13_value_17 h (fun v17 h => ?_)
  refine q_aload_n (pc := 18) C 1 rfl dX13_value_18 rfl ?_
  refine q_getA (pc := 19) C dX13_value_19 ql_X13_132 h (fun v19 h => ?_)
  refine q_iload_n (pc := 22) C 4 rfl dX13_value_22 rfl ?_
  refine q_ldI (pc := 23) C dX13_value_23 (Or.inr (Or.inl ⟨rfl, rfl⟩)) h (fun v23 h => ?_)
  refine q_if_ge (pc := 24) (tgt := 31) C dX13_value_24 (by decide) h (fun _ h => ?_) (fun _ h => ?_)
  · refine q_aload_n (pc := 31) C 1 rfl dX13_value_31 rfl ?_
    refine q_getA (pc := 32) C dX13_value_32 ql_X13_117 h (fun v32 h => ?_)
    refine q_aload_n (pc := 35) C 1 rfl dX13_value_35 rfl ?_
    refine q_getA (pc := 36) C dX13_value_36 ql_X13_129 h (fun v36 h => ?_)
    refine q_aload_n (pc := 39) C 1 rfl dX13_value_39 rfl ?_
    refine q_getA (pc := 40) C dX13_value_40 ql_X13_132 h (fun v40 h => ?_)
    refine q_iload_n (pc := 43) C 4 rfl dX13_value_43 rfl ?_
    refine q_ldI (pc := 44) C dX13_value_44 (Or.inr (Or.inl ⟨rfl, rfl⟩)) h (fun v44 h => ?_)
    refine q_ldI (pc := 45) C dX13_value_45 (Or.inr (Or.inl ⟨rfl, rfl⟩)) h (fun v45 h => ?_)
    refine q_ldI (pc := 46) C dX13_value_46 (Or.inr (Or.inl ⟨rfl, rfl⟩)) h (fun v46 h => ?_)
    refine q_W.sub [1, 2, 0] rfl ?_
    exact S_X13_value_47 B hT l0 l1 v9 v17 v46 _ h
  · refine q_iconst (pc := 27) (v := (0 : Int32)) C dX13_value_27 (by decide) ?_
    refine q_goto (pc := 28) (tgt := 47) C dX13_value_28 (by decide) ?_
    refine q_W.sub [1, 2, 0] rfl ?_
    exact S_X13_value_47 B hT l0 l1 v9 v17 (0 : Int32) _ h
def F_X13_isFitting_119 (κ : Nat → Nat) : q_X Int32 :=
  q_rz (0 : Int32)
theorem M_X13_isFitting_119 (κ : Nat → Nat) : q_mo (F_X13_isFitting_119 κ) := q_mo_rz
set_option maxRecDepth 100000 in
set_option maxHeartbeats 4000000 in
theorem S_X13_isFitting_119 {E : q_Ev} {Γ : q_Gm} {w : (Int32 ⊕ q_Exn) × q_St} (B : q_Bd E Γ cX13_isFitting yX13_isFitting.cls 8 1 26 (some .boolean) yX13_isFitting.name w) (hT : q_nT Γ) (σ : q_St) (h : F_X13_isFitting_119 (q_kap E) σ = some w) : q_W E Γ (q_QF E Γ q_oI w) 8 σ 119 [] [] := by
  have C := B.1
  unfold F_X13_isFitting_119 at h
  refine q_iconst (pc := 119) (v := (0 : Int32)) C dX13_isFitting_119 (by decide) ?_
  exact q_zret C B.2.2.2.2.1 dX13_isFitting_120 h
def F_X13_isFitting_121 (κ : Nat → Nat) (r2 : Option Nat → Int32 → Int32 → Int32 → q_X Int32) (l0 : Option Nat) (l1 : Int32) (l2 : Int32) (l3 : Int32) : q_X Int32 :=
  r2 l0 l1 l2 (l3 + (1 : Int32))
theorem M_X13_isFitting_121 (κ : Nat → Nat) (r2 : Option Nat → Int32 → Int32 → Int32 → q_X Int32) (mr2 : ∀ (l0 : Option Nat) (l1 : Int32) (l2 : Int32) (l3 : Int32), q_mo (r2 l0 l1 l2 l3)) (l0 : Option Nat) (l1 : Int32) (l2 : Int32) (l3 : Int32) : q_mo (F_X13_isFitting_121 κ r2 l0 l1 l2 l3) := (mr2 l0 l1 l2 (l3 + (1 : Int32)))
set_option maxRecDepth 100000 in
set_option maxHeartbeats 4000000 in
theorem S_X13_isFitting_121 {E : q_Ev} {Γ : q_Gm} {w : (Int32 ⊕ q_Exn) × q_St} (B : q_Bd E Γ cX13_isFitting yX13_isFitting.cls 8 1 26 (some .boolean) yX13_isFitting.name w) (hT : q_nT Γ) (r2 : Option Nat → Int32 → Int32 → Int32 → q_X Int32) (hr2 : ∀ (l0 : Option Nat) (l1 : Int32) (l2 : Int32) (l3 : Int32) (σ : q_St), r2 l0 l1 l2 l3 σ = some w → q_W E Γ (q_QF E Γ q_oI w) 8 σ 2 [(0, q_R l0), (1, q_I l1), (2, q_I l2), (3, q_I l3)] []) (mr2 : ∀ (l0 : Option Nat) (l1 : Int32) (l2 : Int32) (l3 : Int32), q_mo (r2 l0 l1 l2 l3)) (l0 : Option Nat) (l1 : Int32) (l2 : Int32) (l3 : Int32) (σ : q_St) (h : F_X13_isFitting_121 (q_kap E) r2 l0 l1 l2 l3 σ = some w) : q_W E Γ (q_QF E Γ q_oI w) 8 σ 121 [(0, q_R l0), (1, q_I l1), (2, q_I l2), (3, q_I l3)] [] := by
  have C := B.1
  unfold F_X13_isFitting_121 at h
  refine q_iinc (pc := 121) (v := (1 : Int32)) (l' := [(3, q_I (l3 + (1 : Int32))), (0, q_R l0), (1, q_I l1), (2, q_I l2)]) C 3 rfl dX13_isFitting_121 (by decide) (by decide) rfl ?_
  refine q_goto (pc := 124) (tgt := 2) C dX13_isFitting_124 (by decide) ?_
  refine q_W.sub [1, 2, 3, 0] rfl ?_
  exact hr2 l0 l1 l2 (l3 + (1 : Int32)) _ h
def F_X13_isFitting_94 (κ : Nat → Nat) (r2 : Option Nat → Int32 → Int32 → Int32 → q_X Int32) (l0 : Option Nat) (l1 : Int32) (l2 : Int32) (l3 : Int32) (l5 : Int32) (l6 : Int64) : q_X Int32 :=
  q_br ((lg_cmp l6 (-((1 : Int64) <<< ((l5 - (1 : Int32)).toInt64 &&& 63)))) < 0) (F_X13_isFitting_119 κ) (q_br ((lg_cmp l6 ((1 : Int64) <<< ((l5 - (1 : Int32)).toInt64 &&& 63))) < 0) (F_X13_isFitting_121 κ r2 l0 l1 l2 l3) (F_X13_isFitting_119 κ))
theorem M_X13_isFitting_94 (κ : Nat → Nat) (r2 : Option Nat → Int32 → Int32 → Int32 → q_X Int32) (mr2 : ∀ (l0 : Option Nat) (l1 : Int32) (l2 : Int32) (l3 : Int32), q_mo (r2 l0 l1 l2 l3)) (l0 : Option Nat) (l1 : Int32) (l2 : Int32) (l3 : Int32) (l5 : Int32) (l6 : Int64) : q_mo (F_X13_isFitting_94 κ r2 l0 l1 l2 l3 l5 l6) := (q_mo_br (M_X13_isFitting_119 κ) (q_mo_br (M_X13_isFitting_121 κ r2 mr2 l0 l1 l2 l3) (M_X13_isFitting_119 κ)))
set_option maxRecDepth 100000 in
set_option maxHeartbeats 4000000 in
theorem S_X13_isFitting_94 {E : q_Ev} {Γ : q_Gm} {w : (Int32 ⊕ q_Exn) × q_St} (B : q_Bd E Γ cX13_isFitting yX13_isFitting.cls 8 1 26 (some .boolean) yX13_isFitting.name w) (hT : q_nT Γ) (r2 : Option Nat → Int32 → Int32 → Int32 → q_X Int32) (hr2 : ∀ (l0 : Option Nat) (l1 : Int32) (l2 : Int32) (l3 : Int32) (σ : q_St), r2 l0 l1 l2 l3 σ = some w → q_W E Γ (q_QF E Γ q_oI w) 8 σ 2 [(0, q_R l0), (1, q_I l1), (2, q_I l2), (3, q_I l3)] []) (mr2 : ∀ (l0 : Option Nat) (l1 : Int32) (l2 : Int32) (l3 : Int32), q_mo (r2 l0 l1 l2 l3)) (l0 : Option Nat) (l1 : Int32) (l2 : Int32) (l3 : Int32) (l5 : Int32) (l6 : Int64) (σ : q_St) (h : F_X13_isFitting_94 (q_kap E) r2 l0 l1 l2 l3 l5 l6 σ = some w) : q_W E Γ (q_QF E Γ q_oI w) 8 σ 94 [(0, q_R l0), (1, q_I l1), (2, q_I l2), (3, q_I l3), (5, q_I l5), (6, q_L l6)] [] := by
  have C := B.1
  unfold F_X13_isFitting_94 at h
  refine q_lload (pc := 94) C 5 rfl dX13_isFitting_94 ?_
  refine q_lconst (pc := 96) (v := (1 : Int64)) C dX13_isFitting_96 (by decide) ?_
  refine q_iload (pc := 97) C 4 rfl dX13_isFitting_97 ?_
  refine q_iconst (pc := 99) (v := (1 : Int32)) C dX13_isFitting_99 (by decide) ?_
  refine q_isub (pc := 100) C dX13_isFitting_100 ?_
  refine q_lshl (pc := 101) C dX13_isFitting_101 ?_
  refine q_lneg (pc := 102) C dX13_isFitting_102 ?_
  refine q_lcmp (pc := 103) C dX13_isFitting_103 ?_
  refine q_if_lt (pc := 104) (tgt := 119) C dX13_isFitting_104 (by decide) h (fun _ h => ?_) (fun _ h => ?_)
  · refine q_W.sub [] rfl ?_
    exact S_X13_isFitting_119 B hT _ h
  · refine q_lload (pc := 107) C 5 rfl dX13_isFitting_107 ?_
    refine q_lconst (pc := 109) (v := (1 : Int64)) C dX13_isFitting_109 (by decide) ?_
    refine q_iload (pc := 110) C 4 rfl dX13_isFitting_110 ?_
    refine q_iconst (pc := 112) (v := (1 : Int32)) C dX13_isFitting_112 (by decide) ?_
    refine q_isub (pc := 113) C dX13_isFitting_113 ?_
    refine q_lshl (pc := 114) C dX13_isFitting_114 ?_
    refine q_lcmp (pc := 115) C dX13_isFitting_115 ?_
    refine q_if_lt (pc := 116) (tgt := 121) C dX13_isFitting_116 (by decide) h (fun _ h => ?_) (fun _ h => ?_)
    · refine q_W.sub [0, 1, 2, 3] rfl ?_
      exact S_X13_isFitting_121 B hT r2 hr2 mr2 l0 l1 l2 l3 _ h
    · refine q_W.sub [] rfl ?_
      exact S_X13_isFitting_119 B hT _ h
def F_X13_isFitting_72 (κ : Nat → Nat) (r2 : Option Nat → Int32 → Int32 → Int32 → q_X Int32) (l0 : Option Nat) (l1 : Int32) (l2 : Int32) (l3 : Int32) (l4 : Int32) (l5 : Int32) (l6 : Int64) : q_X Int32 :=
  q_rd (q_gA l0 16 25) fun v73 => q_rd (q_lI 1 v73 l4) fun v78 => q_br (v78 = (2 : Int32)) (F_X13_isFitting_94 κ r2 l0 l1 l2 l3 l5 l6) (q_rd (q_gA l0 16 25) fun v84 => q_rd (q_lI 1 v84 l4) fun v89 => q_br (¬ v89 = (3 : Int32)) (F_X13_isFitting_121 κ r2 l0 l1 l2 l3) (F_X13_isFitting_94 κ r2 l0 l1 l2 l3 l5 l6))
theorem M_X13_isFitting_72 (κ : Nat → Nat) (r2 : Option Nat → Int32 → Int32 → Int32 → q_X Int32) (mr2 : ∀ (l0 : Option Nat) (l1 : Int32) (l2 : Int32) (l3 : Int32), q_mo (r2 l0 l1 l2 l3)) (l0 : Option Nat) (l1 : Int32) (l2 : Int32) (l3 : Int32) (l4 : Int32) (l5 : Int32) (l6 : Int64) : q_mo (F_X13_isFitting_72 κ r2 l0 l1 l2 l3 l4 l5 l6) := (q_mo_rd fun v73 => (q_mo_rd fun v78 => (q_mo_br (M_X13_isFitting_94 κ r2 mr2 l0 l1 l2 l3 l5 l6) (q_mo_rd fun v84 => (q_mo_rd fun v89 => (q_mo_br (M_X13_isFitting_121 κ r2 mr2 l0 l1 l2 l3) (M_X13_isFitting_94 κ r2 mr2 l0 l1 l2 l3 l5 l6)))))))
set_option maxRecDepth 100000 in
set_option maxHeartbeats 4000000 in
theorem S_X13_isFitting_72 {E : q_Ev} {Γ : q_Gm} {w : (Int32 ⊕ q_Exn) × q_St} (B : q_Bd E Γ cX13_isFitting yX13_isFitting.cls 8 1 26 (some .boolean) yX13_isFitting.name w) (hT : q_nT Γ) (r2 : Option Nat → Int32 → Int32 → Int32 → q_X Int32) (hr2 : ∀ (l0 : Option Nat) (l1 : Int32) (l2 : Int32) (l3 : Int32) (σ : q_St), r2 l0 l1 l2 l3 σ = some w → q_W E Γ (q_QF E Γ q_oI w) 8 σ 2 [(0, q_R l0), (1, q_I l1), (2, q_I l2), (3, q_I l3)] []) (mr2 : ∀ (l0 : Option Nat) (l1 : Int32) (l2 : Int32) (l3 : Int32), q_mo (r2 l0 l1 l2 l3)) (l0 : Option Nat) (l1 : Int32) (l2 : Int32) (l3 : Int32) (l4 : Int32) (l5 : Int32) (l6 : Int64) (σ : q_St) (h : F_X13_isFitting_72 (q_kap E) r2 l0 l1 l2 l3 l4 l5 l6 σ = some w) : q_W E Γ (q_QF E Γ q_oI w) 8 σ 72 [(0, q_R l0), (1, q_I l1), (2, q_I l2), (3, q_I l3), (4, q_I l4), (5, q_I l5), (6, q_L l6)] [] := by
  have C := B.1
  unfold F_X13_isFitting_72 at h
  refine q_aload_n (pc := 72) C 0 rfl dX13_isFitting_72 rfl ?_
  refine q_getA (pc := 73) C dX13_isFitting_73 ql_X13_53 h (fun v73 h => ?_)
  refine q_iload (pc := 76) C 4 rfl dX13_isFitting_76 ?_
  refine q_ldI (pc := 78) C dX13_isFitting_78 (Or.inr (Or.inl ⟨rfl, rfl⟩)) h (fun v78 h => ?_)
  refine q_iconst (pc := 79) (v := (2 : Int32)) C dX13_isFitting_79 (by decide) ?_
  refine q_icmp_eq (pc := 80) (tgt := 94) C dX13_isFitting_80 (by decide) h (fun _ h => ?_) (fun _ h => ?_)
  · refine q_W.sub [0, 1, 2, 3, 5, 6] rfl ?_
    exact S_X13_isFitting_94 B hT r2 hr2 mr2 l0 l1 l2 l3 l5 l6 _ h
  · refine q_aload_n (pc := 83) C 0 rfl dX13_isFitting_83 rfl ?_
    refine q_getA (pc := 84) C dX13_isFitting_84 ql_X13_53 h (fun v84 h => ?_)
    refine q_iload (pc := 87) C 4 rfl dX13_isFitting_87 ?_
    refine q_ldI (pc := 89) C dX13_isFitting_89 (Or.inr (Or.inl ⟨rfl, rfl⟩)) h (fun v89 h => ?_)
    refine q_iconst (pc := 90) (v := (3 : Int32)) C dX13_isFitting_90 (by decide) ?_
    refine q_icmp_ne (pc := 91) (tgt := 121) C dX13_isFitting_91 (by decide) h (fun _ h => ?_) (fun _ h => ?_)
    · refine q_W.sub [0, 1, 2, 3] rfl ?_
      exact S_X13_isFitting_121 B hT r2 hr2 mr2 l0 l1 l2 l3 _ h
    · refine q_W.sub [0, 1, 2, 3, 5, 6] rfl ?_
      exact S_X13_isFitting_94 B hT r2 hr2 mr2 l0 l1 l2 l3 l5 l6 _ h
def F_X13_isFitting_70 (κ : Nat → Nat) : q_X Int32 :=
  q_rz (0 : Int32)
theorem M_X13_isFitting_70 (κ : Nat → Nat) : q_mo (F_X13_isFitting_70 κ) := q_mo_rz
set_option maxRecDepth 100000 in
set_option maxHeartbeats 4000000 in
theorem S_X13_isFitting_70 {E : q_Ev} {Γ : q_Gm} {w : (Int32 ⊕ q_Exn) × q_St} (B : q_Bd E Γ cX13_isFitting yX13_isFitting.cls 8 1 26 (some .boolean) yX13_isFitting.name w) (hT : q_nT Γ) (σ : q_St) (h : F_X13_isFitting_70 (q_kap E) σ = some w) : q_W E Γ (q_QF E Γ q_oI w) 8 σ 70 [] [] := by
  have C := B.1
  unfold F_X13_isFitting_70 at h
  refine q_iconst (pc := 70) (v := (0 : Int32)) C dX13_isFitting_70 (by decide) ?_
  exact q_zret C B.2.2.2.2.1 dX13_isFitting_71 h
def F_X13_isFitting_2B (κ : Nat → Nat) (r2 : Option Nat → Int32 → Int32 → Int32 → q_X Int32) (l0 : Option Nat) (l1 : Int32) (l2 : Int32) (l3 : Int32) : q_X Int32 :=
  q_rd (q_gA l0 16 32) fun v4 => q_rd (q_lI 1 v4 l2) fun v8 => q_br (v8 ≤ l3) (q_rz (1 : Int32)) (q_rd (q_gA l0 16 37) fun v13 => q_rd (q_lI 1 v13 (((5 : Int32) * l2) + l3)) fun v21 => q_rd (q_gA l0 16 28) fun v25 => q_rd (q_lI 1 v25 v21) fun v30 => q_rd (q_is l0 16) fun _ => q_ca (F_X13_value κ l0 l1 l2 l3) fun v37 => q_rd (q_gA l0 16 25) fun v43 => q_rd (q_lI 1 v43 v21) fun v48 => q_br (¬ v48 = (1 : Int32)) (F_X13_isFitting_72 κ r2 l0 l1 l2 l3 v21 v30 v37) (q_br ((lg_cmp v37 (0 : Int64)) < 0) (F_X13_isFitting_70 κ) (q_br ((lg_cmp v37 ((1 : Int64) <<< (v30.toInt64 &&& 63))) < 0) (F_X13_isFitting_72 κ r2 l0 l1 l2 l3 v21 v30 v37) (F_X13_isFitting_70 κ))))
theorem M_X13_isFitting_2B (κ : Nat → Nat) (r2 : Option Nat → Int32 → Int32 → Int32 → q_X Int32) (mr2 : ∀ (l0 : Option Nat) (l1 : Int32) (l2 : Int32) (l3 : Int32), q_mo (r2 l0 l1 l2 l3)) (l0 : Option Nat) (l1 : Int32) (l2 : Int32) (l3 : Int32) : q_mo (F_X13_isFitting_2B κ r2 l0 l1 l2 l3) := (q_mo_rd fun v4 => (q_mo_rd fun v8 => (q_mo_br q_mo_rz (q_mo_rd fun v13 => (q_mo_rd fun v21 => (q_mo_rd fun v25 => (q_mo_rd fun v30 => (q_mo_rd fun _ => q_mo_ca (M_X13_value κ l0 l1 l2 l3) fun v37 => (q_mo_rd fun v43 => (q_mo_rd fun v48 => (q_mo_br (M_X13_isFitting_72 κ r2 mr2 l0 l1 l2 l3 v21 v30 v37) (q_mo_br (M_X13_isFitting_70 κ) (q_mo_br (M_X13_isFitting_72 κ r2 mr2 l0 l1 l2 l3 v21 v30 v37) (M_X13_isFitting_70 κ))))))))))))))
set_option maxRecDepth 100000 in
set_option maxHeartbeats 4000000 in
theorem S_X13_isFitting_2B {E : q_Ev} {Γ : q_Gm} {w : (Int32 ⊕ q_Exn) × q_St} (B : q_Bd E Γ cX13_isFitting yX13_isFitting.cls 8 1 26 (some .boolean) yX13_isFitting.name w) (hT : q_nT Γ) (r2 : Option Nat → Int32 → Int32 → Int32 → q_X Int32) (hr2 : ∀ (l0 : Option Nat) (l1 : Int32) (l2 : Int32) (l3 : Int32) (σ : q_St), r2 l0 l1 l2 l3 σ = some w → q_W E Γ (q_QF E Γ q_oI w) 8 σ 2 [(0, q_R l0), (1, q_I l1), (2, q_I l2), (3, q_I l3)] []) (mr2 : ∀ (l0 : Option Nat) (l1 : Int32) (l2 : Int32) (l3 : Int32), q_mo (r2 l0 l1 l2 l3)) (l0 : Option Nat) (l1 : Int32) (l2 : Int32) (l3 : Int32) (σ : q_St) (h : F_X13_isFitting_2B (q_kap E) r2 l0 l1 l2 l3 σ = some w) : q_W E Γ (q_QF E Γ q_oI w) 8 σ 2 [(0, q_R l0), (1, q_I l1), (2, q_I l2), (3, q_I l3)] [] := by
  have C := B.1
  unfold F_X13_isFitting_2B at h
  refine q_iload_n (pc := 2) C 3 rfl dX13_isFitting_2 rfl ?_
  refine q_aload_n (pc := 3) C 0 rfl dX13_isFitting_3 rfl ?_
  refine q_getA (pc := 4) C dX13_isFitting_4 ql_X13_74 h (fun v4 h => ?_)
  refine q_iload_n (pc := 7) C 2 rfl dX13_isFitting_7 rfl ?_
  refine q_ldI (pc := 8) C dX13_isFitting_8 (Or.inr (Or.inl ⟨rfl, rfl⟩)) h (fun v8 h => ?_)
  refine q_icmp_ge (pc := 9) (tgt := 127) C dX13_isFitting_9 (by decide) h (fun _ h => ?_) (fun _ h => ?_)
  · refine q_iconst (pc := 127) (v := (1 : Int32)) C dX13_isFitting_127 (by decide) ?_
    exact q_zret C B.2.2.2.2.1 dX13_isFitting_128 h
  · refine q_aload_n (pc := 12) C 0 rfl dX13_isFitting_12 rfl ?_
    refine q_getA (pc := 13) C dX13_isFitting_13 ql_X13_89 h (fun v13 h => ?_)
    refine q_iconst (pc := 16) (v := (5 : Int32)) C dX13_isFitting_16 (by decide) ?_
    refine q_iload_n (pc := 17) C 2 rfl dX13_isFitting_17 rfl ?_
    refine q_imul (pc := 18) C dX13_isFitting_18 ?_
    refine q_iload_n (pc := 19) C 3 rfl dX13_isFitting_19 rfl ?_
    refine q_iadd (pc := 20) C dX13_isFitting_20 ?_
    refine q_ldI (pc := 21) C dX13_isFitting_21 (Or.inr (Or.inl ⟨rfl, rfl⟩)) h (fun v21 h => ?_)
    refine q_istore (pc := 22) (l' := [(4, q_I v21), (0, q_R l0), (1, q_I l1), (2, q_I l2), (3, q_I l3)]) C dX13_isFitting_22 (by decide) rfl ?_
    refine q_aload_n (pc := 24) C 1 rfl dX13_isFitting_24 rfl ?_
    refine q_getA (pc := 25) C dX13_isFitting_25 ql_X13_62 h (fun v25 h => ?_)
    refine q_iload (pc := 28) C 0 rfl dX13_isFitting_28 ?_
    refine q_ldI (pc := 30) C dX13_isFitting_30 (Or.inr (Or.inl ⟨rfl, rfl⟩)) h (fun v30 h => ?_)
    refine q_istore (pc := 31) (l' := [(5, q_I v30), (4, q_I v21), (0, q_R l0), (1, q_I l1), (2, q_I l2), (3, q_I l3)]) C dX13_isFitting_31 (by decide) rfl ?_
    refine q_aload_n (pc := 33) C 2 rfl dX13_isFitting_33 rfl ?_
    refine q_iload_n (pc := 34) C 3 rfl dX13_isFitting_34 rfl ?_
    refine q_iload_n (pc := 35) C 4 rfl dX13_isFitting_35 rfl ?_
    refine q_iload_n (pc := 36) C 5 rfl dX13_isFitting_36 rfl ?_
    refine q_callV (pc := 37) (As := [q_I l1, q_I l2, q_I l3]) (st := []) (ps := q_psL) C B.2.1 hT q_hpL qm_X13_311 qv_X13_value dX13_isFitting_37 rfl rfl (Nat.le_of_ble_eq_true rfl) (q_flo B.2.2.1 B.2.2.2.1 (by decide) (by decide)) (K_X13_value l0 l1 l2 l3) (M_X13_value (q_kap E) l0 l1 l2 l3) (by exact fun v37 => (q_mo_rd fun v43 => (q_mo_rd fun v48 => (q_mo_br (M_X13_isFitting_72 (q_kap E) r2 mr2 l0 l1 l2 l3 v21 v30 v37) (q_mo_br (M_X13_isFitting_70 (q_kap E)) (q_mo_br (M_X13_isFitting_72 (q_kap E) r2 mr2 l0 l1 l2 l3 v21 v30 v37) (M_X13_isFitting_70 (q_kap E)))))))) h (fun v37 σ h => ?_)
    refine q_W.st (st' := [q_L v37]) rfl ?_
    refine q_lstore (pc := 40) (l' := [(6, q_L v37), (5, q_I v30), (4, q_I v21), (0, q_R l0), (1, q_I l1), (2, q_I l2), (3, q_I l3)]) C dX13_isFitting_40 (by decide) rfl ?_
    refine q_aload_n (pc := 42) C 3 rfl dX13_isFitting_42 rfl ?_
    refine q_getA (pc := 43) C dX13_isFitting_43 ql_X13_53 h (fun v43 h => ?_)
    refine q_iload (pc := 46) C 2 rfl dX13_isFitting_46 ?_
    refine q_ldI (pc := 48) C dX13_isFitting_48 (Or.inr (Or.inl ⟨rfl, rfl⟩)) h (fun v48 h => ?_)
    refine q_iconst (pc := 49) (v := (1 : Int32)) C dX13_isFitting_49 (by decide) ?_
    refine q_icmp_ne (pc := 50) (tgt := 72) C dX13_isFitting_50 (by decide) h (fun _ h => ?_) (fun _ h => ?_)
    · refine q_W.sub [3, 4, 5, 6, 2, 1, 0] rfl ?_
      exact S_X13_isFitting_72 B hT r2 hr2 mr2 l0 l1 l2 l3 v21 v30 v37 _ h
    · refine q_lload (pc := 53) C 0 rfl dX13_isFitting_53 ?_
      refine q_lconst (pc := 55) (v := (0 : Int64)) C dX13_isFitting_55 (by decide) ?_
      refine q_lcmp (pc := 56) C dX13_isFitting_56 ?_
      refine q_if_lt (pc := 57) (tgt := 70) C dX13_isFitting_57 (by decide) h (fun _ h => ?_) (fun _ h => ?_)
      · refine q_W.sub [] rfl ?_
        exact S_X13_isFitting_70 B hT _ h
      · refine q_lload (pc := 60) C 0 rfl dX13_isFitting_60 ?_
        refine q_lconst (pc := 62) (v := (1 : Int64)) C dX13_isFitting_62 (by decide) ?_
        refine q_iload (pc := 63) C 1 rfl dX13_isFitting_63 ?_
        refine q_lshl (pc := 65) C dX13_isFitting_65 ?_
        refine q_lcmp (pc := 66) C dX13_isFitting_66 ?_
        refine q_if_lt (pc := 67) (tgt := 72) C dX13_isFitting_67 (by decide) h (fun _ h => ?_) (fun _ h => ?_)
        · refine q_W.sub [3, 4, 5, 6, 2, 1, 0] rfl ?_
          exact S_X13_isFitting_72 B hT r2 hr2 mr2 l0 l1 l2 l3 v21 v30 v37 _ h
        · refine q_W.sub [] rfl ?_
          exact S_X13_isFitting_70 B hT _ h
def F_X13_isFitting_2 (κ : Nat → Nat) : Nat → Option Nat → Int32 → Int32 → Int32 → q_X Int32
  | 0, _, _, _, _ => q_no
  | n + 1, l0, l1, l2, l3 => F_X13_isFitting_2B κ (F_X13_isFitting_2 κ n) l0 l1 l2 l3
theorem M_X13_isFitting_2 (κ : Nat → Nat) : ∀ (n : Nat) (l0 : Option Nat) (l1 : Int32) (l2 : Int32) (l3 : Int32), q_mo (F_X13_isFitting_2 κ n l0 l1 l2 l3)
  | 0, _, _, _, _ => q_mo_no
  | n + 1, l0, l1, l2, l3 => M_X13_isFitting_2B κ (F_X13_isFitting_2 κ n) (M_X13_isFitting_2 κ n) l0 l1 l2 l3
theorem S_X13_isFitting_2 {E : q_Ev} {Γ : q_Gm} {w : (Int32 ⊕ q_Exn) × q_St} (B : q_Bd E Γ cX13_isFitting yX13_isFitting.cls 8 1 26 (some .boolean) yX13_isFitting.name w) (hT : q_nT Γ) : ∀ (n : Nat) (l0 : Option Nat) (l1 : Int32) (l2 : Int32) (l3 : Int32) (σ : q_St), F_X13_isFitting_2 (q_kap E) n l0 l1 l2 l3 σ = some w → q_W E Γ (q_QF E Γ q_oI w) 8 σ 2 [(0, q_R l0), (1, q_I l1), (2, q_I l2), (3, q_I l3)] []
  | 0, _, _, _, _, _, h => by cases h
  | n + 1, l0, l1, l2, l3, σ, h => S_X13_isFitting_2B B hT (F_X13_isFitting_2 (q_kap E) n) (S_X13_isFitting_2 B hT n) (M_X13_isFitting_2 (q_kap E) n) l0 l1 l2 l3 σ h
def F_X13_isFitting (κ : Nat → Nat) (l0 : Option Nat) (l1 : Int32) (l2 : Int32) : q_X Int32 :=
  F_X13_isFitting_2 κ q_fu l0 l1 l2 (0 : Int32)
theorem M_X13_isFitting (κ : Nat → Nat) (l0 : Option Nat) (l1 : Int32) (l2 : Int32) : q_mo (F_X13_isFitting κ l0 l1 l2) := (M_X13_isFitting_2 κ q_fu l0 l1 l2 (0 : Int32))
set_option maxRecDepth 100000 in
set_option maxHeartbeats 4000000 in
theorem K_X13_isFitting {E : q_Ev} (l0 : Option Nat) (l1 : Int32) (l2 : Int32) : q_Ct E yX13_isFitting (.code yX13_isFitting cX13_isFitting 8 (some .boolean)) 1 26 [q_R l0, q_I l1, q_I l2] q_oI (F_X13_isFitting (q_kap E) l0 l1 l2) := by
  refine q_enter (by decide) (Nat.le_of_ble_eq_true rfl) (fun Γ σ w h B hT => ?_)
  have C := B.1
  unfold F_X13_isFitting at h
  refine q_iconst (pc := 0) (v := (0 : Int32)) C dX13_isFitting_0 (by decide) ?_
  refine q_istore_n (pc := 1) (l' := [(3, q_I (0 : Int32)), (0, q_R l0), (1, q_I l1), (2, q_I l2)]) C dX13_isFitting_1 rfl (by decide) rfl ?_
  refine q_W.sub [1, 2, 3, 0] rfl ?_
  exact S_X13_isFitting_2 B hT q_fu l0 l1 l2 (0 : Int32) _ h
def F_X13_nextForm_2B (κ : Nat → Nat) (r2 : Option Nat → Int32 → Int32 → q_X Int32) (l0 : Option Nat) (l1 : Int32) (l3 : Int32) : q_X Int32 :=
  q_rd (q_gI l0 16 23) fun v4 => q_br (v4 ≤ l3) (q_rt (-1 : Int32)) (q_rd (q_is l0 16) fun _ => q_ca (F_X13_isForm κ l0 l1 l3) fun v13 => q_br (v13 = 0) (r2 l0 l1 (l3 + (1 : Int32))) (q_rt l3))
theorem M_X13_nextForm_2B (κ : Nat → Nat) (r2 : Option Nat → Int32 → Int32 → q_X Int32) (mr2 : ∀ (l0 : Option Nat) (l1 : Int32) (l3 : Int32), q_mo (r2 l0 l1 l3)) (l0 : Option Nat) (l1 : Int32) (l3 : Int32) : q_mo (F_X13_nextForm_2B κ r2 l0 l1 l3) := (q_mo_rd fun v4 => (q_mo_br q_mo_rt (q_mo_rd fun _ => q_mo_ca (M_X13_isForm κ l0 l1 l3) fun v13 => (q_mo_br (mr2 l0 l1 (l3 + (1 : Int32))) q_mo_rt))))
set_option maxRecDepth 100000 in
set_option maxHeartbeats 4000000 in
theorem S_X13_nextForm_2B {E : q_Ev} {Γ : q_Gm} {w : (Int32 ⊕ q_Exn) × q_St} (B : q_Bd E Γ cX13_nextForm yX13_nextForm.cls 4 4 97 (some .int) yX13_nextForm.name w) (hT : q_nT Γ) (r2 : Option Nat → Int32 → Int32 → q_X Int32) (hr2 : ∀ (l0 : Option Nat) (l1 : Int32) (l3 : Int32) (σ : q_St), r2 l0 l1 l3 σ = some w → q_W E Γ (q_QF E Γ q_oI w) 4 σ 2 [(0, q_R l0), (1, q_I l1), (3, q_I l3)] []) (mr2 : ∀ (l0 : Option Nat) (l1 : Int32) (l3 : Int32), q_mo (r2 l0 l1 l3)) (l0 : Option Nat) (l1 : Int32) (l3 : Int32) (σ : q_St) (h : F_X13_nextForm_2B (q_kap E) r2 l0 l1 l3 σ = some w) : q_W E Γ (q_QF E Γ q_oI w) 4 σ 2 [(0, q_R l0), (1, q_I l1), (3, q_I l3)] [] := by
  have C := B.1
  unfold F_X13_nextForm_2B at h
  refine q_iload_n (pc := 2) C 2 rfl dX13_nextForm_2 rfl ?_
  refine q_aload_n (pc := 3) C 0 rfl dX13_nextForm_3 rfl ?_
  refine q_getI (pc := 4) C dX13_nextForm_4 ql_X13_223 h (fun v4 h => ?_)
  refine q_icmp_ge (pc := 7) (tgt := 27) C dX13_nextForm_7 (by decide) h (fun _ h => ?_) (fun _ h => ?_)
  · refine q_iconst (pc := 27) (v := (-1 : Int32)) C dX13_nextForm_27 (by decide) ?_
    exact q_iret C B.2.2.2.2.1 dX13_nextForm_28 h
  · refine q_aload_n (pc := 10) C 0 rfl dX13_nextForm_10 rfl ?_
    refine q_iload_n (pc := 11) C 1 rfl dX13_nextForm_11 rfl ?_
    refine q_iload_n (pc := 12) C 2 rfl dX13_nextForm_12 rfl ?_
    refine q_callV (pc := 13) (As := [q_I l1, q_I l3]) (st := []) (ps := q_psI) C B.2.1 hT q_hpI qm_X13_315 qv_X13_isForm dX13_nextForm_13 rfl rfl (Nat.le_of_ble_eq_true rfl) (q_flo B.2.2.1 B.2.2.2.1 (by decide) (by decide)) (K_X13_isForm l0 l1 l3) (M_X13_isForm (q_kap E) l0 l1 l3) (by exact fun v13 => (q_mo_br (mr2 l0 l1 (l3 + (1 : Int32))) q_mo_rt)) h (fun v13 σ h => ?_)
    refine q_W.st (st' := [q_I v13]) rfl ?_
    refine q_if_eq (pc := 16) (tgt := 21) C dX13_nextForm_16 (by decide) h (fun _ h => ?_) (fun _ h => ?_)
    · refine q_iinc (pc := 21) (v := (1 : Int32)) (l' := [(3, q_I (l3 + (1 : Int32))), (0, q_R l0), (1, q_I l1)]) C 2 rfl dX13_nextForm_21 (by decide) (by decide) rfl ?_
      refine q_goto (pc := 24) (tgt := 2) C dX13_nextForm_24 (by decide) ?_
      refine q_W.sub [1, 2, 0] rfl ?_
      exact hr2 l0 l1 (l3 + (1 : Int32)) _ h
    · refine q_iload_n (pc := 19) C 2 rfl dX13_nextForm_19 rfl ?_
      exact q_iret C B.2.2.2.2.1 dX13_nextForm_20 h
def F_X13_nextForm_2 (κ : Nat → Nat) : Nat → Option Nat → Int32 → Int32 → q_X Int32
  | 0, _, _, _ => q_no
  | n + 1, l0, l1, l3 => F_X13_nextForm_2B κ (F_X13_nextForm_2 κ n) l0 l1 l3
theorem M_X13_nextForm_2 (κ : Nat → Nat) : ∀ (n : Nat) (l0 : Option Nat) (l1 : Int32) (l3 : Int32), q_mo (F_X13_nextForm_2 κ n l0 l1 l3)
  | 0, _, _, _ => q_mo_no
  | n + 1, l0, l1, l3 => M_X13_nextForm_2B κ (F_X13_nextForm_2 κ n) (M_X13_nextForm_2 κ n) l0 l1 l3
theorem S_X13_nextForm_2 {E : q_Ev} {Γ : q_Gm} {w : (Int32 ⊕ q_Exn) × q_St} (B : q_Bd E Γ cX13_nextForm yX13_nextForm.cls 4 4 97 (some .int) yX13_nextForm.name w) (hT : q_nT Γ) : ∀ (n : Nat) (l0 : Option Nat) (l1 : Int32) (l3 : Int32) (σ : q_St), F_X13_nextForm_2 (q_kap E) n l0 l1 l3 σ = some w → q_W E Γ (q_QF E Γ q_oI w) 4 σ 2 [(0, q_R l0), (1, q_I l1), (3, q_I l3)] []
  | 0, _, _, _, _, h => by cases h
  | n + 1, l0, l1, l3, σ, h => S_X13_nextForm_2B B hT (F_X13_nextForm_2 (q_kap E) n) (S_X13_nextForm_2 B hT n) (M_X13_nextForm_2 (q_kap E) n) l0 l1 l3 σ h
def F_X13_nextForm (κ : Nat → Nat) (l0 : Option Nat) (l1 : Int32) (l2 : Int32) : q_X Int32 :=
  F_X13_nextForm_2 κ q_fu l0 l1 l2
theorem M_X13_nextForm (κ : Nat → Nat) (l0 : Option Nat) (l1 : Int32) (l2 : Int32) : q_mo (F_X13_nextForm κ l0 l1 l2) := (M_X13_nextForm_2 κ q_fu l0 l1 l2)
set_option maxRecDepth 100000 in
set_option maxHeartbeats 4000000 in
theorem K_X13_nextForm {E : q_Ev} (l0 : Option Nat) (l1 : Int32) (l2 : Int32) : q_Ct E yX13_nextForm (.code yX13_nextForm cX13_nextForm 4 (some .int)) 4 97 [q_R l0, q_I l1, q_I l2] q_oI (F_X13_nextForm (q_kap E) l0 l1 l2) := by
  refine q_enter (by decide) (Nat.le_of_ble_eq_true rfl) (fun Γ σ w h B hT => ?_)
  have C := B.1
  unfold F_X13_nextForm at h
  refine q_iload_n (pc := 0) C 2 rfl dX13_nextForm_0 rfl ?_
  refine q_istore_n (pc := 1) (l' := [(3, q_I l2), (0, q_R l0), (1, q_I l1), (2, q_I l2)]) C dX13_nextForm_1 rfl (by decide) rfl ?_
  refine q_W.sub [1, 2, 0] rfl ?_
  exact S_X13_nextForm_2 B hT q_fu l0 l1 l2 _ h
def F_X13_addresses_106 (κ : Nat → Nat) (r4 : Option Nat → Int32 → Int32 → q_X Unit) (l0 : Option Nat) (l1 : Int32) (l2 : Int32) : q_X Unit :=
  r4 l0 l1 (l2 + (1 : Int32))
theorem M_X13_addresses_106 (κ : Nat → Nat) (r4 : Option Nat → Int32 → Int32 → q_X Unit) (mr4 : ∀ (l0 : Option Nat) (l1 : Int32) (l2 : Int32), q_mo (r4 l0 l1 l2)) (l0 : Option Nat) (l1 : Int32) (l2 : Int32) : q_mo (F_X13_addresses_106 κ r4 l0 l1 l2) := (mr4 l0 l1 (l2 + (1 : Int32)))
set_option maxRecDepth 100000 in
set_option maxHeartbeats 4000000 in
theorem S_X13_addresses_106 {E : q_Ev} {Γ : q_Gm} {w : (Unit ⊕ q_Exn) × q_St} (B : q_Bd E Γ cX13_addresses yX13_addresses.cls 4 5 114 (none) yX13_addresses.name w) (hT : q_nT Γ) (r4 : Option Nat → Int32 → Int32 → q_X Unit) (hr4 : ∀ (l0 : Option Nat) (l1 : Int32) (l2 : Int32) (σ : q_St), r4 l0 l1 l2 σ = some w → q_W E Γ (q_QF E Γ q_oV w) 4 σ 4 [(0, q_R l0), (1, q_I l1), (2, q_I l2)] []) (mr4 : ∀ (l0 : Option Nat) (l1 : Int32) (l2 : Int32), q_mo (r4 l0 l1 l2)) (l0 : Option Nat) (l1 : Int32) (l2 : Int32) (σ : q_St) (h : F_X13_addresses_106 (q_kap E) r4 l0 l1 l2 σ = some w) : q_W E Γ (q_QF E Γ q_oV w) 4 σ 106 [(0, q_R l0), (1, q_I l1), (2, q_I l2)] [] := by
  have C := B.1
  unfold F_X13_addresses_106 at h
  refine q_iinc (pc := 106) (v := (1 : Int32)) (l' := [(2, q_I (l2 + (1 : Int32))), (0, q_R l0), (1, q_I l1)]) C 2 rfl dX13_addresses_106 (by decide) (by decide) rfl ?_
  refine q_goto (pc := 109) (tgt := 4) C dX13_addresses_109 (by decide) ?_
  refine q_W.sub [1, 2, 0] rfl ?_
  exact hr4 l0 l1 (l2 + (1 : Int32)) _ h
def F_X13_addresses_77 (κ : Nat → Nat) (r4 : Option Nat → Int32 → Int32 → q_X Unit) (l0 : Option Nat) (l1 : Int32) (l2 : Int32) (s0 : Int32) : q_X Unit :=
  q_br ((l1 + s0) ≤ (4096 : Int32)) (F_X13_addresses_106 κ r4 l0 (l1 + s0) l2) (q_mk (.inr (.inl (15, [.null, .null, .null, .null, .null, .int 0, .int 0, .int 0]))) 8 fun a87 => q_rd (q_gA l0 16 46) fun v93 => q_rd (q_lI 1 v93 l2) fun v97 => q_gd (¬ (some a87) = none) (q_ca (F_X12_init κ (some a87) (3 : Int32) v97) fun _v98 => q_rd (q_is (some a87) 15) fun _ => q_tr RX12 (some a87)))
theorem M_X13_addresses_77 (κ : Nat → Nat) (r4 : Option Nat → Int32 → Int32 → q_X Unit) (mr4 : ∀ (l0 : Option Nat) (l1 : Int32) (l2 : Int32), q_mo (r4 l0 l1 l2)) (l0 : Option Nat) (l1 : Int32) (l2 : Int32) (s0 : Int32) : q_mo (F_X13_addresses_77 κ r4 l0 l1 l2 s0) := (q_mo_br (M_X13_addresses_106 κ r4 mr4 l0 (l1 + s0) l2) (q_mo_mk fun a87 => (q_mo_rd fun v93 => (q_mo_rd fun v97 => (q_mo_gd (q_mo_ca (M_X12_init κ (some a87) (3 : Int32) v97) fun _v98 => (q_mo_rd fun _ => q_mo_tr)))))))
set_option maxRecDepth 100000 in
set_option maxHeartbeats 4000000 in
theorem S_X13_addresses_77 {E : q_Ev} {Γ : q_Gm} {w : (Unit ⊕ q_Exn) × q_St} (B : q_Bd E Γ cX13_addresses yX13_addresses.cls 4 5 114 (none) yX13_addresses.name w) (hT : q_nT Γ) (r4 : Option Nat → Int32 → Int32 → q_X Unit) (hr4 : ∀ (l0 : Option Nat) (l1 : Int32) (l2 : Int32) (σ : q_St), r4 l0 l1 l2 σ = some w → q_W E Γ (q_QF E Γ q_oV w) 4 σ 4 [(0, q_R l0), (1, q_I l1), (2, q_I l2)] []) (mr4 : ∀ (l0 : Option Nat) (l1 : Int32) (l2 : Int32), q_mo (r4 l0 l1 l2)) (l0 : Option Nat) (l1 : Int32) (l2 : Int32) (s0 : Int32) (σ : q_St) (h : F_X13_addresses_77 (q_kap E) r4 l0 l1 l2 s0 σ = some w) : q_W E Γ (q_QF E Γ q_oV w) 4 σ 77 [(0, q_R l0), (1, q_I l1), (2, q_I l2)] [q_I s0] := by
  have C := B.1
  unfold F_X13_addresses_77 at h
  refine q_istore_n (pc := 77) (l' := [(3, q_I s0), (0, q_R l0), (1, q_I l1), (2, q_I l2)]) C dX13_addresses_77 rfl (by decide) rfl ?_
  refine q_iload_n (pc := 78) C 2 rfl dX13_addresses_78 rfl ?_
  refine q_iload_n (pc := 79) C 0 rfl dX13_addresses_79 rfl ?_
  refine q_iadd (pc := 80) C dX13_addresses_80 ?_
  refine q_sipush (pc := 81) (v := (4096 : Int32)) C dX13_addresses_81 (by decide) ?_
  refine q_icmp_le (pc := 84) (tgt := 102) C dX13_addresses_84 (by decide) h (fun _ h => ?_) (fun _ h => ?_)
  · refine q_iload_n (pc := 102) C 2 rfl dX13_addresses_102 rfl ?_
    refine q_iload_n (pc := 103) C 0 rfl dX13_addresses_103 rfl ?_
    refine q_iadd (pc := 104) C dX13_addresses_104 ?_
    refine q_istore_n (pc := 105) (l' := [(1, q_I (l1 + s0)), (3, q_I s0), (0, q_R l0), (2, q_I l2)]) C dX13_addresses_105 rfl (by decide) rfl ?_
    refine q_W.sub [2, 0, 3] rfl ?_
    exact S_X13_addresses_106 B hT r4 hr4 mr4 l0 (l1 + s0) l2 _ h
  · refine q_new (pc := 87) C dX13_addresses_87 qn_X13_209 (by exact fun a87 => (q_mo_rd fun v93 => (q_mo_rd fun v97 => (q_mo_gd (q_mo_ca (M_X12_init (q_kap E) (some a87) (3 : Int32) v97) fun _v98 => (q_mo_rd fun _ => q_mo_tr)))))) B.2.1 h (fun a87 σ h => ?_)
    refine q_dup (pc := 90) C dX13_addresses_90 rfl ?_
    refine q_iconst (pc := 91) (v := (3 : Int32)) C dX13_addresses_91 (by decide) ?_
    refine q_aload_n (pc := 92) C 1 rfl dX13_addresses_92 rfl ?_
    refine q_getA (pc := 93) C dX13_addresses_93 ql_X13_108 h (fun v93 h => ?_)
    refine q_iload_n (pc := 96) C 3 rfl dX13_addresses_96 rfl ?_
    refine q_ldI (pc := 97) C dX13_addresses_97 (Or.inr (Or.inl ⟨rfl, rfl⟩)) h (fun v97 h => ?_)
    refine q_callI (pc := 98) (As := [q_I (3 : Int32), q_I v97]) (st := [q_R (some a87)]) C B.2.1 (fun _ => rfl) qm_X13_211 qI_X12_init dX13_addresses_98 rfl rfl (Nat.le_of_ble_eq_true rfl) (q_flo B.2.2.1 B.2.2.2.1 (by decide) (by decide)) (K_X12_init (some a87) (3 : Int32) v97) (M_X12_init (q_kap E) (some a87) (3 : Int32) v97) (N_X12_init (q_kap E) (some a87) (3 : Int32) v97) (by exact fun _v98 => (q_mo_rd fun _ => q_mo_tr)) h (fun _v98 σ h => ?_)
    exact q_athrow (pc := 101) (ci := 15) C hT rfl dX13_addresses_101 h
def F_X13_addresses_4B (κ : Nat → Nat) (r4 : Option Nat → Int32 → Int32 → q_X Unit) (l0 : Option Nat) (l1 : Int32) (l2 : Int32) : q_X Unit :=
  q_rd (q_gI l0 16 52) fun v6 => q_br (v6 ≤ l2) (q_rt ()) (q_rd (q_gA l0 16 49) fun v13 => q_wr (q_sI 1 v13 l2 l1) (q_rd (q_gA l0 16 47) fun v20 => q_rd (q_lI 1 v20 l2) fun v24 => q_br (¬ v24 = (3 : Int32)) (q_rd (q_gA l0 16 47) fun v48 => q_rd (q_lI 1 v48 l2) fun v52 => q_br (¬ v52 = (1 : Int32)) (q_rd (q_gA l0 16 50) fun v72 => q_rd (q_lI 1 v72 l2) fun v76 => F_X13_addresses_77 κ r4 l0 l1 l2 v76) (q_rd (q_gA l0 16 33) fun v58 => q_rd (q_gA l0 16 48) fun v62 => q_rd (q_lI 1 v62 l2) fun v66 => q_rd (q_lI 1 v58 v66) fun v67 => F_X13_addresses_77 κ r4 l0 l1 l2 v67)) (q_rd (q_gA l0 16 12) fun v30 => q_rd (q_gA l0 16 46) fun v34 => q_rd (q_lI 1 v34 l2) fun v38 => q_rd (q_lL v30 (v38 + (2 : Int32))) fun v41 => F_X13_addresses_106 κ r4 l0 v41.toInt32 l2)))
theorem M_X13_addresses_4B (κ : Nat → Nat) (r4 : Option Nat → Int32 → Int32 → q_X Unit) (mr4 : ∀ (l0 : Option Nat) (l1 : Int32) (l2 : Int32), q_mo (r4 l0 l1 l2)) (l0 : Option Nat) (l1 : Int32) (l2 : Int32) : q_mo (F_X13_addresses_4B κ r4 l0 l1 l2) := (q_mo_rd fun v6 => (q_mo_br q_mo_rt (q_mo_rd fun v13 => (q_mo_wr (q_mo_rd fun v20 => (q_mo_rd fun v24 => (q_mo_br (q_mo_rd fun v48 => (q_mo_rd fun v52 => (q_mo_br (q_mo_rd fun v72 => (q_mo_rd fun v76 => (M_X13_addresses_77 κ r4 mr4 l0 l1 l2 v76))) (q_mo_rd fun v58 => (q_mo_rd fun v62 => (q_mo_rd fun v66 => (q_mo_rd fun v67 => (M_X13_addresses_77 κ r4 mr4 l0 l1 l2 v67)))))))) (q_mo_rd fun v30 => (q_mo_rd fun v34 => (q_mo_rd fun v38 => (q_mo_rd fun v41 => (M_X13_addresses_106 κ r4 mr4 l0 v41.toInt32 l2))))))))))))
set_option maxRecDepth 100000 in
set_option maxHeartbeats 4000000 in
theorem S_X13_addresses_4B {E : q_Ev} {Γ : q_Gm} {w : (Unit ⊕ q_Exn) × q_St} (B : q_Bd E Γ cX13_addresses yX13_addresses.cls 4 5 114 (none) yX13_addresses.name w) (hT : q_nT Γ) (r4 : Option Nat → Int32 → Int32 → q_X Unit) (hr4 : ∀ (l0 : Option Nat) (l1 : Int32) (l2 : Int32) (σ : q_St), r4 l0 l1 l2 σ = some w → q_W E Γ (q_QF E Γ q_oV w) 4 σ 4 [(0, q_R l0), (1, q_I l1), (2, q_I l2)] []) (mr4 : ∀ (l0 : Option Nat) (l1 : Int32) (l2 : Int32), q_mo (r4 l0 l1 l2)) (l0 : Option Nat) (l1 : Int32) (l2 : Int32) (σ : q_St) (h : F_X13_addresses_4B (q_kap E) r4 l0 l1 l2 σ = some w) : q_W E Γ (q_QF E Γ q_oV w) 4 σ 4 [(0, q_R l0), (1, q_I l1), (2, q_I l2)] [] := by
  have C := B.1
  unfold F_X13_addresses_4B at h
  refine q_iload_n (pc := 4) C 2 rfl dX13_addresses_4 rfl ?_
  refine q_aload_n (pc := 5) C 0 rfl dX13_addresses_5 rfl ?_
  refine q_getI (pc := 6) C dX13_addresses_6 ql_X13_295 h (fun v6 h => ?_)
  refine q_icmp_ge (pc := 9) (tgt := 112) C dX13_addresses_9 (by decide) h (fun _ h => ?_) (fun _ h => ?_)
  · exact q_vret C B.2.2.2.2.1 dX13_addresses_112 h
  · refine q_aload_n (pc := 12) C 0 rfl dX13_addresses_12 rfl ?_
    refine q_getA (pc := 13) C dX13_addresses_13 ql_X13_117 h (fun v13 h => ?_)
    refine q_iload_n (pc := 16) C 2 rfl dX13_addresses_16 rfl ?_
    refine q_iload_n (pc := 17) C 1 rfl dX13_addresses_17 rfl ?_
    refine q_stI (pc := 18) C dX13_addresses_18 h (fun M18 h => ?_)
    refine q_aload_n (pc := 19) C 0 rfl dX13_addresses_19 rfl ?_
    refine q_getA (pc := 20) C dX13_addresses_20 ql_X13_111 h (fun v20 h => ?_)
    refine q_iload_n (pc := 23) C 2 rfl dX13_addresses_23 rfl ?_
    refine q_ldI (pc := 24) C dX13_addresses_24 (Or.inr (Or.inl ⟨rfl, rfl⟩)) h (fun v24 h => ?_)
    refine q_iconst (pc := 25) (v := (3 : Int32)) C dX13_addresses_25 (by decide) ?_
    refine q_icmp_ne (pc := 26) (tgt := 47) C dX13_addresses_26 (by decide) h (fun _ h => ?_) (fun _ h => ?_)
    · refine q_aload_n (pc := 47) C 0 rfl dX13_addresses_47 rfl ?_
      refine q_getA (pc := 48) C dX13_addresses_48 ql_X13_111 h (fun v48 h => ?_)
      refine q_iload_n (pc := 51) C 2 rfl dX13_addresses_51 rfl ?_
      refine q_ldI (pc := 52) C dX13_addresses_52 (Or.inr (Or.inl ⟨rfl, rfl⟩)) h (fun v52 h => ?_)
      refine q_iconst (pc := 53) (v := (1 : Int32)) C dX13_addresses_53 (by decide) ?_
      refine q_icmp_ne (pc := 54) (tgt := 71) C dX13_addresses_54 (by decide) h (fun _ h => ?_) (fun _ h => ?_)
      · refine q_aload_n (pc := 71) C 0 rfl dX13_addresses_71 rfl ?_
        refine q_getA (pc := 72) C dX13_addresses_72 ql_X13_120 h (fun v72 h => ?_)
        refine q_iload_n (pc := 75) C 2 rfl dX13_addresses_75 rfl ?_
        refine q_ldI (pc := 76) C dX13_addresses_76 (Or.inr (Or.inl ⟨rfl, rfl⟩)) h (fun v76 h => ?_)
        exact S_X13_addresses_77 B hT r4 hr4 mr4 l0 l1 l2 v76 _ h
      · refine q_aload_n (pc := 57) C 0 rfl dX13_addresses_57 rfl ?_
        refine q_getA (pc := 58) C dX13_addresses_58 ql_X13_77 h (fun v58 h => ?_)
        refine q_aload_n (pc := 61) C 0 rfl dX13_addresses_61 rfl ?_
        refine q_getA (pc := 62) C dX13_addresses_62 ql_X13_114 h (fun v62 h => ?_)
        refine q_iload_n (pc := 65) C 2 rfl dX13_addresses_65 rfl ?_
        refine q_ldI (pc := 66) C dX13_addresses_66 (Or.inr (Or.inl ⟨rfl, rfl⟩)) h (fun v66 h => ?_)
        refine q_ldI (pc := 67) C dX13_addresses_67 (Or.inr (Or.inl ⟨rfl, rfl⟩)) h (fun v67 h => ?_)
        refine q_goto (pc := 68) (tgt := 77) C dX13_addresses_68 (by decide) ?_
        exact S_X13_addresses_77 B hT r4 hr4 mr4 l0 l1 l2 v67 _ h
    · refine q_aload_n (pc := 29) C 0 rfl dX13_addresses_29 rfl ?_
      refine q_getA (pc := 30) C dX13_addresses_30 ql_X13_36 h (fun v30 h => ?_)
      refine q_aload_n (pc := 33) C 0 rfl dX13_addresses_33 rfl ?_
      refine q_getA (pc := 34) C dX13_addresses_34 ql_X13_108 h (fun v34 h => ?_)
      refine q_iload_n (pc := 37) C 2 rfl dX13_addresses_37 rfl ?_
      refine q_ldI (pc := 38) C dX13_addresses_38 (Or.inr (Or.inl ⟨rfl, rfl⟩)) h (fun v38 h => ?_)
      refine q_iconst (pc := 39) (v := (2 : Int32)) C dX13_addresses_39 (by decide) ?_
      refine q_iadd (pc := 40) C dX13_addresses_40 ?_
      refine q_ldL (pc := 41) C dX13_addresses_41 h (fun v41 h => ?_)
      refine q_l2i (pc := 42) C dX13_addresses_42 ?_
      refine q_istore_n (pc := 43) (l' := [(1, q_I v41.toInt32), (0, q_R l0), (2, q_I l2)]) C dX13_addresses_43 rfl (by decide) rfl ?_
      refine q_goto (pc := 44) (tgt := 106) C dX13_addresses_44 (by decide) ?_
      refine q_W.sub [1, 0, 2] rfl ?_
      exact S_X13_addresses_106 B hT r4 hr4 mr4 l0 v41.toInt32 l2 _ h
def F_X13_addresses_4 (κ : Nat → Nat) : Nat → Option Nat → Int32 → Int32 → q_X Unit
  | 0, _, _, _ => q_no
  | n + 1, l0, l1, l2 => F_X13_addresses_4B κ (F_X13_addresses_4 κ n) l0 l1 l2
theorem M_X13_addresses_4 (κ : Nat → Nat) : ∀ (n : Nat) (l0 : Option Nat) (l1 : Int32) (l2 : Int32), q_mo (F_X13_addresses_4 κ n l0 l1 l2)
  | 0, _, _, _ => q_mo_no
  | n + 1, l0, l1, l2 => M_X13_addresses_4B κ (F_X13_addresses_4 κ n) (M_X13_addresses_4 κ n) l0 l1 l2
theorem S_X13_addresses_4 {E : q_Ev} {Γ : q_Gm} {w : (Unit ⊕ q_Exn) × q_St} (B : q_Bd E Γ cX13_addresses yX13_addresses.cls 4 5 114 (none) yX13_addresses.name w) (hT : q_nT Γ) : ∀ (n : Nat) (l0 : Option Nat) (l1 : Int32) (l2 : Int32) (σ : q_St), F_X13_addresses_4 (q_kap E) n l0 l1 l2 σ = some w → q_W E Γ (q_QF E Γ q_oV w) 4 σ 4 [(0, q_R l0), (1, q_I l1), (2, q_I l2)] []
  | 0, _, _, _, _, h => by cases h
  | n + 1, l0, l1, l2, σ, h => S_X13_addresses_4B B hT (F_X13_addresses_4 (q_kap E) n) (S_X13_addresses_4 B hT n) (M_X13_addresses_4 (q_kap E) n) l0 l1 l2 σ h
def F_X13_addresses (κ : Nat → Nat) (l0 : Option Nat) : q_X Unit :=
  F_X13_addresses_4 κ q_fu l0 (0 : Int32) (0 : Int32)
theorem M_X13_addresses (κ : Nat → Nat) (l0 : Option Nat) : q_mo (F_X13_addresses κ l0) := (M_X13_addresses_4 κ q_fu l0 (0 : Int32) (0 : Int32))
set_option maxRecDepth 100000 in
set_option maxHeartbeats 4000000 in
theorem K_X13_addresses {E : q_Ev} (l0 : Option Nat) : q_Ct E yX13_addresses (.code yX13_addresses cX13_addresses 4 (none)) 5 114 [q_R l0] q_oV (F_X13_addresses (q_kap E) l0) := by
  refine q_enter (by decide) (Nat.le_of_ble_eq_true rfl) (fun Γ σ w h B hT => ?_)
  have C := B.1
  unfold F_X13_addresses at h
  refine q_iconst (pc := 0) (v := (0 : Int32)) C dX13_addresses_0 (by decide) ?_
  refine q_istore_n (pc := 1) (l' := [(1, q_I (0 : Int32)), (0, q_R l0)]) C dX13_addresses_1 rfl (by decide) rfl ?_
  refine q_iconst (pc := 2) (v := (0 : Int32)) C dX13_addresses_2 (by decide) ?_
  refine q_istore_n (pc := 3) (l' := [(2, q_I (0 : Int32)), (1, q_I (0 : Int32)), (0, q_R l0)]) C dX13_addresses_3 rfl (by decide) rfl ?_
  refine q_W.sub [2, 1, 0] rfl ?_
  exact S_X13_addresses_4 B hT q_fu l0 (0 : Int32) (0 : Int32) _ h
def F_X13_put (κ : Nat → Nat) (l0 : Option Nat) (l1 : Int32) (l2 : Int32) (l3 : Int64) : q_X Unit :=
  q_rd (q_gA l0 16 41) fun v1 => q_rd (q_lI 3 v1 l2) fun v5 => q_br (v5 = 0) (q_rd (q_gA l0 16 41) fun v26 => q_wr (q_sI 3 v26 l2 (vp_nar .boolean (1 : Int32))) (q_rd (q_gA l0 16 40) fun v33 => q_wr (q_sL v33 l2 l3) (q_rd (q_gI l0 16 42) fun v41 => q_wr (q_pF l0 16 42 (.int (v41 + (1 : Int32)))) (q_rt ())))) (q_mk (.inr (.inl (15, [.null, .null, .null, .null, .null, .int 0, .int 0, .int 0]))) 8 fun a9 => q_rd (q_gA l0 16 45) fun v16 => q_rd (q_lI 1 v16 l1) fun v20 => q_gd (¬ (some a9) = none) (q_ca (F_X12_init κ (some a9) (8 : Int32) v20) fun _v21 => q_rd (q_is (some a9) 15) fun _ => q_tr RX12 (some a9)))
theorem M_X13_put (κ : Nat → Nat) (l0 : Option Nat) (l1 : Int32) (l2 : Int32) (l3 : Int64) : q_mo (F_X13_put κ l0 l1 l2 l3) := (q_mo_rd fun v1 => (q_mo_rd fun v5 => (q_mo_br (q_mo_rd fun v26 => (q_mo_wr (q_mo_rd fun v33 => (q_mo_wr (q_mo_rd fun v41 => (q_mo_wr q_mo_rt)))))) (q_mo_mk fun a9 => (q_mo_rd fun v16 => (q_mo_rd fun v20 => (q_mo_gd (q_mo_ca (M_X12_init κ (some a9) (8 : Int32) v20) fun _v21 => (q_mo_rd fun _ => q_mo_tr)))))))))
set_option maxRecDepth 100000 in
set_option maxHeartbeats 4000000 in
theorem K_X13_put {E : q_Ev} (l0 : Option Nat) (l1 : Int32) (l2 : Int32) (l3 : Int64) : q_Ct E yX13_put (.code yX13_put cX13_put 5 (none)) 5 114 [q_R l0, q_I l1, q_I l2, q_L l3] q_oV (F_X13_put (q_kap E) l0 l1 l2 l3) := by
  refine q_enter (by decide) (Nat.le_of_ble_eq_true rfl) (fun Γ σ w h B hT => ?_)
  have C := B.1
  unfold F_X13_put at h
  refine q_aload_n (pc := 0) C 0 rfl dX13_put_0 rfl ?_
  refine q_getA (pc := 1) C dX13_put_1 ql_X13_101 h (fun v1 h => ?_)
  refine q_iload_n (pc := 4) C 2 rfl dX13_put_4 rfl ?_
  refine q_ldI (pc := 5) C dX13_put_5 (Or.inr (Or.inr ⟨rfl, rfl⟩)) h (fun v5 h => ?_)
  refine q_if_eq (pc := 6) (tgt := 25) C dX13_put_6 (by decide) h (fun _ h => ?_) (fun _ h => ?_)
  · refine q_aload_n (pc := 25) C 0 rfl dX13_put_25 rfl ?_
    refine q_getA (pc := 26) C dX13_put_26 ql_X13_101 h (fun v26 h => ?_)
    refine q_iload_n (pc := 29) C 2 rfl dX13_put_29 rfl ?_
    refine q_iconst (pc := 30) (v := (1 : Int32)) C dX13_put_30 (by decide) ?_
    refine q_stZ (pc := 31) C dX13_put_31 h (fun M31 h => ?_)
    refine q_aload_n (pc := 32) C 0 rfl dX13_put_32 rfl ?_
    refine q_getA (pc := 33) C dX13_put_33 ql_X13_98 h (fun v33 h => ?_)
    refine q_iload_n (pc := 36) C 2 rfl dX13_put_36 rfl ?_
    refine q_lload_n (pc := 37) C 3 rfl dX13_put_37 rfl ?_
    refine q_stL (pc := 38) C dX13_put_38 h (fun M38 h => ?_)
    refine q_aload_n (pc := 39) C 0 rfl dX13_put_39 rfl ?_
    refine q_dup (pc := 40) C dX13_put_40 rfl ?_
    refine q_getI (pc := 41) C dX13_put_41 ql_X13_283 h (fun v41 h => ?_)
    refine q_iconst (pc := 44) (v := (1 : Int32)) C dX13_put_44 (by decide) ?_
    refine q_iadd (pc := 45) C dX13_put_45 ?_
    refine q_putV (pc := 46) (v := q_I (v41 + (1 : Int32))) C dX13_put_46 ql_X13_283 (Or.inl rfl) rfl rfl h (fun M46 h => ?_)
    exact q_vret C B.2.2.2.2.1 dX13_put_49 h
  · refine q_new (pc := 9) C dX13_put_9 qn_X13_209 (by exact fun a9 => (q_mo_rd fun v16 => (q_mo_rd fun v20 => (q_mo_gd (q_mo_ca (M_X12_init (q_kap E) (some a9) (8 : Int32) v20) fun _v21 => (q_mo_rd fun _ => q_mo_tr)))))) B.2.1 h (fun a9 σ h => ?_)
    refine q_dup (pc := 12) C dX13_put_12 rfl ?_
    refine q_bipush (pc := 13) (v := (8 : Int32)) C dX13_put_13 (by decide) ?_
    refine q_aload_n (pc := 15) C 0 rfl dX13_put_15 rfl ?_
    refine q_getA (pc := 16) C dX13_put_16 ql_X13_105 h (fun v16 h => ?_)
    refine q_iload_n (pc := 19) C 1 rfl dX13_put_19 rfl ?_
    refine q_ldI (pc := 20) C dX13_put_20 (Or.inr (Or.inl ⟨rfl, rfl⟩)) h (fun v20 h => ?_)
    refine q_callI (pc := 21) (As := [q_I (8 : Int32), q_I v20]) (st := [q_R (some a9)]) C B.2.1 (fun _ => rfl) qm_X13_211 qI_X12_init dX13_put_21 rfl rfl (Nat.le_of_ble_eq_true rfl) (q_flo B.2.2.1 B.2.2.2.1 (by decide) (by decide)) (K_X12_init (some a9) (8 : Int32) v20) (M_X12_init (q_kap E) (some a9) (8 : Int32) v20) (N_X12_init (q_kap E) (some a9) (8 : Int32) v20) (by exact fun _v21 => (q_mo_rd fun _ => q_mo_tr)) h (fun _v21 σ h => ?_)
    exact q_athrow (pc := 24) (ci := 15) C hT rfl dX13_put_24 h
