def F_X13_lay_207 (κ : Nat → Nat) : q_X Unit :=
  q_rt ()
theorem M_X13_lay_207 (κ : Nat → Nat) : q_mo (F_X13_lay_207 κ) := q_mo_rt
theorem N_X13_lay_207 (κ : Nat → Nat) : q_ni (F_X13_lay_207 κ) := q_ni_rt
set_option maxRecDepth 100000 in
set_option maxHeartbeats 4000000 in
theorem S_X13_lay_207 {E : q_Ev} {Γ : q_Gm} {w : (Unit ⊕ q_Exn) × q_St} (B : q_Bd E Γ cX13_lay yX13_lay.cls 9 6 138 (none) yX13_lay.name w) (hT : q_nT Γ) (σ : q_St) (h : F_X13_lay_207 (q_kap E) σ = some w) : q_W E Γ (q_QF E Γ q_oV w) 9 σ 207 [] [] := by
  have C := B.1
  unfold F_X13_lay_207 at h
  exact q_vret C B.2.2.2.2.1 dX13_lay_207 h
def F_X13_lay_27B (κ : Nat → Nat) (r27 : Option Nat → Int32 → Int32 → Int32 → q_X Unit) (l0 : Option Nat) (l1 : Int32) (l2 : Int32) (l4 : Int32) : q_X Unit :=
  q_rd (q_gA l0 16 50) fun v30 => q_rd (q_lI 1 v30 l1) fun v34 => q_br (v34 ≤ l4) (F_X13_lay_207 κ) (q_rd (q_gA l0 16 12) fun v45 => q_rd (q_gA l0 16 46) fun v49 => q_rd (q_lI 1 v49 l1) fun v53 => q_rd (q_lL v45 ((v53 + (2 : Int32)) + ((2 : Int32) * l4))) fun v61 => q_rd (q_is l0 16) fun _ => q_ca (F_X13_put κ l0 l1 (l2 + l4) v61) fun _v62 => r27 l0 l1 l2 (l4 + (1 : Int32)))
theorem M_X13_lay_27B (κ : Nat → Nat) (r27 : Option Nat → Int32 → Int32 → Int32 → q_X Unit) (mr27 : ∀ (l0 : Option Nat) (l1 : Int32) (l2 : Int32) (l4 : Int32), q_mo (r27 l0 l1 l2 l4)) (l0 : Option Nat) (l1 : Int32) (l2 : Int32) (l4 : Int32) : q_mo (F_X13_lay_27B κ r27 l0 l1 l2 l4) := (q_mo_rd fun v30 => (q_mo_rd fun v34 => (q_mo_br (M_X13_lay_207 κ) (q_mo_rd fun v45 => (q_mo_rd fun v49 => (q_mo_rd fun v53 => (q_mo_rd fun v61 => (q_mo_rd fun _ => q_mo_ca (M_X13_put κ l0 l1 (l2 + l4) v61) fun _v62 => (mr27 l0 l1 l2 (l4 + (1 : Int32)))))))))))
set_option maxRecDepth 100000 in
set_option maxHeartbeats 4000000 in
theorem S_X13_lay_27B {E : q_Ev} {Γ : q_Gm} {w : (Unit ⊕ q_Exn) × q_St} (B : q_Bd E Γ cX13_lay yX13_lay.cls 9 6 138 (none) yX13_lay.name w) (hT : q_nT Γ) (r27 : Option Nat → Int32 → Int32 → Int32 → q_X Unit) (hr27 : ∀ (l0 : Option Nat) (l1 : Int32) (l2 : Int32) (l4 : Int32) (σ : q_St), r27 l0 l1 l2 l4 σ = some w → q_W E Γ (q_QF E Γ q_oV w) 9 σ 27 [(0, q_R l0), (1, q_I l1), (2, q_I l2), (4, q_I l4)] []) (mr27 : ∀ (l0 : Option Nat) (l1 : Int32) (l2 : Int32) (l4 : Int32), q_mo (r27 l0 l1 l2 l4)) (l0 : Option Nat) (l1 : Int32) (l2 : Int32) (l4 : Int32) (σ : q_St) (h : F_X13_lay_27B (q_kap E) r27 l0 l1 l2 l4 σ = some w) : q_W E Γ (q_QF E Γ q_oV w) 9 σ 27 [(0, q_R l0), (1, q_I l1), (2, q_I l2), (4, q_I l4)] [] := by
  have C := B.1
  unfold F_X13_lay_27B at h
  refine q_iload (pc := 27) C 3 rfl dX13_lay_27 ?_
  refine q_aload_n (pc := 29) C 0 rfl dX13_lay_29 rfl ?_
  refine q_getA (pc := 30) C dX13_lay_30 ql_X13_120 h (fun v30 h => ?_)
  refine q_iload_n (pc := 33) C 1 rfl dX13_lay_33 rfl ?_
  refine q_ldI (pc := 34) C dX13_lay_34 (Or.inr (Or.inl ⟨rfl, rfl⟩)) h (fun v34 h => ?_)
  refine q_icmp_ge (pc := 35) (tgt := 71) C dX13_lay_35 (by decide) h (fun _ h => ?_) (fun _ h => ?_)
  · refine q_goto (pc := 71) (tgt := 207) C dX13_lay_71 (by decide) ?_
    refine q_W.sub [] rfl ?_
    exact S_X13_lay_207 B hT _ h
  · refine q_aload_n (pc := 38) C 0 rfl dX13_lay_38 rfl ?_
    refine q_iload_n (pc := 39) C 1 rfl dX13_lay_39 rfl ?_
    refine q_iload_n (pc := 40) C 2 rfl dX13_lay_40 rfl ?_
    refine q_iload (pc := 41) C 3 rfl dX13_lay_41 ?_
    refine q_iadd (pc := 43) C dX13_lay_43 ?_
    refine q_aload_n (pc := 44) C 0 rfl dX13_lay_44 rfl ?_
    refine q_getA (pc := 45) C dX13_lay_45 ql_X13_36 h (fun v45 h => ?_)
    refine q_aload_n (pc := 48) C 0 rfl dX13_lay_48 rfl ?_
    refine q_getA (pc := 49) C dX13_lay_49 ql_X13_108 h (fun v49 h => ?_)
    refine q_iload_n (pc := 52) C 1 rfl dX13_lay_52 rfl ?_
    refine q_ldI (pc := 53) C dX13_lay_53 (Or.inr (Or.inl ⟨rfl, rfl⟩)) h (fun v53 h => ?_)
    refine q_iconst (pc := 54) (v := (2 : Int32)) C dX13_lay_54 (by decide) ?_
    refine q_iadd (pc := 55) C dX13_lay_55 ?_
    refine q_iconst (pc := 56) (v := (2 : Int32)) C dX13_lay_56 (by decide) ?_
    refine q_iload (pc := 57) C 3 rfl dX13_lay_57 ?_
    refine q_imul (pc := 59) C dX13_lay_59 ?_
    refine q_iadd (pc := 60) C dX13_lay_60 ?_
    refine q_ldL (pc := 61) C dX13_lay_61 h (fun v61 h => ?_)
    refine q_callV (pc := 62) (As := [q_I l1, q_I (l2 + l4), q_L v61]) (st := []) (ps := q_psV) C B.2.1 hT q_hpV qm_X13_333 qv_X13_put dX13_lay_62 rfl rfl (Nat.le_of_ble_eq_true rfl) (q_flo B.2.2.1 B.2.2.2.1 (by decide) (by decide)) (K_X13_put l0 l1 (l2 + l4) v61) (M_X13_put (q_kap E) l0 l1 (l2 + l4) v61) (by exact fun _v62 => (mr27 l0 l1 l2 (l4 + (1 : Int32)))) h (fun _v62 σ h => ?_)
    refine q_W.st (st' := []) rfl ?_
    refine q_iinc (pc := 65) (v := (1 : Int32)) (l' := [(4, q_I (l4 + (1 : Int32))), (0, q_R l0), (1, q_I l1), (2, q_I l2)]) C 3 rfl dX13_lay_65 (by decide) (by decide) rfl ?_
    refine q_goto (pc := 68) (tgt := 27) C dX13_lay_68 (by decide) ?_
    refine q_W.sub [1, 2, 3, 0] rfl ?_
    exact hr27 l0 l1 l2 (l4 + (1 : Int32)) _ h
def F_X13_lay_27 (κ : Nat → Nat) : Nat → Option Nat → Int32 → Int32 → Int32 → q_X Unit
  | 0, _, _, _, _ => q_no
  | n + 1, l0, l1, l2, l4 => F_X13_lay_27B κ (F_X13_lay_27 κ n) l0 l1 l2 l4
theorem M_X13_lay_27 (κ : Nat → Nat) : ∀ (n : Nat) (l0 : Option Nat) (l1 : Int32) (l2 : Int32) (l4 : Int32), q_mo (F_X13_lay_27 κ n l0 l1 l2 l4)
  | 0, _, _, _, _ => q_mo_no
  | n + 1, l0, l1, l2, l4 => M_X13_lay_27B κ (F_X13_lay_27 κ n) (M_X13_lay_27 κ n) l0 l1 l2 l4
theorem S_X13_lay_27 {E : q_Ev} {Γ : q_Gm} {w : (Unit ⊕ q_Exn) × q_St} (B : q_Bd E Γ cX13_lay yX13_lay.cls 9 6 138 (none) yX13_lay.name w) (hT : q_nT Γ) : ∀ (n : Nat) (l0 : Option Nat) (l1 : Int32) (l2 : Int32) (l4 : Int32) (σ : q_St), F_X13_lay_27 (q_kap E) n l0 l1 l2 l4 σ = some w → q_W E Γ (q_QF E Γ q_oV w) 9 σ 27 [(0, q_R l0), (1, q_I l1), (2, q_I l2), (4, q_I l4)] []
  | 0, _, _, _, _, _, h => by cases h
  | n + 1, l0, l1, l2, l4, σ, h => S_X13_lay_27B B hT (F_X13_lay_27 (q_kap E) n) (S_X13_lay_27 B hT n) (M_X13_lay_27 (q_kap E) n) l0 l1 l2 l4 σ h
def F_X13_lay_181 (κ : Nat → Nat) (r94 : Option Nat → Int32 → Int32 → Int32 → Int32 → q_X Unit) (r111 : Option Nat → Int32 → Int32 → Int32 → Int32 → Int64 → Int32 → q_X Unit) (l0 : Option Nat) (l1 : Int32) (l2 : Int32) (l3 : Int32) (l4 : Int32) (l7 : Int32) (s0 : Int64) (s1 : Int64) : q_X Unit :=
  r111 l0 l1 l2 l3 l4 (s0 + s1) (l7 + (1 : Int32))
theorem M_X13_lay_181 (κ : Nat → Nat) (r94 : Option Nat → Int32 → Int32 → Int32 → Int32 → q_X Unit) (mr94 : ∀ (l0 : Option Nat) (l1 : Int32) (l2 : Int32) (l3 : Int32) (l4 : Int32), q_mo (r94 l0 l1 l2 l3 l4)) (r111 : Option Nat → Int32 → Int32 → Int32 → Int32 → Int64 → Int32 → q_X Unit) (mr111 : ∀ (l0 : Option Nat) (l1 : Int32) (l2 : Int32) (l3 : Int32) (l4 : Int32) (l5 : Int64) (l7 : Int32), q_mo (r111 l0 l1 l2 l3 l4 l5 l7)) (l0 : Option Nat) (l1 : Int32) (l2 : Int32) (l3 : Int32) (l4 : Int32) (l7 : Int32) (s0 : Int64) (s1 : Int64) : q_mo (F_X13_lay_181 κ r94 r111 l0 l1 l2 l3 l4 l7 s0 s1) := (mr111 l0 l1 l2 l3 l4 (s0 + s1) (l7 + (1 : Int32)))
set_option maxRecDepth 100000 in
set_option maxHeartbeats 4000000 in
theorem S_X13_lay_181 {E : q_Ev} {Γ : q_Gm} {w : (Unit ⊕ q_Exn) × q_St} (B : q_Bd E Γ cX13_lay yX13_lay.cls 9 6 138 (none) yX13_lay.name w) (hT : q_nT Γ) (r94 : Option Nat → Int32 → Int32 → Int32 → Int32 → q_X Unit) (hr94 : ∀ (l0 : Option Nat) (l1 : Int32) (l2 : Int32) (l3 : Int32) (l4 : Int32) (σ : q_St), r94 l0 l1 l2 l3 l4 σ = some w → q_W E Γ (q_QF E Γ q_oV w) 9 σ 94 [(0, q_R l0), (1, q_I l1), (2, q_I l2), (3, q_I l3), (4, q_I l4)] []) (mr94 : ∀ (l0 : Option Nat) (l1 : Int32) (l2 : Int32) (l3 : Int32) (l4 : Int32), q_mo (r94 l0 l1 l2 l3 l4)) (r111 : Option Nat → Int32 → Int32 → Int32 → Int32 → Int64 → Int32 → q_X Unit) (hr111 : ∀ (l0 : Option Nat) (l1 : Int32) (l2 : Int32) (l3 : Int32) (l4 : Int32) (l5 : Int64) (l7 : Int32) (σ : q_St), r111 l0 l1 l2 l3 l4 l5 l7 σ = some w → q_W E Γ (q_QF E Γ q_oV w) 9 σ 111 [(0, q_R l0), (1, q_I l1), (2, q_I l2), (3, q_I l3), (4, q_I l4), (5, q_L l5), (7, q_I l7)] []) (mr111 : ∀ (l0 : Option Nat) (l1 : Int32) (l2 : Int32) (l3 : Int32) (l4 : Int32) (l5 : Int64) (l7 : Int32), q_mo (r111 l0 l1 l2 l3 l4 l5 l7)) (l0 : Option Nat) (l1 : Int32) (l2 : Int32) (l3 : Int32) (l4 : Int32) (l7 : Int32) (s0 : Int64) (s1 : Int64) (σ : q_St) (h : F_X13_lay_181 (q_kap E) r94 r111 l0 l1 l2 l3 l4 l7 s0 s1 σ = some w) : q_W E Γ (q_QF E Γ q_oV w) 9 σ 181 [(0, q_R l0), (1, q_I l1), (2, q_I l2), (3, q_I l3), (4, q_I l4), (7, q_I l7)] [q_L s1, q_L s0] := by
  have C := B.1
  unfold F_X13_lay_181 at h
  refine q_ladd (pc := 181) C dX13_lay_181 ?_
  refine q_lstore (pc := 182) (l' := [(5, q_L (s0 + s1)), (0, q_R l0), (1, q_I l1), (2, q_I l2), (3, q_I l3), (4, q_I l4), (7, q_I l7)]) C dX13_lay_182 (by decide) rfl ?_
  refine q_iinc (pc := 184) (v := (1 : Int32)) (l' := [(7, q_I (l7 + (1 : Int32))), (5, q_L (s0 + s1)), (0, q_R l0), (1, q_I l1), (2, q_I l2), (3, q_I l3), (4, q_I l4)]) C 6 rfl dX13_lay_184 (by decide) (by decide) rfl ?_
  refine q_goto (pc := 187) (tgt := 111) C dX13_lay_187 (by decide) ?_
  refine q_W.sub [2, 3, 4, 5, 6, 1, 0] rfl ?_
  exact hr111 l0 l1 l2 l3 l4 (s0 + s1) (l7 + (1 : Int32)) _ h
def F_X13_lay_111B (κ : Nat → Nat) (r94 : Option Nat → Int32 → Int32 → Int32 → Int32 → q_X Unit) (r111 : Option Nat → Int32 → Int32 → Int32 → Int32 → Int64 → Int32 → q_X Unit) (l0 : Option Nat) (l1 : Int32) (l2 : Int32) (l3 : Int32) (l4 : Int32) (l5 : Int64) (l7 : Int32) : q_X Unit :=
  q_rd (q_gI l0 16 21) fun v114 => q_br (v114 ≤ l7) (q_rd (q_is l0 16) fun _ => q_ca (F_X13_put κ l0 l1 (l2 + l4) l5) fun _v198 => r94 l0 l1 l2 l3 (l4 + (1 : Int32))) (q_rd (q_gA l0 16 38) fun v121 => q_rd (q_gI l0 16 21) fun v132 => q_rd (q_lI 1 v121 ((((160 : Int32) * l3) + (l4 * v132)) + l7)) fun v140 => q_br (0 ≤ v140) (q_gd (¬ (32 : Int32) = 0) (q_rd (q_is l0 16) fun _ => q_ca (F_X13_value κ l0 l1 l3 (v140 / (32 : Int32))) fun v170 => q_gd (¬ (32 : Int32) = 0) (F_X13_lay_181 κ r94 r111 l0 l1 l2 l3 l4 l7 ((2 : Int64) * l5) ((v170 >>> ((v140 - v140 / (32 : Int32) * (32 : Int32)).toInt64 &&& 63)) &&& (1 : Int64))))) (F_X13_lay_181 κ r94 r111 l0 l1 l2 l3 l4 l7 ((2 : Int64) * l5) (((-1 : Int32) - v140).toInt64)))
theorem M_X13_lay_111B (κ : Nat → Nat) (r94 : Option Nat → Int32 → Int32 → Int32 → Int32 → q_X Unit) (mr94 : ∀ (l0 : Option Nat) (l1 : Int32) (l2 : Int32) (l3 : Int32) (l4 : Int32), q_mo (r94 l0 l1 l2 l3 l4)) (r111 : Option Nat → Int32 → Int32 → Int32 → Int32 → Int64 → Int32 → q_X Unit) (mr111 : ∀ (l0 : Option Nat) (l1 : Int32) (l2 : Int32) (l3 : Int32) (l4 : Int32) (l5 : Int64) (l7 : Int32), q_mo (r111 l0 l1 l2 l3 l4 l5 l7)) (l0 : Option Nat) (l1 : Int32) (l2 : Int32) (l3 : Int32) (l4 : Int32) (l5 : Int64) (l7 : Int32) : q_mo (F_X13_lay_111B κ r94 r111 l0 l1 l2 l3 l4 l5 l7) := (q_mo_rd fun v114 => (q_mo_br (q_mo_rd fun _ => q_mo_ca (M_X13_put κ l0 l1 (l2 + l4) l5) fun _v198 => (mr94 l0 l1 l2 l3 (l4 + (1 : Int32)))) (q_mo_rd fun v121 => (q_mo_rd fun v132 => (q_mo_rd fun v140 => (q_mo_br (q_mo_gd (q_mo_rd fun _ => q_mo_ca (M_X13_value κ l0 l1 l3 (v140 / (32 : Int32))) fun v170 => (q_mo_gd (M_X13_lay_181 κ r94 mr94 r111 mr111 l0 l1 l2 l3 l4 l7 ((2 : Int64) * l5) ((v170 >>> ((v140 - v140 / (32 : Int32) * (32 : Int32)).toInt64 &&& 63)) &&& (1 : Int64)))))) (M_X13_lay_181 κ r94 mr94 r111 mr111 l0 l1 l2 l3 l4 l7 ((2 : Int64) * l5) (((-1 : Int32) - v140).toInt64))))))))
set_option maxRecDepth 100000 in
set_option maxHeartbeats 4000000 in
theorem S_X13_lay_111B {E : q_Ev} {Γ : q_Gm} {w : (Unit ⊕ q_Exn) × q_St} (B : q_Bd E Γ cX13_lay yX13_lay.cls 9 6 138 (none) yX13_lay.name w) (hT : q_nT Γ) (r94 : Option Nat → Int32 → Int32 → Int32 → Int32 → q_X Unit) (hr94 : ∀ (l0 : Option Nat) (l1 : Int32) (l2 : Int32) (l3 : Int32) (l4 : Int32) (σ : q_St), r94 l0 l1 l2 l3 l4 σ = some w → q_W E Γ (q_QF E Γ q_oV w) 9 σ 94 [(0, q_R l0), (1, q_I l1), (2, q_I l2), (3, q_I l3), (4, q_I l4)] []) (mr94 : ∀ (l0 : Option Nat) (l1 : Int32) (l2 : Int32) (l3 : Int32) (l4 : Int32), q_mo (r94 l0 l1 l2 l3 l4)) (r111 : Option Nat → Int32 → Int32 → Int32 → Int32 → Int64 → Int32 → q_X Unit) (hr111 : ∀ (l0 : Option Nat) (l1 : Int32) (l2 : Int32) (l3 : Int32) (l4 : Int32) (l5 : Int64) (l7 : Int32) (σ : q_St), r111 l0 l1 l2 l3 l4 l5 l7 σ = some w → q_W E Γ (q_QF E Γ q_oV w) 9 σ 111 [(0, q_R l0), (1, q_I l1), (2, q_I l2), (3, q_I l3), (4, q_I l4), (5, q_L l5), (7, q_I l7)] []) (mr111 : ∀ (l0 : Option Nat) (l1 : Int32) (l2 : Int32) (l3 : Int32) (l4 : Int32) (l5 : Int64) (l7 : Int32), q_mo (r111 l0 l1 l2 l3 l4 l5 l7)) (l0 : Option Nat) (l1 : Int32) (l2 : Int32) (l3 : Int32) (l4 : Int32) (l5 : Int64) (l7 : Int32) (σ : q_St) (h : F_X13_lay_111B (q_kap E) r94 r111 l0 l1 l2 l3 l4 l5 l7 σ = some w) : q_W E Γ (q_QF E Γ q_oV w) 9 σ 111 [(0, q_R l0), (1, q_I l1), (2, q_I l2), (3, q_I l3), (4, q_I l4), (5, q_L l5), (7, q_I l7)] [] := by
  have C := B.1
  unfold F_X13_lay_111B at h
  refine q_iload (pc := 111) C 6 rfl dX13_lay_111 ?_
  refine q_aload_n (pc := 113) C 0 rfl dX13_lay_113 rfl ?_
  refine q_getI (pc := 114) C dX13_lay_114 ql_X13_217 h (fun v114 h => ?_)
  refine q_icmp_ge (pc := 117) (tgt := 190) C dX13_lay_117 (by decide) h (fun _ h => ?_) (fun _ h => ?_)
  · refine q_aload_n (pc := 190) C 0 rfl dX13_lay_190 rfl ?_
    refine q_iload_n (pc := 191) C 1 rfl dX13_lay_191 rfl ?_
    refine q_iload_n (pc := 192) C 2 rfl dX13_lay_192 rfl ?_
    refine q_iload (pc := 193) C 4 rfl dX13_lay_193 ?_
    refine q_iadd (pc := 195) C dX13_lay_195 ?_
    refine q_lload (pc := 196) C 5 rfl dX13_lay_196 ?_
    refine q_callV (pc := 198) (As := [q_I l1, q_I (l2 + l4), q_L l5]) (st := []) (ps := q_psV) C B.2.1 hT q_hpV qm_X13_333 qv_X13_put dX13_lay_198 rfl rfl (Nat.le_of_ble_eq_true rfl) (q_flo B.2.2.1 B.2.2.2.1 (by decide) (by decide)) (K_X13_put l0 l1 (l2 + l4) l5) (M_X13_put (q_kap E) l0 l1 (l2 + l4) l5) (by exact fun _v198 => (mr94 l0 l1 l2 l3 (l4 + (1 : Int32)))) h (fun _v198 σ h => ?_)
    refine q_W.st (st' := []) rfl ?_
    refine q_iinc (pc := 201) (v := (1 : Int32)) (l' := [(4, q_I (l4 + (1 : Int32))), (0, q_R l0), (1, q_I l1), (2, q_I l2), (3, q_I l3), (5, q_L l5), (7, q_I l7)]) C 4 rfl dX13_lay_201 (by decide) (by decide) rfl ?_
    refine q_goto (pc := 204) (tgt := 94) C dX13_lay_204 (by decide) ?_
    refine q_W.sub [1, 2, 3, 4, 0] rfl ?_
    exact hr94 l0 l1 l2 l3 (l4 + (1 : Int32)) _ h
  · refine q_aload_n (pc := 120) C 0 rfl dX13_lay_120 rfl ?_
    refine q_getA (pc := 121) C dX13_lay_121 ql_X13_92 h (fun v121 h => ?_)
    refine q_sipush (pc := 124) (v := (160 : Int32)) C dX13_lay_124 (by decide) ?_
    refine q_iload_n (pc := 127) C 3 rfl dX13_lay_127 rfl ?_
    refine q_imul (pc := 128) C dX13_lay_128 ?_
    refine q_iload (pc := 129) C 4 rfl dX13_lay_129 ?_
    refine q_aload_n (pc := 131) C 0 rfl dX13_lay_131 rfl ?_
    refine q_getI (pc := 132) C dX13_lay_132 ql_X13_217 h (fun v132 h => ?_)
    refine q_imul (pc := 135) C dX13_lay_135 ?_
    refine q_iadd (pc := 136) C dX13_lay_136 ?_
    refine q_iload (pc := 137) C 6 rfl dX13_lay_137 ?_
    refine q_iadd (pc := 139) C dX13_lay_139 ?_
    refine q_ldI (pc := 140) C dX13_lay_140 (Or.inr (Or.inl ⟨rfl, rfl⟩)) h (fun v140 h => ?_)
    refine q_istore (pc := 141) (l' := [(8, q_I v140), (0, q_R l0), (1, q_I l1), (2, q_I l2), (3, q_I l3), (4, q_I l4), (5, q_L l5), (7, q_I l7)]) C dX13_lay_141 (by decide) rfl ?_
    refine q_ldc2 (pc := 143) (v := (2 : Int64)) C dX13_lay_143 qc_X13_337 ?_
    refine q_lload (pc := 146) C 6 rfl dX13_lay_146 ?_
    refine q_lmul (pc := 148) C dX13_lay_148 ?_
    refine q_iload (pc := 149) C 0 rfl dX13_lay_149 ?_
    refine q_if_ge (pc := 151) (tgt := 162) C dX13_lay_151 (by decide) h (fun _ h => ?_) (fun _ h => ?_)
    · refine q_aload_n (pc := 162) C 1 rfl dX13_lay_162 rfl ?_
      refine q_iload_n (pc := 163) C 2 rfl dX13_lay_163 rfl ?_
      refine q_iload_n (pc := 164) C 4 rfl dX13_lay_164 rfl ?_
      refine q_iload (pc := 165) C 0 rfl dX13_lay_165 ?_
      refine q_bipush (pc := 167) (v := (32 : Int32)) C dX13_lay_167 (by decide) ?_
      obtain ⟨g169, h⟩ := q_gd_e h
      refine q_idiv (pc := 169) C dX13_lay_169 g169 ?_
      refine q_callV (pc := 170) (As := [q_I l1, q_I l3, q_I (v140 / (32 : Int32))]) (st := [q_L ((2 : Int64) * l5)]) (ps := q_psL) C B.2.1 hT q_hpL qm_X13_311 qv_X13_value dX13_lay_170 rfl rfl (Nat.le_of_ble_eq_true rfl) (q_flo B.2.2.1 B.2.2.2.1 (by decide) (by decide)) (K_X13_value l0 l1 l3 (v140 / (32 : Int32))) (M_X13_value (q_kap E) l0 l1 l3 (v140 / (32 : Int32))) (by exact fun v170 => (q_mo_gd (M_X13_lay_181 (q_kap E) r94 mr94 r111 mr111 l0 l1 l2 l3 l4 l7 ((2 : Int64) * l5) ((v170 >>> ((v140 - v140 / (32 : Int32) * (32 : Int32)).toInt64 &&& 63)) &&& (1 : Int64))))) h (fun v170 σ h => ?_)
      refine q_W.st (st' := [q_L v170, q_L ((2 : Int64) * l5)]) rfl ?_
      refine q_iload (pc := 173) C 0 rfl dX13_lay_173 ?_
      refine q_bipush (pc := 175) (v := (32 : Int32)) C dX13_lay_175 (by decide) ?_
      obtain ⟨g177, h⟩ := q_gd_e h
      refine q_irem (pc := 177) C dX13_lay_177 g177 ?_
      refine q_lshr (pc := 178) C dX13_lay_178 ?_
      refine q_lconst (pc := 179) (v := (1 : Int64)) C dX13_lay_179 (by decide) ?_
      refine q_land (pc := 180) C dX13_lay_180 ?_
      refine q_W.sub [1, 2, 3, 4, 5, 7] rfl ?_
      exact S_X13_lay_181 B hT r94 hr94 mr94 r111 hr111 mr111 l0 l1 l2 l3 l4 l7 ((2 : Int64) * l5) ((v170 >>> ((v140 - v140 / (32 : Int32) * (32 : Int32)).toInt64 &&& 63)) &&& (1 : Int64)) _ h
    · refine q_iconst (pc := 154) (v := (-1 : Int32)) C dX13_lay_154 (by decide) ?_
      refine q_iload (pc := 155) C 0 rfl dX13_lay_155 ?_
      refine q_isub (pc := 157) C dX13_lay_157 ?_
      refine q_i2l (pc := 158) C dX13_lay_158 ?_
      refine q_goto (pc := 159) (tgt := 181) C dX13_lay_159 (by decide) ?_
      refine q_W.sub [1, 2, 3, 4, 5, 7] rfl ?_
      exact S_X13_lay_181 B hT r94 hr94 mr94 r111 hr111 mr111 l0 l1 l2 l3 l4 l7 ((2 : Int64) * l5) (((-1 : Int32) - v140).toInt64) _ h
def F_X13_lay_111 (κ : Nat → Nat) (r94 : Option Nat → Int32 → Int32 → Int32 → Int32 → q_X Unit) : Nat → Option Nat → Int32 → Int32 → Int32 → Int32 → Int64 → Int32 → q_X Unit
  | 0, _, _, _, _, _, _, _ => q_no
  | n + 1, l0, l1, l2, l3, l4, l5, l7 => F_X13_lay_111B κ r94 (F_X13_lay_111 κ r94 n) l0 l1 l2 l3 l4 l5 l7
theorem M_X13_lay_111 (κ : Nat → Nat) (r94 : Option Nat → Int32 → Int32 → Int32 → Int32 → q_X Unit) (mr94 : ∀ (l0 : Option Nat) (l1 : Int32) (l2 : Int32) (l3 : Int32) (l4 : Int32), q_mo (r94 l0 l1 l2 l3 l4)) : ∀ (n : Nat) (l0 : Option Nat) (l1 : Int32) (l2 : Int32) (l3 : Int32) (l4 : Int32) (l5 : Int64) (l7 : Int32), q_mo (F_X13_lay_111 κ r94 n l0 l1 l2 l3 l4 l5 l7)
  | 0, _, _, _, _, _, _, _ => q_mo_no
  | n + 1, l0, l1, l2, l3, l4, l5, l7 => M_X13_lay_111B κ r94 mr94 (F_X13_lay_111 κ r94 n) (M_X13_lay_111 κ r94 mr94 n) l0 l1 l2 l3 l4 l5 l7
theorem S_X13_lay_111 {E : q_Ev} {Γ : q_Gm} {w : (Unit ⊕ q_Exn) × q_St} (B : q_Bd E Γ cX13_lay yX13_lay.cls 9 6 138 (none) yX13_lay.name w) (hT : q_nT Γ) (r94 : Option Nat → Int32 → Int32 → Int32 → Int32 → q_X Unit) (hr94 : ∀ (l0 : Option Nat) (l1 : Int32) (l2 : Int32) (l3 : Int32) (l4 : Int32) (σ : q_St), r94 l0 l1 l2 l3 l4 σ = some w → q_W E Γ (q_QF E Γ q_oV w) 9 σ 94 [(0, q_R l0), (1, q_I l1), (2, q_I l2), (3, q_I l3), (4, q_I l4)] []) (mr94 : ∀ (l0 : Option Nat) (l1 : Int32) (l2 : Int32) (l3 : Int32) (l4 : Int32), q_mo (r94 l0 l1 l2 l3 l4)) : ∀ (n : Nat) (l0 : Option Nat) (l1 : Int32) (l2 : Int32) (l3 : Int32) (l4 : Int32) (l5 : Int64) (l7 : Int32) (σ : q_St), F_X13_lay_111 (q_kap E) r94 n l0 l1 l2 l3 l4 l5 l7 σ = some w → q_W E Γ (q_QF E Γ q_oV w) 9 σ 111 [(0, q_R l0), (1, q_I l1), (2, q_I l2), (3, q_I l3), (4, q_I l4), (5, q_L l5), (7, q_I l7)] []
  | 0, _, _, _, _, _, _, _, _, h => by cases h
  | n + 1, l0, l1, l2, l3, l4, l5, l7, σ, h => S_X13_lay_111B B hT r94 hr94 mr94 (F_X13_lay_111 (q_kap E) r94 n) (S_X13_lay_111 B hT r94 hr94 mr94 n) (M_X13_lay_111 (q_kap E) r94 mr94 n) l0 l1 l2 l3 l4 l5 l7 σ h
def F_X13_lay_94B (κ : Nat → Nat) (r94 : Option Nat → Int32 → Int32 → Int32 → Int32 → q_X Unit) (l0 : Option Nat) (l1 : Int32) (l2 : Int32) (l3 : Int32) (l4 : Int32) : q_X Unit :=
  q_rd (q_gA l0 16 33) fun v97 => q_rd (q_lI 1 v97 l3) fun v101 => q_br (v101 ≤ l4) (F_X13_lay_207 κ) (F_X13_lay_111 κ r94 q_fu l0 l1 l2 l3 l4 (0 : Int64) (0 : Int32))
theorem M_X13_lay_94B (κ : Nat → Nat) (r94 : Option Nat → Int32 → Int32 → Int32 → Int32 → q_X Unit) (mr94 : ∀ (l0 : Option Nat) (l1 : Int32) (l2 : Int32) (l3 : Int32) (l4 : Int32), q_mo (r94 l0 l1 l2 l3 l4)) (l0 : Option Nat) (l1 : Int32) (l2 : Int32) (l3 : Int32) (l4 : Int32) : q_mo (F_X13_lay_94B κ r94 l0 l1 l2 l3 l4) := (q_mo_rd fun v97 => (q_mo_rd fun v101 => (q_mo_br (M_X13_lay_207 κ) (M_X13_lay_111 κ r94 mr94 q_fu l0 l1 l2 l3 l4 (0 : Int64) (0 : Int32)))))
set_option maxRecDepth 100000 in
set_option maxHeartbeats 4000000 in
theorem S_X13_lay_94B {E : q_Ev} {Γ : q_Gm} {w : (Unit ⊕ q_Exn) × q_St} (B : q_Bd E Γ cX13_lay yX13_lay.cls 9 6 138 (none) yX13_lay.name w) (hT : q_nT Γ) (r94 : Option Nat → Int32 → Int32 → Int32 → Int32 → q_X Unit) (hr94 : ∀ (l0 : Option Nat) (l1 : Int32) (l2 : Int32) (l3 : Int32) (l4 : Int32) (σ : q_St), r94 l0 l1 l2 l3 l4 σ = some w → q_W E Γ (q_QF E Γ q_oV w) 9 σ 94 [(0, q_R l0), (1, q_I l1), (2, q_I l2), (3, q_I l3), (4, q_I l4)] []) (mr94 : ∀ (l0 : Option Nat) (l1 : Int32) (l2 : Int32) (l3 : Int32) (l4 : Int32), q_mo (r94 l0 l1 l2 l3 l4)) (l0 : Option Nat) (l1 : Int32) (l2 : Int32) (l3 : Int32) (l4 : Int32) (σ : q_St) (h : F_X13_lay_94B (q_kap E) r94 l0 l1 l2 l3 l4 σ = some w) : q_W E Γ (q_QF E Γ q_oV w) 9 σ 94 [(0, q_R l0), (1, q_I l1), (2, q_I l2), (3, q_I l3), (4, q_I l4)] [] := by
  have C := B.1
  unfold F_X13_lay_94B at h
  refine q_iload (pc := 94) C 4 rfl dX13_lay_94 ?_
  refine q_aload_n (pc := 96) C 0 rfl dX13_lay_96 rfl ?_
  refine q_getA (pc := 97) C dX13_lay_97 ql_X13_77 h (fun v97 h => ?_)
  refine q_iload_n (pc := 100) C 3 rfl dX13_lay_100 rfl ?_
  refine q_ldI (pc := 101) C dX13_lay_101 (Or.inr (Or.inl ⟨rfl, rfl⟩)) h (fun v101 h => ?_)
  refine q_icmp_ge (pc := 102) (tgt := 207) C dX13_lay_102 (by decide) h (fun _ h => ?_) (fun _ h => ?_)
  · refine q_W.sub [] rfl ?_
    exact S_X13_lay_207 B hT _ h
  · refine q_lconst (pc := 105) (v := (0 : Int64)) C dX13_lay_105 (by decide) ?_
    refine q_lstore (pc := 106) (l' := [(5, q_L (0 : Int64)), (0, q_R l0), (1, q_I l1), (2, q_I l2), (3, q_I l3), (4, q_I l4)]) C dX13_lay_106 (by decide) rfl ?_
    refine q_iconst (pc := 108) (v := (0 : Int32)) C dX13_lay_108 (by decide) ?_
    refine q_istore (pc := 109) (l' := [(7, q_I (0 : Int32)), (5, q_L (0 : Int64)), (0, q_R l0), (1, q_I l1), (2, q_I l2), (3, q_I l3), (4, q_I l4)]) C dX13_lay_109 (by decide) rfl ?_
    refine q_W.sub [2, 3, 4, 5, 6, 1, 0] rfl ?_
    exact S_X13_lay_111 B hT r94 hr94 mr94 q_fu l0 l1 l2 l3 l4 (0 : Int64) (0 : Int32) _ h
def F_X13_lay_94 (κ : Nat → Nat) : Nat → Option Nat → Int32 → Int32 → Int32 → Int32 → q_X Unit
  | 0, _, _, _, _, _ => q_no
  | n + 1, l0, l1, l2, l3, l4 => F_X13_lay_94B κ (F_X13_lay_94 κ n) l0 l1 l2 l3 l4
theorem M_X13_lay_94 (κ : Nat → Nat) : ∀ (n : Nat) (l0 : Option Nat) (l1 : Int32) (l2 : Int32) (l3 : Int32) (l4 : Int32), q_mo (F_X13_lay_94 κ n l0 l1 l2 l3 l4)
  | 0, _, _, _, _, _ => q_mo_no
  | n + 1, l0, l1, l2, l3, l4 => M_X13_lay_94B κ (F_X13_lay_94 κ n) (M_X13_lay_94 κ n) l0 l1 l2 l3 l4
theorem S_X13_lay_94 {E : q_Ev} {Γ : q_Gm} {w : (Unit ⊕ q_Exn) × q_St} (B : q_Bd E Γ cX13_lay yX13_lay.cls 9 6 138 (none) yX13_lay.name w) (hT : q_nT Γ) : ∀ (n : Nat) (l0 : Option Nat) (l1 : Int32) (l2 : Int32) (l3 : Int32) (l4 : Int32) (σ : q_St), F_X13_lay_94 (q_kap E) n l0 l1 l2 l3 l4 σ = some w → q_W E Γ (q_QF E Γ q_oV w) 9 σ 94 [(0, q_R l0), (1, q_I l1), (2, q_I l2), (3, q_I l3), (4, q_I l4)] []
  | 0, _, _, _, _, _, _, h => by cases h
  | n + 1, l0, l1, l2, l3, l4, σ, h => S_X13_lay_94B B hT (F_X13_lay_94 (q_kap E) n) (S_X13_lay_94 B hT n) (M_X13_lay_94 (q_kap E) n) l0 l1 l2 l3 l4 σ h
def F_X13_lay (κ : Nat → Nat) (l0 : Option Nat) (l1 : Int32) : q_X Unit :=
  q_rd (q_gA l0 16 49) fun v1 => q_rd (q_lI 1 v1 l1) fun v5 => q_rd (q_gA l0 16 48) fun v8 => q_rd (q_lI 1 v8 l1) fun v12 => q_rd (q_gA l0 16 47) fun v15 => q_rd (q_lI 1 v15 l1) fun v19 => q_br (¬ v19 = (2 : Int32)) (q_rd (q_gA l0 16 47) fun v75 => q_rd (q_lI 1 v75 l1) fun v79 => q_br (¬ v79 = (1 : Int32)) (F_X13_lay_207 κ) (q_rd (q_is l0 16) fun _ => q_ca (F_X13_isForm κ l0 l1 v12) fun v87 => F_X13_lay_94 κ q_fu l0 l1 v5 v12 (0 : Int32))) (F_X13_lay_27 κ q_fu l0 l1 v5 (0 : Int32))
theorem M_X13_lay (κ : Nat → Nat) (l0 : Option Nat) (l1 : Int32) : q_mo (F_X13_lay κ l0 l1) := (q_mo_rd fun v1 => (q_mo_rd fun v5 => (q_mo_rd fun v8 => (q_mo_rd fun v12 => (q_mo_rd fun v15 => (q_mo_rd fun v19 => (q_mo_br (q_mo_rd fun v75 => (q_mo_rd fun v79 => (q_mo_br (M_X13_lay_207 κ) (q_mo_rd fun _ => q_mo_ca (M_X13_isForm κ l0 l1 v12) fun v87 => (M_X13_lay_94 κ q_fu l0 l1 v5 v12 (0 : Int32)))))) (M_X13_lay_27 κ q_fu l0 l1 v5 (0 : Int32)))))))))
set_option maxRecDepth 100000 in
set_option maxHeartbeats 4000000 in
theorem K_X13_lay {E : q_Ev} (l0 : Option Nat) (l1 : Int32) : q_Ct E yX13_lay (.code yX13_lay cX13_lay 9 (none)) 6 138 [q_R l0, q_I l1] q_oV (F_X13_lay (q_kap E) l0 l1) := by
  refine q_enter (by decide) (Nat.le_of_ble_eq_true rfl) (fun Γ σ w h B hT => ?_)
  have C := B.1
  unfold F_X13_lay at h
  refine q_aload_n (pc := 0) C 0 rfl dX13_lay_0 rfl ?_
  refine q_getA (pc := 1) C dX13_lay_1 ql_X13_117 h (fun v1 h => ?_)
  refine q_iload_n (pc := 4) C 1 rfl dX13_lay_4 rfl ?_
  refine q_ldI (pc := 5) C dX13_lay_5 (Or.inr (Or.inl ⟨rfl, rfl⟩)) h (fun v5 h => ?_)
  refine q_istore_n (pc := 6) (l' := [(2, q_I v5), (0, q_R l0), (1, q_I l1)]) C dX13_lay_6 rfl (by decide) rfl ?_
  refine q_aload_n (pc := 7) C 1 rfl dX13_lay_7 rfl ?_
  refine q_getA (pc := 8) C dX13_lay_8 ql_X13_114 h (fun v8 h => ?_)
  refine q_iload_n (pc := 11) C 2 rfl dX13_lay_11 rfl ?_
  refine q_ldI (pc := 12) C dX13_lay_12 (Or.inr (Or.inl ⟨rfl, rfl⟩)) h (fun v12 h => ?_)
  refine q_istore_n (pc := 13) (l' := [(3, q_I v12), (2, q_I v5), (0, q_R l0), (1, q_I l1)]) C dX13_lay_13 rfl (by decide) rfl ?_
  refine q_aload_n (pc := 14) C 2 rfl dX13_lay_14 rfl ?_
  refine q_getA (pc := 15) C dX13_lay_15 ql_X13_111 h (fun v15 h => ?_)
  refine q_iload_n (pc := 18) C 3 rfl dX13_lay_18 rfl ?_
  refine q_ldI (pc := 19) C dX13_lay_19 (Or.inr (Or.inl ⟨rfl, rfl⟩)) h (fun v19 h => ?_)
  refine q_iconst (pc := 20) (v := (2 : Int32)) C dX13_lay_20 (by decide) ?_
  refine q_icmp_ne (pc := 21) (tgt := 74) C dX13_lay_21 (by decide) h (fun _ h => ?_) (fun _ h => ?_)
  · refine q_aload_n (pc := 74) C 2 rfl dX13_lay_74 rfl ?_
    refine q_getA (pc := 75) C dX13_lay_75 ql_X13_111 h (fun v75 h => ?_)
    refine q_iload_n (pc := 78) C 3 rfl dX13_lay_78 rfl ?_
    refine q_ldI (pc := 79) C dX13_lay_79 (Or.inr (Or.inl ⟨rfl, rfl⟩)) h (fun v79 h => ?_)
    refine q_iconst (pc := 80) (v := (1 : Int32)) C dX13_lay_80 (by decide) ?_
    refine q_icmp_ne (pc := 81) (tgt := 207) C dX13_lay_81 (by decide) h (fun _ h => ?_) (fun _ h => ?_)
    · refine q_W.sub [] rfl ?_
      exact S_X13_lay_207 B hT _ h
    · refine q_aload_n (pc := 84) C 2 rfl dX13_lay_84 rfl ?_
      refine q_iload_n (pc := 85) C 3 rfl dX13_lay_85 rfl ?_
      refine q_iload_n (pc := 86) C 0 rfl dX13_lay_86 rfl ?_
      refine q_callV (pc := 87) (As := [q_I l1, q_I v12]) (st := []) (ps := q_psI) C B.2.1 hT q_hpI qm_X13_315 qv_X13_isForm dX13_lay_87 rfl rfl (Nat.le_of_ble_eq_true rfl) (q_flo B.2.2.1 B.2.2.2.1 (by decide) (by decide)) (K_X13_isForm l0 l1 v12) (M_X13_isForm (q_kap E) l0 l1 v12) (by exact fun v87 => (M_X13_lay_94 (q_kap E) q_fu l0 l1 v5 v12 (0 : Int32))) h (fun v87 σ h => ?_)
      refine q_W.st (st' := [q_I v87]) rfl ?_
      refine q_pop (pc := 90) C dX13_lay_90 rfl ?_
      refine q_iconst (pc := 91) (v := (0 : Int32)) C dX13_lay_91 (by decide) ?_
      refine q_istore (pc := 92) (l' := [(4, q_I (0 : Int32)), (3, q_I v12), (2, q_I v5), (0, q_R l0), (1, q_I l1)]) C dX13_lay_92 (by decide) rfl ?_
      refine q_W.sub [3, 4, 2, 1, 0] rfl ?_
      exact S_X13_lay_94 B hT q_fu l0 l1 v5 v12 (0 : Int32) _ h
  · refine q_iconst (pc := 24) (v := (0 : Int32)) C dX13_lay_24 (by decide) ?_
    refine q_istore (pc := 25) (l' := [(4, q_I (0 : Int32)), (3, q_I v12), (2, q_I v5), (0, q_R l0), (1, q_I l1)]) C dX13_lay_25 (by decide) rfl ?_
    refine q_W.sub [3, 4, 2, 0] rfl ?_
    exact S_X13_lay_27 B hT q_fu l0 l1 v5 (0 : Int32) _ h
def F_X13_assembled_68 (κ : Nat → Nat) (r10 : Option Nat → Int32 → q_X Unit) (l0 : Option Nat) (l1 : Int32) : q_X Unit :=
  r10 l0 (l1 + (1 : Int32))
theorem M_X13_assembled_68 (κ : Nat → Nat) (r10 : Option Nat → Int32 → q_X Unit) (mr10 : ∀ (l0 : Option Nat) (l1 : Int32), q_mo (r10 l0 l1)) (l0 : Option Nat) (l1 : Int32) : q_mo (F_X13_assembled_68 κ r10 l0 l1) := (mr10 l0 (l1 + (1 : Int32)))
set_option maxRecDepth 100000 in
set_option maxHeartbeats 4000000 in
theorem S_X13_assembled_68 {E : q_Ev} {Γ : q_Gm} {w : (Unit ⊕ q_Exn) × q_St} (B : q_Bd E Γ cX13_assembled yX13_assembled.cls 3 7 166 (none) yX13_assembled.name w) (hT : q_nT Γ) (r10 : Option Nat → Int32 → q_X Unit) (hr10 : ∀ (l0 : Option Nat) (l1 : Int32) (σ : q_St), r10 l0 l1 σ = some w → q_W E Γ (q_QF E Γ q_oV w) 3 σ 10 [(0, q_R l0), (1, q_I l1)] []) (mr10 : ∀ (l0 : Option Nat) (l1 : Int32), q_mo (r10 l0 l1)) (l0 : Option Nat) (l1 : Int32) (σ : q_St) (h : F_X13_assembled_68 (q_kap E) r10 l0 l1 σ = some w) : q_W E Γ (q_QF E Γ q_oV w) 3 σ 68 [(0, q_R l0), (1, q_I l1)] [] := by
  have C := B.1
  unfold F_X13_assembled_68 at h
  refine q_iinc (pc := 68) (v := (1 : Int32)) (l' := [(1, q_I (l1 + (1 : Int32))), (0, q_R l0)]) C 1 rfl dX13_assembled_68 (by decide) (by decide) rfl ?_
  refine q_goto (pc := 71) (tgt := 10) C dX13_assembled_71 (by decide) ?_
  refine q_W.sub [1, 0] rfl ?_
  exact hr10 l0 (l1 + (1 : Int32)) _ h
def F_X13_assembled_194 (κ : Nat → Nat) (r76 : Option Nat → Int32 → q_X Unit) (r98 : Option Nat → Int32 → Int32 → q_X Unit) (l0 : Option Nat) (l1 : Int32) (l2 : Int32) : q_X Unit :=
  r98 l0 l1 (l2 + (1 : Int32))
theorem M_X13_assembled_194 (κ : Nat → Nat) (r76 : Option Nat → Int32 → q_X Unit) (mr76 : ∀ (l0 : Option Nat) (l1 : Int32), q_mo (r76 l0 l1)) (r98 : Option Nat → Int32 → Int32 → q_X Unit) (mr98 : ∀ (l0 : Option Nat) (l1 : Int32) (l2 : Int32), q_mo (r98 l0 l1 l2)) (l0 : Option Nat) (l1 : Int32) (l2 : Int32) : q_mo (F_X13_assembled_194 κ r76 r98 l0 l1 l2) := (mr98 l0 l1 (l2 + (1 : Int32)))
set_option maxRecDepth 100000 in
set_option maxHeartbeats 4000000 in
theorem S_X13_assembled_194 {E : q_Ev} {Γ : q_Gm} {w : (Unit ⊕ q_Exn) × q_St} (B : q_Bd E Γ cX13_assembled yX13_assembled.cls 3 7 166 (none) yX13_assembled.name w) (hT : q_nT Γ) (r76 : Option Nat → Int32 → q_X Unit) (hr76 : ∀ (l0 : Option Nat) (l1 : Int32) (σ : q_St), r76 l0 l1 σ = some w → q_W E Γ (q_QF E Γ q_oV w) 3 σ 76 [(0, q_R l0), (1, q_I l1)] []) (mr76 : ∀ (l0 : Option Nat) (l1 : Int32), q_mo (r76 l0 l1)) (r98 : Option Nat → Int32 → Int32 → q_X Unit) (hr98 : ∀ (l0 : Option Nat) (l1 : Int32) (l2 : Int32) (σ : q_St), r98 l0 l1 l2 σ = some w → q_W E Γ (q_QF E Γ q_oV w) 3 σ 98 [(0, q_R l0), (1, q_I l1), (2, q_I l2)] []) (mr98 : ∀ (l0 : Option Nat) (l1 : Int32) (l2 : Int32), q_mo (r98 l0 l1 l2)) (l0 : Option Nat) (l1 : Int32) (l2 : Int32) (σ : q_St) (h : F_X13_assembled_194 (q_kap E) r76 r98 l0 l1 l2 σ = some w) : q_W E Γ (q_QF E Γ q_oV w) 3 σ 194 [(0, q_R l0), (1, q_I l1), (2, q_I l2)] [] := by
  have C := B.1
  unfold F_X13_assembled_194 at h
  refine q_iinc (pc := 194) (v := (1 : Int32)) (l' := [(2, q_I (l2 + (1 : Int32))), (0, q_R l0), (1, q_I l1)]) C 2 rfl dX13_assembled_194 (by decide) (by decide) rfl ?_
  refine q_goto (pc := 197) (tgt := 98) C dX13_assembled_197 (by decide) ?_
  refine q_W.sub [1, 2, 0] rfl ?_
  exact hr98 l0 l1 (l2 + (1 : Int32)) _ h
def F_X13_assembled_98B (κ : Nat → Nat) (r76 : Option Nat → Int32 → q_X Unit) (r98 : Option Nat → Int32 → Int32 → q_X Unit) (l0 : Option Nat) (l1 : Int32) (l2 : Int32) : q_X Unit :=
  q_rd (q_gI l0 16 52) fun v100 => q_br (v100 ≤ l2) (r76 l0 l1) (q_rd (q_gA l0 16 47) fun v107 => q_rd (q_lI 1 v107 l2) fun v111 => q_br (v111 = (1 : Int32)) (q_rd (q_gA l0 16 48) fun v122 => q_rd (q_lI 1 v122 l2) fun v126 => q_rd (q_is l0 16) fun _ => q_ca (F_X13_isForm κ l0 l2 v126) fun v127 => q_rd (q_gA l0 16 48) fun v134 => q_rd (q_lI 1 v134 l2) fun v138 => q_rd (q_is l0 16) fun _ => q_ca (F_X13_isFitting κ l0 l2 v138) fun v139 => q_br (v139 = 0) (q_rd (q_gA l0 16 48) fun v151 => q_rd (q_gA l0 16 48) fun v158 => q_rd (q_lI 1 v158 l2) fun v162 => q_rd (q_is l0 16) fun _ => q_ca (F_X13_nextForm κ l0 l2 (v162 + (1 : Int32))) fun v165 => q_wr (q_sI 1 v151 l2 v165) (q_rd (q_gA l0 16 48) fun v170 => q_rd (q_lI 1 v170 l2) fun v174 => q_br (0 ≤ v174) (F_X13_assembled_194 κ r76 r98 l0 (0 : Int32) l2) (q_mk (.inr (.inl (15, [.null, .null, .null, .null, .null, .int 0, .int 0, .int 0]))) 8 fun a178 => q_rd (q_gA l0 16 46) fun v185 => q_rd (q_lI 1 v185 l2) fun v189 => q_gd (¬ (some a178) = none) (q_ca (F_X12_init κ (some a178) (7 : Int32) v189) fun _v190 => q_rd (q_is (some a178) 15) fun _ => q_tr RX12 (some a178))))) (F_X13_assembled_194 κ r76 r98 l0 l1 l2)) (F_X13_assembled_194 κ r76 r98 l0 l1 l2))
theorem M_X13_assembled_98B (κ : Nat → Nat) (r76 : Option Nat → Int32 → q_X Unit) (mr76 : ∀ (l0 : Option Nat) (l1 : Int32), q_mo (r76 l0 l1)) (r98 : Option Nat → Int32 → Int32 → q_X Unit) (mr98 : ∀ (l0 : Option Nat) (l1 : Int32) (l2 : Int32), q_mo (r98 l0 l1 l2)) (l0 : Option Nat) (l1 : Int32) (l2 : Int32) : q_mo (F_X13_assembled_98B κ r76 r98 l0 l1 l2) := (q_mo_rd fun v100 => (q_mo_br (mr76 l0 l1) (q_mo_rd fun v107 => (q_mo_rd fun v111 => (q_mo_br (q_mo_rd fun v122 => (q_mo_rd fun v126 => (q_mo_rd fun _ => q_mo_ca (M_X13_isForm κ l0 l2 v126) fun v127 => (q_mo_rd fun v134 => (q_mo_rd fun v138 => (q_mo_rd fun _ => q_mo_ca (M_X13_isFitting κ l0 l2 v138) fun v139 => (q_mo_br (q_mo_rd fun v151 => (q_mo_rd fun v158 => (q_mo_rd fun v162 => (q_mo_rd fun _ => q_mo_ca (M_X13_nextForm κ l0 l2 (v162 + (1 : Int32))) fun v165 => (q_mo_wr (q_mo_rd fun v170 => (q_mo_rd fun v174 => (q_mo_br (M_X13_assembled_194 κ r76 mr76 r98 mr98 l0 (0 : Int32) l2) (q_mo_mk fun a178 => (q_mo_rd fun v185 => (q_mo_rd fun v189 => (q_mo_gd (q_mo_ca (M_X12_init κ (some a178) (7 : Int32) v189) fun _v190 => (q_mo_rd fun _ => q_mo_tr)))))))))))))) (M_X13_assembled_194 κ r76 mr76 r98 mr98 l0 l1 l2)))))))) (M_X13_assembled_194 κ r76 mr76 r98 mr98 l0 l1 l2))))))
set_option maxRecDepth 100000 in
set_option maxHeartbeats 4000000 in
theorem S_X13_assembled_98B {E : q_Ev} {Γ : q_Gm} {w : (Unit ⊕ q_Exn) × q_St} (B : q_Bd E Γ cX13_assembled yX13_assembled.cls 3 7 166 (none) yX13_assembled.name w) (hT : q_nT Γ) (r76 : Option Nat → Int32 → q_X Unit) (hr76 : ∀ (l0 : Option Nat) (l1 : Int32) (σ : q_St), r76 l0 l1 σ = some w → q_W E Γ (q_QF E Γ q_oV w) 3 σ 76 [(0, q_R l0), (1, q_I l1)] []) (mr76 : ∀ (l0 : Option Nat) (l1 : Int32), q_mo (r76 l0 l1)) (r98 : Option Nat → Int32 → Int32 → q_X Unit) (hr98 : ∀ (l0 : Option Nat) (l1 : Int32) (l2 : Int32) (σ : q_St), r98 l0 l1 l2 σ = some w → q_W E Γ (q_QF E Γ q_oV w) 3 σ 98 [(0, q_R l0), (1, q_I l1), (2, q_I l2)] []) (mr98 : ∀ (l0 : Option Nat) (l1 : Int32) (l2 : Int32), q_mo (r98 l0 l1 l2)) (l0 : Option Nat) (l1 : Int32) (l2 : Int32) (σ : q_St) (h : F_X13_assembled_98B (q_kap E) r76 r98 l0 l1 l2 σ = some w) : q_W E Γ (q_QF E Γ q_oV w) 3 σ 98 [(0, q_R l0), (1, q_I l1), (2, q_I l2)] [] := by
  have C := B.1
  unfold F_X13_assembled_98B at h
  refine q_iload_n (pc := 98) C 2 rfl dX13_assembled_98 rfl ?_
  refine q_aload_n (pc := 99) C 0 rfl dX13_assembled_99 rfl ?_
  refine q_getI (pc := 100) C dX13_assembled_100 ql_X13_295 h (fun v100 h => ?_)
  refine q_icmp_ge (pc := 103) (tgt := 200) C dX13_assembled_103 (by decide) h (fun _ h => ?_) (fun _ h => ?_)
  · refine q_goto (pc := 200) (tgt := 76) C dX13_assembled_200 (by decide) ?_
    refine q_W.sub [0, 1] rfl ?_
    exact hr76 l0 l1 _ h
  · refine q_aload_n (pc := 106) C 0 rfl dX13_assembled_106 rfl ?_
    refine q_getA (pc := 107) C dX13_assembled_107 ql_X13_111 h (fun v107 h => ?_)
    refine q_iload_n (pc := 110) C 2 rfl dX13_assembled_110 rfl ?_
    refine q_ldI (pc := 111) C dX13_assembled_111 (Or.inr (Or.inl ⟨rfl, rfl⟩)) h (fun v111 h => ?_)
    refine q_iconst (pc := 112) (v := (1 : Int32)) C dX13_assembled_112 (by decide) ?_
    refine q_icmp_eq (pc := 113) (tgt := 119) C dX13_assembled_113 (by decide) h (fun _ h => ?_) (fun _ h => ?_)
    · refine q_aload_n (pc := 119) C 0 rfl dX13_assembled_119 rfl ?_
      refine q_iload_n (pc := 120) C 2 rfl dX13_assembled_120 rfl ?_
      refine q_aload_n (pc := 121) C 0 rfl dX13_assembled_121 rfl ?_
      refine q_getA (pc := 122) C dX13_assembled_122 ql_X13_114 h (fun v122 h => ?_)
      refine q_iload_n (pc := 125) C 2 rfl dX13_assembled_125 rfl ?_
      refine q_ldI (pc := 126) C dX13_assembled_126 (Or.inr (Or.inl ⟨rfl, rfl⟩)) h (fun v126 h => ?_)
      refine q_callV (pc := 127) (As := [q_I l2, q_I v126]) (st := []) (ps := q_psI) C B.2.1 hT q_hpI qm_X13_315 qv_X13_isForm dX13_assembled_127 rfl rfl (Nat.le_of_ble_eq_true rfl) (q_flo B.2.2.1 B.2.2.2.1 (by decide) (by decide)) (K_X13_isForm l0 l2 v126) (M_X13_isForm (q_kap E) l0 l2 v126) (by exact fun v127 => (q_mo_rd fun v134 => (q_mo_rd fun v138 => (q_mo_rd fun _ => q_mo_ca (M_X13_isFitting (q_kap E) l0 l2 v138) fun v139 => (q_mo_br (q_mo_rd fun v151 => (q_mo_rd fun v158 => (q_mo_rd fun v162 => (q_mo_rd fun _ => q_mo_ca (M_X13_nextForm (q_kap E) l0 l2 (v162 + (1 : Int32))) fun v165 => (q_mo_wr (q_mo_rd fun v170 => (q_mo_rd fun v174 => (q_mo_br (M_X13_assembled_194 (q_kap E) r76 mr76 r98 mr98 l0 (0 : Int32) l2) (q_mo_mk fun a178 => (q_mo_rd fun v185 => (q_mo_rd fun v189 => (q_mo_gd (q_mo_ca (M_X12_init (q_kap E) (some a178) (7 : Int32) v189) fun _v190 => (q_mo_rd fun _ => q_mo_tr)))))))))))))) (M_X13_assembled_194 (q_kap E) r76 mr76 r98 mr98 l0 l1 l2)))))) h (fun v127 σ h => ?_)
      refine q_W.st (st' := [q_I v127]) rfl ?_
      refine q_pop (pc := 130) C dX13_assembled_130 rfl ?_
      refine q_aload_n (pc := 131) C 0 rfl dX13_assembled_131 rfl ?_
      refine q_iload_n (pc := 132) C 2 rfl dX13_assembled_132 rfl ?_
      refine q_aload_n (pc := 133) C 0 rfl dX13_assembled_133 rfl ?_
      refine q_getA (pc := 134) C dX13_assembled_134 ql_X13_114 h (fun v134 h => ?_)
      refine q_iload_n (pc := 137) C 2 rfl dX13_assembled_137 rfl ?_
      refine q_ldI (pc := 138) C dX13_assembled_138 (Or.inr (Or.inl ⟨rfl, rfl⟩)) h (fun v138 h => ?_)
      refine q_callV (pc := 139) (As := [q_I l2, q_I v138]) (st := []) (ps := q_psI) C B.2.1 hT q_hpI qm_X13_327 qv_X13_isFitting dX13_assembled_139 rfl rfl (Nat.le_of_ble_eq_true rfl) (q_flo B.2.2.1 B.2.2.2.1 (by decide) (by decide)) (K_X13_isFitting l0 l2 v138) (M_X13_isFitting (q_kap E) l0 l2 v138) (by exact fun v139 => (q_mo_br (q_mo_rd fun v151 => (q_mo_rd fun v158 => (q_mo_rd fun v162 => (q_mo_rd fun _ => q_mo_ca (M_X13_nextForm (q_kap E) l0 l2 (v162 + (1 : Int32))) fun v165 => (q_mo_wr (q_mo_rd fun v170 => (q_mo_rd fun v174 => (q_mo_br (M_X13_assembled_194 (q_kap E) r76 mr76 r98 mr98 l0 (0 : Int32) l2) (q_mo_mk fun a178 => (q_mo_rd fun v185 => (q_mo_rd fun v189 => (q_mo_gd (q_mo_ca (M_X12_init (q_kap E) (some a178) (7 : Int32) v189) fun _v190 => (q_mo_rd fun _ => q_mo_tr)))))))))))))) (M_X13_assembled_194 (q_kap E) r76 mr76 r98 mr98 l0 l1 l2))) h (fun v139 σ h => ?_)
      refine q_W.st (st' := [q_I v139]) rfl ?_
      refine q_if_eq (pc := 142) (tgt := 148) C dX13_assembled_142 (by decide) h (fun _ h => ?_) (fun _ h => ?_)
      · refine q_iconst (pc := 148) (v := (0 : Int32)) C dX13_assembled_148 (by decide) ?_
        refine q_istore_n (pc := 149) (l' := [(1, q_I (0 : Int32)), (0, q_R l0), (2, q_I l2)]) C dX13_assembled_149 rfl (by decide) rfl ?_
        refine q_aload_n (pc := 150) C 1 rfl dX13_assembled_150 rfl ?_
        refine q_getA (pc := 151) C dX13_assembled_151 ql_X13_114 h (fun v151 h => ?_)
        refine q_iload_n (pc := 154) C 2 rfl dX13_assembled_154 rfl ?_
        refine q_aload_n (pc := 155) C 1 rfl dX13_assembled_155 rfl ?_
        refine q_iload_n (pc := 156) C 2 rfl dX13_assembled_156 rfl ?_
        refine q_aload_n (pc := 157) C 1 rfl dX13_assembled_157 rfl ?_
        refine q_getA (pc := 158) C dX13_assembled_158 ql_X13_114 h (fun v158 h => ?_)
        refine q_iload_n (pc := 161) C 2 rfl dX13_assembled_161 rfl ?_
        refine q_ldI (pc := 162) C dX13_assembled_162 (Or.inr (Or.inl ⟨rfl, rfl⟩)) h (fun v162 h => ?_)
        refine q_iconst (pc := 163) (v := (1 : Int32)) C dX13_assembled_163 (by decide) ?_
        refine q_iadd (pc := 164) C dX13_assembled_164 ?_
        refine q_callV (pc := 165) (As := [q_I l2, q_I (v162 + (1 : Int32))]) (st := [q_I l2, q_R v151]) (ps := q_psI) C B.2.1 hT q_hpI qm_X13_320 qv_X13_nextForm dX13_assembled_165 rfl rfl (Nat.le_of_ble_eq_true rfl) (q_flo B.2.2.1 B.2.2.2.1 (by decide) (by decide)) (K_X13_nextForm l0 l2 (v162 + (1 : Int32))) (M_X13_nextForm (q_kap E) l0 l2 (v162 + (1 : Int32))) (by exact fun v165 => (q_mo_wr (q_mo_rd fun v170 => (q_mo_rd fun v174 => (q_mo_br (M_X13_assembled_194 (q_kap E) r76 mr76 r98 mr98 l0 (0 : Int32) l2) (q_mo_mk fun a178 => (q_mo_rd fun v185 => (q_mo_rd fun v189 => (q_mo_gd (q_mo_ca (M_X12_init (q_kap E) (some a178) (7 : Int32) v189) fun _v190 => (q_mo_rd fun _ => q_mo_tr))))))))))) h (fun v165 σ h => ?_)
        refine q_W.st (st' := [q_I v165, q_I l2, q_R v151]) rfl ?_
        refine q_stI (pc := 168) C dX13_assembled_168 h (fun M168 h => ?_)
        refine q_aload_n (pc := 169) C 1 rfl dX13_assembled_169 rfl ?_
        refine q_getA (pc := 170) C dX13_assembled_170 ql_X13_114 h (fun v170 h => ?_)
        refine q_iload_n (pc := 173) C 2 rfl dX13_assembled_173 rfl ?_
        refine q_ldI (pc := 174) C dX13_assembled_174 (Or.inr (Or.inl ⟨rfl, rfl⟩)) h (fun v174 h => ?_)
        refine q_if_ge (pc := 175) (tgt := 194) C dX13_assembled_175 (by decide) h (fun _ h => ?_) (fun _ h => ?_)
        · refine q_W.sub [1, 0, 2] rfl ?_
          exact S_X13_assembled_194 B hT r76 hr76 mr76 r98 hr98 mr98 l0 (0 : Int32) l2 _ h
        · refine q_new (pc := 178) C dX13_assembled_178 qn_X13_209 (by exact fun a178 => (q_mo_rd fun v185 => (q_mo_rd fun v189 => (q_mo_gd (q_mo_ca (M_X12_init (q_kap E) (some a178) (7 : Int32) v189) fun _v190 => (q_mo_rd fun _ => q_mo_tr)))))) B.2.1 h (fun a178 σ h => ?_)
          refine q_dup (pc := 181) C dX13_assembled_181 rfl ?_
          refine q_bipush (pc := 182) (v := (7 : Int32)) C dX13_assembled_182 (by decide) ?_
          refine q_aload_n (pc := 184) C 1 rfl dX13_assembled_184 rfl ?_
          refine q_getA (pc := 185) C dX13_assembled_185 ql_X13_108 h (fun v185 h => ?_)
          refine q_iload_n (pc := 188) C 2 rfl dX13_assembled_188 rfl ?_
          refine q_ldI (pc := 189) C dX13_assembled_189 (Or.inr (Or.inl ⟨rfl, rfl⟩)) h (fun v189 h => ?_)
          refine q_callI (pc := 190) (As := [q_I (7 : Int32), q_I v189]) (st := [q_R (some a178)]) C B.2.1 (fun _ => rfl) qm_X13_211 qI_X12_init dX13_assembled_190 rfl rfl (Nat.le_of_ble_eq_true rfl) (q_flo B.2.2.1 B.2.2.2.1 (by decide) (by decide)) (K_X12_init (some a178) (7 : Int32) v189) (M_X12_init (q_kap E) (some a178) (7 : Int32) v189) (N_X12_init (q_kap E) (some a178) (7 : Int32) v189) (by exact fun _v190 => (q_mo_rd fun _ => q_mo_tr)) h (fun _v190 σ h => ?_)
          exact q_athrow (pc := 193) (ci := 15) C hT rfl dX13_assembled_193 h
      · refine q_goto (pc := 145) (tgt := 194) C dX13_assembled_145 (by decide) ?_
        exact S_X13_assembled_194 B hT r76 hr76 mr76 r98 hr98 mr98 l0 l1 l2 _ h
    · refine q_goto (pc := 116) (tgt := 194) C dX13_assembled_116 (by decide) ?_
      exact S_X13_assembled_194 B hT r76 hr76 mr76 r98 hr98 mr98 l0 l1 l2 _ h
def F_X13_assembled_98 (κ : Nat → Nat) (r76 : Option Nat → Int32 → q_X Unit) : Nat → Option Nat → Int32 → Int32 → q_X Unit
  | 0, _, _, _ => q_no
  | n + 1, l0, l1, l2 => F_X13_assembled_98B κ r76 (F_X13_assembled_98 κ r76 n) l0 l1 l2
theorem M_X13_assembled_98 (κ : Nat → Nat) (r76 : Option Nat → Int32 → q_X Unit) (mr76 : ∀ (l0 : Option Nat) (l1 : Int32), q_mo (r76 l0 l1)) : ∀ (n : Nat) (l0 : Option Nat) (l1 : Int32) (l2 : Int32), q_mo (F_X13_assembled_98 κ r76 n l0 l1 l2)
  | 0, _, _, _ => q_mo_no
  | n + 1, l0, l1, l2 => M_X13_assembled_98B κ r76 mr76 (F_X13_assembled_98 κ r76 n) (M_X13_assembled_98 κ r76 mr76 n) l0 l1 l2
theorem S_X13_assembled_98 {E : q_Ev} {Γ : q_Gm} {w : (Unit ⊕ q_Exn) × q_St} (B : q_Bd E Γ cX13_assembled yX13_assembled.cls 3 7 166 (none) yX13_assembled.name w) (hT : q_nT Γ) (r76 : Option Nat → Int32 → q_X Unit) (hr76 : ∀ (l0 : Option Nat) (l1 : Int32) (σ : q_St), r76 l0 l1 σ = some w → q_W E Γ (q_QF E Γ q_oV w) 3 σ 76 [(0, q_R l0), (1, q_I l1)] []) (mr76 : ∀ (l0 : Option Nat) (l1 : Int32), q_mo (r76 l0 l1)) : ∀ (n : Nat) (l0 : Option Nat) (l1 : Int32) (l2 : Int32) (σ : q_St), F_X13_assembled_98 (q_kap E) r76 n l0 l1 l2 σ = some w → q_W E Γ (q_QF E Γ q_oV w) 3 σ 98 [(0, q_R l0), (1, q_I l1), (2, q_I l2)] []
  | 0, _, _, _, _, h => by cases h
  | n + 1, l0, l1, l2, σ, h => S_X13_assembled_98B B hT r76 hr76 mr76 (F_X13_assembled_98 (q_kap E) r76 n) (S_X13_assembled_98 B hT r76 hr76 mr76 n) (M_X13_assembled_98 (q_kap E) r76 mr76 n) l0 l1 l2 σ h
def F_X13_assembled_205B (κ : Nat → Nat) (r205 : Option Nat → Int32 → q_X Unit) (l0 : Option Nat) (l2 : Int32) : q_X Unit :=
  q_rd (q_gI l0 16 52) fun v207 => q_br (v207 ≤ l2) (q_rt ()) (q_rd (q_is l0 16) fun _ => q_ca (F_X13_lay κ l0 l2) fun _v215 => r205 l0 (l2 + (1 : Int32)))
theorem M_X13_assembled_205B (κ : Nat → Nat) (r205 : Option Nat → Int32 → q_X Unit) (mr205 : ∀ (l0 : Option Nat) (l2 : Int32), q_mo (r205 l0 l2)) (l0 : Option Nat) (l2 : Int32) : q_mo (F_X13_assembled_205B κ r205 l0 l2) := (q_mo_rd fun v207 => (q_mo_br q_mo_rt (q_mo_rd fun _ => q_mo_ca (M_X13_lay κ l0 l2) fun _v215 => (mr205 l0 (l2 + (1 : Int32))))))
set_option maxRecDepth 100000 in
set_option maxHeartbeats 4000000 in
theorem S_X13_assembled_205B {E : q_Ev} {Γ : q_Gm} {w : (Unit ⊕ q_Exn) × q_St} (B : q_Bd E Γ cX13_assembled yX13_assembled.cls 3 7 166 (none) yX13_assembled.name w) (hT : q_nT Γ) (r205 : Option Nat → Int32 → q_X Unit) (hr205 : ∀ (l0 : Option Nat) (l2 : Int32) (σ : q_St), r205 l0 l2 σ = some w → q_W E Γ (q_QF E Γ q_oV w) 3 σ 205 [(0, q_R l0), (2, q_I l2)] []) (mr205 : ∀ (l0 : Option Nat) (l2 : Int32), q_mo (r205 l0 l2)) (l0 : Option Nat) (l2 : Int32) (σ : q_St) (h : F_X13_assembled_205B (q_kap E) r205 l0 l2 σ = some w) : q_W E Γ (q_QF E Γ q_oV w) 3 σ 205 [(0, q_R l0), (2, q_I l2)] [] := by
  have C := B.1
  unfold F_X13_assembled_205B at h
  refine q_iload_n (pc := 205) C 1 rfl dX13_assembled_205 rfl ?_
  refine q_aload_n (pc := 206) C 0 rfl dX13_assembled_206 rfl ?_
  refine q_getI (pc := 207) C dX13_assembled_207 ql_X13_295 h (fun v207 h => ?_)
  refine q_icmp_ge (pc := 210) (tgt := 224) C dX13_assembled_210 (by decide) h (fun _ h => ?_) (fun _ h => ?_)
  · exact q_vret C B.2.2.2.2.1 dX13_assembled_224 h
  · refine q_aload_n (pc := 213) C 0 rfl dX13_assembled_213 rfl ?_
    refine q_iload_n (pc := 214) C 1 rfl dX13_assembled_214 rfl ?_
    refine q_callV (pc := 215) (As := [q_I l2]) (st := []) (ps := q_psV) C B.2.1 hT q_hpV qm_X13_330 qv_X13_lay dX13_assembled_215 rfl rfl (Nat.le_of_ble_eq_true rfl) (q_flo B.2.2.1 B.2.2.2.1 (by decide) (by decide)) (K_X13_lay l0 l2) (M_X13_lay (q_kap E) l0 l2) (by exact fun _v215 => (mr205 l0 (l2 + (1 : Int32)))) h (fun _v215 σ h => ?_)
    refine q_W.st (st' := []) rfl ?_
    refine q_iinc (pc := 218) (v := (1 : Int32)) (l' := [(2, q_I (l2 + (1 : Int32))), (0, q_R l0)]) C 1 rfl dX13_assembled_218 (by decide) (by decide) rfl ?_
    refine q_goto (pc := 221) (tgt := 205) C dX13_assembled_221 (by decide) ?_
    refine q_W.sub [1, 0] rfl ?_
    exact hr205 l0 (l2 + (1 : Int32)) _ h
def F_X13_assembled_205 (κ : Nat → Nat) : Nat → Option Nat → Int32 → q_X Unit
  | 0, _, _ => q_no
  | n + 1, l0, l2 => F_X13_assembled_205B κ (F_X13_assembled_205 κ n) l0 l2
theorem M_X13_assembled_205 (κ : Nat → Nat) : ∀ (n : Nat) (l0 : Option Nat) (l2 : Int32), q_mo (F_X13_assembled_205 κ n l0 l2)
  | 0, _, _ => q_mo_no
  | n + 1, l0, l2 => M_X13_assembled_205B κ (F_X13_assembled_205 κ n) (M_X13_assembled_205 κ n) l0 l2
theorem S_X13_assembled_205 {E : q_Ev} {Γ : q_Gm} {w : (Unit ⊕ q_Exn) × q_St} (B : q_Bd E Γ cX13_assembled yX13_assembled.cls 3 7 166 (none) yX13_assembled.name w) (hT : q_nT Γ) : ∀ (n : Nat) (l0 : Option Nat) (l2 : Int32) (σ : q_St), F_X13_assembled_205 (q_kap E) n l0 l2 σ = some w → q_W E Γ (q_QF E Γ q_oV w) 3 σ 205 [(0, q_R l0), (2, q_I l2)] []
  | 0, _, _, _, h => by cases h
  | n + 1, l0, l2, σ, h => S_X13_assembled_205B B hT (F_X13_assembled_205 (q_kap E) n) (S_X13_assembled_205 B hT n) (M_X13_assembled_205 (q_kap E) n) l0 l2 σ h
def F_X13_assembled_76B (κ : Nat → Nat) (r76 : Option Nat → Int32 → q_X Unit) (l0 : Option Nat) (l1 : Int32) : q_X Unit :=
  q_br (¬ l1 = 0) (F_X13_assembled_205 κ q_fu l0 (0 : Int32)) (q_rd (q_gI l0 16 44) fun v82 => q_wr (q_pF l0 16 44 (.int (v82 + (1 : Int32)))) (q_rd (q_is l0 16) fun _ => q_ca (F_X13_addresses κ l0) fun _v91 => F_X13_assembled_98 κ r76 q_fu l0 (1 : Int32) (0 : Int32)))
theorem M_X13_assembled_76B (κ : Nat → Nat) (r76 : Option Nat → Int32 → q_X Unit) (mr76 : ∀ (l0 : Option Nat) (l1 : Int32), q_mo (r76 l0 l1)) (l0 : Option Nat) (l1 : Int32) : q_mo (F_X13_assembled_76B κ r76 l0 l1) := (q_mo_br (M_X13_assembled_205 κ q_fu l0 (0 : Int32)) (q_mo_rd fun v82 => (q_mo_wr (q_mo_rd fun _ => q_mo_ca (M_X13_addresses κ l0) fun _v91 => (M_X13_assembled_98 κ r76 mr76 q_fu l0 (1 : Int32) (0 : Int32))))))
set_option maxRecDepth 100000 in
set_option maxHeartbeats 4000000 in
theorem S_X13_assembled_76B {E : q_Ev} {Γ : q_Gm} {w : (Unit ⊕ q_Exn) × q_St} (B : q_Bd E Γ cX13_assembled yX13_assembled.cls 3 7 166 (none) yX13_assembled.name w) (hT : q_nT Γ) (r76 : Option Nat → Int32 → q_X Unit) (hr76 : ∀ (l0 : Option Nat) (l1 : Int32) (σ : q_St), r76 l0 l1 σ = some w → q_W E Γ (q_QF E Γ q_oV w) 3 σ 76 [(0, q_R l0), (1, q_I l1)] []) (mr76 : ∀ (l0 : Option Nat) (l1 : Int32), q_mo (r76 l0 l1)) (l0 : Option Nat) (l1 : Int32) (σ : q_St) (h : F_X13_assembled_76B (q_kap E) r76 l0 l1 σ = some w) : q_W E Γ (q_QF E Γ q_oV w) 3 σ 76 [(0, q_R l0), (1, q_I l1)] [] := by
  have C := B.1
  unfold F_X13_assembled_76B at h
  refine q_iload_n (pc := 76) C 1 rfl dX13_assembled_76 rfl ?_
  refine q_if_ne (pc := 77) (tgt := 203) C dX13_assembled_77 (by decide) h (fun _ h => ?_) (fun _ h => ?_)
  · refine q_iconst (pc := 203) (v := (0 : Int32)) C dX13_assembled_203 (by decide) ?_
    refine q_istore_n (pc := 204) (l' := [(2, q_I (0 : Int32)), (0, q_R l0), (1, q_I l1)]) C dX13_assembled_204 rfl (by decide) rfl ?_
    refine q_W.sub [1, 0] rfl ?_
    exact S_X13_assembled_205 B hT q_fu l0 (0 : Int32) _ h
  · refine q_aload_n (pc := 80) C 0 rfl dX13_assembled_80 rfl ?_
    refine q_dup (pc := 81) C dX13_assembled_81 rfl ?_
    refine q_getI (pc := 82) C dX13_assembled_82 ql_X13_289 h (fun v82 h => ?_)
    refine q_iconst (pc := 85) (v := (1 : Int32)) C dX13_assembled_85 (by decide) ?_
    refine q_iadd (pc := 86) C dX13_assembled_86 ?_
    refine q_putV (pc := 87) (v := q_I (v82 + (1 : Int32))) C dX13_assembled_87 ql_X13_289 (Or.inl rfl) rfl rfl h (fun M87 h => ?_)
    refine q_aload_n (pc := 90) C 0 rfl dX13_assembled_90 rfl ?_
    refine q_callV (pc := 91) (As := []) (st := []) (ps := q_psV) C B.2.1 hT q_hpV qm_X13_324 qv_X13_addresses dX13_assembled_91 rfl rfl (Nat.le_of_ble_eq_true rfl) (q_flo B.2.2.1 B.2.2.2.1 (by decide) (by decide)) (K_X13_addresses l0) (M_X13_addresses (q_kap E) l0) (by exact fun _v91 => (M_X13_assembled_98 (q_kap E) r76 mr76 q_fu l0 (1 : Int32) (0 : Int32))) h (fun _v91 σ h => ?_)
    refine q_W.st (st' := []) rfl ?_
    refine q_iconst (pc := 94) (v := (1 : Int32)) C dX13_assembled_94 (by decide) ?_
    refine q_istore_n (pc := 95) (l' := [(1, q_I (1 : Int32)), (0, q_R l0)]) C dX13_assembled_95 rfl (by decide) rfl ?_
    refine q_iconst (pc := 96) (v := (0 : Int32)) C dX13_assembled_96 (by decide) ?_
    refine q_istore_n (pc := 97) (l' := [(2, q_I (0 : Int32)), (1, q_I (1 : Int32)), (0, q_R l0)]) C dX13_assembled_97 rfl (by decide) rfl ?_
    refine q_W.sub [2, 1, 0] rfl ?_
    exact S_X13_assembled_98 B hT r76 hr76 mr76 q_fu l0 (1 : Int32) (0 : Int32) _ h
def F_X13_assembled_76 (κ : Nat → Nat) : Nat → Option Nat → Int32 → q_X Unit
  | 0, _, _ => q_no
  | n + 1, l0, l1 => F_X13_assembled_76B κ (F_X13_assembled_76 κ n) l0 l1
theorem M_X13_assembled_76 (κ : Nat → Nat) : ∀ (n : Nat) (l0 : Option Nat) (l1 : Int32), q_mo (F_X13_assembled_76 κ n l0 l1)
  | 0, _, _ => q_mo_no
  | n + 1, l0, l1 => M_X13_assembled_76B κ (F_X13_assembled_76 κ n) (M_X13_assembled_76 κ n) l0 l1
theorem S_X13_assembled_76 {E : q_Ev} {Γ : q_Gm} {w : (Unit ⊕ q_Exn) × q_St} (B : q_Bd E Γ cX13_assembled yX13_assembled.cls 3 7 166 (none) yX13_assembled.name w) (hT : q_nT Γ) : ∀ (n : Nat) (l0 : Option Nat) (l1 : Int32) (σ : q_St), F_X13_assembled_76 (q_kap E) n l0 l1 σ = some w → q_W E Γ (q_QF E Γ q_oV w) 3 σ 76 [(0, q_R l0), (1, q_I l1)] []
  | 0, _, _, _, h => by cases h
  | n + 1, l0, l1, σ, h => S_X13_assembled_76B B hT (F_X13_assembled_76 (q_kap E) n) (S_X13_assembled_76 B hT n) (M_X13_assembled_76 (q_kap E) n) l0 l1 σ h
def F_X13_assembled_10B (κ : Nat → Nat) (r10 : Option Nat → Int32 → q_X Unit) (l0 : Option Nat) (l1 : Int32) : q_X Unit :=
  q_rd (q_gI l0 16 52) fun v12 => q_br (v12 ≤ l1) (F_X13_assembled_76 κ q_fu l0 (0 : Int32)) (q_rd (q_gA l0 16 47) fun v19 => q_rd (q_lI 1 v19 l1) fun v23 => q_br (v23 = (1 : Int32)) (q_rd (q_gA l0 16 48) fun v32 => q_rd (q_is l0 16) fun _ => q_ca (F_X13_nextForm κ l0 l1 (0 : Int32)) fun v39 => q_wr (q_sI 1 v32 l1 v39) (q_rd (q_gA l0 16 48) fun v44 => q_rd (q_lI 1 v44 l1) fun v48 => q_br (0 ≤ v48) (F_X13_assembled_68 κ r10 l0 l1) (q_mk (.inr (.inl (15, [.null, .null, .null, .null, .null, .int 0, .int 0, .int 0]))) 8 fun a52 => q_rd (q_gA l0 16 46) fun v59 => q_rd (q_lI 1 v59 l1) fun v63 => q_gd (¬ (some a52) = none) (q_ca (F_X12_init κ (some a52) (6 : Int32) v63) fun _v64 => q_rd (q_is (some a52) 15) fun _ => q_tr RX12 (some a52))))) (F_X13_assembled_68 κ r10 l0 l1))
theorem M_X13_assembled_10B (κ : Nat → Nat) (r10 : Option Nat → Int32 → q_X Unit) (mr10 : ∀ (l0 : Option Nat) (l1 : Int32), q_mo (r10 l0 l1)) (l0 : Option Nat) (l1 : Int32) : q_mo (F_X13_assembled_10B κ r10 l0 l1) := (q_mo_rd fun v12 => (q_mo_br (M_X13_assembled_76 κ q_fu l0 (0 : Int32)) (q_mo_rd fun v19 => (q_mo_rd fun v23 => (q_mo_br (q_mo_rd fun v32 => (q_mo_rd fun _ => q_mo_ca (M_X13_nextForm κ l0 l1 (0 : Int32)) fun v39 => (q_mo_wr (q_mo_rd fun v44 => (q_mo_rd fun v48 => (q_mo_br (M_X13_assembled_68 κ r10 mr10 l0 l1) (q_mo_mk fun a52 => (q_mo_rd fun v59 => (q_mo_rd fun v63 => (q_mo_gd (q_mo_ca (M_X12_init κ (some a52) (6 : Int32) v63) fun _v64 => (q_mo_rd fun _ => q_mo_tr)))))))))))) (M_X13_assembled_68 κ r10 mr10 l0 l1))))))
set_option maxRecDepth 100000 in
set_option maxHeartbeats 4000000 in
theorem S_X13_assembled_10B {E : q_Ev} {Γ : q_Gm} {w : (Unit ⊕ q_Exn) × q_St} (B : q_Bd E Γ cX13_assembled yX13_assembled.cls 3 7 166 (none) yX13_assembled.name w) (hT : q_nT Γ) (r10 : Option Nat → Int32 → q_X Unit) (hr10 : ∀ (l0 : Option Nat) (l1 : Int32) (σ : q_St), r10 l0 l1 σ = some w → q_W E Γ (q_QF E Γ q_oV w) 3 σ 10 [(0, q_R l0), (1, q_I l1)] []) (mr10 : ∀ (l0 : Option Nat) (l1 : Int32), q_mo (r10 l0 l1)) (l0 : Option Nat) (l1 : Int32) (σ : q_St) (h : F_X13_assembled_10B (q_kap E) r10 l0 l1 σ = some w) : q_W E Γ (q_QF E Γ q_oV w) 3 σ 10 [(0, q_R l0), (1, q_I l1)] [] := by
  have C := B.1
  unfold F_X13_assembled_10B at h
  refine q_iload_n (pc := 10) C 1 rfl dX13_assembled_10 rfl ?_
  refine q_aload_n (pc := 11) C 0 rfl dX13_assembled_11 rfl ?_
  refine q_getI (pc := 12) C dX13_assembled_12 ql_X13_295 h (fun v12 h => ?_)
  refine q_icmp_ge (pc := 15) (tgt := 74) C dX13_assembled_15 (by decide) h (fun _ h => ?_) (fun _ h => ?_)
  · refine q_iconst (pc := 74) (v := (0 : Int32)) C dX13_assembled_74 (by decide) ?_
    refine q_istore_n (pc := 75) (l' := [(1, q_I (0 : Int32)), (0, q_R l0)]) C dX13_assembled_75 rfl (by decide) rfl ?_
    refine q_W.sub [1, 0] rfl ?_
    exact S_X13_assembled_76 B hT q_fu l0 (0 : Int32) _ h
  · refine q_aload_n (pc := 18) C 0 rfl dX13_assembled_18 rfl ?_
    refine q_getA (pc := 19) C dX13_assembled_19 ql_X13_111 h (fun v19 h => ?_)
    refine q_iload_n (pc := 22) C 1 rfl dX13_assembled_22 rfl ?_
    refine q_ldI (pc := 23) C dX13_assembled_23 (Or.inr (Or.inl ⟨rfl, rfl⟩)) h (fun v23 h => ?_)
    refine q_iconst (pc := 24) (v := (1 : Int32)) C dX13_assembled_24 (by decide) ?_
    refine q_icmp_eq (pc := 25) (tgt := 31) C dX13_assembled_25 (by decide) h (fun _ h => ?_) (fun _ h => ?_)
    · refine q_aload_n (pc := 31) C 0 rfl dX13_assembled_31 rfl ?_
      refine q_getA (pc := 32) C dX13_assembled_32 ql_X13_114 h (fun v32 h => ?_)
      refine q_iload_n (pc := 35) C 1 rfl dX13_assembled_35 rfl ?_
      refine q_aload_n (pc := 36) C 0 rfl dX13_assembled_36 rfl ?_
      refine q_iload_n (pc := 37) C 1 rfl dX13_assembled_37 rfl ?_
      refine q_iconst (pc := 38) (v := (0 : Int32)) C dX13_assembled_38 (by decide) ?_
      refine q_callV (pc := 39) (As := [q_I l1, q_I (0 : Int32)]) (st := [q_I l1, q_R v32]) (ps := q_psI) C B.2.1 hT q_hpI qm_X13_320 qv_X13_nextForm dX13_assembled_39 rfl rfl (Nat.le_of_ble_eq_true rfl) (q_flo B.2.2.1 B.2.2.2.1 (by decide) (by decide)) (K_X13_nextForm l0 l1 (0 : Int32)) (M_X13_nextForm (q_kap E) l0 l1 (0 : Int32)) (by exact fun v39 => (q_mo_wr (q_mo_rd fun v44 => (q_mo_rd fun v48 => (q_mo_br (M_X13_assembled_68 (q_kap E) r10 mr10 l0 l1) (q_mo_mk fun a52 => (q_mo_rd fun v59 => (q_mo_rd fun v63 => (q_mo_gd (q_mo_ca (M_X12_init (q_kap E) (some a52) (6 : Int32) v63) fun _v64 => (q_mo_rd fun _ => q_mo_tr))))))))))) h (fun v39 σ h => ?_)
      refine q_W.st (st' := [q_I v39, q_I l1, q_R v32]) rfl ?_
      refine q_stI (pc := 42) C dX13_assembled_42 h (fun M42 h => ?_)
      refine q_aload_n (pc := 43) C 0 rfl dX13_assembled_43 rfl ?_
      refine q_getA (pc := 44) C dX13_assembled_44 ql_X13_114 h (fun v44 h => ?_)
      refine q_iload_n (pc := 47) C 1 rfl dX13_assembled_47 rfl ?_
      refine q_ldI (pc := 48) C dX13_assembled_48 (Or.inr (Or.inl ⟨rfl, rfl⟩)) h (fun v48 h => ?_)
      refine q_if_ge (pc := 49) (tgt := 68) C dX13_assembled_49 (by decide) h (fun _ h => ?_) (fun _ h => ?_)
      · exact S_X13_assembled_68 B hT r10 hr10 mr10 l0 l1 _ h
      · refine q_new (pc := 52) C dX13_assembled_52 qn_X13_209 (by exact fun a52 => (q_mo_rd fun v59 => (q_mo_rd fun v63 => (q_mo_gd (q_mo_ca (M_X12_init (q_kap E) (some a52) (6 : Int32) v63) fun _v64 => (q_mo_rd fun _ => q_mo_tr)))))) B.2.1 h (fun a52 σ h => ?_)
        refine q_dup (pc := 55) C dX13_assembled_55 rfl ?_
        refine q_bipush (pc := 56) (v := (6 : Int32)) C dX13_assembled_56 (by decide) ?_
        refine q_aload_n (pc := 58) C 0 rfl dX13_assembled_58 rfl ?_
        refine q_getA (pc := 59) C dX13_assembled_59 ql_X13_108 h (fun v59 h => ?_)
        refine q_iload_n (pc := 62) C 1 rfl dX13_assembled_62 rfl ?_
        refine q_ldI (pc := 63) C dX13_assembled_63 (Or.inr (Or.inl ⟨rfl, rfl⟩)) h (fun v63 h => ?_)
        refine q_callI (pc := 64) (As := [q_I (6 : Int32), q_I v63]) (st := [q_R (some a52)]) C B.2.1 (fun _ => rfl) qm_X13_211 qI_X12_init dX13_assembled_64 rfl rfl (Nat.le_of_ble_eq_true rfl) (q_flo B.2.2.1 B.2.2.2.1 (by decide) (by decide)) (K_X12_init (some a52) (6 : Int32) v63) (M_X12_init (q_kap E) (some a52) (6 : Int32) v63) (N_X12_init (q_kap E) (some a52) (6 : Int32) v63) (by exact fun _v64 => (q_mo_rd fun _ => q_mo_tr)) h (fun _v64 σ h => ?_)
        exact q_athrow (pc := 67) (ci := 15) C hT rfl dX13_assembled_67 h
    · refine q_goto (pc := 28) (tgt := 68) C dX13_assembled_28 (by decide) ?_
      exact S_X13_assembled_68 B hT r10 hr10 mr10 l0 l1 _ h
def F_X13_assembled_10 (κ : Nat → Nat) : Nat → Option Nat → Int32 → q_X Unit
  | 0, _, _ => q_no
  | n + 1, l0, l1 => F_X13_assembled_10B κ (F_X13_assembled_10 κ n) l0 l1
theorem M_X13_assembled_10 (κ : Nat → Nat) : ∀ (n : Nat) (l0 : Option Nat) (l1 : Int32), q_mo (F_X13_assembled_10 κ n l0 l1)
  | 0, _, _ => q_mo_no
  | n + 1, l0, l1 => M_X13_assembled_10B κ (F_X13_assembled_10 κ n) (M_X13_assembled_10 κ n) l0 l1
theorem S_X13_assembled_10 {E : q_Ev} {Γ : q_Gm} {w : (Unit ⊕ q_Exn) × q_St} (B : q_Bd E Γ cX13_assembled yX13_assembled.cls 3 7 166 (none) yX13_assembled.name w) (hT : q_nT Γ) : ∀ (n : Nat) (l0 : Option Nat) (l1 : Int32) (σ : q_St), F_X13_assembled_10 (q_kap E) n l0 l1 σ = some w → q_W E Γ (q_QF E Γ q_oV w) 3 σ 10 [(0, q_R l0), (1, q_I l1)] []
  | 0, _, _, _, h => by cases h
  | n + 1, l0, l1, σ, h => S_X13_assembled_10B B hT (F_X13_assembled_10 (q_kap E) n) (S_X13_assembled_10 B hT n) (M_X13_assembled_10 (q_kap E) n) l0 l1 σ h
def F_X13_assembled (κ : Nat → Nat) (l0 : Option Nat) : q_X Unit :=
  q_rd (q_is l0 16) fun _ => q_ca (F_X13_clear κ l0) fun _v1 => q_rd (q_is l0 16) fun _ => q_ca (F_X13_lines κ l0) fun _v5 => F_X13_assembled_10 κ q_fu l0 (0 : Int32)
theorem M_X13_assembled (κ : Nat → Nat) (l0 : Option Nat) : q_mo (F_X13_assembled κ l0) := (q_mo_rd fun _ => q_mo_ca (M_X13_clear κ l0) fun _v1 => (q_mo_rd fun _ => q_mo_ca (M_X13_lines κ l0) fun _v5 => (M_X13_assembled_10 κ q_fu l0 (0 : Int32))))
set_option maxRecDepth 100000 in
set_option maxHeartbeats 4000000 in
theorem K_X13_assembled {E : q_Ev} (l0 : Option Nat) : q_Ct E yX13_assembled (.code yX13_assembled cX13_assembled 3 (none)) 7 166 [q_R l0] q_oV (F_X13_assembled (q_kap E) l0) := by
  refine q_enter (by decide) (Nat.le_of_ble_eq_true rfl) (fun Γ σ w h B hT => ?_)
  have C := B.1
  unfold F_X13_assembled at h
  refine q_aload_n (pc := 0) C 0 rfl dX13_assembled_0 rfl ?_
  refine q_callV (pc := 1) (As := []) (st := []) (ps := q_psV) C B.2.1 hT q_hpV qm_X13_226 qv_X13_clear dX13_assembled_1 rfl rfl (Nat.le_of_ble_eq_true rfl) (q_flo B.2.2.1 B.2.2.2.1 (by decide) (by decide)) (K_X13_clear l0) (M_X13_clear (q_kap E) l0) (by exact fun _v1 => (q_mo_rd fun _ => q_mo_ca (M_X13_lines (q_kap E) l0) fun _v5 => (M_X13_assembled_10 (q_kap E) q_fu l0 (0 : Int32)))) h (fun _v1 σ h => ?_)
  refine q_W.st (st' := []) rfl ?_
  refine q_aload_n (pc := 4) C 0 rfl dX13_assembled_4 rfl ?_
  refine q_callV (pc := 5) (As := []) (st := []) (ps := q_psV) C B.2.1 hT q_hpV qm_X13_318 qv_X13_lines dX13_assembled_5 rfl rfl (Nat.le_of_ble_eq_true rfl) (q_flo B.2.2.1 B.2.2.2.1 (by decide) (by decide)) (K_X13_lines l0) (M_X13_lines (q_kap E) l0) (by exact fun _v5 => (M_X13_assembled_10 (q_kap E) q_fu l0 (0 : Int32))) h (fun _v5 σ h => ?_)
  refine q_W.st (st' := []) rfl ?_
  refine q_iconst (pc := 8) (v := (0 : Int32)) C dX13_assembled_8 (by decide) ?_
  refine q_istore_n (pc := 9) (l' := [(1, q_I (0 : Int32)), (0, q_R l0)]) C dX13_assembled_9 rfl (by decide) rfl ?_
  refine q_W.sub [1, 0] rfl ?_
  exact S_X13_assembled_10 B hT q_fu l0 (0 : Int32) _ h
def F_X13_say (κ : Nat → Nat) (l0 : Option Nat) (l1 : Int32) : q_X Unit :=
  q_rd (q_gA l0 16 2) fun v1 => q_rd (q_gI l0 16 4) fun v6 => q_wr (q_pF l0 16 4 (.int (v6 + (1 : Int32)))) (q_wr (q_sI 0 v1 v6 (vp_nar .byte l1.toInt8.toInt32)) (q_rt ()))
theorem M_X13_say (κ : Nat → Nat) (l0 : Option Nat) (l1 : Int32) : q_mo (F_X13_say κ l0 l1) := (q_mo_rd fun v1 => (q_mo_rd fun v6 => (q_mo_wr (q_mo_wr q_mo_rt))))
theorem N_X13_say (κ : Nat → Nat) (l0 : Option Nat) (l1 : Int32) : q_ni (F_X13_say κ l0 l1) := (q_ni_rd fun v1 => (q_ni_rd fun v6 => (q_ni_wr (q_ni_wr q_ni_rt))))
set_option maxRecDepth 100000 in
set_option maxHeartbeats 4000000 in
theorem K_X13_say {E : q_Ev} (l0 : Option Nat) (l1 : Int32) : q_Ct E yX13_say (.code yX13_say cX13_say 2 (none)) 0 0 [q_R l0, q_I l1] q_oV (F_X13_say (q_kap E) l0 l1) := by
  refine q_enter (by decide) (Nat.le_of_ble_eq_true rfl) (fun Γ σ w h B hT => ?_)
  have C := B.1
  unfold F_X13_say at h
  refine q_aload_n (pc := 0) C 0 rfl dX13_say_0 rfl ?_
  refine q_getA (pc := 1) C dX13_say_1 ql_X13_16 h (fun v1 h => ?_)
  refine q_aload_n (pc := 4) C 0 rfl dX13_say_4 rfl ?_
  refine q_dup (pc := 5) C dX13_say_5 rfl ?_
  refine q_getI (pc := 6) C dX13_say_6 ql_X13_339 h (fun v6 h => ?_)
  refine q_dup_x1 (pc := 9) C dX13_say_9 rfl rfl ?_
  refine q_iconst (pc := 10) (v := (1 : Int32)) C dX13_say_10 (by decide) ?_
  refine q_iadd (pc := 11) C dX13_say_11 ?_
  refine q_putV (pc := 12) (v := q_I (v6 + (1 : Int32))) C dX13_say_12 ql_X13_339 (Or.inl rfl) rfl rfl h (fun M12 h => ?_)
  refine q_iload_n (pc := 15) C 1 rfl dX13_say_15 rfl ?_
  refine q_i2b (pc := 16) C dX13_say_16 ?_
  refine q_stB (pc := 17) C dX13_say_17 h (fun M17 h => ?_)
  exact q_vret C B.2.2.2.2.1 dX13_say_18 h
def F_X13_sayName_2B (κ : Nat → Nat) (r2 : Option Nat → Int32 → Int32 → q_X Unit) (l0 : Option Nat) (l1 : Int32) (l2 : Int32) : q_X Unit :=
  q_rd (q_gA l0 16 18) fun v4 => q_rd (q_lI 1 v4 l1) fun v8 => q_br (v8 ≤ l2) (q_rt ()) (q_rd (q_gA l0 16 16) fun v14 => q_rd (q_gA l0 16 17) fun v18 => q_rd (q_lI 1 v18 l1) fun v22 => q_rd (q_lI 0 v14 (v22 + l2)) fun v25 => q_rd (q_is l0 16) fun _ => q_ca (F_X13_say κ l0 v25) fun _v26 => r2 l0 l1 (l2 + (1 : Int32)))
theorem M_X13_sayName_2B (κ : Nat → Nat) (r2 : Option Nat → Int32 → Int32 → q_X Unit) (mr2 : ∀ (l0 : Option Nat) (l1 : Int32) (l2 : Int32), q_mo (r2 l0 l1 l2)) (l0 : Option Nat) (l1 : Int32) (l2 : Int32) : q_mo (F_X13_sayName_2B κ r2 l0 l1 l2) := (q_mo_rd fun v4 => (q_mo_rd fun v8 => (q_mo_br q_mo_rt (q_mo_rd fun v14 => (q_mo_rd fun v18 => (q_mo_rd fun v22 => (q_mo_rd fun v25 => (q_mo_rd fun _ => q_mo_ca (M_X13_say κ l0 v25) fun _v26 => (mr2 l0 l1 (l2 + (1 : Int32)))))))))))
set_option maxRecDepth 100000 in
set_option maxHeartbeats 4000000 in
theorem S_X13_sayName_2B {E : q_Ev} {Γ : q_Gm} {w : (Unit ⊕ q_Exn) × q_St} (B : q_Bd E Γ cX13_sayName yX13_sayName.cls 3 1 21 (none) yX13_sayName.name w) (hT : q_nT Γ) (r2 : Option Nat → Int32 → Int32 → q_X Unit) (hr2 : ∀ (l0 : Option Nat) (l1 : Int32) (l2 : Int32) (σ : q_St), r2 l0 l1 l2 σ = some w → q_W E Γ (q_QF E Γ q_oV w) 3 σ 2 [(0, q_R l0), (1, q_I l1), (2, q_I l2)] []) (mr2 : ∀ (l0 : Option Nat) (l1 : Int32) (l2 : Int32), q_mo (r2 l0 l1 l2)) (l0 : Option Nat) (l1 : Int32) (l2 : Int32) (σ : q_St) (h : F_X13_sayName_2B (q_kap E) r2 l0 l1 l2 σ = some w) : q_W E Γ (q_QF E Γ q_oV w) 3 σ 2 [(0, q_R l0), (1, q_I l1), (2, q_I l2)] [] := by
  have C := B.1
  unfold F_X13_sayName_2B at h
  refine q_iload_n (pc := 2) C 2 rfl dX13_sayName_2 rfl ?_
  refine q_aload_n (pc := 3) C 0 rfl dX13_sayName_3 rfl ?_
  refine q_getA (pc := 4) C dX13_sayName_4 ql_X13_47 h (fun v4 h => ?_)
  refine q_iload_n (pc := 7) C 1 rfl dX13_sayName_7 rfl ?_
  refine q_ldI (pc := 8) C dX13_sayName_8 (Or.inr (Or.inl ⟨rfl, rfl⟩)) h (fun v8 h => ?_)
  refine q_icmp_ge (pc := 9) (tgt := 35) C dX13_sayName_9 (by decide) h (fun _ h => ?_) (fun _ h => ?_)
  · exact q_vret C B.2.2.2.2.1 dX13_sayName_35 h
  · refine q_aload_n (pc := 12) C 0 rfl dX13_sayName_12 rfl ?_
    refine q_aload_n (pc := 13) C 0 rfl dX13_sayName_13 rfl ?_
    refine q_getA (pc := 14) C dX13_sayName_14 ql_X13_41 h (fun v14 h => ?_)
    refine q_aload_n (pc := 17) C 0 rfl dX13_sayName_17 rfl ?_
    refine q_getA (pc := 18) C dX13_sayName_18 ql_X13_44 h (fun v18 h => ?_)
    refine q_iload_n (pc := 21) C 1 rfl dX13_sayName_21 rfl ?_
    refine q_ldI (pc := 22) C dX13_sayName_22 (Or.inr (Or.inl ⟨rfl, rfl⟩)) h (fun v22 h => ?_)
    refine q_iload_n (pc := 23) C 2 rfl dX13_sayName_23 rfl ?_
    refine q_iadd (pc := 24) C dX13_sayName_24 ?_
    refine q_ldI (pc := 25) C dX13_sayName_25 (Or.inl ⟨rfl, rfl⟩) h (fun v25 h => ?_)
    refine q_callV (pc := 26) (As := [q_I v25]) (st := []) (ps := q_psV) C B.2.1 hT q_hpV qm_X13_342 qv_X13_say dX13_sayName_26 rfl rfl (Nat.le_of_ble_eq_true rfl) (q_flo B.2.2.1 B.2.2.2.1 (by decide) (by decide)) (K_X13_say l0 v25) (M_X13_say (q_kap E) l0 v25) (by exact fun _v26 => (mr2 l0 l1 (l2 + (1 : Int32)))) h (fun _v26 σ h => ?_)
    refine q_W.st (st' := []) rfl ?_
    refine q_iinc (pc := 29) (v := (1 : Int32)) (l' := [(2, q_I (l2 + (1 : Int32))), (0, q_R l0), (1, q_I l1)]) C 2 rfl dX13_sayName_29 (by decide) (by decide) rfl ?_
    refine q_goto (pc := 32) (tgt := 2) C dX13_sayName_32 (by decide) ?_
    refine q_W.sub [1, 2, 0] rfl ?_
    exact hr2 l0 l1 (l2 + (1 : Int32)) _ h
def F_X13_sayName_2 (κ : Nat → Nat) : Nat → Option Nat → Int32 → Int32 → q_X Unit
  | 0, _, _, _ => q_no
  | n + 1, l0, l1, l2 => F_X13_sayName_2B κ (F_X13_sayName_2 κ n) l0 l1 l2
theorem M_X13_sayName_2 (κ : Nat → Nat) : ∀ (n : Nat) (l0 : Option Nat) (l1 : Int32) (l2 : Int32), q_mo (F_X13_sayName_2 κ n l0 l1 l2)
  | 0, _, _, _ => q_mo_no
  | n + 1, l0, l1, l2 => M_X13_sayName_2B κ (F_X13_sayName_2 κ n) (M_X13_sayName_2 κ n) l0 l1 l2
theorem S_X13_sayName_2 {E : q_Ev} {Γ : q_Gm} {w : (Unit ⊕ q_Exn) × q_St} (B : q_Bd E Γ cX13_sayName yX13_sayName.cls 3 1 21 (none) yX13_sayName.name w) (hT : q_nT Γ) : ∀ (n : Nat) (l0 : Option Nat) (l1 : Int32) (l2 : Int32) (σ : q_St), F_X13_sayName_2 (q_kap E) n l0 l1 l2 σ = some w → q_W E Γ (q_QF E Γ q_oV w) 3 σ 2 [(0, q_R l0), (1, q_I l1), (2, q_I l2)] []
  | 0, _, _, _, _, h => by cases h
  | n + 1, l0, l1, l2, σ, h => S_X13_sayName_2B B hT (F_X13_sayName_2 (q_kap E) n) (S_X13_sayName_2 B hT n) (M_X13_sayName_2 (q_kap E) n) l0 l1 l2 σ h
def F_X13_sayName (κ : Nat → Nat) (l0 : Option Nat) (l1 : Int32) : q_X Unit :=
  F_X13_sayName_2 κ q_fu l0 l1 (0 : Int32)
theorem M_X13_sayName (κ : Nat → Nat) (l0 : Option Nat) (l1 : Int32) : q_mo (F_X13_sayName κ l0 l1) := (M_X13_sayName_2 κ q_fu l0 l1 (0 : Int32))
set_option maxRecDepth 100000 in
set_option maxHeartbeats 4000000 in
theorem K_X13_sayName {E : q_Ev} (l0 : Option Nat) (l1 : Int32) : q_Ct E yX13_sayName (.code yX13_sayName cX13_sayName 3 (none)) 1 21 [q_R l0, q_I l1] q_oV (F_X13_sayName (q_kap E) l0 l1) := by
  refine q_enter (by decide) (Nat.le_of_ble_eq_true rfl) (fun Γ σ w h B hT => ?_)
  have C := B.1
  unfold F_X13_sayName at h
  refine q_iconst (pc := 0) (v := (0 : Int32)) C dX13_sayName_0 (by decide) ?_
  refine q_istore_n (pc := 1) (l' := [(2, q_I (0 : Int32)), (0, q_R l0), (1, q_I l1)]) C dX13_sayName_1 rfl (by decide) rfl ?_
  refine q_W.sub [1, 2, 0] rfl ?_
  exact S_X13_sayName_2 B hT q_fu l0 l1 (0 : Int32) _ h
def F_X13_sayNumber_34 (κ : Nat → Nat) (r14 : Option Nat → Int64 → Int64 → q_X Unit) (l0 : Option Nat) (l1 : Int64) (l3 : Int64) : q_X Unit :=
  r14 l0 l1 (l3 * (10 : Int64))
theorem M_X13_sayNumber_34 (κ : Nat → Nat) (r14 : Option Nat → Int64 → Int64 → q_X Unit) (mr14 : ∀ (l0 : Option Nat) (l1 : Int64) (l3 : Int64), q_mo (r14 l0 l1 l3)) (l0 : Option Nat) (l1 : Int64) (l3 : Int64) : q_mo (F_X13_sayNumber_34 κ r14 l0 l1 l3) := (mr14 l0 l1 (l3 * (10 : Int64)))
set_option maxRecDepth 100000 in
set_option maxHeartbeats 4000000 in
theorem S_X13_sayNumber_34 {E : q_Ev} {Γ : q_Gm} {w : (Unit ⊕ q_Exn) × q_St} (B : q_Bd E Γ cX13_sayNumber yX13_sayNumber.cls 6 1 21 (none) yX13_sayNumber.name w) (hT : q_nT Γ) (r14 : Option Nat → Int64 → Int64 → q_X Unit) (hr14 : ∀ (l0 : Option Nat) (l1 : Int64) (l3 : Int64) (σ : q_St), r14 l0 l1 l3 σ = some w → q_W E Γ (q_QF E Γ q_oV w) 6 σ 14 [(0, q_R l0), (1, q_L l1), (3, q_L l3)] []) (mr14 : ∀ (l0 : Option Nat) (l1 : Int64) (l3 : Int64), q_mo (r14 l0 l1 l3)) (l0 : Option Nat) (l1 : Int64) (l3 : Int64) (σ : q_St) (h : F_X13_sayNumber_34 (q_kap E) r14 l0 l1 l3 σ = some w) : q_W E Γ (q_QF E Γ q_oV w) 6 σ 34 [(0, q_R l0), (1, q_L l1), (3, q_L l3)] [] := by
  have C := B.1
  unfold F_X13_sayNumber_34 at h
  refine q_lload_n (pc := 34) C 2 rfl dX13_sayNumber_34 rfl ?_
  refine q_ldc2 (pc := 35) (v := (10 : Int64)) C dX13_sayNumber_35 qc_X13_176 ?_
  refine q_lmul (pc := 38) C dX13_sayNumber_38 ?_
  refine q_lstore_n (pc := 39) (l' := [(3, q_L (l3 * (10 : Int64))), (0, q_R l0), (1, q_L l1)]) C dX13_sayNumber_39 rfl (by decide) rfl ?_
  refine q_goto (pc := 40) (tgt := 14) C dX13_sayNumber_40 (by decide) ?_
  refine q_W.sub [1, 2, 0] rfl ?_
  exact hr14 l0 l1 (l3 * (10 : Int64)) _ h
def F_X13_sayNumber_75 (κ : Nat → Nat) (r43 : Option Nat → Int64 → Int64 → q_X Unit) (l0 : Option Nat) (l1 : Int64) (l3 : Int64) (s0 : Option Nat) (s1 : Int32) (s2 : Int32) : q_X Unit :=
  q_rd (q_is s0 16) fun _ => q_ca (F_X13_say κ s0 (s1 + s2)) fun _v76 => q_gd (¬ (10 : Int64) = 0) (r43 l0 l1 (l3 / (10 : Int64)))
theorem M_X13_sayNumber_75 (κ : Nat → Nat) (r43 : Option Nat → Int64 → Int64 → q_X Unit) (mr43 : ∀ (l0 : Option Nat) (l1 : Int64) (l3 : Int64), q_mo (r43 l0 l1 l3)) (l0 : Option Nat) (l1 : Int64) (l3 : Int64) (s0 : Option Nat) (s1 : Int32) (s2 : Int32) : q_mo (F_X13_sayNumber_75 κ r43 l0 l1 l3 s0 s1 s2) := (q_mo_rd fun _ => q_mo_ca (M_X13_say κ s0 (s1 + s2)) fun _v76 => (q_mo_gd (mr43 l0 l1 (l3 / (10 : Int64)))))
set_option maxRecDepth 100000 in
set_option maxHeartbeats 4000000 in
theorem S_X13_sayNumber_75 {E : q_Ev} {Γ : q_Gm} {w : (Unit ⊕ q_Exn) × q_St} (B : q_Bd E Γ cX13_sayNumber yX13_sayNumber.cls 6 1 21 (none) yX13_sayNumber.name w) (hT : q_nT Γ) (r43 : Option Nat → Int64 → Int64 → q_X Unit) (hr43 : ∀ (l0 : Option Nat) (l1 : Int64) (l3 : Int64) (σ : q_St), r43 l0 l1 l3 σ = some w → q_W E Γ (q_QF E Γ q_oV w) 6 σ 43 [(0, q_R l0), (1, q_L l1), (3, q_L l3)] []) (mr43 : ∀ (l0 : Option Nat) (l1 : Int64) (l3 : Int64), q_mo (r43 l0 l1 l3)) (l0 : Option Nat) (l1 : Int64) (l3 : Int64) (s0 : Option Nat) (s1 : Int32) (s2 : Int32) (σ : q_St) (h : F_X13_sayNumber_75 (q_kap E) r43 l0 l1 l3 s0 s1 s2 σ = some w) : q_W E Γ (q_QF E Γ q_oV w) 6 σ 75 [(0, q_R l0), (1, q_L l1), (3, q_L l3)] [q_I s2, q_I s1, q_R s0] := by
  have C := B.1
  unfold F_X13_sayNumber_75 at h
  refine q_iadd (pc := 75) C dX13_sayNumber_75 ?_
  refine q_callV (pc := 76) (As := [q_I (s1 + s2)]) (st := []) (ps := q_psV) C B.2.1 hT q_hpV qm_X13_342 qv_X13_say dX13_sayNumber_76 rfl rfl (Nat.le_of_ble_eq_true rfl) (q_flo B.2.2.1 B.2.2.2.1 (by decide) (by decide)) (K_X13_say s0 (s1 + s2)) (M_X13_say (q_kap E) s0 (s1 + s2)) (by exact fun _v76 => (q_mo_gd (mr43 l0 l1 (l3 / (10 : Int64))))) h (fun _v76 σ h => ?_)
  refine q_W.st (st' := []) rfl ?_
  refine q_lload_n (pc := 79) C 2 rfl dX13_sayNumber_79 rfl ?_
  refine q_ldc2 (pc := 80) (v := (10 : Int64)) C dX13_sayNumber_80 qc_X13_176 ?_
  obtain ⟨g83, h⟩ := q_gd_e h
  refine q_ldiv (pc := 83) C dX13_sayNumber_83 g83 ?_
  refine q_lstore_n (pc := 84) (l' := [(3, q_L (l3 / (10 : Int64))), (0, q_R l0), (1, q_L l1)]) C dX13_sayNumber_84 rfl (by decide) rfl ?_
  refine q_goto (pc := 85) (tgt := 43) C dX13_sayNumber_85 (by decide) ?_
  refine q_W.sub [1, 2, 0] rfl ?_
  exact hr43 l0 l1 (l3 / (10 : Int64)) _ h
def F_X13_sayNumber_43B (κ : Nat → Nat) (r43 : Option Nat → Int64 → Int64 → q_X Unit) (l0 : Option Nat) (l1 : Int64) (l3 : Int64) : q_X Unit :=
  q_br ((lg_cmp l3 (0 : Int64)) ≤ 0) (q_rt ()) (q_gd (¬ l3 = 0) (q_gd (¬ (10 : Int64) = 0) (q_br (0 ≤ (((l1 / l3) - (l1 / l3) / (10 : Int64) * (10 : Int64)).toInt32)) (F_X13_sayNumber_75 κ r43 l0 l1 l3 l0 (48 : Int32) (((l1 / l3) - (l1 / l3) / (10 : Int64) * (10 : Int64)).toInt32)) (F_X13_sayNumber_75 κ r43 l0 l1 l3 l0 (48 : Int32) (-(((l1 / l3) - (l1 / l3) / (10 : Int64) * (10 : Int64)).toInt32))))))
theorem M_X13_sayNumber_43B (κ : Nat → Nat) (r43 : Option Nat → Int64 → Int64 → q_X Unit) (mr43 : ∀ (l0 : Option Nat) (l1 : Int64) (l3 : Int64), q_mo (r43 l0 l1 l3)) (l0 : Option Nat) (l1 : Int64) (l3 : Int64) : q_mo (F_X13_sayNumber_43B κ r43 l0 l1 l3) := (q_mo_br q_mo_rt (q_mo_gd (q_mo_gd (q_mo_br (M_X13_sayNumber_75 κ r43 mr43 l0 l1 l3 l0 (48 : Int32) (((l1 / l3) - (l1 / l3) / (10 : Int64) * (10 : Int64)).toInt32)) (M_X13_sayNumber_75 κ r43 mr43 l0 l1 l3 l0 (48 : Int32) (-(((l1 / l3) - (l1 / l3) / (10 : Int64) * (10 : Int64)).toInt32)))))))
set_option maxRecDepth 100000 in
set_option maxHeartbeats 4000000 in
theorem S_X13_sayNumber_43B {E : q_Ev} {Γ : q_Gm} {w : (Unit ⊕ q_Exn) × q_St} (B : q_Bd E Γ cX13_sayNumber yX13_sayNumber.cls 6 1 21 (none) yX13_sayNumber.name w) (hT : q_nT Γ) (r43 : Option Nat → Int64 → Int64 → q_X Unit) (hr43 : ∀ (l0 : Option Nat) (l1 : Int64) (l3 : Int64) (σ : q_St), r43 l0 l1 l3 σ = some w → q_W E Γ (q_QF E Γ q_oV w) 6 σ 43 [(0, q_R l0), (1, q_L l1), (3, q_L l3)] []) (mr43 : ∀ (l0 : Option Nat) (l1 : Int64) (l3 : Int64), q_mo (r43 l0 l1 l3)) (l0 : Option Nat) (l1 : Int64) (l3 : Int64) (σ : q_St) (h : F_X13_sayNumber_43B (q_kap E) r43 l0 l1 l3 σ = some w) : q_W E Γ (q_QF E Γ q_oV w) 6 σ 43 [(0, q_R l0), (1, q_L l1), (3, q_L l3)] [] := by
  have C := B.1
  unfold F_X13_sayNumber_43B at h
  refine q_lload_n (pc := 43) C 2 rfl dX13_sayNumber_43 rfl ?_
  refine q_lconst (pc := 44) (v := (0 : Int64)) C dX13_sayNumber_44 (by decide) ?_
  refine q_lcmp (pc := 45) C dX13_sayNumber_45 ?_
  refine q_if_le (pc := 46) (tgt := 88) C dX13_sayNumber_46 (by decide) h (fun _ h => ?_) (fun _ h => ?_)
  · exact q_vret C B.2.2.2.2.1 dX13_sayNumber_88 h
  · refine q_lload_n (pc := 49) C 1 rfl dX13_sayNumber_49 rfl ?_
    refine q_lload_n (pc := 50) C 2 rfl dX13_sayNumber_50 rfl ?_
    obtain ⟨g51, h⟩ := q_gd_e h
    refine q_ldiv (pc := 51) C dX13_sayNumber_51 g51 ?_
    refine q_ldc2 (pc := 52) (v := (10 : Int64)) C dX13_sayNumber_52 qc_X13_176 ?_
    obtain ⟨g55, h⟩ := q_gd_e h
    refine q_lrem (pc := 55) C dX13_sayNumber_55 g55 ?_
    refine q_l2i (pc := 56) C dX13_sayNumber_56 ?_
    refine q_istore (pc := 57) (l' := [(5, q_I (((l1 / l3) - (l1 / l3) / (10 : Int64) * (10 : Int64)).toInt32)), (0, q_R l0), (1, q_L l1), (3, q_L l3)]) C dX13_sayNumber_57 (by decide) rfl ?_
    refine q_aload_n (pc := 59) C 1 rfl dX13_sayNumber_59 rfl ?_
    refine q_bipush (pc := 60) (v := (48 : Int32)) C dX13_sayNumber_60 (by decide) ?_
    refine q_iload (pc := 62) C 0 rfl dX13_sayNumber_62 ?_
    refine q_if_ge (pc := 64) (tgt := 73) C dX13_sayNumber_64 (by decide) h (fun _ h => ?_) (fun _ h => ?_)
    · refine q_iload (pc := 73) C 0 rfl dX13_sayNumber_73 ?_
      refine q_W.sub [1, 2, 3] rfl ?_
      exact S_X13_sayNumber_75 B hT r43 hr43 mr43 l0 l1 l3 l0 (48 : Int32) (((l1 / l3) - (l1 / l3) / (10 : Int64) * (10 : Int64)).toInt32) _ h
    · refine q_iload (pc := 67) C 0 rfl dX13_sayNumber_67 ?_
      refine q_ineg (pc := 69) C dX13_sayNumber_69 ?_
      refine q_goto (pc := 70) (tgt := 75) C dX13_sayNumber_70 (by decide) ?_
      refine q_W.sub [1, 2, 3] rfl ?_
      exact S_X13_sayNumber_75 B hT r43 hr43 mr43 l0 l1 l3 l0 (48 : Int32) (-(((l1 / l3) - (l1 / l3) / (10 : Int64) * (10 : Int64)).toInt32)) _ h
def F_X13_sayNumber_43 (κ : Nat → Nat) : Nat → Option Nat → Int64 → Int64 → q_X Unit
  | 0, _, _, _ => q_no
  | n + 1, l0, l1, l3 => F_X13_sayNumber_43B κ (F_X13_sayNumber_43 κ n) l0 l1 l3
theorem M_X13_sayNumber_43 (κ : Nat → Nat) : ∀ (n : Nat) (l0 : Option Nat) (l1 : Int64) (l3 : Int64), q_mo (F_X13_sayNumber_43 κ n l0 l1 l3)
  | 0, _, _, _ => q_mo_no
  | n + 1, l0, l1, l3 => M_X13_sayNumber_43B κ (F_X13_sayNumber_43 κ n) (M_X13_sayNumber_43 κ n) l0 l1 l3
theorem S_X13_sayNumber_43 {E : q_Ev} {Γ : q_Gm} {w : (Unit ⊕ q_Exn) × q_St} (B : q_Bd E Γ cX13_sayNumber yX13_sayNumber.cls 6 1 21 (none) yX13_sayNumber.name w) (hT : q_nT Γ) : ∀ (n : Nat) (l0 : Option Nat) (l1 : Int64) (l3 : Int64) (σ : q_St), F_X13_sayNumber_43 (q_kap E) n l0 l1 l3 σ = some w → q_W E Γ (q_QF E Γ q_oV w) 6 σ 43 [(0, q_R l0), (1, q_L l1), (3, q_L l3)] []
  | 0, _, _, _, _, h => by cases h
  | n + 1, l0, l1, l3, σ, h => S_X13_sayNumber_43B B hT (F_X13_sayNumber_43 (q_kap E) n) (S_X13_sayNumber_43 B hT n) (M_X13_sayNumber_43 (q_kap E) n) l0 l1 l3 σ h
def F_X13_sayNumber_14B (κ : Nat → Nat) (r14 : Option Nat → Int64 → Int64 → q_X Unit) (l0 : Option Nat) (l1 : Int64) (l3 : Int64) : q_X Unit :=
  q_gd (¬ l3 = 0) (q_br (0 < (lg_cmp (l1 / l3) (9 : Int64))) (F_X13_sayNumber_34 κ r14 l0 l1 l3) (q_gd (¬ l3 = 0) (q_br (0 ≤ (lg_cmp (l1 / l3) (-9 : Int64))) (F_X13_sayNumber_43 κ q_fu l0 l1 l3) (F_X13_sayNumber_34 κ r14 l0 l1 l3))))
theorem M_X13_sayNumber_14B (κ : Nat → Nat) (r14 : Option Nat → Int64 → Int64 → q_X Unit) (mr14 : ∀ (l0 : Option Nat) (l1 : Int64) (l3 : Int64), q_mo (r14 l0 l1 l3)) (l0 : Option Nat) (l1 : Int64) (l3 : Int64) : q_mo (F_X13_sayNumber_14B κ r14 l0 l1 l3) := (q_mo_gd (q_mo_br (M_X13_sayNumber_34 κ r14 mr14 l0 l1 l3) (q_mo_gd (q_mo_br (M_X13_sayNumber_43 κ q_fu l0 l1 l3) (M_X13_sayNumber_34 κ r14 mr14 l0 l1 l3)))))
set_option maxRecDepth 100000 in
set_option maxHeartbeats 4000000 in
theorem S_X13_sayNumber_14B {E : q_Ev} {Γ : q_Gm} {w : (Unit ⊕ q_Exn) × q_St} (B : q_Bd E Γ cX13_sayNumber yX13_sayNumber.cls 6 1 21 (none) yX13_sayNumber.name w) (hT : q_nT Γ) (r14 : Option Nat → Int64 → Int64 → q_X Unit) (hr14 : ∀ (l0 : Option Nat) (l1 : Int64) (l3 : Int64) (σ : q_St), r14 l0 l1 l3 σ = some w → q_W E Γ (q_QF E Γ q_oV w) 6 σ 14 [(0, q_R l0), (1, q_L l1), (3, q_L l3)] []) (mr14 : ∀ (l0 : Option Nat) (l1 : Int64) (l3 : Int64), q_mo (r14 l0 l1 l3)) (l0 : Option Nat) (l1 : Int64) (l3 : Int64) (σ : q_St) (h : F_X13_sayNumber_14B (q_kap E) r14 l0 l1 l3 σ = some w) : q_W E Γ (q_QF E Γ q_oV w) 6 σ 14 [(0, q_R l0), (1, q_L l1), (3, q_L l3)] [] := by
  have C := B.1
  unfold F_X13_sayNumber_14B at h
  refine q_lload_n (pc := 14) C 1 rfl dX13_sayNumber_14 rfl ?_
  refine q_lload_n (pc := 15) C 2 rfl dX13_sayNumber_15 rfl ?_
  obtain ⟨g16, h⟩ := q_gd_e h
  refine q_ldiv (pc := 16) C dX13_sayNumber_16 g16 ?_
  refine q_ldc2 (pc := 17) (v := (9 : Int64)) C dX13_sayNumber_17 qc_X13_345 ?_
  refine q_lcmp (pc := 20) C dX13_sayNumber_20 ?_
  refine q_if_gt (pc := 21) (tgt := 34) C dX13_sayNumber_21 (by decide) h (fun _ h => ?_) (fun _ h => ?_)
  · exact S_X13_sayNumber_34 B hT r14 hr14 mr14 l0 l1 l3 _ h
  · refine q_lload_n (pc := 24) C 1 rfl dX13_sayNumber_24 rfl ?_
    refine q_lload_n (pc := 25) C 2 rfl dX13_sayNumber_25 rfl ?_
    obtain ⟨g26, h⟩ := q_gd_e h
    refine q_ldiv (pc := 26) C dX13_sayNumber_26 g26 ?_
    refine q_ldc2 (pc := 27) (v := (-9 : Int64)) C dX13_sayNumber_27 qc_X13_347 ?_
    refine q_lcmp (pc := 30) C dX13_sayNumber_30 ?_
    refine q_if_ge (pc := 31) (tgt := 43) C dX13_sayNumber_31 (by decide) h (fun _ h => ?_) (fun _ h => ?_)
    · exact S_X13_sayNumber_43 B hT q_fu l0 l1 l3 _ h
    · exact S_X13_sayNumber_34 B hT r14 hr14 mr14 l0 l1 l3 _ h
def F_X13_sayNumber_14 (κ : Nat → Nat) : Nat → Option Nat → Int64 → Int64 → q_X Unit
  | 0, _, _, _ => q_no
  | n + 1, l0, l1, l3 => F_X13_sayNumber_14B κ (F_X13_sayNumber_14 κ n) l0 l1 l3
theorem M_X13_sayNumber_14 (κ : Nat → Nat) : ∀ (n : Nat) (l0 : Option Nat) (l1 : Int64) (l3 : Int64), q_mo (F_X13_sayNumber_14 κ n l0 l1 l3)
  | 0, _, _, _ => q_mo_no
  | n + 1, l0, l1, l3 => M_X13_sayNumber_14B κ (F_X13_sayNumber_14 κ n) (M_X13_sayNumber_14 κ n) l0 l1 l3
theorem S_X13_sayNumber_14 {E : q_Ev} {Γ : q_Gm} {w : (Unit ⊕ q_Exn) × q_St} (B : q_Bd E Γ cX13_sayNumber yX13_sayNumber.cls 6 1 21 (none) yX13_sayNumber.name w) (hT : q_nT Γ) : ∀ (n : Nat) (l0 : Option Nat) (l1 : Int64) (l3 : Int64) (σ : q_St), F_X13_sayNumber_14 (q_kap E) n l0 l1 l3 σ = some w → q_W E Γ (q_QF E Γ q_oV w) 6 σ 14 [(0, q_R l0), (1, q_L l1), (3, q_L l3)] []
  | 0, _, _, _, _, h => by cases h
  | n + 1, l0, l1, l3, σ, h => S_X13_sayNumber_14B B hT (F_X13_sayNumber_14 (q_kap E) n) (S_X13_sayNumber_14 B hT n) (M_X13_sayNumber_14 (q_kap E) n) l0 l1 l3 σ h
def F_X13_sayNumber_12 (κ : Nat → Nat) (l0 : Option Nat) (l1 : Int64) : q_X Unit :=
  F_X13_sayNumber_14 κ q_fu l0 l1 (1 : Int64)
theorem M_X13_sayNumber_12 (κ : Nat → Nat) (l0 : Option Nat) (l1 : Int64) : q_mo (F_X13_sayNumber_12 κ l0 l1) := (M_X13_sayNumber_14 κ q_fu l0 l1 (1 : Int64))
set_option maxRecDepth 100000 in
set_option maxHeartbeats 4000000 in
theorem S_X13_sayNumber_12 {E : q_Ev} {Γ : q_Gm} {w : (Unit ⊕ q_Exn) × q_St} (B : q_Bd E Γ cX13_sayNumber yX13_sayNumber.cls 6 1 21 (none) yX13_sayNumber.name w) (hT : q_nT Γ) (l0 : Option Nat) (l1 : Int64) (σ : q_St) (h : F_X13_sayNumber_12 (q_kap E) l0 l1 σ = some w) : q_W E Γ (q_QF E Γ q_oV w) 6 σ 12 [(0, q_R l0), (1, q_L l1)] [] := by
  have C := B.1
  unfold F_X13_sayNumber_12 at h
  refine q_lconst (pc := 12) (v := (1 : Int64)) C dX13_sayNumber_12 (by decide) ?_
  refine q_lstore_n (pc := 13) (l' := [(3, q_L (1 : Int64)), (0, q_R l0), (1, q_L l1)]) C dX13_sayNumber_13 rfl (by decide) rfl ?_
  refine q_W.sub [1, 2, 0] rfl ?_
  exact S_X13_sayNumber_14 B hT q_fu l0 l1 (1 : Int64) _ h
def F_X13_sayNumber (κ : Nat → Nat) (l0 : Option Nat) (l1 : Int64) : q_X Unit :=
  q_br (0 ≤ (lg_cmp l1 (0 : Int64))) (F_X13_sayNumber_12 κ l0 l1) (q_rd (q_is l0 16) fun _ => q_ca (F_X13_say κ l0 (45 : Int32)) fun _v9 => F_X13_sayNumber_12 κ l0 l1)
theorem M_X13_sayNumber (κ : Nat → Nat) (l0 : Option Nat) (l1 : Int64) : q_mo (F_X13_sayNumber κ l0 l1) := (q_mo_br (M_X13_sayNumber_12 κ l0 l1) (q_mo_rd fun _ => q_mo_ca (M_X13_say κ l0 (45 : Int32)) fun _v9 => (M_X13_sayNumber_12 κ l0 l1)))
set_option maxRecDepth 100000 in
set_option maxHeartbeats 4000000 in
theorem K_X13_sayNumber {E : q_Ev} (l0 : Option Nat) (l1 : Int64) : q_Ct E yX13_sayNumber (.code yX13_sayNumber cX13_sayNumber 6 (none)) 1 21 [q_R l0, q_L l1] q_oV (F_X13_sayNumber (q_kap E) l0 l1) := by
  refine q_enter (by decide) (Nat.le_of_ble_eq_true rfl) (fun Γ σ w h B hT => ?_)
  have C := B.1
  unfold F_X13_sayNumber at h
  refine q_lload_n (pc := 0) C 1 rfl dX13_sayNumber_0 rfl ?_
  refine q_lconst (pc := 1) (v := (0 : Int64)) C dX13_sayNumber_1 (by decide) ?_
  refine q_lcmp (pc := 2) C dX13_sayNumber_2 ?_
  refine q_if_ge (pc := 3) (tgt := 12) C dX13_sayNumber_3 (by decide) h (fun _ h => ?_) (fun _ h => ?_)
  · exact S_X13_sayNumber_12 B hT l0 l1 _ h
  · refine q_aload_n (pc := 6) C 0 rfl dX13_sayNumber_6 rfl ?_
    refine q_bipush (pc := 7) (v := (45 : Int32)) C dX13_sayNumber_7 (by decide) ?_
    refine q_callV (pc := 9) (As := [q_I (45 : Int32)]) (st := []) (ps := q_psV) C B.2.1 hT q_hpV qm_X13_342 qv_X13_say dX13_sayNumber_9 rfl rfl (Nat.le_of_ble_eq_true rfl) (q_flo B.2.2.1 B.2.2.2.1 (by decide) (by decide)) (K_X13_say l0 (45 : Int32)) (M_X13_say (q_kap E) l0 (45 : Int32)) (by exact fun _v9 => (M_X13_sayNumber_12 (q_kap E) l0 l1)) h (fun _v9 σ h => ?_)
    refine q_W.st (st' := []) rfl ?_
    exact S_X13_sayNumber_12 B hT l0 l1 _ h
def F_X13_field_98 (κ : Nat → Nat) (r6 : Option Nat → Int32 → Int32 → Int32 → Int64 → Int32 → q_X Int64) (r20 : Option Nat → Int32 → Int32 → Int32 → Int64 → Int32 → Int32 → q_X Int64) (l0 : Option Nat) (l1 : Int32) (l2 : Int32) (l3 : Int32) (l4 : Int64) (l6 : Int32) (l7 : Int32) : q_X Int64 :=
  r20 l0 l1 l2 l3 l4 l6 (l7 + (1 : Int32))
theorem M_X13_field_98 (κ : Nat → Nat) (r6 : Option Nat → Int32 → Int32 → Int32 → Int64 → Int32 → q_X Int64) (mr6 : ∀ (l0 : Option Nat) (l1 : Int32) (l2 : Int32) (l3 : Int32) (l4 : Int64) (l6 : Int32), q_mo (r6 l0 l1 l2 l3 l4 l6)) (r20 : Option Nat → Int32 → Int32 → Int32 → Int64 → Int32 → Int32 → q_X Int64) (mr20 : ∀ (l0 : Option Nat) (l1 : Int32) (l2 : Int32) (l3 : Int32) (l4 : Int64) (l6 : Int32) (l7 : Int32), q_mo (r20 l0 l1 l2 l3 l4 l6 l7)) (l0 : Option Nat) (l1 : Int32) (l2 : Int32) (l3 : Int32) (l4 : Int64) (l6 : Int32) (l7 : Int32) : q_mo (F_X13_field_98 κ r6 r20 l0 l1 l2 l3 l4 l6 l7) := (mr20 l0 l1 l2 l3 l4 l6 (l7 + (1 : Int32)))
set_option maxRecDepth 100000 in
set_option maxHeartbeats 4000000 in
theorem S_X13_field_98 {E : q_Ev} {Γ : q_Gm} {w : (Int64 ⊕ q_Exn) × q_St} (B : q_Bd E Γ cX13_field yX13_field.cls 9 0 0 (some .long) yX13_field.name w) (hT : q_nT Γ) (r6 : Option Nat → Int32 → Int32 → Int32 → Int64 → Int32 → q_X Int64) (hr6 : ∀ (l0 : Option Nat) (l1 : Int32) (l2 : Int32) (l3 : Int32) (l4 : Int64) (l6 : Int32) (σ : q_St), r6 l0 l1 l2 l3 l4 l6 σ = some w → q_W E Γ (q_QF E Γ q_oL w) 9 σ 6 [(0, q_R l0), (1, q_I l1), (2, q_I l2), (3, q_I l3), (4, q_L l4), (6, q_I l6)] []) (mr6 : ∀ (l0 : Option Nat) (l1 : Int32) (l2 : Int32) (l3 : Int32) (l4 : Int64) (l6 : Int32), q_mo (r6 l0 l1 l2 l3 l4 l6)) (r20 : Option Nat → Int32 → Int32 → Int32 → Int64 → Int32 → Int32 → q_X Int64) (hr20 : ∀ (l0 : Option Nat) (l1 : Int32) (l2 : Int32) (l3 : Int32) (l4 : Int64) (l6 : Int32) (l7 : Int32) (σ : q_St), r20 l0 l1 l2 l3 l4 l6 l7 σ = some w → q_W E Γ (q_QF E Γ q_oL w) 9 σ 20 [(0, q_R l0), (1, q_I l1), (2, q_I l2), (3, q_I l3), (4, q_L l4), (6, q_I l6), (7, q_I l7)] []) (mr20 : ∀ (l0 : Option Nat) (l1 : Int32) (l2 : Int32) (l3 : Int32) (l4 : Int64) (l6 : Int32) (l7 : Int32), q_mo (r20 l0 l1 l2 l3 l4 l6 l7)) (l0 : Option Nat) (l1 : Int32) (l2 : Int32) (l3 : Int32) (l4 : Int64) (l6 : Int32) (l7 : Int32) (σ : q_St) (h : F_X13_field_98 (q_kap E) r6 r20 l0 l1 l2 l3 l4 l6 l7 σ = some w) : q_W E Γ (q_QF E Γ q_oL w) 9 σ 98 [(0, q_R l0), (1, q_I l1), (2, q_I l2), (3, q_I l3), (4, q_L l4), (6, q_I l6), (7, q_I l7)] [] := by
  have C := B.1
  unfold F_X13_field_98 at h
  refine q_iinc (pc := 98) (v := (1 : Int32)) (l' := [(7, q_I (l7 + (1 : Int32))), (0, q_R l0), (1, q_I l1), (2, q_I l2), (3, q_I l3), (4, q_L l4), (6, q_I l6)]) C 6 rfl dX13_field_98 (by decide) (by decide) rfl ?_
  refine q_goto (pc := 101) (tgt := 20) C dX13_field_101 (by decide) ?_
  refine q_W.sub [1, 2, 3, 4, 5, 6, 0] rfl ?_
  exact hr20 l0 l1 l2 l3 l4 l6 (l7 + (1 : Int32)) _ h
def F_X13_field_20B (κ : Nat → Nat) (r6 : Option Nat → Int32 → Int32 → Int32 → Int64 → Int32 → q_X Int64) (r20 : Option Nat → Int32 → Int32 → Int32 → Int64 → Int32 → Int32 → q_X Int64) (l0 : Option Nat) (l1 : Int32) (l2 : Int32) (l3 : Int32) (l4 : Int64) (l6 : Int32) (l7 : Int32) : q_X Int64 :=
  q_rd (q_gI l0 16 21) fun v23 => q_br (v23 ≤ l7) (r6 l0 l1 l2 l3 l4 (l6 + (1 : Int32))) (q_rd (q_gA l0 16 38) fun v30 => q_rd (q_gI l0 16 21) fun v41 => q_rd (q_lI 1 v30 ((((160 : Int32) * l2) + (l6 * v41)) + l7)) fun v49 => q_br (v49 < 0) (F_X13_field_98 κ r6 r20 l0 l1 l2 l3 l4 l6 l7) (q_gd (¬ (32 : Int32) = 0) (q_br (¬ (v49 / (32 : Int32)) = l3) (F_X13_field_98 κ r6 r20 l0 l1 l2 l3 l4 l6 l7) (q_rd (q_gA l0 16 40) fun v69 => q_rd (q_lL v69 (l1 + l6)) fun v76 => q_rd (q_gI l0 16 21) fun v78 => q_gd (¬ (32 : Int32) = 0) (F_X13_field_98 κ r6 r20 l0 l1 l2 l3 (l4 ||| (((v76 >>> (((v78 - (1 : Int32)) - l7).toInt64 &&& 63)) &&& (1 : Int64)) <<< ((v49 - v49 / (32 : Int32) * (32 : Int32)).toInt64 &&& 63))) l6 l7)))))
theorem M_X13_field_20B (κ : Nat → Nat) (r6 : Option Nat → Int32 → Int32 → Int32 → Int64 → Int32 → q_X Int64) (mr6 : ∀ (l0 : Option Nat) (l1 : Int32) (l2 : Int32) (l3 : Int32) (l4 : Int64) (l6 : Int32), q_mo (r6 l0 l1 l2 l3 l4 l6)) (r20 : Option Nat → Int32 → Int32 → Int32 → Int64 → Int32 → Int32 → q_X Int64) (mr20 : ∀ (l0 : Option Nat) (l1 : Int32) (l2 : Int32) (l3 : Int32) (l4 : Int64) (l6 : Int32) (l7 : Int32), q_mo (r20 l0 l1 l2 l3 l4 l6 l7)) (l0 : Option Nat) (l1 : Int32) (l2 : Int32) (l3 : Int32) (l4 : Int64) (l6 : Int32) (l7 : Int32) : q_mo (F_X13_field_20B κ r6 r20 l0 l1 l2 l3 l4 l6 l7) := (q_mo_rd fun v23 => (q_mo_br (mr6 l0 l1 l2 l3 l4 (l6 + (1 : Int32))) (q_mo_rd fun v30 => (q_mo_rd fun v41 => (q_mo_rd fun v49 => (q_mo_br (M_X13_field_98 κ r6 mr6 r20 mr20 l0 l1 l2 l3 l4 l6 l7) (q_mo_gd (q_mo_br (M_X13_field_98 κ r6 mr6 r20 mr20 l0 l1 l2 l3 l4 l6 l7) (q_mo_rd fun v69 => (q_mo_rd fun v76 => (q_mo_rd fun v78 => (q_mo_gd (M_X13_field_98 κ r6 mr6 r20 mr20 l0 l1 l2 l3 (l4 ||| (((v76 >>> (((v78 - (1 : Int32)) - l7).toInt64 &&& 63)) &&& (1 : Int64)) <<< ((v49 - v49 / (32 : Int32) * (32 : Int32)).toInt64 &&& 63))) l6 l7)))))))))))))
set_option maxRecDepth 100000 in
set_option maxHeartbeats 4000000 in
theorem S_X13_field_20B {E : q_Ev} {Γ : q_Gm} {w : (Int64 ⊕ q_Exn) × q_St} (B : q_Bd E Γ cX13_field yX13_field.cls 9 0 0 (some .long) yX13_field.name w) (hT : q_nT Γ) (r6 : Option Nat → Int32 → Int32 → Int32 → Int64 → Int32 → q_X Int64) (hr6 : ∀ (l0 : Option Nat) (l1 : Int32) (l2 : Int32) (l3 : Int32) (l4 : Int64) (l6 : Int32) (σ : q_St), r6 l0 l1 l2 l3 l4 l6 σ = some w → q_W E Γ (q_QF E Γ q_oL w) 9 σ 6 [(0, q_R l0), (1, q_I l1), (2, q_I l2), (3, q_I l3), (4, q_L l4), (6, q_I l6)] []) (mr6 : ∀ (l0 : Option Nat) (l1 : Int32) (l2 : Int32) (l3 : Int32) (l4 : Int64) (l6 : Int32), q_mo (r6 l0 l1 l2 l3 l4 l6)) (r20 : Option Nat → Int32 → Int32 → Int32 → Int64 → Int32 → Int32 → q_X Int64) (hr20 : ∀ (l0 : Option Nat) (l1 : Int32) (l2 : Int32) (l3 : Int32) (l4 : Int64) (l6 : Int32) (l7 : Int32) (σ : q_St), r20 l0 l1 l2 l3 l4 l6 l7 σ = some w → q_W E Γ (q_QF E Γ q_oL w) 9 σ 20 [(0, q_R l0), (1, q_I l1), (2, q_I l2), (3, q_I l3), (4, q_L l4), (6, q_I l6), (7, q_I l7)] []) (mr20 : ∀ (l0 : Option Nat) (l1 : Int32) (l2 : Int32) (l3 : Int32) (l4 : Int64) (l6 : Int32) (l7 : Int32), q_mo (r20 l0 l1 l2 l3 l4 l6 l7)) (l0 : Option Nat) (l1 : Int32) (l2 : Int32) (l3 : Int32) (l4 : Int64) (l6 : Int32) (l7 : Int32) (σ : q_St) (h : F_X13_field_20B (q_kap E) r6 r20 l0 l1 l2 l3 l4 l6 l7 σ = some w) : q_W E Γ (q_QF E Γ q_oL w) 9 σ 20 [(0, q_R l0), (1, q_I l1), (2, q_I l2), (3, q_I l3), (4, q_L l4), (6, q_I l6), (7, q_I l7)] [] := by
  have C := B.1
  unfold F_X13_field_20B at h
  refine q_iload (pc := 20) C 6 rfl dX13_field_20 ?_
  refine q_aload_n (pc := 22) C 0 rfl dX13_field_22 rfl ?_
  refine q_getI (pc := 23) C dX13_field_23 ql_X13_217 h (fun v23 h => ?_)
  refine q_icmp_ge (pc := 26) (tgt := 104) C dX13_field_26 (by decide) h (fun _ h => ?_) (fun _ h => ?_)
  · refine q_iinc (pc := 104) (v := (1 : Int32)) (l' := [(6, q_I (l6 + (1 : Int32))), (0, q_R l0), (1, q_I l1), (2, q_I l2), (3, q_I l3), (4, q_L l4), (7, q_I l7)]) C 5 rfl dX13_field_104 (by decide) (by decide) rfl ?_
    refine q_goto (pc := 107) (tgt := 6) C dX13_field_107 (by decide) ?_
    refine q_W.sub [1, 2, 3, 4, 5, 0] rfl ?_
    exact hr6 l0 l1 l2 l3 l4 (l6 + (1 : Int32)) _ h
  · refine q_aload_n (pc := 29) C 0 rfl dX13_field_29 rfl ?_
    refine q_getA (pc := 30) C dX13_field_30 ql_X13_92 h (fun v30 h => ?_)
    refine q_sipush (pc := 33) (v := (160 : Int32)) C dX13_field_33 (by decide) ?_
    refine q_iload_n (pc := 36) C 2 rfl dX13_field_36 rfl ?_
    refine q_imul (pc := 37) C dX13_field_37 ?_
    refine q_iload (pc := 38) C 5 rfl dX13_field_38 ?_
    refine q_aload_n (pc := 40) C 0 rfl dX13_field_40 rfl ?_
    refine q_getI (pc := 41) C dX13_field_41 ql_X13_217 h (fun v41 h => ?_)
    refine q_imul (pc := 44) C dX13_field_44 ?_
    refine q_iadd (pc := 45) C dX13_field_45 ?_
    refine q_iload (pc := 46) C 6 rfl dX13_field_46 ?_
    refine q_iadd (pc := 48) C dX13_field_48 ?_
    refine q_ldI (pc := 49) C dX13_field_49 (Or.inr (Or.inl ⟨rfl, rfl⟩)) h (fun v49 h => ?_)
    refine q_istore (pc := 50) (l' := [(8, q_I v49), (0, q_R l0), (1, q_I l1), (2, q_I l2), (3, q_I l3), (4, q_L l4), (6, q_I l6), (7, q_I l7)]) C dX13_field_50 (by decide) rfl ?_
    refine q_iload (pc := 52) C 0 rfl dX13_field_52 ?_
    refine q_if_lt (pc := 54) (tgt := 98) C dX13_field_54 (by decide) h (fun _ h => ?_) (fun _ h => ?_)
    · refine q_W.sub [1, 2, 3, 4, 5, 6, 7] rfl ?_
      exact S_X13_field_98 B hT r6 hr6 mr6 r20 hr20 mr20 l0 l1 l2 l3 l4 l6 l7 _ h
    · refine q_iload (pc := 57) C 0 rfl dX13_field_57 ?_
      refine q_bipush (pc := 59) (v := (32 : Int32)) C dX13_field_59 (by decide) ?_
      obtain ⟨g61, h⟩ := q_gd_e h
      refine q_idiv (pc := 61) C dX13_field_61 g61 ?_
      refine q_iload_n (pc := 62) C 4 rfl dX13_field_62 rfl ?_
      refine q_icmp_ne (pc := 63) (tgt := 98) C dX13_field_63 (by decide) h (fun _ h => ?_) (fun _ h => ?_)
      · refine q_W.sub [1, 2, 3, 4, 5, 6, 7] rfl ?_
        exact S_X13_field_98 B hT r6 hr6 mr6 r20 hr20 mr20 l0 l1 l2 l3 l4 l6 l7 _ h
      · refine q_lload (pc := 66) C 5 rfl dX13_field_66 ?_
        refine q_aload_n (pc := 68) C 1 rfl dX13_field_68 rfl ?_
        refine q_getA (pc := 69) C dX13_field_69 ql_X13_98 h (fun v69 h => ?_)
        refine q_iload_n (pc := 72) C 2 rfl dX13_field_72 rfl ?_
        refine q_iload (pc := 73) C 6 rfl dX13_field_73 ?_
        refine q_iadd (pc := 75) C dX13_field_75 ?_
        refine q_ldL (pc := 76) C dX13_field_76 h (fun v76 h => ?_)
        refine q_aload_n (pc := 77) C 1 rfl dX13_field_77 rfl ?_
        refine q_getI (pc := 78) C dX13_field_78 ql_X13_217 h (fun v78 h => ?_)
        refine q_iconst (pc := 81) (v := (1 : Int32)) C dX13_field_81 (by decide) ?_
        refine q_isub (pc := 82) C dX13_field_82 ?_
        refine q_iload (pc := 83) C 7 rfl dX13_field_83 ?_
        refine q_isub (pc := 85) C dX13_field_85 ?_
        refine q_lshr (pc := 86) C dX13_field_86 ?_
        refine q_lconst (pc := 87) (v := (1 : Int64)) C dX13_field_87 (by decide) ?_
        refine q_land (pc := 88) C dX13_field_88 ?_
        refine q_iload (pc := 89) C 0 rfl dX13_field_89 ?_
        refine q_bipush (pc := 91) (v := (32 : Int32)) C dX13_field_91 (by decide) ?_
        obtain ⟨g93, h⟩ := q_gd_e h
        refine q_irem (pc := 93) C dX13_field_93 g93 ?_
        refine q_lshl (pc := 94) C dX13_field_94 ?_
        refine q_lor (pc := 95) C dX13_field_95 ?_
        refine q_lstore (pc := 96) (l' := [(4, q_L (l4 ||| (((v76 >>> (((v78 - (1 : Int32)) - l7).toInt64 &&& 63)) &&& (1 : Int64)) <<< ((v49 - v49 / (32 : Int32) * (32 : Int32)).toInt64 &&& 63)))), (8, q_I v49), (0, q_R l0), (1, q_I l1), (2, q_I l2), (3, q_I l3), (6, q_I l6), (7, q_I l7)]) C dX13_field_96 (by decide) rfl ?_
        refine q_W.sub [2, 3, 4, 5, 0, 6, 7] rfl ?_
        exact S_X13_field_98 B hT r6 hr6 mr6 r20 hr20 mr20 l0 l1 l2 l3 (l4 ||| (((v76 >>> (((v78 - (1 : Int32)) - l7).toInt64 &&& 63)) &&& (1 : Int64)) <<< ((v49 - v49 / (32 : Int32) * (32 : Int32)).toInt64 &&& 63))) l6 l7 _ h
def F_X13_field_20 (κ : Nat → Nat) (r6 : Option Nat → Int32 → Int32 → Int32 → Int64 → Int32 → q_X Int64) : Nat → Option Nat → Int32 → Int32 → Int32 → Int64 → Int32 → Int32 → q_X Int64
  | 0, _, _, _, _, _, _, _ => q_no
  | n + 1, l0, l1, l2, l3, l4, l6, l7 => F_X13_field_20B κ r6 (F_X13_field_20 κ r6 n) l0 l1 l2 l3 l4 l6 l7
theorem M_X13_field_20 (κ : Nat → Nat) (r6 : Option Nat → Int32 → Int32 → Int32 → Int64 → Int32 → q_X Int64) (mr6 : ∀ (l0 : Option Nat) (l1 : Int32) (l2 : Int32) (l3 : Int32) (l4 : Int64) (l6 : Int32), q_mo (r6 l0 l1 l2 l3 l4 l6)) : ∀ (n : Nat) (l0 : Option Nat) (l1 : Int32) (l2 : Int32) (l3 : Int32) (l4 : Int64) (l6 : Int32) (l7 : Int32), q_mo (F_X13_field_20 κ r6 n l0 l1 l2 l3 l4 l6 l7)
  | 0, _, _, _, _, _, _, _ => q_mo_no
  | n + 1, l0, l1, l2, l3, l4, l6, l7 => M_X13_field_20B κ r6 mr6 (F_X13_field_20 κ r6 n) (M_X13_field_20 κ r6 mr6 n) l0 l1 l2 l3 l4 l6 l7
theorem S_X13_field_20 {E : q_Ev} {Γ : q_Gm} {w : (Int64 ⊕ q_Exn) × q_St} (B : q_Bd E Γ cX13_field yX13_field.cls 9 0 0 (some .long) yX13_field.name w) (hT : q_nT Γ) (r6 : Option Nat → Int32 → Int32 → Int32 → Int64 → Int32 → q_X Int64) (hr6 : ∀ (l0 : Option Nat) (l1 : Int32) (l2 : Int32) (l3 : Int32) (l4 : Int64) (l6 : Int32) (σ : q_St), r6 l0 l1 l2 l3 l4 l6 σ = some w → q_W E Γ (q_QF E Γ q_oL w) 9 σ 6 [(0, q_R l0), (1, q_I l1), (2, q_I l2), (3, q_I l3), (4, q_L l4), (6, q_I l6)] []) (mr6 : ∀ (l0 : Option Nat) (l1 : Int32) (l2 : Int32) (l3 : Int32) (l4 : Int64) (l6 : Int32), q_mo (r6 l0 l1 l2 l3 l4 l6)) : ∀ (n : Nat) (l0 : Option Nat) (l1 : Int32) (l2 : Int32) (l3 : Int32) (l4 : Int64) (l6 : Int32) (l7 : Int32) (σ : q_St), F_X13_field_20 (q_kap E) r6 n l0 l1 l2 l3 l4 l6 l7 σ = some w → q_W E Γ (q_QF E Γ q_oL w) 9 σ 20 [(0, q_R l0), (1, q_I l1), (2, q_I l2), (3, q_I l3), (4, q_L l4), (6, q_I l6), (7, q_I l7)] []
  | 0, _, _, _, _, _, _, _, _, h => by cases h
  | n + 1, l0, l1, l2, l3, l4, l6, l7, σ, h => S_X13_field_20B B hT r6 hr6 mr6 (F_X13_field_20 (q_kap E) r6 n) (S_X13_field_20 B hT r6 hr6 mr6 n) (M_X13_field_20 (q_kap E) r6 mr6 n) l0 l1 l2 l3 l4 l6 l7 σ h
def F_X13_field_6B (κ : Nat → Nat) (r6 : Option Nat → Int32 → Int32 → Int32 → Int64 → Int32 → q_X Int64) (l0 : Option Nat) (l1 : Int32) (l2 : Int32) (l3 : Int32) (l4 : Int64) (l6 : Int32) : q_X Int64 :=
  q_rd (q_gA l0 16 33) fun v9 => q_rd (q_lI 1 v9 l2) fun v13 => q_br (v13 ≤ l6) (q_rt l4) (F_X13_field_20 κ r6 q_fu l0 l1 l2 l3 l4 l6 (0 : Int32))
theorem M_X13_field_6B (κ : Nat → Nat) (r6 : Option Nat → Int32 → Int32 → Int32 → Int64 → Int32 → q_X Int64) (mr6 : ∀ (l0 : Option Nat) (l1 : Int32) (l2 : Int32) (l3 : Int32) (l4 : Int64) (l6 : Int32), q_mo (r6 l0 l1 l2 l3 l4 l6)) (l0 : Option Nat) (l1 : Int32) (l2 : Int32) (l3 : Int32) (l4 : Int64) (l6 : Int32) : q_mo (F_X13_field_6B κ r6 l0 l1 l2 l3 l4 l6) := (q_mo_rd fun v9 => (q_mo_rd fun v13 => (q_mo_br q_mo_rt (M_X13_field_20 κ r6 mr6 q_fu l0 l1 l2 l3 l4 l6 (0 : Int32)))))
set_option maxRecDepth 100000 in
set_option maxHeartbeats 4000000 in
theorem S_X13_field_6B {E : q_Ev} {Γ : q_Gm} {w : (Int64 ⊕ q_Exn) × q_St} (B : q_Bd E Γ cX13_field yX13_field.cls 9 0 0 (some .long) yX13_field.name w) (hT : q_nT Γ) (r6 : Option Nat → Int32 → Int32 → Int32 → Int64 → Int32 → q_X Int64) (hr6 : ∀ (l0 : Option Nat) (l1 : Int32) (l2 : Int32) (l3 : Int32) (l4 : Int64) (l6 : Int32) (σ : q_St), r6 l0 l1 l2 l3 l4 l6 σ = some w → q_W E Γ (q_QF E Γ q_oL w) 9 σ 6 [(0, q_R l0), (1, q_I l1), (2, q_I l2), (3, q_I l3), (4, q_L l4), (6, q_I l6)] []) (mr6 : ∀ (l0 : Option Nat) (l1 : Int32) (l2 : Int32) (l3 : Int32) (l4 : Int64) (l6 : Int32), q_mo (r6 l0 l1 l2 l3 l4 l6)) (l0 : Option Nat) (l1 : Int32) (l2 : Int32) (l3 : Int32) (l4 : Int64) (l6 : Int32) (σ : q_St) (h : F_X13_field_6B (q_kap E) r6 l0 l1 l2 l3 l4 l6 σ = some w) : q_W E Γ (q_QF E Γ q_oL w) 9 σ 6 [(0, q_R l0), (1, q_I l1), (2, q_I l2), (3, q_I l3), (4, q_L l4), (6, q_I l6)] [] := by
  have C := B.1
  unfold F_X13_field_6B at h
  refine q_iload (pc := 6) C 5 rfl dX13_field_6 ?_
  refine q_aload_n (pc := 8) C 0 rfl dX13_field_8 rfl ?_
  refine q_getA (pc := 9) C dX13_field_9 ql_X13_77 h (fun v9 h => ?_)
  refine q_iload_n (pc := 12) C 2 rfl dX13_field_12 rfl ?_
  refine q_ldI (pc := 13) C dX13_field_13 (Or.inr (Or.inl ⟨rfl, rfl⟩)) h (fun v13 h => ?_)
  refine q_icmp_ge (pc := 14) (tgt := 110) C dX13_field_14 (by decide) h (fun _ h => ?_) (fun _ h => ?_)
  · refine q_lload (pc := 110) C 4 rfl dX13_field_110 ?_
    exact q_lret C B.2.2.2.2.1 dX13_field_112 h
  · refine q_iconst (pc := 17) (v := (0 : Int32)) C dX13_field_17 (by decide) ?_
    refine q_istore (pc := 18) (l' := [(7, q_I (0 : Int32)), (0, q_R l0), (1, q_I l1), (2, q_I l2), (3, q_I l3), (4, q_L l4), (6, q_I l6)]) C dX13_field_18 (by decide) rfl ?_
    refine q_W.sub [1, 2, 3, 4, 5, 6, 0] rfl ?_
    exact S_X13_field_20 B hT r6 hr6 mr6 q_fu l0 l1 l2 l3 l4 l6 (0 : Int32) _ h
def F_X13_field_6 (κ : Nat → Nat) : Nat → Option Nat → Int32 → Int32 → Int32 → Int64 → Int32 → q_X Int64
  | 0, _, _, _, _, _, _ => q_no
  | n + 1, l0, l1, l2, l3, l4, l6 => F_X13_field_6B κ (F_X13_field_6 κ n) l0 l1 l2 l3 l4 l6
theorem M_X13_field_6 (κ : Nat → Nat) : ∀ (n : Nat) (l0 : Option Nat) (l1 : Int32) (l2 : Int32) (l3 : Int32) (l4 : Int64) (l6 : Int32), q_mo (F_X13_field_6 κ n l0 l1 l2 l3 l4 l6)
  | 0, _, _, _, _, _, _ => q_mo_no
  | n + 1, l0, l1, l2, l3, l4, l6 => M_X13_field_6B κ (F_X13_field_6 κ n) (M_X13_field_6 κ n) l0 l1 l2 l3 l4 l6
theorem S_X13_field_6 {E : q_Ev} {Γ : q_Gm} {w : (Int64 ⊕ q_Exn) × q_St} (B : q_Bd E Γ cX13_field yX13_field.cls 9 0 0 (some .long) yX13_field.name w) (hT : q_nT Γ) : ∀ (n : Nat) (l0 : Option Nat) (l1 : Int32) (l2 : Int32) (l3 : Int32) (l4 : Int64) (l6 : Int32) (σ : q_St), F_X13_field_6 (q_kap E) n l0 l1 l2 l3 l4 l6 σ = some w → q_W E Γ (q_QF E Γ q_oL w) 9 σ 6 [(0, q_R l0), (1, q_I l1), (2, q_I l2), (3, q_I l3), (4, q_L l4), (6, q_I l6)] []
  | 0, _, _, _, _, _, _, _, h => by cases h
  | n + 1, l0, l1, l2, l3, l4, l6, σ, h => S_X13_field_6B B hT (F_X13_field_6 (q_kap E) n) (S_X13_field_6 B hT n) (M_X13_field_6 (q_kap E) n) l0 l1 l2 l3 l4 l6 σ h
def F_X13_field (κ : Nat → Nat) (l0 : Option Nat) (l1 : Int32) (l2 : Int32) (l3 : Int32) : q_X Int64 :=
  F_X13_field_6 κ q_fu l0 l1 l2 l3 (0 : Int64) (0 : Int32)
theorem M_X13_field (κ : Nat → Nat) (l0 : Option Nat) (l1 : Int32) (l2 : Int32) (l3 : Int32) : q_mo (F_X13_field κ l0 l1 l2 l3) := (M_X13_field_6 κ q_fu l0 l1 l2 l3 (0 : Int64) (0 : Int32))
set_option maxRecDepth 100000 in
set_option maxHeartbeats 4000000 in
theorem K_X13_field {E : q_Ev} (l0 : Option Nat) (l1 : Int32) (l2 : Int32) (l3 : Int32) : q_Ct E yX13_field (.code yX13_field cX13_field 9 (some .long)) 0 0 [q_R l0, q_I l1, q_I l2, q_I l3] q_oL (F_X13_field (q_kap E) l0 l1 l2 l3) := by
  refine q_enter (by decide) (Nat.le_of_ble_eq_true rfl) (fun Γ σ w h B hT => ?_)
  have C := B.1
  unfold F_X13_field at h
  refine q_lconst (pc := 0) (v := (0 : Int64)) C dX13_field_0 (by decide) ?_
  refine q_lstore (pc := 1) (l' := [(4, q_L (0 : Int64)), (0, q_R l0), (1, q_I l1), (2, q_I l2), (3, q_I l3)]) C dX13_field_1 (by decide) rfl ?_
  refine q_iconst (pc := 3) (v := (0 : Int32)) C dX13_field_3 (by decide) ?_
  refine q_istore (pc := 4) (l' := [(6, q_I (0 : Int32)), (4, q_L (0 : Int64)), (0, q_R l0), (1, q_I l1), (2, q_I l2), (3, q_I l3)]) C dX13_field_4 (by decide) rfl ?_
  refine q_W.sub [2, 3, 4, 5, 1, 0] rfl ?_
  exact S_X13_field_6 B hT q_fu l0 l1 l2 l3 (0 : Int64) (0 : Int32) _ h
def F_X13_isThere_32 (κ : Nat → Nat) : q_X Int32 :=
  q_rz (0 : Int32)
theorem M_X13_isThere_32 (κ : Nat → Nat) : q_mo (F_X13_isThere_32 κ) := q_mo_rz
set_option maxRecDepth 100000 in
set_option maxHeartbeats 4000000 in
theorem S_X13_isThere_32 {E : q_Ev} {Γ : q_Gm} {w : (Int32 ⊕ q_Exn) × q_St} (B : q_Bd E Γ cX13_isThere yX13_isThere.cls 6 1 28 (some .boolean) yX13_isThere.name w) (hT : q_nT Γ) (σ : q_St) (h : F_X13_isThere_32 (q_kap E) σ = some w) : q_W E Γ (q_QF E Γ q_oI w) 6 σ 32 [] [] := by
  have C := B.1
  unfold F_X13_isThere_32 at h
  refine q_iconst (pc := 32) (v := (0 : Int32)) C dX13_isThere_32 (by decide) ?_
  exact q_zret C B.2.2.2.2.1 dX13_isThere_33 h
def F_X13_isThere_104 (κ : Nat → Nat) (r2 : Option Nat → Int32 → Int32 → Int32 → q_X Int32) (r37 : Option Nat → Int32 → Int32 → Int32 → Int32 → q_X Int32) (l0 : Option Nat) (l1 : Int32) (l2 : Int32) (l3 : Int32) (l4 : Int32) : q_X Int32 :=
  r37 l0 l1 l2 l3 (l4 + (1 : Int32))
theorem M_X13_isThere_104 (κ : Nat → Nat) (r2 : Option Nat → Int32 → Int32 → Int32 → q_X Int32) (mr2 : ∀ (l0 : Option Nat) (l1 : Int32) (l2 : Int32) (l3 : Int32), q_mo (r2 l0 l1 l2 l3)) (r37 : Option Nat → Int32 → Int32 → Int32 → Int32 → q_X Int32) (mr37 : ∀ (l0 : Option Nat) (l1 : Int32) (l2 : Int32) (l3 : Int32) (l4 : Int32), q_mo (r37 l0 l1 l2 l3 l4)) (l0 : Option Nat) (l1 : Int32) (l2 : Int32) (l3 : Int32) (l4 : Int32) : q_mo (F_X13_isThere_104 κ r2 r37 l0 l1 l2 l3 l4) := (mr37 l0 l1 l2 l3 (l4 + (1 : Int32)))
set_option maxRecDepth 100000 in
set_option maxHeartbeats 4000000 in
theorem S_X13_isThere_104 {E : q_Ev} {Γ : q_Gm} {w : (Int32 ⊕ q_Exn) × q_St} (B : q_Bd E Γ cX13_isThere yX13_isThere.cls 6 1 28 (some .boolean) yX13_isThere.name w) (hT : q_nT Γ) (r2 : Option Nat → Int32 → Int32 → Int32 → q_X Int32) (hr2 : ∀ (l0 : Option Nat) (l1 : Int32) (l2 : Int32) (l3 : Int32) (σ : q_St), r2 l0 l1 l2 l3 σ = some w → q_W E Γ (q_QF E Γ q_oI w) 6 σ 2 [(0, q_R l0), (1, q_I l1), (2, q_I l2), (3, q_I l3)] []) (mr2 : ∀ (l0 : Option Nat) (l1 : Int32) (l2 : Int32) (l3 : Int32), q_mo (r2 l0 l1 l2 l3)) (r37 : Option Nat → Int32 → Int32 → Int32 → Int32 → q_X Int32) (hr37 : ∀ (l0 : Option Nat) (l1 : Int32) (l2 : Int32) (l3 : Int32) (l4 : Int32) (σ : q_St), r37 l0 l1 l2 l3 l4 σ = some w → q_W E Γ (q_QF E Γ q_oI w) 6 σ 37 [(0, q_R l0), (1, q_I l1), (2, q_I l2), (3, q_I l3), (4, q_I l4)] []) (mr37 : ∀ (l0 : Option Nat) (l1 : Int32) (l2 : Int32) (l3 : Int32) (l4 : Int32), q_mo (r37 l0 l1 l2 l3 l4)) (l0 : Option Nat) (l1 : Int32) (l2 : Int32) (l3 : Int32) (l4 : Int32) (σ : q_St) (h : F_X13_isThere_104 (q_kap E) r2 r37 l0 l1 l2 l3 l4 σ = some w) : q_W E Γ (q_QF E Γ q_oI w) 6 σ 104 [(0, q_R l0), (1, q_I l1), (2, q_I l2), (3, q_I l3), (4, q_I l4)] [] := by
  have C := B.1
  unfold F_X13_isThere_104 at h
  refine q_iinc (pc := 104) (v := (1 : Int32)) (l' := [(4, q_I (l4 + (1 : Int32))), (0, q_R l0), (1, q_I l1), (2, q_I l2), (3, q_I l3)]) C 4 rfl dX13_isThere_104 (by decide) (by decide) rfl ?_
  refine q_goto (pc := 107) (tgt := 37) C dX13_isThere_107 (by decide) ?_
  refine q_W.sub [1, 2, 3, 4, 0] rfl ?_
  exact hr37 l0 l1 l2 l3 (l4 + (1 : Int32)) _ h
def F_X13_isThere_37B (κ : Nat → Nat) (r2 : Option Nat → Int32 → Int32 → Int32 → q_X Int32) (r37 : Option Nat → Int32 → Int32 → Int32 → Int32 → q_X Int32) (l0 : Option Nat) (l1 : Int32) (l2 : Int32) (l3 : Int32) (l4 : Int32) : q_X Int32 :=
  q_rd (q_gI l0 16 21) fun v40 => q_br (v40 ≤ l4) (r2 l0 l1 l2 (l3 + (1 : Int32))) (q_rd (q_gA l0 16 38) fun v47 => q_rd (q_gI l0 16 21) fun v57 => q_rd (q_lI 1 v47 ((((160 : Int32) * l2) + (l3 * v57)) + l4)) fun v65 => q_br (0 ≤ v65) (F_X13_isThere_104 κ r2 r37 l0 l1 l2 l3 l4) (q_rd (q_gA l0 16 40) fun v74 => q_rd (q_lL v74 (l1 + l3)) fun v80 => q_rd (q_gI l0 16 21) fun v82 => q_br ((lg_cmp ((v80 >>> (((v82 - (1 : Int32)) - l4).toInt64 &&& 63)) &&& (1 : Int64)) (((-1 : Int32) - v65).toInt64)) = 0) (F_X13_isThere_104 κ r2 r37 l0 l1 l2 l3 l4) (q_rz (0 : Int32))))
theorem M_X13_isThere_37B (κ : Nat → Nat) (r2 : Option Nat → Int32 → Int32 → Int32 → q_X Int32) (mr2 : ∀ (l0 : Option Nat) (l1 : Int32) (l2 : Int32) (l3 : Int32), q_mo (r2 l0 l1 l2 l3)) (r37 : Option Nat → Int32 → Int32 → Int32 → Int32 → q_X Int32) (mr37 : ∀ (l0 : Option Nat) (l1 : Int32) (l2 : Int32) (l3 : Int32) (l4 : Int32), q_mo (r37 l0 l1 l2 l3 l4)) (l0 : Option Nat) (l1 : Int32) (l2 : Int32) (l3 : Int32) (l4 : Int32) : q_mo (F_X13_isThere_37B κ r2 r37 l0 l1 l2 l3 l4) := (q_mo_rd fun v40 => (q_mo_br (mr2 l0 l1 l2 (l3 + (1 : Int32))) (q_mo_rd fun v47 => (q_mo_rd fun v57 => (q_mo_rd fun v65 => (q_mo_br (M_X13_isThere_104 κ r2 mr2 r37 mr37 l0 l1 l2 l3 l4) (q_mo_rd fun v74 => (q_mo_rd fun v80 => (q_mo_rd fun v82 => (q_mo_br (M_X13_isThere_104 κ r2 mr2 r37 mr37 l0 l1 l2 l3 l4) q_mo_rz))))))))))
set_option maxRecDepth 100000 in
set_option maxHeartbeats 4000000 in
theorem S_X13_isThere_37B {E : q_Ev} {Γ : q_Gm} {w : (Int32 ⊕ q_Exn) × q_St} (B : q_Bd E Γ cX13_isThere yX13_isThere.cls 6 1 28 (some .boolean) yX13_isThere.name w) (hT : q_nT Γ) (r2 : Option Nat → Int32 → Int32 → Int32 → q_X Int32) (hr2 : ∀ (l0 : Option Nat) (l1 : Int32) (l2 : Int32) (l3 : Int32) (σ : q_St), r2 l0 l1 l2 l3 σ = some w → q_W E Γ (q_QF E Γ q_oI w) 6 σ 2 [(0, q_R l0), (1, q_I l1), (2, q_I l2), (3, q_I l3)] []) (mr2 : ∀ (l0 : Option Nat) (l1 : Int32) (l2 : Int32) (l3 : Int32), q_mo (r2 l0 l1 l2 l3)) (r37 : Option Nat → Int32 → Int32 → Int32 → Int32 → q_X Int32) (hr37 : ∀ (l0 : Option Nat) (l1 : Int32) (l2 : Int32) (l3 : Int32) (l4 : Int32) (σ : q_St), r37 l0 l1 l2 l3 l4 σ = some w → q_W E Γ (q_QF E Γ q_oI w) 6 σ 37 [(0, q_R l0), (1, q_I l1), (2, q_I l2), (3, q_I l3), (4, q_I l4)] []) (mr37 : ∀ (l0 : Option Nat) (l1 : Int32) (l2 : Int32) (l3 : Int32) (l4 : Int32), q_mo (r37 l0 l1 l2 l3 l4)) (l0 : Option Nat) (l1 : Int32) (l2 : Int32) (l3 : Int32) (l4 : Int32) (σ : q_St) (h : F_X13_isThere_37B (q_kap E) r2 r37 l0 l1 l2 l3 l4 σ = some w) : q_W E Γ (q_QF E Γ q_oI w) 6 σ 37 [(0, q_R l0), (1, q_I l1), (2, q_I l2), (3, q_I l3), (4, q_I l4)] [] := by
  have C := B.1
  unfold F_X13_isThere_37B at h
  refine q_iload (pc := 37) C 4 rfl dX13_isThere_37 ?_
  refine q_aload_n (pc := 39) C 0 rfl dX13_isThere_39 rfl ?_
  refine q_getI (pc := 40) C dX13_isThere_40 ql_X13_217 h (fun v40 h => ?_)
  refine q_icmp_ge (pc := 43) (tgt := 110) C dX13_isThere_43 (by decide) h (fun _ h => ?_) (fun _ h => ?_)
  · refine q_iinc (pc := 110) (v := (1 : Int32)) (l' := [(3, q_I (l3 + (1 : Int32))), (0, q_R l0), (1, q_I l1), (2, q_I l2), (4, q_I l4)]) C 3 rfl dX13_isThere_110 (by decide) (by decide) rfl ?_
    refine q_goto (pc := 113) (tgt := 2) C dX13_isThere_113 (by decide) ?_
    refine q_W.sub [1, 2, 3, 0] rfl ?_
    exact hr2 l0 l1 l2 (l3 + (1 : Int32)) _ h
  · refine q_aload_n (pc := 46) C 0 rfl dX13_isThere_46 rfl ?_
    refine q_getA (pc := 47) C dX13_isThere_47 ql_X13_92 h (fun v47 h => ?_)
    refine q_sipush (pc := 50) (v := (160 : Int32)) C dX13_isThere_50 (by decide) ?_
    refine q_iload_n (pc := 53) C 2 rfl dX13_isThere_53 rfl ?_
    refine q_imul (pc := 54) C dX13_isThere_54 ?_
    refine q_iload_n (pc := 55) C 3 rfl dX13_isThere_55 rfl ?_
    refine q_aload_n (pc := 56) C 0 rfl dX13_isThere_56 rfl ?_
    refine q_getI (pc := 57) C dX13_isThere_57 ql_X13_217 h (fun v57 h => ?_)
    refine q_imul (pc := 60) C dX13_isThere_60 ?_
    refine q_iadd (pc := 61) C dX13_isThere_61 ?_
    refine q_iload (pc := 62) C 4 rfl dX13_isThere_62 ?_
    refine q_iadd (pc := 64) C dX13_isThere_64 ?_
    refine q_ldI (pc := 65) C dX13_isThere_65 (Or.inr (Or.inl ⟨rfl, rfl⟩)) h (fun v65 h => ?_)
    refine q_istore (pc := 66) (l' := [(5, q_I v65), (0, q_R l0), (1, q_I l1), (2, q_I l2), (3, q_I l3), (4, q_I l4)]) C dX13_isThere_66 (by decide) rfl ?_
    refine q_iload (pc := 68) C 0 rfl dX13_isThere_68 ?_
    refine q_if_ge (pc := 70) (tgt := 104) C dX13_isThere_70 (by decide) h (fun _ h => ?_) (fun _ h => ?_)
    · refine q_W.sub [1, 2, 3, 4, 5] rfl ?_
      exact S_X13_isThere_104 B hT r2 hr2 mr2 r37 hr37 mr37 l0 l1 l2 l3 l4 _ h
    · refine q_aload_n (pc := 73) C 1 rfl dX13_isThere_73 rfl ?_
      refine q_getA (pc := 74) C dX13_isThere_74 ql_X13_98 h (fun v74 h => ?_)
      refine q_iload_n (pc := 77) C 2 rfl dX13_isThere_77 rfl ?_
      refine q_iload_n (pc := 78) C 4 rfl dX13_isThere_78 rfl ?_
      refine q_iadd (pc := 79) C dX13_isThere_79 ?_
      refine q_ldL (pc := 80) C dX13_isThere_80 h (fun v80 h => ?_)
      refine q_aload_n (pc := 81) C 1 rfl dX13_isThere_81 rfl ?_
      refine q_getI (pc := 82) C dX13_isThere_82 ql_X13_217 h (fun v82 h => ?_)
      refine q_iconst (pc := 85) (v := (1 : Int32)) C dX13_isThere_85 (by decide) ?_
      refine q_isub (pc := 86) C dX13_isThere_86 ?_
      refine q_iload (pc := 87) C 5 rfl dX13_isThere_87 ?_
      refine q_isub (pc := 89) C dX13_isThere_89 ?_
      refine q_lshr (pc := 90) C dX13_isThere_90 ?_
      refine q_lconst (pc := 91) (v := (1 : Int64)) C dX13_isThere_91 (by decide) ?_
      refine q_land (pc := 92) C dX13_isThere_92 ?_
      refine q_iconst (pc := 93) (v := (-1 : Int32)) C dX13_isThere_93 (by decide) ?_
      refine q_iload (pc := 94) C 0 rfl dX13_isThere_94 ?_
      refine q_isub (pc := 96) C dX13_isThere_96 ?_
      refine q_i2l (pc := 97) C dX13_isThere_97 ?_
      refine q_lcmp (pc := 98) C dX13_isThere_98 ?_
      refine q_if_eq (pc := 99) (tgt := 104) C dX13_isThere_99 (by decide) h (fun _ h => ?_) (fun _ h => ?_)
      · refine q_W.sub [1, 2, 3, 4, 5] rfl ?_
        exact S_X13_isThere_104 B hT r2 hr2 mr2 r37 hr37 mr37 l0 l1 l2 l3 l4 _ h
      · refine q_iconst (pc := 102) (v := (0 : Int32)) C dX13_isThere_102 (by decide) ?_
        exact q_zret C B.2.2.2.2.1 dX13_isThere_103 h
def F_X13_isThere_37 (κ : Nat → Nat) (r2 : Option Nat → Int32 → Int32 → Int32 → q_X Int32) : Nat → Option Nat → Int32 → Int32 → Int32 → Int32 → q_X Int32
  | 0, _, _, _, _, _ => q_no
  | n + 1, l0, l1, l2, l3, l4 => F_X13_isThere_37B κ r2 (F_X13_isThere_37 κ r2 n) l0 l1 l2 l3 l4
theorem M_X13_isThere_37 (κ : Nat → Nat) (r2 : Option Nat → Int32 → Int32 → Int32 → q_X Int32) (mr2 : ∀ (l0 : Option Nat) (l1 : Int32) (l2 : Int32) (l3 : Int32), q_mo (r2 l0 l1 l2 l3)) : ∀ (n : Nat) (l0 : Option Nat) (l1 : Int32) (l2 : Int32) (l3 : Int32) (l4 : Int32), q_mo (F_X13_isThere_37 κ r2 n l0 l1 l2 l3 l4)
  | 0, _, _, _, _, _ => q_mo_no
  | n + 1, l0, l1, l2, l3, l4 => M_X13_isThere_37B κ r2 mr2 (F_X13_isThere_37 κ r2 n) (M_X13_isThere_37 κ r2 mr2 n) l0 l1 l2 l3 l4
theorem S_X13_isThere_37 {E : q_Ev} {Γ : q_Gm} {w : (Int32 ⊕ q_Exn) × q_St} (B : q_Bd E Γ cX13_isThere yX13_isThere.cls 6 1 28 (some .boolean) yX13_isThere.name w) (hT : q_nT Γ) (r2 : Option Nat → Int32 → Int32 → Int32 → q_X Int32) (hr2 : ∀ (l0 : Option Nat) (l1 : Int32) (l2 : Int32) (l3 : Int32) (σ : q_St), r2 l0 l1 l2 l3 σ = some w → q_W E Γ (q_QF E Γ q_oI w) 6 σ 2 [(0, q_R l0), (1, q_I l1), (2, q_I l2), (3, q_I l3)] []) (mr2 : ∀ (l0 : Option Nat) (l1 : Int32) (l2 : Int32) (l3 : Int32), q_mo (r2 l0 l1 l2 l3)) : ∀ (n : Nat) (l0 : Option Nat) (l1 : Int32) (l2 : Int32) (l3 : Int32) (l4 : Int32) (σ : q_St), F_X13_isThere_37 (q_kap E) r2 n l0 l1 l2 l3 l4 σ = some w → q_W E Γ (q_QF E Γ q_oI w) 6 σ 37 [(0, q_R l0), (1, q_I l1), (2, q_I l2), (3, q_I l3), (4, q_I l4)] []
  | 0, _, _, _, _, _, _, h => by cases h
  | n + 1, l0, l1, l2, l3, l4, σ, h => S_X13_isThere_37B B hT r2 hr2 mr2 (F_X13_isThere_37 (q_kap E) r2 n) (S_X13_isThere_37 B hT r2 hr2 mr2 n) (M_X13_isThere_37 (q_kap E) r2 mr2 n) l0 l1 l2 l3 l4 σ h
def F_X13_isThere_182 (κ : Nat → Nat) (r118 : Option Nat → Int32 → Int32 → Int32 → q_X Int32) (l0 : Option Nat) (l1 : Int32) (l2 : Int32) (l3 : Int32) : q_X Int32 :=
  r118 l0 l1 l2 (l3 + (1 : Int32))
theorem M_X13_isThere_182 (κ : Nat → Nat) (r118 : Option Nat → Int32 → Int32 → Int32 → q_X Int32) (mr118 : ∀ (l0 : Option Nat) (l1 : Int32) (l2 : Int32) (l3 : Int32), q_mo (r118 l0 l1 l2 l3)) (l0 : Option Nat) (l1 : Int32) (l2 : Int32) (l3 : Int32) : q_mo (F_X13_isThere_182 κ r118 l0 l1 l2 l3) := (mr118 l0 l1 l2 (l3 + (1 : Int32)))
set_option maxRecDepth 100000 in
set_option maxHeartbeats 4000000 in
theorem S_X13_isThere_182 {E : q_Ev} {Γ : q_Gm} {w : (Int32 ⊕ q_Exn) × q_St} (B : q_Bd E Γ cX13_isThere yX13_isThere.cls 6 1 28 (some .boolean) yX13_isThere.name w) (hT : q_nT Γ) (r118 : Option Nat → Int32 → Int32 → Int32 → q_X Int32) (hr118 : ∀ (l0 : Option Nat) (l1 : Int32) (l2 : Int32) (l3 : Int32) (σ : q_St), r118 l0 l1 l2 l3 σ = some w → q_W E Γ (q_QF E Γ q_oI w) 6 σ 118 [(0, q_R l0), (1, q_I l1), (2, q_I l2), (3, q_I l3)] []) (mr118 : ∀ (l0 : Option Nat) (l1 : Int32) (l2 : Int32) (l3 : Int32), q_mo (r118 l0 l1 l2 l3)) (l0 : Option Nat) (l1 : Int32) (l2 : Int32) (l3 : Int32) (σ : q_St) (h : F_X13_isThere_182 (q_kap E) r118 l0 l1 l2 l3 σ = some w) : q_W E Γ (q_QF E Γ q_oI w) 6 σ 182 [(0, q_R l0), (1, q_I l1), (2, q_I l2), (3, q_I l3)] [] := by
  have C := B.1
  unfold F_X13_isThere_182 at h
  refine q_iinc (pc := 182) (v := (1 : Int32)) (l' := [(3, q_I (l3 + (1 : Int32))), (0, q_R l0), (1, q_I l1), (2, q_I l2)]) C 3 rfl dX13_isThere_182 (by decide) (by decide) rfl ?_
  refine q_goto (pc := 185) (tgt := 118) C dX13_isThere_185 (by decide) ?_
  refine q_W.sub [1, 2, 3, 0] rfl ?_
  exact hr118 l0 l1 l2 (l3 + (1 : Int32)) _ h
def F_X13_isThere_161 (κ : Nat → Nat) (r118 : Option Nat → Int32 → Int32 → Int32 → q_X Int32) (l0 : Option Nat) (l1 : Int32) (l2 : Int32) (l3 : Int32) (l4 : Int32) : q_X Int32 :=
  q_rd (q_is l0 16) fun _ => q_ca (F_X13_field κ l0 l1 l2 l3) fun v165 => q_rd (q_gA l0 16 27) fun v169 => q_rd (q_lI 1 v169 l4) fun v174 => q_br ((lg_cmp v165 v174.toInt64) < 0) (F_X13_isThere_182 κ r118 l0 l1 l2 l3) (q_rz (0 : Int32))
theorem M_X13_isThere_161 (κ : Nat → Nat) (r118 : Option Nat → Int32 → Int32 → Int32 → q_X Int32) (mr118 : ∀ (l0 : Option Nat) (l1 : Int32) (l2 : Int32) (l3 : Int32), q_mo (r118 l0 l1 l2 l3)) (l0 : Option Nat) (l1 : Int32) (l2 : Int32) (l3 : Int32) (l4 : Int32) : q_mo (F_X13_isThere_161 κ r118 l0 l1 l2 l3 l4) := (q_mo_rd fun _ => q_mo_ca (M_X13_field κ l0 l1 l2 l3) fun v165 => (q_mo_rd fun v169 => (q_mo_rd fun v174 => (q_mo_br (M_X13_isThere_182 κ r118 mr118 l0 l1 l2 l3) q_mo_rz))))
set_option maxRecDepth 100000 in
set_option maxHeartbeats 4000000 in
theorem S_X13_isThere_161 {E : q_Ev} {Γ : q_Gm} {w : (Int32 ⊕ q_Exn) × q_St} (B : q_Bd E Γ cX13_isThere yX13_isThere.cls 6 1 28 (some .boolean) yX13_isThere.name w) (hT : q_nT Γ) (r118 : Option Nat → Int32 → Int32 → Int32 → q_X Int32) (hr118 : ∀ (l0 : Option Nat) (l1 : Int32) (l2 : Int32) (l3 : Int32) (σ : q_St), r118 l0 l1 l2 l3 σ = some w → q_W E Γ (q_QF E Γ q_oI w) 6 σ 118 [(0, q_R l0), (1, q_I l1), (2, q_I l2), (3, q_I l3)] []) (mr118 : ∀ (l0 : Option Nat) (l1 : Int32) (l2 : Int32) (l3 : Int32), q_mo (r118 l0 l1 l2 l3)) (l0 : Option Nat) (l1 : Int32) (l2 : Int32) (l3 : Int32) (l4 : Int32) (σ : q_St) (h : F_X13_isThere_161 (q_kap E) r118 l0 l1 l2 l3 l4 σ = some w) : q_W E Γ (q_QF E Γ q_oI w) 6 σ 161 [(0, q_R l0), (1, q_I l1), (2, q_I l2), (3, q_I l3), (4, q_I l4)] [] := by
  have C := B.1
  unfold F_X13_isThere_161 at h
  refine q_aload_n (pc := 161) C 0 rfl dX13_isThere_161 rfl ?_
  refine q_iload_n (pc := 162) C 1 rfl dX13_isThere_162 rfl ?_
  refine q_iload_n (pc := 163) C 2 rfl dX13_isThere_163 rfl ?_
  refine q_iload_n (pc := 164) C 3 rfl dX13_isThere_164 rfl ?_
  refine q_callV (pc := 165) (As := [q_I l1, q_I l2, q_I l3]) (st := []) (ps := q_psL) C B.2.1 hT q_hpL qm_X13_349 qv_X13_field dX13_isThere_165 rfl rfl (Nat.le_of_ble_eq_true rfl) (q_flo B.2.2.1 B.2.2.2.1 (by decide) (by decide)) (K_X13_field l0 l1 l2 l3) (M_X13_field (q_kap E) l0 l1 l2 l3) (by exact fun v165 => (q_mo_rd fun v169 => (q_mo_rd fun v174 => (q_mo_br (M_X13_isThere_182 (q_kap E) r118 mr118 l0 l1 l2 l3) q_mo_rz)))) h (fun v165 σ h => ?_)
  refine q_W.st (st' := [q_L v165]) rfl ?_
  refine q_aload_n (pc := 168) C 0 rfl dX13_isThere_168 rfl ?_
  refine q_getA (pc := 169) C dX13_isThere_169 ql_X13_59 h (fun v169 h => ?_)
  refine q_iload (pc := 172) C 4 rfl dX13_isThere_172 ?_
  refine q_ldI (pc := 174) C dX13_isThere_174 (Or.inr (Or.inl ⟨rfl, rfl⟩)) h (fun v174 h => ?_)
  refine q_i2l (pc := 175) C dX13_isThere_175 ?_
  refine q_lcmp (pc := 176) C dX13_isThere_176 ?_
  refine q_if_lt (pc := 177) (tgt := 182) C dX13_isThere_177 (by decide) h (fun _ h => ?_) (fun _ h => ?_)
  · refine q_W.sub [0, 1, 2, 3] rfl ?_
    exact S_X13_isThere_182 B hT r118 hr118 mr118 l0 l1 l2 l3 _ h
  · refine q_iconst (pc := 180) (v := (0 : Int32)) C dX13_isThere_180 (by decide) ?_
    exact q_zret C B.2.2.2.2.1 dX13_isThere_181 h
def F_X13_isThere_118B (κ : Nat → Nat) (r118 : Option Nat → Int32 → Int32 → Int32 → q_X Int32) (l0 : Option Nat) (l1 : Int32) (l2 : Int32) (l3 : Int32) : q_X Int32 :=
  q_rd (q_gA l0 16 32) fun v120 => q_rd (q_lI 1 v120 l2) fun v124 => q_br (v124 ≤ l3) (q_rz (1 : Int32)) (q_rd (q_gA l0 16 37) fun v129 => q_rd (q_lI 1 v129 (((5 : Int32) * l2) + l3)) fun v137 => q_rd (q_gA l0 16 25) fun v141 => q_rd (q_lI 1 v141 v137) fun v146 => q_br (v146 = 0) (F_X13_isThere_161 κ r118 l0 l1 l2 l3 v137) (q_rd (q_gA l0 16 25) fun v151 => q_rd (q_lI 1 v151 v137) fun v156 => q_br (¬ v156 = (4 : Int32)) (F_X13_isThere_182 κ r118 l0 l1 l2 l3) (F_X13_isThere_161 κ r118 l0 l1 l2 l3 v137)))
theorem M_X13_isThere_118B (κ : Nat → Nat) (r118 : Option Nat → Int32 → Int32 → Int32 → q_X Int32) (mr118 : ∀ (l0 : Option Nat) (l1 : Int32) (l2 : Int32) (l3 : Int32), q_mo (r118 l0 l1 l2 l3)) (l0 : Option Nat) (l1 : Int32) (l2 : Int32) (l3 : Int32) : q_mo (F_X13_isThere_118B κ r118 l0 l1 l2 l3) := (q_mo_rd fun v120 => (q_mo_rd fun v124 => (q_mo_br q_mo_rz (q_mo_rd fun v129 => (q_mo_rd fun v137 => (q_mo_rd fun v141 => (q_mo_rd fun v146 => (q_mo_br (M_X13_isThere_161 κ r118 mr118 l0 l1 l2 l3 v137) (q_mo_rd fun v151 => (q_mo_rd fun v156 => (q_mo_br (M_X13_isThere_182 κ r118 mr118 l0 l1 l2 l3) (M_X13_isThere_161 κ r118 mr118 l0 l1 l2 l3 v137))))))))))))
set_option maxRecDepth 100000 in
set_option maxHeartbeats 4000000 in
theorem S_X13_isThere_118B {E : q_Ev} {Γ : q_Gm} {w : (Int32 ⊕ q_Exn) × q_St} (B : q_Bd E Γ cX13_isThere yX13_isThere.cls 6 1 28 (some .boolean) yX13_isThere.name w) (hT : q_nT Γ) (r118 : Option Nat → Int32 → Int32 → Int32 → q_X Int32) (hr118 : ∀ (l0 : Option Nat) (l1 : Int32) (l2 : Int32) (l3 : Int32) (σ : q_St), r118 l0 l1 l2 l3 σ = some w → q_W E Γ (q_QF E Γ q_oI w) 6 σ 118 [(0, q_R l0), (1, q_I l1), (2, q_I l2), (3, q_I l3)] []) (mr118 : ∀ (l0 : Option Nat) (l1 : Int32) (l2 : Int32) (l3 : Int32), q_mo (r118 l0 l1 l2 l3)) (l0 : Option Nat) (l1 : Int32) (l2 : Int32) (l3 : Int32) (σ : q_St) (h : F_X13_isThere_118B (q_kap E) r118 l0 l1 l2 l3 σ = some w) : q_W E Γ (q_QF E Γ q_oI w) 6 σ 118 [(0, q_R l0), (1, q_I l1), (2, q_I l2), (3, q_I l3)] [] := by
  have C := B.1
  unfold F_X13_isThere_118B at h
  refine q_iload_n (pc := 118) C 3 rfl dX13_isThere_118 rfl ?_
  refine q_aload_n (pc := 119) C 0 rfl dX13_isThere_119 rfl ?_
  refine q_getA (pc := 120) C dX13_isThere_120 ql_X13_74 h (fun v120 h => ?_)
  refine q_iload_n (pc := 123) C 2 rfl dX13_isThere_123 rfl ?_
  refine q_ldI (pc := 124) C dX13_isThere_124 (Or.inr (Or.inl ⟨rfl, rfl⟩)) h (fun v124 h => ?_)
  refine q_icmp_ge (pc := 125) (tgt := 188) C dX13_isThere_125 (by decide) h (fun _ h => ?_) (fun _ h => ?_)
  · refine q_iconst (pc := 188) (v := (1 : Int32)) C dX13_isThere_188 (by decide) ?_
    exact q_zret C B.2.2.2.2.1 dX13_isThere_189 h
  · refine q_aload_n (pc := 128) C 0 rfl dX13_isThere_128 rfl ?_
    refine q_getA (pc := 129) C dX13_isThere_129 ql_X13_89 h (fun v129 h => ?_)
    refine q_iconst (pc := 132) (v := (5 : Int32)) C dX13_isThere_132 (by decide) ?_
    refine q_iload_n (pc := 133) C 2 rfl dX13_isThere_133 rfl ?_
    refine q_imul (pc := 134) C dX13_isThere_134 ?_
    refine q_iload_n (pc := 135) C 3 rfl dX13_isThere_135 rfl ?_
    refine q_iadd (pc := 136) C dX13_isThere_136 ?_
    refine q_ldI (pc := 137) C dX13_isThere_137 (Or.inr (Or.inl ⟨rfl, rfl⟩)) h (fun v137 h => ?_)
    refine q_istore (pc := 138) (l' := [(4, q_I v137), (0, q_R l0), (1, q_I l1), (2, q_I l2), (3, q_I l3)]) C dX13_isThere_138 (by decide) rfl ?_
    refine q_aload_n (pc := 140) C 1 rfl dX13_isThere_140 rfl ?_
    refine q_getA (pc := 141) C dX13_isThere_141 ql_X13_53 h (fun v141 h => ?_)
    refine q_iload (pc := 144) C 0 rfl dX13_isThere_144 ?_
    refine q_ldI (pc := 146) C dX13_isThere_146 (Or.inr (Or.inl ⟨rfl, rfl⟩)) h (fun v146 h => ?_)
    refine q_if_eq (pc := 147) (tgt := 161) C dX13_isThere_147 (by decide) h (fun _ h => ?_) (fun _ h => ?_)
    · refine q_W.sub [1, 2, 3, 4, 0] rfl ?_
      exact S_X13_isThere_161 B hT r118 hr118 mr118 l0 l1 l2 l3 v137 _ h
    · refine q_aload_n (pc := 150) C 1 rfl dX13_isThere_150 rfl ?_
      refine q_getA (pc := 151) C dX13_isThere_151 ql_X13_53 h (fun v151 h => ?_)
      refine q_iload (pc := 154) C 0 rfl dX13_isThere_154 ?_
      refine q_ldI (pc := 156) C dX13_isThere_156 (Or.inr (Or.inl ⟨rfl, rfl⟩)) h (fun v156 h => ?_)
      refine q_iconst (pc := 157) (v := (4 : Int32)) C dX13_isThere_157 (by decide) ?_
      refine q_icmp_ne (pc := 158) (tgt := 182) C dX13_isThere_158 (by decide) h (fun _ h => ?_) (fun _ h => ?_)
      · refine q_W.sub [1, 2, 3, 4] rfl ?_
        exact S_X13_isThere_182 B hT r118 hr118 mr118 l0 l1 l2 l3 _ h
      · refine q_W.sub [1, 2, 3, 4, 0] rfl ?_
        exact S_X13_isThere_161 B hT r118 hr118 mr118 l0 l1 l2 l3 v137 _ h
def F_X13_isThere_118 (κ : Nat → Nat) : Nat → Option Nat → Int32 → Int32 → Int32 → q_X Int32
  | 0, _, _, _, _ => q_no
  | n + 1, l0, l1, l2, l3 => F_X13_isThere_118B κ (F_X13_isThere_118 κ n) l0 l1 l2 l3
theorem M_X13_isThere_118 (κ : Nat → Nat) : ∀ (n : Nat) (l0 : Option Nat) (l1 : Int32) (l2 : Int32) (l3 : Int32), q_mo (F_X13_isThere_118 κ n l0 l1 l2 l3)
  | 0, _, _, _, _ => q_mo_no
  | n + 1, l0, l1, l2, l3 => M_X13_isThere_118B κ (F_X13_isThere_118 κ n) (M_X13_isThere_118 κ n) l0 l1 l2 l3
theorem S_X13_isThere_118 {E : q_Ev} {Γ : q_Gm} {w : (Int32 ⊕ q_Exn) × q_St} (B : q_Bd E Γ cX13_isThere yX13_isThere.cls 6 1 28 (some .boolean) yX13_isThere.name w) (hT : q_nT Γ) : ∀ (n : Nat) (l0 : Option Nat) (l1 : Int32) (l2 : Int32) (l3 : Int32) (σ : q_St), F_X13_isThere_118 (q_kap E) n l0 l1 l2 l3 σ = some w → q_W E Γ (q_QF E Γ q_oI w) 6 σ 118 [(0, q_R l0), (1, q_I l1), (2, q_I l2), (3, q_I l3)] []
  | 0, _, _, _, _, _, h => by cases h
  | n + 1, l0, l1, l2, l3, σ, h => S_X13_isThere_118B B hT (F_X13_isThere_118 (q_kap E) n) (S_X13_isThere_118 B hT n) (M_X13_isThere_118 (q_kap E) n) l0 l1 l2 l3 σ h
def F_X13_isThere_2B (κ : Nat → Nat) (r2 : Option Nat → Int32 → Int32 → Int32 → q_X Int32) (l0 : Option Nat) (l1 : Int32) (l2 : Int32) (l3 : Int32) : q_X Int32 :=
  q_rd (q_gA l0 16 33) fun v4 => q_rd (q_lI 1 v4 l2) fun v8 => q_br (v8 ≤ l3) (F_X13_isThere_118 κ q_fu l0 l1 l2 (0 : Int32)) (q_br ((4096 : Int32) ≤ (l1 + l3)) (F_X13_isThere_32 κ) (q_rd (q_gA l0 16 41) fun v22 => q_rd (q_lI 3 v22 (l1 + l3)) fun v28 => q_br (¬ v28 = 0) (F_X13_isThere_37 κ r2 q_fu l0 l1 l2 l3 (0 : Int32)) (F_X13_isThere_32 κ)))
theorem M_X13_isThere_2B (κ : Nat → Nat) (r2 : Option Nat → Int32 → Int32 → Int32 → q_X Int32) (mr2 : ∀ (l0 : Option Nat) (l1 : Int32) (l2 : Int32) (l3 : Int32), q_mo (r2 l0 l1 l2 l3)) (l0 : Option Nat) (l1 : Int32) (l2 : Int32) (l3 : Int32) : q_mo (F_X13_isThere_2B κ r2 l0 l1 l2 l3) := (q_mo_rd fun v4 => (q_mo_rd fun v8 => (q_mo_br (M_X13_isThere_118 κ q_fu l0 l1 l2 (0 : Int32)) (q_mo_br (M_X13_isThere_32 κ) (q_mo_rd fun v22 => (q_mo_rd fun v28 => (q_mo_br (M_X13_isThere_37 κ r2 mr2 q_fu l0 l1 l2 l3 (0 : Int32)) (M_X13_isThere_32 κ))))))))
set_option maxRecDepth 100000 in
set_option maxHeartbeats 4000000 in
theorem S_X13_isThere_2B {E : q_Ev} {Γ : q_Gm} {w : (Int32 ⊕ q_Exn) × q_St} (B : q_Bd E Γ cX13_isThere yX13_isThere.cls 6 1 28 (some .boolean) yX13_isThere.name w) (hT : q_nT Γ) (r2 : Option Nat → Int32 → Int32 → Int32 → q_X Int32) (hr2 : ∀ (l0 : Option Nat) (l1 : Int32) (l2 : Int32) (l3 : Int32) (σ : q_St), r2 l0 l1 l2 l3 σ = some w → q_W E Γ (q_QF E Γ q_oI w) 6 σ 2 [(0, q_R l0), (1, q_I l1), (2, q_I l2), (3, q_I l3)] []) (mr2 : ∀ (l0 : Option Nat) (l1 : Int32) (l2 : Int32) (l3 : Int32), q_mo (r2 l0 l1 l2 l3)) (l0 : Option Nat) (l1 : Int32) (l2 : Int32) (l3 : Int32) (σ : q_St) (h : F_X13_isThere_2B (q_kap E) r2 l0 l1 l2 l3 σ = some w) : q_W E Γ (q_QF E Γ q_oI w) 6 σ 2 [(0, q_R l0), (1, q_I l1), (2, q_I l2), (3, q_I l3)] [] := by
  have C := B.1
  unfold F_X13_isThere_2B at h
  refine q_iload_n (pc := 2) C 3 rfl dX13_isThere_2 rfl ?_
  refine q_aload_n (pc := 3) C 0 rfl dX13_isThere_3 rfl ?_
  refine q_getA (pc := 4) C dX13_isThere_4 ql_X13_77 h (fun v4 h => ?_)
  refine q_iload_n (pc := 7) C 2 rfl dX13_isThere_7 rfl ?_
  refine q_ldI (pc := 8) C dX13_isThere_8 (Or.inr (Or.inl ⟨rfl, rfl⟩)) h (fun v8 h => ?_)
  refine q_icmp_ge (pc := 9) (tgt := 116) C dX13_isThere_9 (by decide) h (fun _ h => ?_) (fun _ h => ?_)
  · refine q_iconst (pc := 116) (v := (0 : Int32)) C dX13_isThere_116 (by decide) ?_
    refine q_istore_n (pc := 117) (l' := [(3, q_I (0 : Int32)), (0, q_R l0), (1, q_I l1), (2, q_I l2)]) C dX13_isThere_117 rfl (by decide) rfl ?_
    refine q_W.sub [1, 2, 3, 0] rfl ?_
    exact S_X13_isThere_118 B hT q_fu l0 l1 l2 (0 : Int32) _ h
  · refine q_iload_n (pc := 12) C 1 rfl dX13_isThere_12 rfl ?_
    refine q_iload_n (pc := 13) C 3 rfl dX13_isThere_13 rfl ?_
    refine q_iadd (pc := 14) C dX13_isThere_14 ?_
    refine q_sipush (pc := 15) (v := (4096 : Int32)) C dX13_isThere_15 (by decide) ?_
    refine q_icmp_ge (pc := 18) (tgt := 32) C dX13_isThere_18 (by decide) h (fun _ h => ?_) (fun _ h => ?_)
    · refine q_W.sub [] rfl ?_
      exact S_X13_isThere_32 B hT _ h
    · refine q_aload_n (pc := 21) C 0 rfl dX13_isThere_21 rfl ?_
      refine q_getA (pc := 22) C dX13_isThere_22 ql_X13_101 h (fun v22 h => ?_)
      refine q_iload_n (pc := 25) C 1 rfl dX13_isThere_25 rfl ?_
      refine q_iload_n (pc := 26) C 3 rfl dX13_isThere_26 rfl ?_
      refine q_iadd (pc := 27) C dX13_isThere_27 ?_
      refine q_ldI (pc := 28) C dX13_isThere_28 (Or.inr (Or.inr ⟨rfl, rfl⟩)) h (fun v28 h => ?_)
      refine q_if_ne (pc := 29) (tgt := 34) C dX13_isThere_29 (by decide) h (fun _ h => ?_) (fun _ h => ?_)
      · refine q_iconst (pc := 34) (v := (0 : Int32)) C dX13_isThere_34 (by decide) ?_
        refine q_istore (pc := 35) (l' := [(4, q_I (0 : Int32)), (0, q_R l0), (1, q_I l1), (2, q_I l2), (3, q_I l3)]) C dX13_isThere_35 (by decide) rfl ?_
        refine q_W.sub [1, 2, 3, 4, 0] rfl ?_
        exact S_X13_isThere_37 B hT r2 hr2 mr2 q_fu l0 l1 l2 l3 (0 : Int32) _ h
      · refine q_W.sub [] rfl ?_
        exact S_X13_isThere_32 B hT _ h
def F_X13_isThere_2 (κ : Nat → Nat) : Nat → Option Nat → Int32 → Int32 → Int32 → q_X Int32
  | 0, _, _, _, _ => q_no
  | n + 1, l0, l1, l2, l3 => F_X13_isThere_2B κ (F_X13_isThere_2 κ n) l0 l1 l2 l3
theorem M_X13_isThere_2 (κ : Nat → Nat) : ∀ (n : Nat) (l0 : Option Nat) (l1 : Int32) (l2 : Int32) (l3 : Int32), q_mo (F_X13_isThere_2 κ n l0 l1 l2 l3)
  | 0, _, _, _, _ => q_mo_no
  | n + 1, l0, l1, l2, l3 => M_X13_isThere_2B κ (F_X13_isThere_2 κ n) (M_X13_isThere_2 κ n) l0 l1 l2 l3
theorem S_X13_isThere_2 {E : q_Ev} {Γ : q_Gm} {w : (Int32 ⊕ q_Exn) × q_St} (B : q_Bd E Γ cX13_isThere yX13_isThere.cls 6 1 28 (some .boolean) yX13_isThere.name w) (hT : q_nT Γ) : ∀ (n : Nat) (l0 : Option Nat) (l1 : Int32) (l2 : Int32) (l3 : Int32) (σ : q_St), F_X13_isThere_2 (q_kap E) n l0 l1 l2 l3 σ = some w → q_W E Γ (q_QF E Γ q_oI w) 6 σ 2 [(0, q_R l0), (1, q_I l1), (2, q_I l2), (3, q_I l3)] []
  | 0, _, _, _, _, _, h => by cases h
  | n + 1, l0, l1, l2, l3, σ, h => S_X13_isThere_2B B hT (F_X13_isThere_2 (q_kap E) n) (S_X13_isThere_2 B hT n) (M_X13_isThere_2 (q_kap E) n) l0 l1 l2 l3 σ h
def F_X13_isThere (κ : Nat → Nat) (l0 : Option Nat) (l1 : Int32) (l2 : Int32) : q_X Int32 :=
  F_X13_isThere_2 κ q_fu l0 l1 l2 (0 : Int32)
theorem M_X13_isThere (κ : Nat → Nat) (l0 : Option Nat) (l1 : Int32) (l2 : Int32) : q_mo (F_X13_isThere κ l0 l1 l2) := (M_X13_isThere_2 κ q_fu l0 l1 l2 (0 : Int32))
set_option maxRecDepth 100000 in
set_option maxHeartbeats 4000000 in
theorem K_X13_isThere {E : q_Ev} (l0 : Option Nat) (l1 : Int32) (l2 : Int32) : q_Ct E yX13_isThere (.code yX13_isThere cX13_isThere 6 (some .boolean)) 1 28 [q_R l0, q_I l1, q_I l2] q_oI (F_X13_isThere (q_kap E) l0 l1 l2) := by
  refine q_enter (by decide) (Nat.le_of_ble_eq_true rfl) (fun Γ σ w h B hT => ?_)
  have C := B.1
  unfold F_X13_isThere at h
  refine q_iconst (pc := 0) (v := (0 : Int32)) C dX13_isThere_0 (by decide) ?_
  refine q_istore_n (pc := 1) (l' := [(3, q_I (0 : Int32)), (0, q_R l0), (1, q_I l1), (2, q_I l2)]) C dX13_isThere_1 rfl (by decide) rfl ?_
  refine q_W.sub [1, 2, 3, 0] rfl ?_
  exact S_X13_isThere_2 B hT q_fu l0 l1 l2 (0 : Int32) _ h
def F_X13_lists_42 (κ : Nat → Nat) (r4 : Option Nat → Int32 → Int32 → Int32 → q_X Unit) (l0 : Option Nat) (l1 : Int32) (l2 : Int32) (l3 : Int32) : q_X Unit :=
  r4 l0 l1 l2 (l3 + (1 : Int32))
theorem M_X13_lists_42 (κ : Nat → Nat) (r4 : Option Nat → Int32 → Int32 → Int32 → q_X Unit) (mr4 : ∀ (l0 : Option Nat) (l1 : Int32) (l2 : Int32) (l3 : Int32), q_mo (r4 l0 l1 l2 l3)) (l0 : Option Nat) (l1 : Int32) (l2 : Int32) (l3 : Int32) : q_mo (F_X13_lists_42 κ r4 l0 l1 l2 l3) := (mr4 l0 l1 l2 (l3 + (1 : Int32)))
set_option maxRecDepth 100000 in
set_option maxHeartbeats 4000000 in
theorem S_X13_lists_42 {E : q_Ev} {Γ : q_Gm} {w : (Unit ⊕ q_Exn) × q_St} (B : q_Bd E Γ cX13_lists yX13_lists.cls 11 4 85 (none) yX13_lists.name w) (hT : q_nT Γ) (r4 : Option Nat → Int32 → Int32 → Int32 → q_X Unit) (hr4 : ∀ (l0 : Option Nat) (l1 : Int32) (l2 : Int32) (l3 : Int32) (σ : q_St), r4 l0 l1 l2 l3 σ = some w → q_W E Γ (q_QF E Γ q_oV w) 11 σ 4 [(0, q_R l0), (1, q_I l1), (2, q_I l2), (3, q_I l3)] []) (mr4 : ∀ (l0 : Option Nat) (l1 : Int32) (l2 : Int32) (l3 : Int32), q_mo (r4 l0 l1 l2 l3)) (l0 : Option Nat) (l1 : Int32) (l2 : Int32) (l3 : Int32) (σ : q_St) (h : F_X13_lists_42 (q_kap E) r4 l0 l1 l2 l3 σ = some w) : q_W E Γ (q_QF E Γ q_oV w) 11 σ 42 [(0, q_R l0), (1, q_I l1), (2, q_I l2), (3, q_I l3)] [] := by
  have C := B.1
  unfold F_X13_lists_42 at h
  refine q_iinc (pc := 42) (v := (1 : Int32)) (l' := [(3, q_I (l3 + (1 : Int32))), (0, q_R l0), (1, q_I l1), (2, q_I l2)]) C 3 rfl dX13_lists_42 (by decide) (by decide) rfl ?_
  refine q_goto (pc := 45) (tgt := 4) C dX13_lists_45 (by decide) ?_
  refine q_W.sub [1, 2, 3, 0] rfl ?_
  exact hr4 l0 l1 l2 (l3 + (1 : Int32)) _ h
def F_X13_lists_40 (κ : Nat → Nat) (r4 : Option Nat → Int32 → Int32 → Int32 → q_X Unit) (l0 : Option Nat) (l1 : Int32) (l3 : Int32) : q_X Unit :=
  F_X13_lists_42 κ r4 l0 l1 l3 l3
theorem M_X13_lists_40 (κ : Nat → Nat) (r4 : Option Nat → Int32 → Int32 → Int32 → q_X Unit) (mr4 : ∀ (l0 : Option Nat) (l1 : Int32) (l2 : Int32) (l3 : Int32), q_mo (r4 l0 l1 l2 l3)) (l0 : Option Nat) (l1 : Int32) (l3 : Int32) : q_mo (F_X13_lists_40 κ r4 l0 l1 l3) := (M_X13_lists_42 κ r4 mr4 l0 l1 l3 l3)
set_option maxRecDepth 100000 in
set_option maxHeartbeats 4000000 in
theorem S_X13_lists_40 {E : q_Ev} {Γ : q_Gm} {w : (Unit ⊕ q_Exn) × q_St} (B : q_Bd E Γ cX13_lists yX13_lists.cls 11 4 85 (none) yX13_lists.name w) (hT : q_nT Γ) (r4 : Option Nat → Int32 → Int32 → Int32 → q_X Unit) (hr4 : ∀ (l0 : Option Nat) (l1 : Int32) (l2 : Int32) (l3 : Int32) (σ : q_St), r4 l0 l1 l2 l3 σ = some w → q_W E Γ (q_QF E Γ q_oV w) 11 σ 4 [(0, q_R l0), (1, q_I l1), (2, q_I l2), (3, q_I l3)] []) (mr4 : ∀ (l0 : Option Nat) (l1 : Int32) (l2 : Int32) (l3 : Int32), q_mo (r4 l0 l1 l2 l3)) (l0 : Option Nat) (l1 : Int32) (l3 : Int32) (σ : q_St) (h : F_X13_lists_40 (q_kap E) r4 l0 l1 l3 σ = some w) : q_W E Γ (q_QF E Γ q_oV w) 11 σ 40 [(0, q_R l0), (1, q_I l1), (3, q_I l3)] [] := by
  have C := B.1
  unfold F_X13_lists_40 at h
  refine q_iload_n (pc := 40) C 2 rfl dX13_lists_40 rfl ?_
  refine q_istore_n (pc := 41) (l' := [(2, q_I l3), (0, q_R l0), (1, q_I l1), (3, q_I l3)]) C dX13_lists_41 rfl (by decide) rfl ?_
  refine q_W.sub [1, 2, 0, 3] rfl ?_
  exact S_X13_lists_42 B hT r4 hr4 mr4 l0 l1 l3 l3 _ h
def F_X13_lists_69B (κ : Nat → Nat) (r69 : Option Nat → Int32 → Option Nat → Int32 → q_X Unit) (l0 : Option Nat) (l1 : Int32) (l3 : Option Nat) (l4 : Int32) : q_X Unit :=
  q_rd (q_sp l3 0) fun _ => q_ca (F_J0_length_8abf5 κ l3) fun v72 => q_br (v72 ≤ l4) (q_rd (q_gA l0 16 40) fun v96 => q_rd (q_lL v96 l1) fun v100 => q_rd (q_is l0 16) fun _ => q_ca (F_X13_sayNumber κ l0 v100) fun _v101 => q_rt ()) (q_rd (q_sp l3 0) fun _ => q_ca (F_J0_charAt_5068e κ l3 l4) fun v82 => q_rd (q_is l0 16) fun _ => q_ca (F_X13_say κ l0 v82) fun _v85 => r69 l0 l1 l3 (l4 + (1 : Int32)))
theorem M_X13_lists_69B (κ : Nat → Nat) (r69 : Option Nat → Int32 → Option Nat → Int32 → q_X Unit) (mr69 : ∀ (l0 : Option Nat) (l1 : Int32) (l3 : Option Nat) (l4 : Int32), q_mo (r69 l0 l1 l3 l4)) (l0 : Option Nat) (l1 : Int32) (l3 : Option Nat) (l4 : Int32) : q_mo (F_X13_lists_69B κ r69 l0 l1 l3 l4) := (q_mo_rd fun _ => q_mo_ca (M_J0_length_8abf5 κ l3) fun v72 => (q_mo_br (q_mo_rd fun v96 => (q_mo_rd fun v100 => (q_mo_rd fun _ => q_mo_ca (M_X13_sayNumber κ l0 v100) fun _v101 => q_mo_rt))) (q_mo_rd fun _ => q_mo_ca (M_J0_charAt_5068e κ l3 l4) fun v82 => (q_mo_rd fun _ => q_mo_ca (M_X13_say κ l0 v82) fun _v85 => (mr69 l0 l1 l3 (l4 + (1 : Int32)))))))
set_option maxRecDepth 100000 in
set_option maxHeartbeats 4000000 in
theorem S_X13_lists_69B {E : q_Ev} {Γ : q_Gm} {w : (Unit ⊕ q_Exn) × q_St} (B : q_Bd E Γ cX13_lists yX13_lists.cls 11 4 85 (none) yX13_lists.name w) (hT : q_nT Γ) (r69 : Option Nat → Int32 → Option Nat → Int32 → q_X Unit) (hr69 : ∀ (l0 : Option Nat) (l1 : Int32) (l3 : Option Nat) (l4 : Int32) (σ : q_St), r69 l0 l1 l3 l4 σ = some w → q_W E Γ (q_QF E Γ q_oV w) 11 σ 69 [(0, q_R l0), (1, q_I l1), (3, q_R l3), (4, q_I l4)] []) (mr69 : ∀ (l0 : Option Nat) (l1 : Int32) (l3 : Option Nat) (l4 : Int32), q_mo (r69 l0 l1 l3 l4)) (l0 : Option Nat) (l1 : Int32) (l3 : Option Nat) (l4 : Int32) (σ : q_St) (h : F_X13_lists_69B (q_kap E) r69 l0 l1 l3 l4 σ = some w) : q_W E Γ (q_QF E Γ q_oV w) 11 σ 69 [(0, q_R l0), (1, q_I l1), (3, q_R l3), (4, q_I l4)] [] := by
  have C := B.1
  unfold F_X13_lists_69B at h
  refine q_iload (pc := 69) C 3 rfl dX13_lists_69 ?_
  refine q_aload_n (pc := 71) C 2 rfl dX13_lists_71 rfl ?_
  refine q_callVS (pc := 72) (As := []) (st := [q_I l4]) (ps := q_psI) C B.2.1 hT q_hpI qm_X13_182 qv_J0_length_8abf5 dX13_lists_72 rfl rfl (Nat.le_of_ble_eq_true rfl) (q_flo B.2.2.1 B.2.2.2.1 (by decide) (by decide)) (K_J0_length_8abf5 l3) (M_J0_length_8abf5 (q_kap E) l3) (by exact fun v72 => (q_mo_br (q_mo_rd fun v96 => (q_mo_rd fun v100 => (q_mo_rd fun _ => q_mo_ca (M_X13_sayNumber (q_kap E) l0 v100) fun _v101 => q_mo_rt))) (q_mo_rd fun _ => q_mo_ca (M_J0_charAt_5068e (q_kap E) l3 l4) fun v82 => (q_mo_rd fun _ => q_mo_ca (M_X13_say (q_kap E) l0 v82) fun _v85 => (mr69 l0 l1 l3 (l4 + (1 : Int32))))))) h (fun v72 σ h => ?_)
  refine q_W.st (st' := [q_I v72, q_I l4]) rfl ?_
  refine q_icmp_ge (pc := 75) (tgt := 94) C dX13_lists_75 (by decide) h (fun _ h => ?_) (fun _ h => ?_)
  · refine q_aload_n (pc := 94) C 0 rfl dX13_lists_94 rfl ?_
    refine q_aload_n (pc := 95) C 0 rfl dX13_lists_95 rfl ?_
    refine q_getA (pc := 96) C dX13_lists_96 ql_X13_98 h (fun v96 h => ?_)
    refine q_iload_n (pc := 99) C 1 rfl dX13_lists_99 rfl ?_
    refine q_ldL (pc := 100) C dX13_lists_100 h (fun v100 h => ?_)
    refine q_callV (pc := 101) (As := [q_L v100]) (st := []) (ps := q_psV) C B.2.1 hT q_hpV qm_X13_357 qv_X13_sayNumber dX13_lists_101 rfl rfl (Nat.le_of_ble_eq_true rfl) (q_flo B.2.2.1 B.2.2.2.1 (by decide) (by decide)) (K_X13_sayNumber l0 v100) (M_X13_sayNumber (q_kap E) l0 v100) (by exact fun _v101 => q_mo_rt) h (fun _v101 σ h => ?_)
    refine q_W.st (st' := []) rfl ?_
    exact q_vret C B.2.2.2.2.1 dX13_lists_104 h
  · refine q_aload_n (pc := 78) C 0 rfl dX13_lists_78 rfl ?_
    refine q_aload_n (pc := 79) C 2 rfl dX13_lists_79 rfl ?_
    refine q_iload (pc := 80) C 3 rfl dX13_lists_80 ?_
    refine q_callVS (pc := 82) (As := [q_I l4]) (st := [q_R l0]) (ps := q_psI) C B.2.1 hT q_hpI qm_X13_186 qv_J0_charAt_5068e dX13_lists_82 rfl rfl (Nat.le_of_ble_eq_true rfl) (q_flo B.2.2.1 B.2.2.2.1 (by decide) (by decide)) (K_J0_charAt_5068e l3 l4) (M_J0_charAt_5068e (q_kap E) l3 l4) (by exact fun v82 => (q_mo_rd fun _ => q_mo_ca (M_X13_say (q_kap E) l0 v82) fun _v85 => (mr69 l0 l1 l3 (l4 + (1 : Int32))))) h (fun v82 σ h => ?_)
    refine q_W.st (st' := [q_I v82, q_R l0]) rfl ?_
    refine q_callV (pc := 85) (As := [q_I v82]) (st := []) (ps := q_psV) C B.2.1 hT q_hpV qm_X13_342 qv_X13_say dX13_lists_85 rfl rfl (Nat.le_of_ble_eq_true rfl) (q_flo B.2.2.1 B.2.2.2.1 (by decide) (by decide)) (K_X13_say l0 v82) (M_X13_say (q_kap E) l0 v82) (by exact fun _v85 => (mr69 l0 l1 l3 (l4 + (1 : Int32)))) h (fun _v85 σ h => ?_)
    refine q_W.st (st' := []) rfl ?_
    refine q_iinc (pc := 88) (v := (1 : Int32)) (l' := [(4, q_I (l4 + (1 : Int32))), (0, q_R l0), (1, q_I l1), (3, q_R l3)]) C 3 rfl dX13_lists_88 (by decide) (by decide) rfl ?_
    refine q_goto (pc := 91) (tgt := 69) C dX13_lists_91 (by decide) ?_
    refine q_W.sub [1, 2, 3, 0] rfl ?_
    exact hr69 l0 l1 l3 (l4 + (1 : Int32)) _ h
def F_X13_lists_69 (κ : Nat → Nat) : Nat → Option Nat → Int32 → Option Nat → Int32 → q_X Unit
  | 0, _, _, _, _ => q_no
  | n + 1, l0, l1, l3, l4 => F_X13_lists_69B κ (F_X13_lists_69 κ n) l0 l1 l3 l4
theorem M_X13_lists_69 (κ : Nat → Nat) : ∀ (n : Nat) (l0 : Option Nat) (l1 : Int32) (l3 : Option Nat) (l4 : Int32), q_mo (F_X13_lists_69 κ n l0 l1 l3 l4)
  | 0, _, _, _, _ => q_mo_no
  | n + 1, l0, l1, l3, l4 => M_X13_lists_69B κ (F_X13_lists_69 κ n) (M_X13_lists_69 κ n) l0 l1 l3 l4
theorem S_X13_lists_69 {E : q_Ev} {Γ : q_Gm} {w : (Unit ⊕ q_Exn) × q_St} (B : q_Bd E Γ cX13_lists yX13_lists.cls 11 4 85 (none) yX13_lists.name w) (hT : q_nT Γ) : ∀ (n : Nat) (l0 : Option Nat) (l1 : Int32) (l3 : Option Nat) (l4 : Int32) (σ : q_St), F_X13_lists_69 (q_kap E) n l0 l1 l3 l4 σ = some w → q_W E Γ (q_QF E Γ q_oV w) 11 σ 69 [(0, q_R l0), (1, q_I l1), (3, q_R l3), (4, q_I l4)] []
  | 0, _, _, _, _, _, h => by cases h
  | n + 1, l0, l1, l3, l4, σ, h => S_X13_lists_69B B hT (F_X13_lists_69 (q_kap E) n) (S_X13_lists_69 B hT n) (M_X13_lists_69 (q_kap E) n) l0 l1 l3 l4 σ h
def F_X13_lists_347 (κ : Nat → Nat) (r132 : Option Nat → Int32 → Int32 → Int32 → q_X Unit) (l0 : Option Nat) (l1 : Int32) (l2 : Int32) (l3 : Int32) : q_X Unit :=
  r132 l0 l1 l2 (l3 + (1 : Int32))
theorem M_X13_lists_347 (κ : Nat → Nat) (r132 : Option Nat → Int32 → Int32 → Int32 → q_X Unit) (mr132 : ∀ (l0 : Option Nat) (l1 : Int32) (l2 : Int32) (l3 : Int32), q_mo (r132 l0 l1 l2 l3)) (l0 : Option Nat) (l1 : Int32) (l2 : Int32) (l3 : Int32) : q_mo (F_X13_lists_347 κ r132 l0 l1 l2 l3) := (mr132 l0 l1 l2 (l3 + (1 : Int32)))
set_option maxRecDepth 100000 in
set_option maxHeartbeats 4000000 in
theorem S_X13_lists_347 {E : q_Ev} {Γ : q_Gm} {w : (Unit ⊕ q_Exn) × q_St} (B : q_Bd E Γ cX13_lists yX13_lists.cls 11 4 85 (none) yX13_lists.name w) (hT : q_nT Γ) (r132 : Option Nat → Int32 → Int32 → Int32 → q_X Unit) (hr132 : ∀ (l0 : Option Nat) (l1 : Int32) (l2 : Int32) (l3 : Int32) (σ : q_St), r132 l0 l1 l2 l3 σ = some w → q_W E Γ (q_QF E Γ q_oV w) 11 σ 132 [(0, q_R l0), (1, q_I l1), (2, q_I l2), (3, q_I l3)] []) (mr132 : ∀ (l0 : Option Nat) (l1 : Int32) (l2 : Int32) (l3 : Int32), q_mo (r132 l0 l1 l2 l3)) (l0 : Option Nat) (l1 : Int32) (l2 : Int32) (l3 : Int32) (σ : q_St) (h : F_X13_lists_347 (q_kap E) r132 l0 l1 l2 l3 σ = some w) : q_W E Γ (q_QF E Γ q_oV w) 11 σ 347 [(0, q_R l0), (1, q_I l1), (2, q_I l2), (3, q_I l3)] [] := by
  have C := B.1
  unfold F_X13_lists_347 at h
  refine q_iinc (pc := 347) (v := (1 : Int32)) (l' := [(3, q_I (l3 + (1 : Int32))), (0, q_R l0), (1, q_I l1), (2, q_I l2)]) C 3 rfl dX13_lists_347 (by decide) (by decide) rfl ?_
  refine q_goto (pc := 350) (tgt := 132) C dX13_lists_350 (by decide) ?_
  refine q_W.sub [1, 2, 3, 0] rfl ?_
  exact hr132 l0 l1 l2 (l3 + (1 : Int32)) _ h
def F_X13_lists_344 (κ : Nat → Nat) (r132 : Option Nat → Int32 → Int32 → Int32 → q_X Unit) (l0 : Option Nat) (l1 : Int32) (l2 : Int32) (l3 : Int32) (s0 : Option Nat) (s1 : Int64) : q_X Unit :=
  q_rd (q_is s0 16) fun _ => q_ca (F_X13_sayNumber κ s0 s1) fun _v344 => F_X13_lists_347 κ r132 l0 l1 l2 l3
theorem M_X13_lists_344 (κ : Nat → Nat) (r132 : Option Nat → Int32 → Int32 → Int32 → q_X Unit) (mr132 : ∀ (l0 : Option Nat) (l1 : Int32) (l2 : Int32) (l3 : Int32), q_mo (r132 l0 l1 l2 l3)) (l0 : Option Nat) (l1 : Int32) (l2 : Int32) (l3 : Int32) (s0 : Option Nat) (s1 : Int64) : q_mo (F_X13_lists_344 κ r132 l0 l1 l2 l3 s0 s1) := (q_mo_rd fun _ => q_mo_ca (M_X13_sayNumber κ s0 s1) fun _v344 => (M_X13_lists_347 κ r132 mr132 l0 l1 l2 l3))
set_option maxRecDepth 100000 in
set_option maxHeartbeats 4000000 in
theorem S_X13_lists_344 {E : q_Ev} {Γ : q_Gm} {w : (Unit ⊕ q_Exn) × q_St} (B : q_Bd E Γ cX13_lists yX13_lists.cls 11 4 85 (none) yX13_lists.name w) (hT : q_nT Γ) (r132 : Option Nat → Int32 → Int32 → Int32 → q_X Unit) (hr132 : ∀ (l0 : Option Nat) (l1 : Int32) (l2 : Int32) (l3 : Int32) (σ : q_St), r132 l0 l1 l2 l3 σ = some w → q_W E Γ (q_QF E Γ q_oV w) 11 σ 132 [(0, q_R l0), (1, q_I l1), (2, q_I l2), (3, q_I l3)] []) (mr132 : ∀ (l0 : Option Nat) (l1 : Int32) (l2 : Int32) (l3 : Int32), q_mo (r132 l0 l1 l2 l3)) (l0 : Option Nat) (l1 : Int32) (l2 : Int32) (l3 : Int32) (s0 : Option Nat) (s1 : Int64) (σ : q_St) (h : F_X13_lists_344 (q_kap E) r132 l0 l1 l2 l3 s0 s1 σ = some w) : q_W E Γ (q_QF E Γ q_oV w) 11 σ 344 [(0, q_R l0), (1, q_I l1), (2, q_I l2), (3, q_I l3)] [q_L s1, q_R s0] := by
  have C := B.1
  unfold F_X13_lists_344 at h
  refine q_callV (pc := 344) (As := [q_L s1]) (st := []) (ps := q_psV) C B.2.1 hT q_hpV qm_X13_357 qv_X13_sayNumber dX13_lists_344 rfl rfl (Nat.le_of_ble_eq_true rfl) (q_flo B.2.2.1 B.2.2.2.1 (by decide) (by decide)) (K_X13_sayNumber s0 s1) (M_X13_sayNumber (q_kap E) s0 s1) (by exact fun _v344 => (M_X13_lists_347 (q_kap E) r132 mr132 l0 l1 l2 l3)) h (fun _v344 σ h => ?_)
  refine q_W.st (st' := []) rfl ?_
  exact S_X13_lists_347 B hT r132 hr132 mr132 l0 l1 l2 l3 _ h
def F_X13_lists_242 (κ : Nat → Nat) (r132 : Option Nat → Int32 → Int32 → Int32 → q_X Unit) (l0 : Option Nat) (l1 : Int32) (l2 : Int32) (l3 : Int32) (l5 : Int32) (l7 : Int64) (s0 : Int64) : q_X Unit :=
  q_rd (q_gA l0 16 25) fun v245 => q_rd (q_lI 1 v245 l5) fun v250 => q_br (¬ v250 = 0) (q_rd (q_gA l0 16 25) fun v275 => q_rd (q_lI 1 v275 l5) fun v280 => q_br (¬ v280 = (4 : Int32)) (q_rd (q_gA l0 16 25) fun v308 => q_rd (q_lI 1 v308 l5) fun v313 => q_br (¬ v313 = (1 : Int32)) (q_rd (q_gA l0 16 25) fun v324 => q_rd (q_lI 1 v324 l5) fun v329 => q_br (¬ v329 = (2 : Int32)) (F_X13_lists_344 κ r132 l0 l1 l2 l3 l0 (l1.toInt64 + s0)) (F_X13_lists_344 κ r132 l0 l1 l2 l3 l0 s0)) (F_X13_lists_344 κ r132 l0 l1 l2 l3 l0 l7)) (q_rd (q_gA l0 16 29) fun v287 => q_rd (q_lI 1 v287 (((32 : Int32) * l5) + l7.toInt32)) fun v299 => q_rd (q_is l0 16) fun _ => q_ca (F_X13_sayName κ l0 v299) fun _v300 => F_X13_lists_347 κ r132 l0 l1 l2 l3)) (q_rd (q_gA l0 16 26) fun v256 => q_rd (q_lI 1 v256 l5) fun v261 => q_rd (q_is l0 16) fun _ => q_ca (F_X13_sayName κ l0 v261) fun _v262 => q_rd (q_is l0 16) fun _ => q_ca (F_X13_sayNumber κ l0 l7) fun _v268 => F_X13_lists_347 κ r132 l0 l1 l2 l3)
theorem M_X13_lists_242 (κ : Nat → Nat) (r132 : Option Nat → Int32 → Int32 → Int32 → q_X Unit) (mr132 : ∀ (l0 : Option Nat) (l1 : Int32) (l2 : Int32) (l3 : Int32), q_mo (r132 l0 l1 l2 l3)) (l0 : Option Nat) (l1 : Int32) (l2 : Int32) (l3 : Int32) (l5 : Int32) (l7 : Int64) (s0 : Int64) : q_mo (F_X13_lists_242 κ r132 l0 l1 l2 l3 l5 l7 s0) := (q_mo_rd fun v245 => (q_mo_rd fun v250 => (q_mo_br (q_mo_rd fun v275 => (q_mo_rd fun v280 => (q_mo_br (q_mo_rd fun v308 => (q_mo_rd fun v313 => (q_mo_br (q_mo_rd fun v324 => (q_mo_rd fun v329 => (q_mo_br (M_X13_lists_344 κ r132 mr132 l0 l1 l2 l3 l0 (l1.toInt64 + s0)) (M_X13_lists_344 κ r132 mr132 l0 l1 l2 l3 l0 s0)))) (M_X13_lists_344 κ r132 mr132 l0 l1 l2 l3 l0 l7)))) (q_mo_rd fun v287 => (q_mo_rd fun v299 => (q_mo_rd fun _ => q_mo_ca (M_X13_sayName κ l0 v299) fun _v300 => (M_X13_lists_347 κ r132 mr132 l0 l1 l2 l3))))))) (q_mo_rd fun v256 => (q_mo_rd fun v261 => (q_mo_rd fun _ => q_mo_ca (M_X13_sayName κ l0 v261) fun _v262 => (q_mo_rd fun _ => q_mo_ca (M_X13_sayNumber κ l0 l7) fun _v268 => (M_X13_lists_347 κ r132 mr132 l0 l1 l2 l3))))))))
set_option maxRecDepth 100000 in
set_option maxHeartbeats 4000000 in
theorem S_X13_lists_242 {E : q_Ev} {Γ : q_Gm} {w : (Unit ⊕ q_Exn) × q_St} (B : q_Bd E Γ cX13_lists yX13_lists.cls 11 4 85 (none) yX13_lists.name w) (hT : q_nT Γ) (r132 : Option Nat → Int32 → Int32 → Int32 → q_X Unit) (hr132 : ∀ (l0 : Option Nat) (l1 : Int32) (l2 : Int32) (l3 : Int32) (σ : q_St), r132 l0 l1 l2 l3 σ = some w → q_W E Γ (q_QF E Γ q_oV w) 11 σ 132 [(0, q_R l0), (1, q_I l1), (2, q_I l2), (3, q_I l3)] []) (mr132 : ∀ (l0 : Option Nat) (l1 : Int32) (l2 : Int32) (l3 : Int32), q_mo (r132 l0 l1 l2 l3)) (l0 : Option Nat) (l1 : Int32) (l2 : Int32) (l3 : Int32) (l5 : Int32) (l7 : Int64) (s0 : Int64) (σ : q_St) (h : F_X13_lists_242 (q_kap E) r132 l0 l1 l2 l3 l5 l7 s0 σ = some w) : q_W E Γ (q_QF E Γ q_oV w) 11 σ 242 [(0, q_R l0), (1, q_I l1), (2, q_I l2), (3, q_I l3), (5, q_I l5), (7, q_L l7)] [q_L s0] := by
  have C := B.1
  unfold F_X13_lists_242 at h
  refine q_lstore (pc := 242) (l' := [(9, q_L s0), (0, q_R l0), (1, q_I l1), (2, q_I l2), (3, q_I l3), (5, q_I l5), (7, q_L l7)]) C dX13_lists_242 (by decide) rfl ?_
  refine q_aload_n (pc := 244) C 1 rfl dX13_lists_244 rfl ?_
  refine q_getA (pc := 245) C dX13_lists_245 ql_X13_53 h (fun v245 h => ?_)
  refine q_iload (pc := 248) C 5 rfl dX13_lists_248 ?_
  refine q_ldI (pc := 250) C dX13_lists_250 (Or.inr (Or.inl ⟨rfl, rfl⟩)) h (fun v250 h => ?_)
  refine q_if_ne (pc := 251) (tgt := 274) C dX13_lists_251 (by decide) h (fun _ h => ?_) (fun _ h => ?_)
  · refine q_aload_n (pc := 274) C 1 rfl dX13_lists_274 rfl ?_
    refine q_getA (pc := 275) C dX13_lists_275 ql_X13_53 h (fun v275 h => ?_)
    refine q_iload (pc := 278) C 5 rfl dX13_lists_278 ?_
    refine q_ldI (pc := 280) C dX13_lists_280 (Or.inr (Or.inl ⟨rfl, rfl⟩)) h (fun v280 h => ?_)
    refine q_iconst (pc := 281) (v := (4 : Int32)) C dX13_lists_281 (by decide) ?_
    refine q_icmp_ne (pc := 282) (tgt := 306) C dX13_lists_282 (by decide) h (fun _ h => ?_) (fun _ h => ?_)
    · refine q_aload_n (pc := 306) C 1 rfl dX13_lists_306 rfl ?_
      refine q_aload_n (pc := 307) C 1 rfl dX13_lists_307 rfl ?_
      refine q_getA (pc := 308) C dX13_lists_308 ql_X13_53 h (fun v308 h => ?_)
      refine q_iload (pc := 311) C 5 rfl dX13_lists_311 ?_
      refine q_ldI (pc := 313) C dX13_lists_313 (Or.inr (Or.inl ⟨rfl, rfl⟩)) h (fun v313 h => ?_)
      refine q_iconst (pc := 314) (v := (1 : Int32)) C dX13_lists_314 (by decide) ?_
      refine q_icmp_ne (pc := 315) (tgt := 323) C dX13_lists_315 (by decide) h (fun _ h => ?_) (fun _ h => ?_)
      · refine q_aload_n (pc := 323) C 1 rfl dX13_lists_323 rfl ?_
        refine q_getA (pc := 324) C dX13_lists_324 ql_X13_53 h (fun v324 h => ?_)
        refine q_iload (pc := 327) C 5 rfl dX13_lists_327 ?_
        refine q_ldI (pc := 329) C dX13_lists_329 (Or.inr (Or.inl ⟨rfl, rfl⟩)) h (fun v329 h => ?_)
        refine q_iconst (pc := 330) (v := (2 : Int32)) C dX13_lists_330 (by decide) ?_
        refine q_icmp_ne (pc := 331) (tgt := 339) C dX13_lists_331 (by decide) h (fun _ h => ?_) (fun _ h => ?_)
        · refine q_iload_n (pc := 339) C 2 rfl dX13_lists_339 rfl ?_
          refine q_i2l (pc := 340) C dX13_lists_340 ?_
          refine q_lload (pc := 341) C 0 rfl dX13_lists_341 ?_
          refine q_ladd (pc := 343) C dX13_lists_343 ?_
          refine q_W.sub [1, 2, 3, 4] rfl ?_
          exact S_X13_lists_344 B hT r132 hr132 mr132 l0 l1 l2 l3 l0 (l1.toInt64 + s0) _ h
        · refine q_lload (pc := 334) C 0 rfl dX13_lists_334 ?_
          refine q_goto (pc := 336) (tgt := 344) C dX13_lists_336 (by decide) ?_
          refine q_W.sub [1, 2, 3, 4] rfl ?_
          exact S_X13_lists_344 B hT r132 hr132 mr132 l0 l1 l2 l3 l0 s0 _ h
      · refine q_lload (pc := 318) C 6 rfl dX13_lists_318 ?_
        refine q_goto (pc := 320) (tgt := 344) C dX13_lists_320 (by decide) ?_
        refine q_W.sub [1, 2, 3, 4] rfl ?_
        exact S_X13_lists_344 B hT r132 hr132 mr132 l0 l1 l2 l3 l0 l7 _ h
    · refine q_aload_n (pc := 285) C 1 rfl dX13_lists_285 rfl ?_
      refine q_aload_n (pc := 286) C 1 rfl dX13_lists_286 rfl ?_
      refine q_getA (pc := 287) C dX13_lists_287 ql_X13_65 h (fun v287 h => ?_)
      refine q_bipush (pc := 290) (v := (32 : Int32)) C dX13_lists_290 (by decide) ?_
      refine q_iload (pc := 292) C 5 rfl dX13_lists_292 ?_
      refine q_imul (pc := 294) C dX13_lists_294 ?_
      refine q_lload (pc := 295) C 6 rfl dX13_lists_295 ?_
      refine q_l2i (pc := 297) C dX13_lists_297 ?_
      refine q_iadd (pc := 298) C dX13_lists_298 ?_
      refine q_ldI (pc := 299) C dX13_lists_299 (Or.inr (Or.inl ⟨rfl, rfl⟩)) h (fun v299 h => ?_)
      refine q_callV (pc := 300) (As := [q_I v299]) (st := []) (ps := q_psV) C B.2.1 hT q_hpV qm_X13_361 qv_X13_sayName dX13_lists_300 rfl rfl (Nat.le_of_ble_eq_true rfl) (q_flo B.2.2.1 B.2.2.2.1 (by decide) (by decide)) (K_X13_sayName l0 v299) (M_X13_sayName (q_kap E) l0 v299) (by exact fun _v300 => (M_X13_lists_347 (q_kap E) r132 mr132 l0 l1 l2 l3)) h (fun _v300 σ h => ?_)
      refine q_W.st (st' := []) rfl ?_
      refine q_goto (pc := 303) (tgt := 347) C dX13_lists_303 (by decide) ?_
      refine q_W.sub [1, 2, 3, 4] rfl ?_
      exact S_X13_lists_347 B hT r132 hr132 mr132 l0 l1 l2 l3 _ h
  · refine q_aload_n (pc := 254) C 1 rfl dX13_lists_254 rfl ?_
    refine q_aload_n (pc := 255) C 1 rfl dX13_lists_255 rfl ?_
    refine q_getA (pc := 256) C dX13_lists_256 ql_X13_56 h (fun v256 h => ?_)
    refine q_iload (pc := 259) C 5 rfl dX13_lists_259 ?_
    refine q_ldI (pc := 261) C dX13_lists_261 (Or.inr (Or.inl ⟨rfl, rfl⟩)) h (fun v261 h => ?_)
    refine q_callV (pc := 262) (As := [q_I v261]) (st := []) (ps := q_psV) C B.2.1 hT q_hpV qm_X13_361 qv_X13_sayName dX13_lists_262 rfl rfl (Nat.le_of_ble_eq_true rfl) (q_flo B.2.2.1 B.2.2.2.1 (by decide) (by decide)) (K_X13_sayName l0 v261) (M_X13_sayName (q_kap E) l0 v261) (by exact fun _v262 => (q_mo_rd fun _ => q_mo_ca (M_X13_sayNumber (q_kap E) l0 l7) fun _v268 => (M_X13_lists_347 (q_kap E) r132 mr132 l0 l1 l2 l3))) h (fun _v262 σ h => ?_)
    refine q_W.st (st' := []) rfl ?_
    refine q_aload_n (pc := 265) C 1 rfl dX13_lists_265 rfl ?_
    refine q_lload (pc := 266) C 6 rfl dX13_lists_266 ?_
    refine q_callV (pc := 268) (As := [q_L l7]) (st := []) (ps := q_psV) C B.2.1 hT q_hpV qm_X13_357 qv_X13_sayNumber dX13_lists_268 rfl rfl (Nat.le_of_ble_eq_true rfl) (q_flo B.2.2.1 B.2.2.2.1 (by decide) (by decide)) (K_X13_sayNumber l0 l7) (M_X13_sayNumber (q_kap E) l0 l7) (by exact fun _v268 => (M_X13_lists_347 (q_kap E) r132 mr132 l0 l1 l2 l3)) h (fun _v268 σ h => ?_)
    refine q_W.st (st' := []) rfl ?_
    refine q_goto (pc := 271) (tgt := 347) C dX13_lists_271 (by decide) ?_
    refine q_W.sub [1, 2, 3, 4] rfl ?_
    exact S_X13_lists_347 B hT r132 hr132 mr132 l0 l1 l2 l3 _ h
def F_X13_lists_132B (κ : Nat → Nat) (r132 : Option Nat → Int32 → Int32 → Int32 → q_X Unit) (l0 : Option Nat) (l1 : Int32) (l2 : Int32) (l3 : Int32) : q_X Unit :=
  q_rd (q_gA l0 16 31) fun v134 => q_rd (q_lI 1 v134 l2) fun v138 => q_br (v138 ≤ l3) (q_rt ()) (q_rd (q_gA l0 16 35) fun v143 => q_rd (q_lI 1 v143 (((12 : Int32) * l2) + l3)) fun v152 => q_br (v152 < 0) (q_rd (q_gA l0 16 37) fun v183 => q_rd (q_lI 1 v183 ((((5 : Int32) * l2) - (1 : Int32)) - v152)) fun v194 => q_rd (q_gA l0 16 28) fun v198 => q_rd (q_lI 1 v198 v194) fun v203 => q_rd (q_is l0 16) fun _ => q_ca (F_X13_field κ l0 l1 l2 ((-1 : Int32) - v152)) fun v213 => q_br (¬ (lg_cmp (v213 >>> ((v203 - (1 : Int32)).toInt64 &&& 63)) (1 : Int64)) = 0) (F_X13_lists_242 κ r132 l0 l1 l2 l3 v194 v213 v213) (F_X13_lists_242 κ r132 l0 l1 l2 l3 v194 v213 (v213 - ((1 : Int64) <<< (v203.toInt64 &&& 63))))) (q_rd (q_is l0 16) fun _ => q_ca (F_X13_say κ l0 v152) fun _v163 => q_br (¬ v152 = (44 : Int32)) (F_X13_lists_347 κ r132 l0 l1 l2 l3) (q_rd (q_is l0 16) fun _ => q_ca (F_X13_say κ l0 (32 : Int32)) fun _v176 => F_X13_lists_347 κ r132 l0 l1 l2 l3)))
theorem M_X13_lists_132B (κ : Nat → Nat) (r132 : Option Nat → Int32 → Int32 → Int32 → q_X Unit) (mr132 : ∀ (l0 : Option Nat) (l1 : Int32) (l2 : Int32) (l3 : Int32), q_mo (r132 l0 l1 l2 l3)) (l0 : Option Nat) (l1 : Int32) (l2 : Int32) (l3 : Int32) : q_mo (F_X13_lists_132B κ r132 l0 l1 l2 l3) := (q_mo_rd fun v134 => (q_mo_rd fun v138 => (q_mo_br q_mo_rt (q_mo_rd fun v143 => (q_mo_rd fun v152 => (q_mo_br (q_mo_rd fun v183 => (q_mo_rd fun v194 => (q_mo_rd fun v198 => (q_mo_rd fun v203 => (q_mo_rd fun _ => q_mo_ca (M_X13_field κ l0 l1 l2 ((-1 : Int32) - v152)) fun v213 => (q_mo_br (M_X13_lists_242 κ r132 mr132 l0 l1 l2 l3 v194 v213 v213) (M_X13_lists_242 κ r132 mr132 l0 l1 l2 l3 v194 v213 (v213 - ((1 : Int64) <<< (v203.toInt64 &&& 63)))))))))) (q_mo_rd fun _ => q_mo_ca (M_X13_say κ l0 v152) fun _v163 => (q_mo_br (M_X13_lists_347 κ r132 mr132 l0 l1 l2 l3) (q_mo_rd fun _ => q_mo_ca (M_X13_say κ l0 (32 : Int32)) fun _v176 => (M_X13_lists_347 κ r132 mr132 l0 l1 l2 l3))))))))))
set_option maxRecDepth 100000 in
set_option maxHeartbeats 4000000 in
theorem S_X13_lists_132B {E : q_Ev} {Γ : q_Gm} {w : (Unit ⊕ q_Exn) × q_St} (B : q_Bd E Γ cX13_lists yX13_lists.cls 11 4 85 (none) yX13_lists.name w) (hT : q_nT Γ) (r132 : Option Nat → Int32 → Int32 → Int32 → q_X Unit) (hr132 : ∀ (l0 : Option Nat) (l1 : Int32) (l2 : Int32) (l3 : Int32) (σ : q_St), r132 l0 l1 l2 l3 σ = some w → q_W E Γ (q_QF E Γ q_oV w) 11 σ 132 [(0, q_R l0), (1, q_I l1), (2, q_I l2), (3, q_I l3)] []) (mr132 : ∀ (l0 : Option Nat) (l1 : Int32) (l2 : Int32) (l3 : Int32), q_mo (r132 l0 l1 l2 l3)) (l0 : Option Nat) (l1 : Int32) (l2 : Int32) (l3 : Int32) (σ : q_St) (h : F_X13_lists_132B (q_kap E) r132 l0 l1 l2 l3 σ = some w) : q_W E Γ (q_QF E Γ q_oV w) 11 σ 132 [(0, q_R l0), (1, q_I l1), (2, q_I l2), (3, q_I l3)] [] := by
  have C := B.1
  unfold F_X13_lists_132B at h
  refine q_iload_n (pc := 132) C 3 rfl dX13_lists_132 rfl ?_
  refine q_aload_n (pc := 133) C 0 rfl dX13_lists_133 rfl ?_
  refine q_getA (pc := 134) C dX13_lists_134 ql_X13_71 h (fun v134 h => ?_)
  refine q_iload_n (pc := 137) C 2 rfl dX13_lists_137 rfl ?_
  refine q_ldI (pc := 138) C dX13_lists_138 (Or.inr (Or.inl ⟨rfl, rfl⟩)) h (fun v138 h => ?_)
  refine q_icmp_ge (pc := 139) (tgt := 353) C dX13_lists_139 (by decide) h (fun _ h => ?_) (fun _ h => ?_)
  · exact q_vret C B.2.2.2.2.1 dX13_lists_353 h
  · refine q_aload_n (pc := 142) C 0 rfl dX13_lists_142 rfl ?_
    refine q_getA (pc := 143) C dX13_lists_143 ql_X13_83 h (fun v143 h => ?_)
    refine q_bipush (pc := 146) (v := (12 : Int32)) C dX13_lists_146 (by decide) ?_
    refine q_iload_n (pc := 148) C 2 rfl dX13_lists_148 rfl ?_
    refine q_imul (pc := 149) C dX13_lists_149 ?_
    refine q_iload_n (pc := 150) C 3 rfl dX13_lists_150 rfl ?_
    refine q_iadd (pc := 151) C dX13_lists_151 ?_
    refine q_ldI (pc := 152) C dX13_lists_152 (Or.inr (Or.inl ⟨rfl, rfl⟩)) h (fun v152 h => ?_)
    refine q_istore (pc := 153) (l' := [(4, q_I v152), (0, q_R l0), (1, q_I l1), (2, q_I l2), (3, q_I l3)]) C dX13_lists_153 (by decide) rfl ?_
    refine q_iload (pc := 155) C 0 rfl dX13_lists_155 ?_
    refine q_if_lt (pc := 157) (tgt := 182) C dX13_lists_157 (by decide) h (fun _ h => ?_) (fun _ h => ?_)
    · refine q_aload_n (pc := 182) C 1 rfl dX13_lists_182 rfl ?_
      refine q_getA (pc := 183) C dX13_lists_183 ql_X13_89 h (fun v183 h => ?_)
      refine q_iconst (pc := 186) (v := (5 : Int32)) C dX13_lists_186 (by decide) ?_
      refine q_iload_n (pc := 187) C 3 rfl dX13_lists_187 rfl ?_
      refine q_imul (pc := 188) C dX13_lists_188 ?_
      refine q_iconst (pc := 189) (v := (1 : Int32)) C dX13_lists_189 (by decide) ?_
      refine q_isub (pc := 190) C dX13_lists_190 ?_
      refine q_iload (pc := 191) C 0 rfl dX13_lists_191 ?_
      refine q_isub (pc := 193) C dX13_lists_193 ?_
      refine q_ldI (pc := 194) C dX13_lists_194 (Or.inr (Or.inl ⟨rfl, rfl⟩)) h (fun v194 h => ?_)
      refine q_istore (pc := 195) (l' := [(5, q_I v194), (4, q_I v152), (0, q_R l0), (1, q_I l1), (2, q_I l2), (3, q_I l3)]) C dX13_lists_195 (by decide) rfl ?_
      refine q_aload_n (pc := 197) C 2 rfl dX13_lists_197 rfl ?_
      refine q_getA (pc := 198) C dX13_lists_198 ql_X13_62 h (fun v198 h => ?_)
      refine q_iload (pc := 201) C 0 rfl dX13_lists_201 ?_
      refine q_ldI (pc := 203) C dX13_lists_203 (Or.inr (Or.inl ⟨rfl, rfl⟩)) h (fun v203 h => ?_)
      refine q_istore (pc := 204) (l' := [(6, q_I v203), (5, q_I v194), (4, q_I v152), (0, q_R l0), (1, q_I l1), (2, q_I l2), (3, q_I l3)]) C dX13_lists_204 (by decide) rfl ?_
      refine q_aload_n (pc := 206) C 3 rfl dX13_lists_206 rfl ?_
      refine q_iload_n (pc := 207) C 4 rfl dX13_lists_207 rfl ?_
      refine q_iload_n (pc := 208) C 5 rfl dX13_lists_208 rfl ?_
      refine q_iconst (pc := 209) (v := (-1 : Int32)) C dX13_lists_209 (by decide) ?_
      refine q_iload (pc := 210) C 2 rfl dX13_lists_210 ?_
      refine q_isub (pc := 212) C dX13_lists_212 ?_
      refine q_callV (pc := 213) (As := [q_I l1, q_I l2, q_I ((-1 : Int32) - v152)]) (st := []) (ps := q_psL) C B.2.1 hT q_hpL qm_X13_349 qv_X13_field dX13_lists_213 rfl rfl (Nat.le_of_ble_eq_true rfl) (q_flo B.2.2.1 B.2.2.2.1 (by decide) (by decide)) (K_X13_field l0 l1 l2 ((-1 : Int32) - v152)) (M_X13_field (q_kap E) l0 l1 l2 ((-1 : Int32) - v152)) (by exact fun v213 => (q_mo_br (M_X13_lists_242 (q_kap E) r132 mr132 l0 l1 l2 l3 v194 v213 v213) (M_X13_lists_242 (q_kap E) r132 mr132 l0 l1 l2 l3 v194 v213 (v213 - ((1 : Int64) <<< (v203.toInt64 &&& 63)))))) h (fun v213 σ h => ?_)
      refine q_W.st (st' := [q_L v213]) rfl ?_
      refine q_lstore (pc := 216) (l' := [(7, q_L v213), (6, q_I v203), (5, q_I v194), (4, q_I v152), (0, q_R l0), (1, q_I l1), (2, q_I l2), (3, q_I l3)]) C dX13_lists_216 (by decide) rfl ?_
      refine q_lload (pc := 218) C 0 rfl dX13_lists_218 ?_
      refine q_iload (pc := 220) C 1 rfl dX13_lists_220 ?_
      refine q_iconst (pc := 222) (v := (1 : Int32)) C dX13_lists_222 (by decide) ?_
      refine q_isub (pc := 223) C dX13_lists_223 ?_
      refine q_lshr (pc := 224) C dX13_lists_224 ?_
      refine q_lconst (pc := 225) (v := (1 : Int64)) C dX13_lists_225 (by decide) ?_
      refine q_lcmp (pc := 226) C dX13_lists_226 ?_
      refine q_if_ne (pc := 227) (tgt := 240) C dX13_lists_227 (by decide) h (fun _ h => ?_) (fun _ h => ?_)
      · refine q_lload (pc := 240) C 0 rfl dX13_lists_240 ?_
        refine q_W.sub [4, 5, 6, 7, 2, 0] rfl ?_
        exact S_X13_lists_242 B hT r132 hr132 mr132 l0 l1 l2 l3 v194 v213 v213 _ h
      · refine q_lload (pc := 230) C 0 rfl dX13_lists_230 ?_
        refine q_lconst (pc := 232) (v := (1 : Int64)) C dX13_lists_232 (by decide) ?_
        refine q_iload (pc := 233) C 1 rfl dX13_lists_233 ?_
        refine q_lshl (pc := 235) C dX13_lists_235 ?_
        refine q_lsub (pc := 236) C dX13_lists_236 ?_
        refine q_goto (pc := 237) (tgt := 242) C dX13_lists_237 (by decide) ?_
        refine q_W.sub [4, 5, 6, 7, 2, 0] rfl ?_
        exact S_X13_lists_242 B hT r132 hr132 mr132 l0 l1 l2 l3 v194 v213 (v213 - ((1 : Int64) <<< (v203.toInt64 &&& 63))) _ h
    · refine q_aload_n (pc := 160) C 1 rfl dX13_lists_160 rfl ?_
      refine q_iload (pc := 161) C 0 rfl dX13_lists_161 ?_
      refine q_callV (pc := 163) (As := [q_I v152]) (st := []) (ps := q_psV) C B.2.1 hT q_hpV qm_X13_342 qv_X13_say dX13_lists_163 rfl rfl (Nat.le_of_ble_eq_true rfl) (q_flo B.2.2.1 B.2.2.2.1 (by decide) (by decide)) (K_X13_say l0 v152) (M_X13_say (q_kap E) l0 v152) (by exact fun _v163 => (q_mo_br (M_X13_lists_347 (q_kap E) r132 mr132 l0 l1 l2 l3) (q_mo_rd fun _ => q_mo_ca (M_X13_say (q_kap E) l0 (32 : Int32)) fun _v176 => (M_X13_lists_347 (q_kap E) r132 mr132 l0 l1 l2 l3)))) h (fun _v163 σ h => ?_)
      refine q_W.st (st' := []) rfl ?_
      refine q_iload (pc := 166) C 0 rfl dX13_lists_166 ?_
      refine q_bipush (pc := 168) (v := (44 : Int32)) C dX13_lists_168 (by decide) ?_
      refine q_icmp_ne (pc := 170) (tgt := 347) C dX13_lists_170 (by decide) h (fun _ h => ?_) (fun _ h => ?_)
      · refine q_W.sub [1, 2, 3, 4] rfl ?_
        exact S_X13_lists_347 B hT r132 hr132 mr132 l0 l1 l2 l3 _ h
      · refine q_aload_n (pc := 173) C 1 rfl dX13_lists_173 rfl ?_
        refine q_bipush (pc := 174) (v := (32 : Int32)) C dX13_lists_174 (by decide) ?_
        refine q_callV (pc := 176) (As := [q_I (32 : Int32)]) (st := []) (ps := q_psV) C B.2.1 hT q_hpV qm_X13_342 qv_X13_say dX13_lists_176 rfl rfl (Nat.le_of_ble_eq_true rfl) (q_flo B.2.2.1 B.2.2.2.1 (by decide) (by decide)) (K_X13_say l0 (32 : Int32)) (M_X13_say (q_kap E) l0 (32 : Int32)) (by exact fun _v176 => (M_X13_lists_347 (q_kap E) r132 mr132 l0 l1 l2 l3)) h (fun _v176 σ h => ?_)
        refine q_W.st (st' := []) rfl ?_
        refine q_goto (pc := 179) (tgt := 347) C dX13_lists_179 (by decide) ?_
        refine q_W.sub [1, 2, 3, 4] rfl ?_
        exact S_X13_lists_347 B hT r132 hr132 mr132 l0 l1 l2 l3 _ h
def F_X13_lists_132 (κ : Nat → Nat) : Nat → Option Nat → Int32 → Int32 → Int32 → q_X Unit
  | 0, _, _, _, _ => q_no
  | n + 1, l0, l1, l2, l3 => F_X13_lists_132B κ (F_X13_lists_132 κ n) l0 l1 l2 l3
theorem M_X13_lists_132 (κ : Nat → Nat) : ∀ (n : Nat) (l0 : Option Nat) (l1 : Int32) (l2 : Int32) (l3 : Int32), q_mo (F_X13_lists_132 κ n l0 l1 l2 l3)
  | 0, _, _, _, _ => q_mo_no
  | n + 1, l0, l1, l2, l3 => M_X13_lists_132B κ (F_X13_lists_132 κ n) (M_X13_lists_132 κ n) l0 l1 l2 l3
theorem S_X13_lists_132 {E : q_Ev} {Γ : q_Gm} {w : (Unit ⊕ q_Exn) × q_St} (B : q_Bd E Γ cX13_lists yX13_lists.cls 11 4 85 (none) yX13_lists.name w) (hT : q_nT Γ) : ∀ (n : Nat) (l0 : Option Nat) (l1 : Int32) (l2 : Int32) (l3 : Int32) (σ : q_St), F_X13_lists_132 (q_kap E) n l0 l1 l2 l3 σ = some w → q_W E Γ (q_QF E Γ q_oV w) 11 σ 132 [(0, q_R l0), (1, q_I l1), (2, q_I l2), (3, q_I l3)] []
  | 0, _, _, _, _, _, h => by cases h
  | n + 1, l0, l1, l2, l3, σ, h => S_X13_lists_132B B hT (F_X13_lists_132 (q_kap E) n) (S_X13_lists_132 B hT n) (M_X13_lists_132 (q_kap E) n) l0 l1 l2 l3 σ h
def F_X13_lists_130 (κ : Nat → Nat) (l0 : Option Nat) (l1 : Int32) (l2 : Int32) : q_X Unit :=
  F_X13_lists_132 κ q_fu l0 l1 l2 (0 : Int32)
theorem M_X13_lists_130 (κ : Nat → Nat) (l0 : Option Nat) (l1 : Int32) (l2 : Int32) : q_mo (F_X13_lists_130 κ l0 l1 l2) := (M_X13_lists_132 κ q_fu l0 l1 l2 (0 : Int32))
set_option maxRecDepth 100000 in
set_option maxHeartbeats 4000000 in
theorem S_X13_lists_130 {E : q_Ev} {Γ : q_Gm} {w : (Unit ⊕ q_Exn) × q_St} (B : q_Bd E Γ cX13_lists yX13_lists.cls 11 4 85 (none) yX13_lists.name w) (hT : q_nT Γ) (l0 : Option Nat) (l1 : Int32) (l2 : Int32) (σ : q_St) (h : F_X13_lists_130 (q_kap E) l0 l1 l2 σ = some w) : q_W E Γ (q_QF E Γ q_oV w) 11 σ 130 [(0, q_R l0), (1, q_I l1), (2, q_I l2)] [] := by
  have C := B.1
  unfold F_X13_lists_130 at h
  refine q_iconst (pc := 130) (v := (0 : Int32)) C dX13_lists_130 (by decide) ?_
  refine q_istore_n (pc := 131) (l' := [(3, q_I (0 : Int32)), (0, q_R l0), (1, q_I l1), (2, q_I l2)]) C dX13_lists_131 rfl (by decide) rfl ?_
  refine q_W.sub [1, 2, 3, 0] rfl ?_
  exact S_X13_lists_132 B hT q_fu l0 l1 l2 (0 : Int32) _ h
def F_X13_lists_4B (κ : Nat → Nat) (r4 : Option Nat → Int32 → Int32 → Int32 → q_X Unit) (l0 : Option Nat) (l1 : Int32) (l2 : Int32) (l3 : Int32) : q_X Unit :=
  q_rd (q_gI l0 16 23) fun v6 => q_br (v6 ≤ l3) (q_wr (q_pF l0 16 4 (.int (0 : Int32))) (q_wr (q_pF l0 16 8 (.int l2)) (q_br (0 ≤ l2) (q_rd (q_gA l0 16 30) fun v107 => q_rd (q_lI 1 v107 l2) fun v111 => q_rd (q_is l0 16) fun _ => q_ca (F_X13_sayName κ l0 v111) fun _v112 => q_rd (q_gA l0 16 31) fun v116 => q_rd (q_lI 1 v116 l2) fun v120 => q_br (v120 ≤ 0) (F_X13_lists_130 κ l0 l1 l2) (q_rd (q_is l0 16) fun _ => q_ca (F_X13_say κ l0 (32 : Int32)) fun _v127 => F_X13_lists_130 κ l0 l1 l2)) (F_X13_lists_69 κ q_fu l0 l1 (some (κ 17)) (0 : Int32))))) (q_rd (q_is l0 16) fun _ => q_ca (F_X13_isThere κ l0 l1 l3) fun v15 => q_br (v15 = 0) (F_X13_lists_42 κ r4 l0 l1 l2 l3) (q_br (l2 < 0) (F_X13_lists_40 κ r4 l0 l1 l3) (q_rd (q_gA l0 16 34) fun v26 => q_rd (q_lI 1 v26 l3) fun v30 => q_rd (q_gA l0 16 34) fun v32 => q_rd (q_lI 1 v32 l2) fun v36 => q_br (v30 ≤ v36) (F_X13_lists_42 κ r4 l0 l1 l2 l3) (F_X13_lists_40 κ r4 l0 l1 l3))))
theorem M_X13_lists_4B (κ : Nat → Nat) (r4 : Option Nat → Int32 → Int32 → Int32 → q_X Unit) (mr4 : ∀ (l0 : Option Nat) (l1 : Int32) (l2 : Int32) (l3 : Int32), q_mo (r4 l0 l1 l2 l3)) (l0 : Option Nat) (l1 : Int32) (l2 : Int32) (l3 : Int32) : q_mo (F_X13_lists_4B κ r4 l0 l1 l2 l3) := (q_mo_rd fun v6 => (q_mo_br (q_mo_wr (q_mo_wr (q_mo_br (q_mo_rd fun v107 => (q_mo_rd fun v111 => (q_mo_rd fun _ => q_mo_ca (M_X13_sayName κ l0 v111) fun _v112 => (q_mo_rd fun v116 => (q_mo_rd fun v120 => (q_mo_br (M_X13_lists_130 κ l0 l1 l2) (q_mo_rd fun _ => q_mo_ca (M_X13_say κ l0 (32 : Int32)) fun _v127 => (M_X13_lists_130 κ l0 l1 l2)))))))) (M_X13_lists_69 κ q_fu l0 l1 (some (κ 17)) (0 : Int32))))) (q_mo_rd fun _ => q_mo_ca (M_X13_isThere κ l0 l1 l3) fun v15 => (q_mo_br (M_X13_lists_42 κ r4 mr4 l0 l1 l2 l3) (q_mo_br (M_X13_lists_40 κ r4 mr4 l0 l1 l3) (q_mo_rd fun v26 => (q_mo_rd fun v30 => (q_mo_rd fun v32 => (q_mo_rd fun v36 => (q_mo_br (M_X13_lists_42 κ r4 mr4 l0 l1 l2 l3) (M_X13_lists_40 κ r4 mr4 l0 l1 l3)))))))))))
set_option maxRecDepth 100000 in
set_option maxHeartbeats 4000000 in
theorem S_X13_lists_4B {E : q_Ev} {Γ : q_Gm} {w : (Unit ⊕ q_Exn) × q_St} (B : q_Bd E Γ cX13_lists yX13_lists.cls 11 4 85 (none) yX13_lists.name w) (hT : q_nT Γ) (r4 : Option Nat → Int32 → Int32 → Int32 → q_X Unit) (hr4 : ∀ (l0 : Option Nat) (l1 : Int32) (l2 : Int32) (l3 : Int32) (σ : q_St), r4 l0 l1 l2 l3 σ = some w → q_W E Γ (q_QF E Γ q_oV w) 11 σ 4 [(0, q_R l0), (1, q_I l1), (2, q_I l2), (3, q_I l3)] []) (mr4 : ∀ (l0 : Option Nat) (l1 : Int32) (l2 : Int32) (l3 : Int32), q_mo (r4 l0 l1 l2 l3)) (l0 : Option Nat) (l1 : Int32) (l2 : Int32) (l3 : Int32) (σ : q_St) (h : F_X13_lists_4B (q_kap E) r4 l0 l1 l2 l3 σ = some w) : q_W E Γ (q_QF E Γ q_oV w) 11 σ 4 [(0, q_R l0), (1, q_I l1), (2, q_I l2), (3, q_I l3)] [] := by
  have C := B.1
  unfold F_X13_lists_4B at h
  refine q_iload_n (pc := 4) C 3 rfl dX13_lists_4 rfl ?_
  refine q_aload_n (pc := 5) C 0 rfl dX13_lists_5 rfl ?_
  refine q_getI (pc := 6) C dX13_lists_6 ql_X13_223 h (fun v6 h => ?_)
  refine q_icmp_ge (pc := 9) (tgt := 48) C dX13_lists_9 (by decide) h (fun _ h => ?_) (fun _ h => ?_)
  · refine q_aload_n (pc := 48) C 0 rfl dX13_lists_48 rfl ?_
    refine q_iconst (pc := 49) (v := (0 : Int32)) C dX13_lists_49 (by decide) ?_
    refine q_putV (pc := 50) (v := q_I (0 : Int32)) C dX13_lists_50 ql_X13_339 (Or.inl rfl) rfl rfl h (fun M50 h => ?_)
    refine q_aload_n (pc := 53) C 0 rfl dX13_lists_53 rfl ?_
    refine q_iload_n (pc := 54) C 2 rfl dX13_lists_54 rfl ?_
    refine q_putV (pc := 55) (v := q_I l2) C dX13_lists_55 ql_X13_23 (Or.inl rfl) rfl rfl h (fun M55 h => ?_)
    refine q_iload_n (pc := 58) C 2 rfl dX13_lists_58 rfl ?_
    refine q_if_ge (pc := 59) (tgt := 105) C dX13_lists_59 (by decide) h (fun _ h => ?_) (fun _ h => ?_)
    · refine q_aload_n (pc := 105) C 0 rfl dX13_lists_105 rfl ?_
      refine q_aload_n (pc := 106) C 0 rfl dX13_lists_106 rfl ?_
      refine q_getA (pc := 107) C dX13_lists_107 ql_X13_68 h (fun v107 h => ?_)
      refine q_iload_n (pc := 110) C 2 rfl dX13_lists_110 rfl ?_
      refine q_ldI (pc := 111) C dX13_lists_111 (Or.inr (Or.inl ⟨rfl, rfl⟩)) h (fun v111 h => ?_)
      refine q_callV (pc := 112) (As := [q_I v111]) (st := []) (ps := q_psV) C B.2.1 hT q_hpV qm_X13_361 qv_X13_sayName dX13_lists_112 rfl rfl (Nat.le_of_ble_eq_true rfl) (q_flo B.2.2.1 B.2.2.2.1 (by decide) (by decide)) (K_X13_sayName l0 v111) (M_X13_sayName (q_kap E) l0 v111) (by exact fun _v112 => (q_mo_rd fun v116 => (q_mo_rd fun v120 => (q_mo_br (M_X13_lists_130 (q_kap E) l0 l1 l2) (q_mo_rd fun _ => q_mo_ca (M_X13_say (q_kap E) l0 (32 : Int32)) fun _v127 => (M_X13_lists_130 (q_kap E) l0 l1 l2)))))) h (fun _v112 σ h => ?_)
      refine q_W.st (st' := []) rfl ?_
      refine q_aload_n (pc := 115) C 0 rfl dX13_lists_115 rfl ?_
      refine q_getA (pc := 116) C dX13_lists_116 ql_X13_71 h (fun v116 h => ?_)
      refine q_iload_n (pc := 119) C 2 rfl dX13_lists_119 rfl ?_
      refine q_ldI (pc := 120) C dX13_lists_120 (Or.inr (Or.inl ⟨rfl, rfl⟩)) h (fun v120 h => ?_)
      refine q_if_le (pc := 121) (tgt := 130) C dX13_lists_121 (by decide) h (fun _ h => ?_) (fun _ h => ?_)
      · refine q_W.sub [0, 1, 2] rfl ?_
        exact S_X13_lists_130 B hT l0 l1 l2 _ h
      · refine q_aload_n (pc := 124) C 0 rfl dX13_lists_124 rfl ?_
        refine q_bipush (pc := 125) (v := (32 : Int32)) C dX13_lists_125 (by decide) ?_
        refine q_callV (pc := 127) (As := [q_I (32 : Int32)]) (st := []) (ps := q_psV) C B.2.1 hT q_hpV qm_X13_342 qv_X13_say dX13_lists_127 rfl rfl (Nat.le_of_ble_eq_true rfl) (q_flo B.2.2.1 B.2.2.2.1 (by decide) (by decide)) (K_X13_say l0 (32 : Int32)) (M_X13_say (q_kap E) l0 (32 : Int32)) (by exact fun _v127 => (M_X13_lists_130 (q_kap E) l0 l1 l2)) h (fun _v127 σ h => ?_)
        refine q_W.st (st' := []) rfl ?_
        refine q_W.sub [0, 1, 2] rfl ?_
        exact S_X13_lists_130 B hT l0 l1 l2 _ h
    · refine q_ldcTw (pc := 62) (k := 17) (tx := ".word ") C dX13_lists_62 (by decide +kernel) (by decide) ?_
      refine q_astore_n (pc := 65) (l' := [(3, q_R (some ((q_kap E) 17))), (0, q_R l0), (1, q_I l1), (2, q_I l2)]) C dX13_lists_65 rfl (by decide) rfl ?_
      refine q_iconst (pc := 66) (v := (0 : Int32)) C dX13_lists_66 (by decide) ?_
      refine q_istore (pc := 67) (l' := [(4, q_I (0 : Int32)), (3, q_R (some ((q_kap E) 17))), (0, q_R l0), (1, q_I l1), (2, q_I l2)]) C dX13_lists_67 (by decide) rfl ?_
      refine q_W.sub [2, 3, 1, 0] rfl ?_
      exact S_X13_lists_69 B hT q_fu l0 l1 (some ((q_kap E) 17)) (0 : Int32) _ h
  · refine q_aload_n (pc := 12) C 0 rfl dX13_lists_12 rfl ?_
    refine q_iload_n (pc := 13) C 1 rfl dX13_lists_13 rfl ?_
    refine q_iload_n (pc := 14) C 3 rfl dX13_lists_14 rfl ?_
    refine q_callV (pc := 15) (As := [q_I l1, q_I l3]) (st := []) (ps := q_psI) C B.2.1 hT q_hpI qm_X13_352 qv_X13_isThere dX13_lists_15 rfl rfl (Nat.le_of_ble_eq_true rfl) (q_flo B.2.2.1 B.2.2.2.1 (by decide) (by decide)) (K_X13_isThere l0 l1 l3) (M_X13_isThere (q_kap E) l0 l1 l3) (by exact fun v15 => (q_mo_br (M_X13_lists_42 (q_kap E) r4 mr4 l0 l1 l2 l3) (q_mo_br (M_X13_lists_40 (q_kap E) r4 mr4 l0 l1 l3) (q_mo_rd fun v26 => (q_mo_rd fun v30 => (q_mo_rd fun v32 => (q_mo_rd fun v36 => (q_mo_br (M_X13_lists_42 (q_kap E) r4 mr4 l0 l1 l2 l3) (M_X13_lists_40 (q_kap E) r4 mr4 l0 l1 l3))))))))) h (fun v15 σ h => ?_)
    refine q_W.st (st' := [q_I v15]) rfl ?_
    refine q_if_eq (pc := 18) (tgt := 42) C dX13_lists_18 (by decide) h (fun _ h => ?_) (fun _ h => ?_)
    · exact S_X13_lists_42 B hT r4 hr4 mr4 l0 l1 l2 l3 _ h
    · refine q_iload_n (pc := 21) C 2 rfl dX13_lists_21 rfl ?_
      refine q_if_lt (pc := 22) (tgt := 40) C dX13_lists_22 (by decide) h (fun _ h => ?_) (fun _ h => ?_)
      · refine q_W.sub [0, 1, 3] rfl ?_
        exact S_X13_lists_40 B hT r4 hr4 mr4 l0 l1 l3 _ h
      · refine q_aload_n (pc := 25) C 0 rfl dX13_lists_25 rfl ?_
        refine q_getA (pc := 26) C dX13_lists_26 ql_X13_80 h (fun v26 h => ?_)
        refine q_iload_n (pc := 29) C 3 rfl dX13_lists_29 rfl ?_
        refine q_ldI (pc := 30) C dX13_lists_30 (Or.inr (Or.inl ⟨rfl, rfl⟩)) h (fun v30 h => ?_)
        refine q_aload_n (pc := 31) C 0 rfl dX13_lists_31 rfl ?_
        refine q_getA (pc := 32) C dX13_lists_32 ql_X13_80 h (fun v32 h => ?_)
        refine q_iload_n (pc := 35) C 2 rfl dX13_lists_35 rfl ?_
        refine q_ldI (pc := 36) C dX13_lists_36 (Or.inr (Or.inl ⟨rfl, rfl⟩)) h (fun v36 h => ?_)
        refine q_icmp_le (pc := 37) (tgt := 42) C dX13_lists_37 (by decide) h (fun _ h => ?_) (fun _ h => ?_)
        · exact S_X13_lists_42 B hT r4 hr4 mr4 l0 l1 l2 l3 _ h
        · refine q_W.sub [0, 1, 3] rfl ?_
          exact S_X13_lists_40 B hT r4 hr4 mr4 l0 l1 l3 _ h
def F_X13_lists_4 (κ : Nat → Nat) : Nat → Option Nat → Int32 → Int32 → Int32 → q_X Unit
  | 0, _, _, _, _ => q_no
  | n + 1, l0, l1, l2, l3 => F_X13_lists_4B κ (F_X13_lists_4 κ n) l0 l1 l2 l3
theorem M_X13_lists_4 (κ : Nat → Nat) : ∀ (n : Nat) (l0 : Option Nat) (l1 : Int32) (l2 : Int32) (l3 : Int32), q_mo (F_X13_lists_4 κ n l0 l1 l2 l3)
  | 0, _, _, _, _ => q_mo_no
  | n + 1, l0, l1, l2, l3 => M_X13_lists_4B κ (F_X13_lists_4 κ n) (M_X13_lists_4 κ n) l0 l1 l2 l3
theorem S_X13_lists_4 {E : q_Ev} {Γ : q_Gm} {w : (Unit ⊕ q_Exn) × q_St} (B : q_Bd E Γ cX13_lists yX13_lists.cls 11 4 85 (none) yX13_lists.name w) (hT : q_nT Γ) : ∀ (n : Nat) (l0 : Option Nat) (l1 : Int32) (l2 : Int32) (l3 : Int32) (σ : q_St), F_X13_lists_4 (q_kap E) n l0 l1 l2 l3 σ = some w → q_W E Γ (q_QF E Γ q_oV w) 11 σ 4 [(0, q_R l0), (1, q_I l1), (2, q_I l2), (3, q_I l3)] []
  | 0, _, _, _, _, _, h => by cases h
  | n + 1, l0, l1, l2, l3, σ, h => S_X13_lists_4B B hT (F_X13_lists_4 (q_kap E) n) (S_X13_lists_4 B hT n) (M_X13_lists_4 (q_kap E) n) l0 l1 l2 l3 σ h
def F_X13_lists (κ : Nat → Nat) (l0 : Option Nat) (l1 : Int32) : q_X Unit :=
  F_X13_lists_4 κ q_fu l0 l1 (-1 : Int32) (0 : Int32)
theorem M_X13_lists (κ : Nat → Nat) (l0 : Option Nat) (l1 : Int32) : q_mo (F_X13_lists κ l0 l1) := (M_X13_lists_4 κ q_fu l0 l1 (-1 : Int32) (0 : Int32))
set_option maxRecDepth 100000 in
set_option maxHeartbeats 4000000 in
theorem K_X13_lists {E : q_Ev} (l0 : Option Nat) (l1 : Int32) : q_Ct E yX13_lists (.code yX13_lists cX13_lists 11 (none)) 4 85 [q_R l0, q_I l1] q_oV (F_X13_lists (q_kap E) l0 l1) := by
  refine q_enter (by decide) (Nat.le_of_ble_eq_true rfl) (fun Γ σ w h B hT => ?_)
  have C := B.1
  unfold F_X13_lists at h
  refine q_iconst (pc := 0) (v := (-1 : Int32)) C dX13_lists_0 (by decide) ?_
  refine q_istore_n (pc := 1) (l' := [(2, q_I (-1 : Int32)), (0, q_R l0), (1, q_I l1)]) C dX13_lists_1 rfl (by decide) rfl ?_
  refine q_iconst (pc := 2) (v := (0 : Int32)) C dX13_lists_2 (by decide) ?_
  refine q_istore_n (pc := 3) (l' := [(3, q_I (0 : Int32)), (2, q_I (-1 : Int32)), (0, q_R l0), (1, q_I l1)]) C dX13_lists_3 rfl (by decide) rfl ?_
  refine q_W.sub [2, 3, 1, 0] rfl ?_
  exact S_X13_lists_4 B hT q_fu l0 l1 (-1 : Int32) (0 : Int32) _ h
def F_X13_four_3B (κ : Nat → Nat) (r3 : Option Nat → Int32 → Int32 → q_X Unit) (l0 : Option Nat) (l1 : Int32) (l2 : Int32) : q_X Unit :=
  q_br (l2 < 0) (q_rt ()) (q_rd (q_gA l0 16 0) fun v8 => q_rd (q_gI l0 16 3) fun v13 => q_wr (q_pF l0 16 3 (.int (v13 + (1 : Int32)))) (q_wr (q_sI 0 v8 v13 (vp_nar .byte ((l1 >>> (l2 &&& 31)).toInt8.toInt32))) (r3 l0 l1 (l2 + (-8 : Int32)))))
theorem M_X13_four_3B (κ : Nat → Nat) (r3 : Option Nat → Int32 → Int32 → q_X Unit) (mr3 : ∀ (l0 : Option Nat) (l1 : Int32) (l2 : Int32), q_mo (r3 l0 l1 l2)) (l0 : Option Nat) (l1 : Int32) (l2 : Int32) : q_mo (F_X13_four_3B κ r3 l0 l1 l2) := (q_mo_br q_mo_rt (q_mo_rd fun v8 => (q_mo_rd fun v13 => (q_mo_wr (q_mo_wr (mr3 l0 l1 (l2 + (-8 : Int32))))))))
set_option maxRecDepth 100000 in
set_option maxHeartbeats 4000000 in
theorem S_X13_four_3B {E : q_Ev} {Γ : q_Gm} {w : (Unit ⊕ q_Exn) × q_St} (B : q_Bd E Γ cX13_four yX13_four.cls 3 0 0 (none) yX13_four.name w) (hT : q_nT Γ) (r3 : Option Nat → Int32 → Int32 → q_X Unit) (hr3 : ∀ (l0 : Option Nat) (l1 : Int32) (l2 : Int32) (σ : q_St), r3 l0 l1 l2 σ = some w → q_W E Γ (q_QF E Γ q_oV w) 3 σ 3 [(0, q_R l0), (1, q_I l1), (2, q_I l2)] []) (mr3 : ∀ (l0 : Option Nat) (l1 : Int32) (l2 : Int32), q_mo (r3 l0 l1 l2)) (l0 : Option Nat) (l1 : Int32) (l2 : Int32) (σ : q_St) (h : F_X13_four_3B (q_kap E) r3 l0 l1 l2 σ = some w) : q_W E Γ (q_QF E Γ q_oV w) 3 σ 3 [(0, q_R l0), (1, q_I l1), (2, q_I l2)] [] := by
  have C := B.1
  unfold F_X13_four_3B at h
  refine q_iload_n (pc := 3) C 2 rfl dX13_four_3 rfl ?_
  refine q_if_lt (pc := 4) (tgt := 33) C dX13_four_4 (by decide) h (fun _ h => ?_) (fun _ h => ?_)
  · exact q_vret C B.2.2.2.2.1 dX13_four_33 h
  · refine q_aload_n (pc := 7) C 0 rfl dX13_four_7 rfl ?_
    refine q_getA (pc := 8) C dX13_four_8 ql_X13_9 h (fun v8 h => ?_)
    refine q_aload_n (pc := 11) C 0 rfl dX13_four_11 rfl ?_
    refine q_dup (pc := 12) C dX13_four_12 rfl ?_
    refine q_getI (pc := 13) C dX13_four_13 ql_X13_364 h (fun v13 h => ?_)
    refine q_dup_x1 (pc := 16) C dX13_four_16 rfl rfl ?_
    refine q_iconst (pc := 17) (v := (1 : Int32)) C dX13_four_17 (by decide) ?_
    refine q_iadd (pc := 18) C dX13_four_18 ?_
    refine q_putV (pc := 19) (v := q_I (v13 + (1 : Int32))) C dX13_four_19 ql_X13_364 (Or.inl rfl) rfl rfl h (fun M19 h => ?_)
    refine q_iload_n (pc := 22) C 1 rfl dX13_four_22 rfl ?_
    refine q_iload_n (pc := 23) C 2 rfl dX13_four_23 rfl ?_
    refine q_ishr (pc := 24) C dX13_four_24 ?_
    refine q_i2b (pc := 25) C dX13_four_25 ?_
    refine q_stB (pc := 26) C dX13_four_26 h (fun M26 h => ?_)
    refine q_iinc (pc := 27) (v := (-8 : Int32)) (l' := [(2, q_I (l2 + (-8 : Int32))), (0, q_R l0), (1, q_I l1)]) C 2 rfl dX13_four_27 (by decide) (by decide) rfl ?_
    refine q_goto (pc := 30) (tgt := 3) C dX13_four_30 (by decide) ?_
    refine q_W.sub [1, 2, 0] rfl ?_
    exact hr3 l0 l1 (l2 + (-8 : Int32)) _ h
def F_X13_four_3 (κ : Nat → Nat) : Nat → Option Nat → Int32 → Int32 → q_X Unit
  | 0, _, _, _ => q_no
  | n + 1, l0, l1, l2 => F_X13_four_3B κ (F_X13_four_3 κ n) l0 l1 l2
theorem M_X13_four_3 (κ : Nat → Nat) : ∀ (n : Nat) (l0 : Option Nat) (l1 : Int32) (l2 : Int32), q_mo (F_X13_four_3 κ n l0 l1 l2)
  | 0, _, _, _ => q_mo_no
  | n + 1, l0, l1, l2 => M_X13_four_3B κ (F_X13_four_3 κ n) (M_X13_four_3 κ n) l0 l1 l2
theorem S_X13_four_3 {E : q_Ev} {Γ : q_Gm} {w : (Unit ⊕ q_Exn) × q_St} (B : q_Bd E Γ cX13_four yX13_four.cls 3 0 0 (none) yX13_four.name w) (hT : q_nT Γ) : ∀ (n : Nat) (l0 : Option Nat) (l1 : Int32) (l2 : Int32) (σ : q_St), F_X13_four_3 (q_kap E) n l0 l1 l2 σ = some w → q_W E Γ (q_QF E Γ q_oV w) 3 σ 3 [(0, q_R l0), (1, q_I l1), (2, q_I l2)] []
  | 0, _, _, _, _, h => by cases h
  | n + 1, l0, l1, l2, σ, h => S_X13_four_3B B hT (F_X13_four_3 (q_kap E) n) (S_X13_four_3 B hT n) (M_X13_four_3 (q_kap E) n) l0 l1 l2 σ h
def F_X13_four (κ : Nat → Nat) (l0 : Option Nat) (l1 : Int32) : q_X Unit :=
  F_X13_four_3 κ q_fu l0 l1 (24 : Int32)
theorem M_X13_four (κ : Nat → Nat) (l0 : Option Nat) (l1 : Int32) : q_mo (F_X13_four κ l0 l1) := (M_X13_four_3 κ q_fu l0 l1 (24 : Int32))
set_option maxRecDepth 100000 in
set_option maxHeartbeats 4000000 in
theorem K_X13_four {E : q_Ev} (l0 : Option Nat) (l1 : Int32) : q_Ct E yX13_four (.code yX13_four cX13_four 3 (none)) 0 0 [q_R l0, q_I l1] q_oV (F_X13_four (q_kap E) l0 l1) := by
  refine q_enter (by decide) (Nat.le_of_ble_eq_true rfl) (fun Γ σ w h B hT => ?_)
  have C := B.1
  unfold F_X13_four at h
  refine q_bipush (pc := 0) (v := (24 : Int32)) C dX13_four_0 (by decide) ?_
  refine q_istore_n (pc := 2) (l' := [(2, q_I (24 : Int32)), (0, q_R l0), (1, q_I l1)]) C dX13_four_2 rfl (by decide) rfl ?_
  refine q_W.sub [1, 2, 0] rfl ?_
  exact S_X13_four_3 B hT q_fu l0 l1 (24 : Int32) _ h
def F_X13_feed_19 (κ : Nat → Nat) (l0 : Option Nat) (l1 : Int32) (l2 : Int32) (l3 : Int32) (l4 : Int32) (l5 : Int32) (s0 : Option Nat) (s1 : Int32) : q_X Int32 :=
  q_wr (q_pF s0 16 7 (.int s1)) (q_rd (q_gI l0 16 7) fun v23 => q_br (v23 ≤ 0) (q_rd (q_is l0 16) fun _ => q_ca (F_X13_four κ l0 l1) fun _v33 => q_rd (q_is l0 16) fun _ => q_ca (F_X13_four κ l0 l2) fun _v38 => q_rd (q_is l0 16) fun _ => q_ca (F_X13_four κ l0 l3) fun _v43 => q_rd (q_is l0 16) fun _ => q_ca (F_X13_four κ l0 l4) fun _v49 => q_rd (q_is l0 16) fun _ => q_ca (F_X13_four κ l0 l5) fun _v55 => q_rd (q_gI l0 16 3) fun v59 => q_rt v59) (q_rt (0 : Int32)))
theorem M_X13_feed_19 (κ : Nat → Nat) (l0 : Option Nat) (l1 : Int32) (l2 : Int32) (l3 : Int32) (l4 : Int32) (l5 : Int32) (s0 : Option Nat) (s1 : Int32) : q_mo (F_X13_feed_19 κ l0 l1 l2 l3 l4 l5 s0 s1) := (q_mo_wr (q_mo_rd fun v23 => (q_mo_br (q_mo_rd fun _ => q_mo_ca (M_X13_four κ l0 l1) fun _v33 => (q_mo_rd fun _ => q_mo_ca (M_X13_four κ l0 l2) fun _v38 => (q_mo_rd fun _ => q_mo_ca (M_X13_four κ l0 l3) fun _v43 => (q_mo_rd fun _ => q_mo_ca (M_X13_four κ l0 l4) fun _v49 => (q_mo_rd fun _ => q_mo_ca (M_X13_four κ l0 l5) fun _v55 => (q_mo_rd fun v59 => q_mo_rt)))))) q_mo_rt)))
set_option maxRecDepth 100000 in
set_option maxHeartbeats 4000000 in
theorem S_X13_feed_19 {E : q_Ev} {Γ : q_Gm} {w : (Int32 ⊕ q_Exn) × q_St} (B : q_Bd E Γ cX13_feed yX13_feed.cls 6 1 22 (some .int) yX13_feed.name w) (hT : q_nT Γ) (l0 : Option Nat) (l1 : Int32) (l2 : Int32) (l3 : Int32) (l4 : Int32) (l5 : Int32) (s0 : Option Nat) (s1 : Int32) (σ : q_St) (h : F_X13_feed_19 (q_kap E) l0 l1 l2 l3 l4 l5 s0 s1 σ = some w) : q_W E Γ (q_QF E Γ q_oI w) 6 σ 19 [(0, q_R l0), (1, q_I l1), (2, q_I l2), (3, q_I l3), (4, q_I l4), (5, q_I l5)] [q_I s1, q_R s0] := by
  have C := B.1
  unfold F_X13_feed_19 at h
  refine q_putV (pc := 19) (v := q_I s1) C dX13_feed_19 ql_X13_138 (Or.inl rfl) rfl rfl h (fun M19 h => ?_)
  refine q_aload_n (pc := 22) C 0 rfl dX13_feed_22 rfl ?_
  refine q_getI (pc := 23) C dX13_feed_23 ql_X13_138 h (fun v23 h => ?_)
  refine q_if_le (pc := 26) (tgt := 31) C dX13_feed_26 (by decide) h (fun _ h => ?_) (fun _ h => ?_)
  · refine q_aload_n (pc := 31) C 0 rfl dX13_feed_31 rfl ?_
    refine q_iload_n (pc := 32) C 1 rfl dX13_feed_32 rfl ?_
    refine q_callV (pc := 33) (As := [q_I l1]) (st := []) (ps := q_psV) C B.2.1 hT q_hpV qm_X13_367 qv_X13_four dX13_feed_33 rfl rfl (Nat.le_of_ble_eq_true rfl) (q_flo B.2.2.1 B.2.2.2.1 (by decide) (by decide)) (K_X13_four l0 l1) (M_X13_four (q_kap E) l0 l1) (by exact fun _v33 => (q_mo_rd fun _ => q_mo_ca (M_X13_four (q_kap E) l0 l2) fun _v38 => (q_mo_rd fun _ => q_mo_ca (M_X13_four (q_kap E) l0 l3) fun _v43 => (q_mo_rd fun _ => q_mo_ca (M_X13_four (q_kap E) l0 l4) fun _v49 => (q_mo_rd fun _ => q_mo_ca (M_X13_four (q_kap E) l0 l5) fun _v55 => (q_mo_rd fun v59 => q_mo_rt)))))) h (fun _v33 σ h => ?_)
    refine q_W.st (st' := []) rfl ?_
    refine q_aload_n (pc := 36) C 0 rfl dX13_feed_36 rfl ?_
    refine q_iload_n (pc := 37) C 2 rfl dX13_feed_37 rfl ?_
    refine q_callV (pc := 38) (As := [q_I l2]) (st := []) (ps := q_psV) C B.2.1 hT q_hpV qm_X13_367 qv_X13_four dX13_feed_38 rfl rfl (Nat.le_of_ble_eq_true rfl) (q_flo B.2.2.1 B.2.2.2.1 (by decide) (by decide)) (K_X13_four l0 l2) (M_X13_four (q_kap E) l0 l2) (by exact fun _v38 => (q_mo_rd fun _ => q_mo_ca (M_X13_four (q_kap E) l0 l3) fun _v43 => (q_mo_rd fun _ => q_mo_ca (M_X13_four (q_kap E) l0 l4) fun _v49 => (q_mo_rd fun _ => q_mo_ca (M_X13_four (q_kap E) l0 l5) fun _v55 => (q_mo_rd fun v59 => q_mo_rt))))) h (fun _v38 σ h => ?_)
    refine q_W.st (st' := []) rfl ?_
    refine q_aload_n (pc := 41) C 0 rfl dX13_feed_41 rfl ?_
    refine q_iload_n (pc := 42) C 3 rfl dX13_feed_42 rfl ?_
    refine q_callV (pc := 43) (As := [q_I l3]) (st := []) (ps := q_psV) C B.2.1 hT q_hpV qm_X13_367 qv_X13_four dX13_feed_43 rfl rfl (Nat.le_of_ble_eq_true rfl) (q_flo B.2.2.1 B.2.2.2.1 (by decide) (by decide)) (K_X13_four l0 l3) (M_X13_four (q_kap E) l0 l3) (by exact fun _v43 => (q_mo_rd fun _ => q_mo_ca (M_X13_four (q_kap E) l0 l4) fun _v49 => (q_mo_rd fun _ => q_mo_ca (M_X13_four (q_kap E) l0 l5) fun _v55 => (q_mo_rd fun v59 => q_mo_rt)))) h (fun _v43 σ h => ?_)
    refine q_W.st (st' := []) rfl ?_
    refine q_aload_n (pc := 46) C 0 rfl dX13_feed_46 rfl ?_
    refine q_iload (pc := 47) C 4 rfl dX13_feed_47 ?_
    refine q_callV (pc := 49) (As := [q_I l4]) (st := []) (ps := q_psV) C B.2.1 hT q_hpV qm_X13_367 qv_X13_four dX13_feed_49 rfl rfl (Nat.le_of_ble_eq_true rfl) (q_flo B.2.2.1 B.2.2.2.1 (by decide) (by decide)) (K_X13_four l0 l4) (M_X13_four (q_kap E) l0 l4) (by exact fun _v49 => (q_mo_rd fun _ => q_mo_ca (M_X13_four (q_kap E) l0 l5) fun _v55 => (q_mo_rd fun v59 => q_mo_rt))) h (fun _v49 σ h => ?_)
    refine q_W.st (st' := []) rfl ?_
    refine q_aload_n (pc := 52) C 0 rfl dX13_feed_52 rfl ?_
    refine q_iload (pc := 53) C 5 rfl dX13_feed_53 ?_
    refine q_callV (pc := 55) (As := [q_I l5]) (st := []) (ps := q_psV) C B.2.1 hT q_hpV qm_X13_367 qv_X13_four dX13_feed_55 rfl rfl (Nat.le_of_ble_eq_true rfl) (q_flo B.2.2.1 B.2.2.2.1 (by decide) (by decide)) (K_X13_four l0 l5) (M_X13_four (q_kap E) l0 l5) (by exact fun _v55 => (q_mo_rd fun v59 => q_mo_rt)) h (fun _v55 σ h => ?_)
    refine q_W.st (st' := []) rfl ?_
    refine q_aload_n (pc := 58) C 0 rfl dX13_feed_58 rfl ?_
    refine q_getI (pc := 59) C dX13_feed_59 ql_X13_364 h (fun v59 h => ?_)
    exact q_iret C B.2.2.2.2.1 dX13_feed_62 h
  · refine q_iconst (pc := 29) (v := (0 : Int32)) C dX13_feed_29 (by decide) ?_
    exact q_iret C B.2.2.2.2.1 dX13_feed_30 h
def F_X13_feed (κ : Nat → Nat) (l0 : Option Nat) (l1 : Int32) (l2 : Int32) (l3 : Int32) (l4 : Int32) (l5 : Int32) : q_X Int32 :=
  q_rd (q_gI l0 16 3) fun v2 => q_br ((v2 + (20 : Int32)) ≤ (6000 : Int32)) (F_X13_feed_19 κ l0 l1 l2 l3 l4 l5 l0 (0 : Int32)) (F_X13_feed_19 κ l0 l1 l2 l3 l4 l5 l0 (1 : Int32))
theorem M_X13_feed (κ : Nat → Nat) (l0 : Option Nat) (l1 : Int32) (l2 : Int32) (l3 : Int32) (l4 : Int32) (l5 : Int32) : q_mo (F_X13_feed κ l0 l1 l2 l3 l4 l5) := (q_mo_rd fun v2 => (q_mo_br (M_X13_feed_19 κ l0 l1 l2 l3 l4 l5 l0 (0 : Int32)) (M_X13_feed_19 κ l0 l1 l2 l3 l4 l5 l0 (1 : Int32))))
set_option maxRecDepth 100000 in
set_option maxHeartbeats 4000000 in
theorem K_X13_feed {E : q_Ev} (l0 : Option Nat) (l1 : Int32) (l2 : Int32) (l3 : Int32) (l4 : Int32) (l5 : Int32) : q_Ct E yX13_feed (.code yX13_feed cX13_feed 6 (some .int)) 1 22 [q_R l0, q_I l1, q_I l2, q_I l3, q_I l4, q_I l5] q_oI (F_X13_feed (q_kap E) l0 l1 l2 l3 l4 l5) := by
  refine q_enter (by decide) (Nat.le_of_ble_eq_true rfl) (fun Γ σ w h B hT => ?_)
  have C := B.1
  unfold F_X13_feed at h
  refine q_aload_n (pc := 0) C 0 rfl dX13_feed_0 rfl ?_
  refine q_aload_n (pc := 1) C 0 rfl dX13_feed_1 rfl ?_
  refine q_getI (pc := 2) C dX13_feed_2 ql_X13_364 h (fun v2 h => ?_)
  refine q_bipush (pc := 5) (v := (20 : Int32)) C dX13_feed_5 (by decide) ?_
  refine q_iadd (pc := 7) C dX13_feed_7 ?_
  refine q_sipush (pc := 8) (v := (6000 : Int32)) C dX13_feed_8 (by decide) ?_
  refine q_icmp_le (pc := 11) (tgt := 18) C dX13_feed_11 (by decide) h (fun _ h => ?_) (fun _ h => ?_)
  · refine q_iconst (pc := 18) (v := (0 : Int32)) C dX13_feed_18 (by decide) ?_
    exact S_X13_feed_19 B hT l0 l1 l2 l3 l4 l5 l0 (0 : Int32) _ h
  · refine q_iconst (pc := 14) (v := (1 : Int32)) C dX13_feed_14 (by decide) ?_
    refine q_goto (pc := 15) (tgt := 19) C dX13_feed_15 (by decide) ?_
    exact S_X13_feed_19 B hT l0 l1 l2 l3 l4 l5 l0 (1 : Int32) _ h
def F_X13_take (κ : Nat → Nat) (l0 : Option Nat) : q_X Unit :=
  q_rd (q_gA l0 16 0) fun v1 => q_rd (q_gA l0 16 1) fun v6 => q_rd (q_gI l0 16 3) fun v11 => q_wr (q_cB v1 (0 : Int32) v6 (0 : Int32) v11) (q_rd (q_gI l0 16 3) fun v19 => q_wr (q_pF l0 16 14 (.int v19)) (q_rt ()))
theorem M_X13_take (κ : Nat → Nat) (l0 : Option Nat) : q_mo (F_X13_take κ l0) := (q_mo_rd fun v1 => (q_mo_rd fun v6 => (q_mo_rd fun v11 => (q_mo_wr (q_mo_rd fun v19 => (q_mo_wr q_mo_rt))))))
theorem N_X13_take (κ : Nat → Nat) (l0 : Option Nat) : q_ni (F_X13_take κ l0) := (q_ni_rd fun v1 => (q_ni_rd fun v6 => (q_ni_rd fun v11 => (q_ni_wr (q_ni_rd fun v19 => (q_ni_wr q_ni_rt))))))
set_option maxRecDepth 100000 in
set_option maxHeartbeats 4000000 in
theorem K_X13_take {E : q_Ev} (l0 : Option Nat) : q_Ct E yX13_take (.code yX13_take cX13_take 1 (none)) 1 40 [q_R l0] q_oV (F_X13_take (q_kap E) l0) := by
  refine q_enter (by decide) (Nat.le_of_ble_eq_true rfl) (fun Γ σ w h B hT => ?_)
  have C := B.1
  unfold F_X13_take at h
  refine q_aload_n (pc := 0) C 0 rfl dX13_take_0 rfl ?_
  refine q_getA (pc := 1) C dX13_take_1 ql_X13_9 h (fun v1 h => ?_)
  refine q_iconst (pc := 4) (v := (0 : Int32)) C dX13_take_4 (by decide) ?_
  refine q_aload_n (pc := 5) C 0 rfl dX13_take_5 rfl ?_
  refine q_getA (pc := 6) C dX13_take_6 ql_X13_13 h (fun v6 h => ?_)
  refine q_iconst (pc := 9) (v := (0 : Int32)) C dX13_take_9 (by decide) ?_
  refine q_aload_n (pc := 10) C 0 rfl dX13_take_10 rfl ?_
  refine q_getI (pc := 11) C dX13_take_11 ql_X13_364 h (fun v11 h => ?_)
  refine q_cpB (pc := 14) C dX13_take_14 qy_X13_200 (q_flo B.2.2.1 B.2.2.2.1 (by decide) (by decide)) (Nat.le_of_ble_eq_true rfl) h (fun M14 h => ?_)
  refine q_aload_n (pc := 17) C 0 rfl dX13_take_17 rfl ?_
  refine q_aload_n (pc := 18) C 0 rfl dX13_take_18 rfl ?_
  refine q_getI (pc := 19) C dX13_take_19 ql_X13_364 h (fun v19 h => ?_)
  refine q_putV (pc := 22) (v := q_I v19) C dX13_take_22 ql_X13_151 (Or.inl rfl) rfl rfl h (fun M22 h => ?_)
  exact q_vret C B.2.2.2.2.1 dX13_take_25 h
def F_X13_end_18 (κ : Nat → Nat) (l0 : Option Nat) (l1 : Int32) (s0 : Option Nat) (s1 : Int32) : q_X Int32 :=
  q_wr (q_pF s0 16 7 (.int s1)) (q_rd (q_gI l0 16 7) fun v22 => q_br (v22 ≤ 0) (q_wr (q_pF l0 16 3 (.int l1)) (q_rd (q_is l0 16) fun _ => q_ca (F_X13_take κ l0) fun _v36 => q_rd (q_is l0 16) fun _ => q_ca (F_X13_scan κ l0 (0 : Int32)) fun _v41 => q_rd (q_gI l0 16 13) fun v45 => q_rt v45)) (q_rt (0 : Int32)))
theorem M_X13_end_18 (κ : Nat → Nat) (l0 : Option Nat) (l1 : Int32) (s0 : Option Nat) (s1 : Int32) : q_mo (F_X13_end_18 κ l0 l1 s0 s1) := (q_mo_wr (q_mo_rd fun v22 => (q_mo_br (q_mo_wr (q_mo_rd fun _ => q_mo_ca (M_X13_take κ l0) fun _v36 => (q_mo_rd fun _ => q_mo_ca (M_X13_scan κ l0 (0 : Int32)) fun _v41 => (q_mo_rd fun v45 => q_mo_rt)))) q_mo_rt)))
set_option maxRecDepth 100000 in
set_option maxHeartbeats 4000000 in
theorem S_X13_end_18 {E : q_Ev} {Γ : q_Gm} {w : (Int32 ⊕ q_Exn) × q_St} (B : q_Bd E Γ cX13_end yX13_end.cls 2 5 118 (some .int) yX13_end.name w) (hT : q_nT Γ) (l0 : Option Nat) (l1 : Int32) (s0 : Option Nat) (s1 : Int32) (σ : q_St) (h : F_X13_end_18 (q_kap E) l0 l1 s0 s1 σ = some w) : q_W E Γ (q_QF E Γ q_oI w) 2 σ 18 [(0, q_R l0), (1, q_I l1)] [q_I s1, q_R s0] := by
  have C := B.1
  unfold F_X13_end_18 at h
  refine q_putV (pc := 18) (v := q_I s1) C dX13_end_18 ql_X13_138 (Or.inl rfl) rfl rfl h (fun M18 h => ?_)
  refine q_aload_n (pc := 21) C 0 rfl dX13_end_21 rfl ?_
  refine q_getI (pc := 22) C dX13_end_22 ql_X13_138 h (fun v22 h => ?_)
  refine q_if_le (pc := 25) (tgt := 30) C dX13_end_25 (by decide) h (fun _ h => ?_) (fun _ h => ?_)
  · refine q_aload_n (pc := 30) C 0 rfl dX13_end_30 rfl ?_
    refine q_iload_n (pc := 31) C 1 rfl dX13_end_31 rfl ?_
    refine q_putV (pc := 32) (v := q_I l1) C dX13_end_32 ql_X13_364 (Or.inl rfl) rfl rfl h (fun M32 h => ?_)
    refine q_aload_n (pc := 35) C 0 rfl dX13_end_35 rfl ?_
    refine q_callV (pc := 36) (As := []) (st := []) (ps := q_psV) C B.2.1 hT q_hpV qm_X13_370 qv_X13_take dX13_end_36 rfl rfl (Nat.le_of_ble_eq_true rfl) (q_flo B.2.2.1 B.2.2.2.1 (by decide) (by decide)) (K_X13_take l0) (M_X13_take (q_kap E) l0) (by exact fun _v36 => (q_mo_rd fun _ => q_mo_ca (M_X13_scan (q_kap E) l0 (0 : Int32)) fun _v41 => (q_mo_rd fun v45 => q_mo_rt))) h (fun _v36 σ h => ?_)
    refine q_W.st (st' := []) rfl ?_
    refine q_aload_n (pc := 39) C 0 rfl dX13_end_39 rfl ?_
    refine q_iconst (pc := 40) (v := (0 : Int32)) C dX13_end_40 (by decide) ?_
    refine q_callV (pc := 41) (As := [q_I (0 : Int32)]) (st := []) (ps := q_psV) C B.2.1 hT q_hpV qm_X13_373 qv_X13_scan dX13_end_41 rfl rfl (Nat.le_of_ble_eq_true rfl) (q_flo B.2.2.1 B.2.2.2.1 (by decide) (by decide)) (K_X13_scan l0 (0 : Int32)) (M_X13_scan (q_kap E) l0 (0 : Int32)) (by exact fun _v41 => (q_mo_rd fun v45 => q_mo_rt)) h (fun _v41 σ h => ?_)
    refine q_W.st (st' := []) rfl ?_
    refine q_aload_n (pc := 44) C 0 rfl dX13_end_44 rfl ?_
    refine q_getI (pc := 45) C dX13_end_45 ql_X13_148 h (fun v45 h => ?_)
    exact q_iret C B.2.2.2.2.1 dX13_end_48 h
  · refine q_iconst (pc := 28) (v := (0 : Int32)) C dX13_end_28 (by decide) ?_
    exact q_iret C B.2.2.2.2.1 dX13_end_29 h
def F_X13_end_13 (κ : Nat → Nat) (l0 : Option Nat) (l1 : Int32) (s0 : Option Nat) : q_X Int32 :=
  F_X13_end_18 κ l0 l1 s0 (1 : Int32)
theorem M_X13_end_13 (κ : Nat → Nat) (l0 : Option Nat) (l1 : Int32) (s0 : Option Nat) : q_mo (F_X13_end_13 κ l0 l1 s0) := (M_X13_end_18 κ l0 l1 s0 (1 : Int32))
set_option maxRecDepth 100000 in
set_option maxHeartbeats 4000000 in
theorem S_X13_end_13 {E : q_Ev} {Γ : q_Gm} {w : (Int32 ⊕ q_Exn) × q_St} (B : q_Bd E Γ cX13_end yX13_end.cls 2 5 118 (some .int) yX13_end.name w) (hT : q_nT Γ) (l0 : Option Nat) (l1 : Int32) (s0 : Option Nat) (σ : q_St) (h : F_X13_end_13 (q_kap E) l0 l1 s0 σ = some w) : q_W E Γ (q_QF E Γ q_oI w) 2 σ 13 [(0, q_R l0), (1, q_I l1)] [q_R s0] := by
  have C := B.1
  unfold F_X13_end_13 at h
  refine q_iconst (pc := 13) (v := (1 : Int32)) C dX13_end_13 (by decide) ?_
  refine q_goto (pc := 14) (tgt := 18) C dX13_end_14 (by decide) ?_
  exact S_X13_end_18 B hT l0 l1 s0 (1 : Int32) _ h
def F_X13_end (κ : Nat → Nat) (l0 : Option Nat) (l1 : Int32) : q_X Int32 :=
  q_br (l1 < 0) (F_X13_end_13 κ l0 l1 l0) (q_rd (q_gI l0 16 3) fun v7 => q_br (l1 ≤ v7) (F_X13_end_18 κ l0 l1 l0 (0 : Int32)) (F_X13_end_13 κ l0 l1 l0))
theorem M_X13_end (κ : Nat → Nat) (l0 : Option Nat) (l1 : Int32) : q_mo (F_X13_end κ l0 l1) := (q_mo_br (M_X13_end_13 κ l0 l1 l0) (q_mo_rd fun v7 => (q_mo_br (M_X13_end_18 κ l0 l1 l0 (0 : Int32)) (M_X13_end_13 κ l0 l1 l0))))
set_option maxRecDepth 100000 in
set_option maxHeartbeats 4000000 in
theorem K_X13_end {E : q_Ev} (l0 : Option Nat) (l1 : Int32) : q_Ct E yX13_end (.code yX13_end cX13_end 2 (some .int)) 5 118 [q_R l0, q_I l1] q_oI (F_X13_end (q_kap E) l0 l1) := by
  refine q_enter (by decide) (Nat.le_of_ble_eq_true rfl) (fun Γ σ w h B hT => ?_)
  have C := B.1
  unfold F_X13_end at h
  refine q_aload_n (pc := 0) C 0 rfl dX13_end_0 rfl ?_
  refine q_iload_n (pc := 1) C 1 rfl dX13_end_1 rfl ?_
  refine q_if_lt (pc := 2) (tgt := 13) C dX13_end_2 (by decide) h (fun _ h => ?_) (fun _ h => ?_)
  · exact S_X13_end_13 B hT l0 l1 l0 _ h
  · refine q_iload_n (pc := 5) C 1 rfl dX13_end_5 rfl ?_
    refine q_aload_n (pc := 6) C 0 rfl dX13_end_6 rfl ?_
    refine q_getI (pc := 7) C dX13_end_7 ql_X13_364 h (fun v7 h => ?_)
    refine q_icmp_le (pc := 10) (tgt := 17) C dX13_end_10 (by decide) h (fun _ h => ?_) (fun _ h => ?_)
    · refine q_iconst (pc := 17) (v := (0 : Int32)) C dX13_end_17 (by decide) ?_
      exact S_X13_end_18 B hT l0 l1 l0 (0 : Int32) _ h
    · exact S_X13_end_13 B hT l0 l1 l0 _ h
def F_X13_describe (κ : Nat → Nat) (l0 : Option Nat) : q_X Int32 :=
  q_rd (q_is l0 16) fun _ => q_ca (F_X13_take κ l0) fun _v1 => q_wr (q_pF l0 16 3 (.int (0 : Int32))) (q_rd (q_is l0 16) fun _ => q_ca (F_X13_scan κ l0 (0 : Int32)) fun _v11 => q_wr (q_pF l0 16 5 (.int (0 : Int32))) (q_wr (q_pF l0 16 6 (.int (-1 : Int32))) (q_wr (q_pF l0 16 7 (.int (0 : Int32))) (q_rd (q_is l0 16) fun _ => q_cc (F_X13_described κ l0) (fun _v30 => q_rd (q_gI l0 16 23) fun v65 => q_rt v65) (fun x30 => q_br (x30.1 = "IsaForgeModel$Fault") (q_rd (q_is l0 16) fun _ => q_ca (F_X13_forget κ l0) fun _v38 => q_rd (q_gI (some x30.2) 15 6) fun v43 => q_wr (q_pF l0 16 5 (.int v43)) (q_rd (q_gI (some x30.2) 15 7) fun v51 => q_wr (q_pF l0 16 6 (.int v51)) (q_wr (q_pF l0 16 7 (.int (1 : Int32))) (q_rt (0 : Int32))))) (q_no))))))
theorem M_X13_describe (κ : Nat → Nat) (l0 : Option Nat) : q_mo (F_X13_describe κ l0) := (q_mo_rd fun _ => q_mo_ca (M_X13_take κ l0) fun _v1 => (q_mo_wr (q_mo_rd fun _ => q_mo_ca (M_X13_scan κ l0 (0 : Int32)) fun _v11 => (q_mo_wr (q_mo_wr (q_mo_wr (q_mo_rd fun _ => q_mo_cc (M_X13_described κ l0) (fun _v30 => (q_mo_rd fun v65 => q_mo_rt)) (fun x30 => (q_mo_br (q_mo_rd fun _ => q_mo_ca (M_X13_forget κ l0) fun _v38 => (q_mo_rd fun v43 => (q_mo_wr (q_mo_rd fun v51 => (q_mo_wr (q_mo_wr q_mo_rt)))))) q_mo_no)))))))))
set_option maxRecDepth 100000 in
set_option maxHeartbeats 4000000 in
theorem K_X13_describe {E : q_Ev} (l0 : Option Nat) : q_Ct E yX13_describe (.codeWith yX13_describe cX13_describe 2 (some .int) [(29, 33, 36, 209)]) 9 220 [q_R l0] q_oI (F_X13_describe (q_kap E) l0) := by
  refine q_enterH (by decide) (Nat.le_of_ble_eq_true rfl) (fun Γ σ w h B hT => ?_)
  have C := B.1
  unfold F_X13_describe at h
  refine q_aload_n (pc := 0) C 0 rfl dX13_describe_0 rfl ?_
  refine q_callVo (pc := 1) (As := []) (st := []) (ps := q_psV) C B.2.1 (by rw [hT]; decide) q_hpV qm_X13_370 qv_X13_take dX13_describe_1 rfl rfl (Nat.le_of_ble_eq_true rfl) (q_flo B.2.2.1 B.2.2.2.1 (by decide) (by decide)) (K_X13_take l0) (M_X13_take (q_kap E) l0) (by exact fun _v1 => (q_mo_wr (q_mo_rd fun _ => q_mo_ca (M_X13_scan (q_kap E) l0 (0 : Int32)) fun _v11 => (q_mo_wr (q_mo_wr (q_mo_wr (q_mo_rd fun _ => q_mo_cc (M_X13_described (q_kap E) l0) (fun _v30 => (q_mo_rd fun v65 => q_mo_rt)) (fun x30 => (q_mo_br (q_mo_rd fun _ => q_mo_ca (M_X13_forget (q_kap E) l0) fun _v38 => (q_mo_rd fun v43 => (q_mo_wr (q_mo_rd fun v51 => (q_mo_wr (q_mo_wr q_mo_rt)))))) q_mo_no))))))))) h (fun _v1 σ h => ?_)
  refine q_W.st (st' := []) rfl ?_
  refine q_aload_n (pc := 4) C 0 rfl dX13_describe_4 rfl ?_
  refine q_iconst (pc := 5) (v := (0 : Int32)) C dX13_describe_5 (by decide) ?_
  refine q_putV (pc := 6) (v := q_I (0 : Int32)) C dX13_describe_6 ql_X13_364 (Or.inl rfl) rfl rfl h (fun M6 h => ?_)
  refine q_aload_n (pc := 9) C 0 rfl dX13_describe_9 rfl ?_
  refine q_iconst (pc := 10) (v := (0 : Int32)) C dX13_describe_10 (by decide) ?_
  refine q_callVo (pc := 11) (As := [q_I (0 : Int32)]) (st := []) (ps := q_psV) C B.2.1 (by rw [hT]; decide) q_hpV qm_X13_373 qv_X13_scan dX13_describe_11 rfl rfl (Nat.le_of_ble_eq_true rfl) (q_flo B.2.2.1 B.2.2.2.1 (by decide) (by decide)) (K_X13_scan l0 (0 : Int32)) (M_X13_scan (q_kap E) l0 (0 : Int32)) (by exact fun _v11 => (q_mo_wr (q_mo_wr (q_mo_wr (q_mo_rd fun _ => q_mo_cc (M_X13_described (q_kap E) l0) (fun _v30 => (q_mo_rd fun v65 => q_mo_rt)) (fun x30 => (q_mo_br (q_mo_rd fun _ => q_mo_ca (M_X13_forget (q_kap E) l0) fun _v38 => (q_mo_rd fun v43 => (q_mo_wr (q_mo_rd fun v51 => (q_mo_wr (q_mo_wr q_mo_rt)))))) q_mo_no))))))) h (fun _v11 σ h => ?_)
  refine q_W.st (st' := []) rfl ?_
  refine q_aload_n (pc := 14) C 0 rfl dX13_describe_14 rfl ?_
  refine q_iconst (pc := 15) (v := (0 : Int32)) C dX13_describe_15 (by decide) ?_
  refine q_putV (pc := 16) (v := q_I (0 : Int32)) C dX13_describe_16 ql_X13_377 (Or.inl rfl) rfl rfl h (fun M16 h => ?_)
  refine q_aload_n (pc := 19) C 0 rfl dX13_describe_19 rfl ?_
  refine q_iconst (pc := 20) (v := (-1 : Int32)) C dX13_describe_20 (by decide) ?_
  refine q_putV (pc := 21) (v := q_I (-1 : Int32)) C dX13_describe_21 ql_X13_19 (Or.inl rfl) rfl rfl h (fun M21 h => ?_)
  refine q_aload_n (pc := 24) C 0 rfl dX13_describe_24 rfl ?_
  refine q_iconst (pc := 25) (v := (0 : Int32)) C dX13_describe_25 (by decide) ?_
  refine q_putV (pc := 26) (v := q_I (0 : Int32)) C dX13_describe_26 ql_X13_138 (Or.inl rfl) rfl rfl h (fun M26 h => ?_)
  refine q_aload_n (pc := 29) C 0 rfl dX13_describe_29 rfl ?_
  refine q_callVc (pc := 30) (As := []) (st := []) (ps := q_psV) C B.2.1 q_hpV qm_X13_379 qv_X13_described dX13_describe_30 rfl rfl (Nat.le_of_ble_eq_true rfl) (q_flo B.2.2.1 B.2.2.2.1 (by decide) (by decide)) (K_X13_described l0) (M_X13_described (q_kap E) l0) (by exact fun _v30 => (q_mo_rd fun v65 => q_mo_rt)) (by exact fun x30 => (q_mo_br (q_mo_rd fun _ => q_mo_ca (M_X13_forget (q_kap E) l0) fun _v38 => (q_mo_rd fun v43 => (q_mo_wr (q_mo_rd fun v51 => (q_mo_wr (q_mo_wr q_mo_rt)))))) q_mo_no)) h (fun _v30 σ h => ?_) (fun N30 q30 σ h => ?_)
  · refine q_W.st (st' := []) rfl ?_
    refine q_goto (pc := 33) (tgt := 64) C dX13_describe_33 (by decide) ?_
    refine q_aload_n (pc := 64) C 0 rfl dX13_describe_64 rfl ?_
    refine q_getI (pc := 65) C dX13_describe_65 ql_X13_223 h (fun v65 h => ?_)
    exact q_iret C B.2.2.2.2.1 dX13_describe_68 h
  · by_cases cx0 : N30 = "IsaForgeModel$Fault"
    · replace h := (q_br_e h).1 cx0
      subst cx0
      refine ⟨[], ⟨29, 33, 36, 209⟩, [], "IsaForgeModel$Fault", hT, (fun z hz => nomatch hz), by decide, by decide, qb_X13_209, by decide +kernel, ?_⟩
      refine q_astore_n (pc := 36) (l' := [(1, q_R (some q30)), (0, q_R l0)]) C dX13_describe_36 rfl (by decide) rfl ?_
      refine q_aload_n (pc := 37) C 1 rfl dX13_describe_37 rfl ?_
      refine q_callVo (pc := 38) (As := []) (st := []) (ps := q_psV) C B.2.1 (by rw [hT]; decide) q_hpV qm_X13_229 qv_X13_forget dX13_describe_38 rfl rfl (Nat.le_of_ble_eq_true rfl) (q_flo B.2.2.1 B.2.2.2.1 (by decide) (by decide)) (K_X13_forget l0) (M_X13_forget (q_kap E) l0) (by exact fun _v38 => (q_mo_rd fun v43 => (q_mo_wr (q_mo_rd fun v51 => (q_mo_wr (q_mo_wr q_mo_rt)))))) h (fun _v38 σ h => ?_)
      refine q_W.st (st' := []) rfl ?_
      refine q_aload_n (pc := 41) C 1 rfl dX13_describe_41 rfl ?_
      refine q_aload_n (pc := 42) C 0 rfl dX13_describe_42 rfl ?_
      refine q_getI (pc := 43) C dX13_describe_43 ql_X13_382 h (fun v43 h => ?_)
      refine q_putV (pc := 46) (v := q_I v43) C dX13_describe_46 ql_X13_377 (Or.inl rfl) rfl rfl h (fun M46 h => ?_)
      refine q_aload_n (pc := 49) C 1 rfl dX13_describe_49 rfl ?_
      refine q_aload_n (pc := 50) C 0 rfl dX13_describe_50 rfl ?_
      refine q_getI (pc := 51) C dX13_describe_51 ql_X13_383 h (fun v51 h => ?_)
      refine q_putV (pc := 54) (v := q_I v51) C dX13_describe_54 ql_X13_19 (Or.inl rfl) rfl rfl h (fun M54 h => ?_)
      refine q_aload_n (pc := 57) C 1 rfl dX13_describe_57 rfl ?_
      refine q_iconst (pc := 58) (v := (1 : Int32)) C dX13_describe_58 (by decide) ?_
      refine q_putV (pc := 59) (v := q_I (1 : Int32)) C dX13_describe_59 ql_X13_138 (Or.inl rfl) rfl rfl h (fun M59 h => ?_)
      refine q_iconst (pc := 62) (v := (0 : Int32)) C dX13_describe_62 (by decide) ?_
      exact q_iret C B.2.2.2.2.1 dX13_describe_63 h
    replace h := (q_br_e h).2 cx0
    cases h
def F_X13_assemble_13 (κ : Nat → Nat) (l0 : Option Nat) (s0 : Option Nat) (s1 : Int32) : q_X Int32 :=
  q_wr (q_pF s0 16 7 (.int s1)) (q_rd (q_gI l0 16 7) fun v17 => q_br (v17 ≤ 0) (q_rd (q_is l0 16) fun _ => q_ca (F_X13_take κ l0) fun _v26 => q_wr (q_pF l0 16 3 (.int (0 : Int32))) (q_rd (q_is l0 16) fun _ => q_ca (F_X13_scan κ l0 (1 : Int32)) fun _v36 => q_wr (q_pF l0 16 5 (.int (0 : Int32))) (q_wr (q_pF l0 16 6 (.int (-1 : Int32))) (q_rd (q_is l0 16) fun _ => q_cc (F_X13_assembled κ l0) (fun _v50 => q_rd (q_gI l0 16 42) fun v85 => q_rt v85) (fun x50 => q_br (x50.1 = "IsaForgeModel$Fault") (q_rd (q_is l0 16) fun _ => q_ca (F_X13_clear κ l0) fun _v58 => q_rd (q_gI (some x50.2) 15 6) fun v63 => q_wr (q_pF l0 16 5 (.int v63)) (q_rd (q_gI (some x50.2) 15 7) fun v71 => q_wr (q_pF l0 16 6 (.int v71)) (q_wr (q_pF l0 16 7 (.int (2 : Int32))) (q_rt (0 : Int32))))) (q_no)))))) (q_rt (0 : Int32)))
theorem M_X13_assemble_13 (κ : Nat → Nat) (l0 : Option Nat) (s0 : Option Nat) (s1 : Int32) : q_mo (F_X13_assemble_13 κ l0 s0 s1) := (q_mo_wr (q_mo_rd fun v17 => (q_mo_br (q_mo_rd fun _ => q_mo_ca (M_X13_take κ l0) fun _v26 => (q_mo_wr (q_mo_rd fun _ => q_mo_ca (M_X13_scan κ l0 (1 : Int32)) fun _v36 => (q_mo_wr (q_mo_wr (q_mo_rd fun _ => q_mo_cc (M_X13_assembled κ l0) (fun _v50 => (q_mo_rd fun v85 => q_mo_rt)) (fun x50 => (q_mo_br (q_mo_rd fun _ => q_mo_ca (M_X13_clear κ l0) fun _v58 => (q_mo_rd fun v63 => (q_mo_wr (q_mo_rd fun v71 => (q_mo_wr (q_mo_wr q_mo_rt)))))) q_mo_no)))))))) q_mo_rt)))
set_option maxRecDepth 100000 in
set_option maxHeartbeats 4000000 in
theorem S_X13_assemble_13 {E : q_Ev} {Γ : q_Gm} {w : (Int32 ⊕ q_Exn) × q_St} (B : q_Bd E Γ cX13_assemble yX13_assemble.cls 2 8 188 (some .int) yX13_assemble.name w) (hT : (q_gc Γ).exceptionTable.toList = tableOf [(49, 53, 56, 209)]) (l0 : Option Nat) (s0 : Option Nat) (s1 : Int32) (σ : q_St) (h : F_X13_assemble_13 (q_kap E) l0 s0 s1 σ = some w) : q_W E Γ (q_QF E Γ q_oI w) 2 σ 13 [(0, q_R l0)] [q_I s1, q_R s0] := by
  have C := B.1
  unfold F_X13_assemble_13 at h
  refine q_putV (pc := 13) (v := q_I s1) C dX13_assemble_13 ql_X13_138 (Or.inl rfl) rfl rfl h (fun M13 h => ?_)
  refine q_aload_n (pc := 16) C 0 rfl dX13_assemble_16 rfl ?_
  refine q_getI (pc := 17) C dX13_assemble_17 ql_X13_138 h (fun v17 h => ?_)
  refine q_if_le (pc := 20) (tgt := 25) C dX13_assemble_20 (by decide) h (fun _ h => ?_) (fun _ h => ?_)
  · refine q_aload_n (pc := 25) C 0 rfl dX13_assemble_25 rfl ?_
    refine q_callVo (pc := 26) (As := []) (st := []) (ps := q_psV) C B.2.1 (by rw [hT]; decide) q_hpV qm_X13_370 qv_X13_take dX13_assemble_26 rfl rfl (Nat.le_of_ble_eq_true rfl) (q_flo B.2.2.1 B.2.2.2.1 (by decide) (by decide)) (K_X13_take l0) (M_X13_take (q_kap E) l0) (by exact fun _v26 => (q_mo_wr (q_mo_rd fun _ => q_mo_ca (M_X13_scan (q_kap E) l0 (1 : Int32)) fun _v36 => (q_mo_wr (q_mo_wr (q_mo_rd fun _ => q_mo_cc (M_X13_assembled (q_kap E) l0) (fun _v50 => (q_mo_rd fun v85 => q_mo_rt)) (fun x50 => (q_mo_br (q_mo_rd fun _ => q_mo_ca (M_X13_clear (q_kap E) l0) fun _v58 => (q_mo_rd fun v63 => (q_mo_wr (q_mo_rd fun v71 => (q_mo_wr (q_mo_wr q_mo_rt)))))) q_mo_no)))))))) h (fun _v26 σ h => ?_)
    refine q_W.st (st' := []) rfl ?_
    refine q_aload_n (pc := 29) C 0 rfl dX13_assemble_29 rfl ?_
    refine q_iconst (pc := 30) (v := (0 : Int32)) C dX13_assemble_30 (by decide) ?_
    refine q_putV (pc := 31) (v := q_I (0 : Int32)) C dX13_assemble_31 ql_X13_364 (Or.inl rfl) rfl rfl h (fun M31 h => ?_)
    refine q_aload_n (pc := 34) C 0 rfl dX13_assemble_34 rfl ?_
    refine q_iconst (pc := 35) (v := (1 : Int32)) C dX13_assemble_35 (by decide) ?_
    refine q_callVo (pc := 36) (As := [q_I (1 : Int32)]) (st := []) (ps := q_psV) C B.2.1 (by rw [hT]; decide) q_hpV qm_X13_373 qv_X13_scan dX13_assemble_36 rfl rfl (Nat.le_of_ble_eq_true rfl) (q_flo B.2.2.1 B.2.2.2.1 (by decide) (by decide)) (K_X13_scan l0 (1 : Int32)) (M_X13_scan (q_kap E) l0 (1 : Int32)) (by exact fun _v36 => (q_mo_wr (q_mo_wr (q_mo_rd fun _ => q_mo_cc (M_X13_assembled (q_kap E) l0) (fun _v50 => (q_mo_rd fun v85 => q_mo_rt)) (fun x50 => (q_mo_br (q_mo_rd fun _ => q_mo_ca (M_X13_clear (q_kap E) l0) fun _v58 => (q_mo_rd fun v63 => (q_mo_wr (q_mo_rd fun v71 => (q_mo_wr (q_mo_wr q_mo_rt)))))) q_mo_no)))))) h (fun _v36 σ h => ?_)
    refine q_W.st (st' := []) rfl ?_
    refine q_aload_n (pc := 39) C 0 rfl dX13_assemble_39 rfl ?_
    refine q_iconst (pc := 40) (v := (0 : Int32)) C dX13_assemble_40 (by decide) ?_
    refine q_putV (pc := 41) (v := q_I (0 : Int32)) C dX13_assemble_41 ql_X13_377 (Or.inl rfl) rfl rfl h (fun M41 h => ?_)
    refine q_aload_n (pc := 44) C 0 rfl dX13_assemble_44 rfl ?_
    refine q_iconst (pc := 45) (v := (-1 : Int32)) C dX13_assemble_45 (by decide) ?_
    refine q_putV (pc := 46) (v := q_I (-1 : Int32)) C dX13_assemble_46 ql_X13_19 (Or.inl rfl) rfl rfl h (fun M46 h => ?_)
    refine q_aload_n (pc := 49) C 0 rfl dX13_assemble_49 rfl ?_
    refine q_callVc (pc := 50) (As := []) (st := []) (ps := q_psV) C B.2.1 q_hpV qm_X13_384 qv_X13_assembled dX13_assemble_50 rfl rfl (Nat.le_of_ble_eq_true rfl) (q_flo B.2.2.1 B.2.2.2.1 (by decide) (by decide)) (K_X13_assembled l0) (M_X13_assembled (q_kap E) l0) (by exact fun _v50 => (q_mo_rd fun v85 => q_mo_rt)) (by exact fun x50 => (q_mo_br (q_mo_rd fun _ => q_mo_ca (M_X13_clear (q_kap E) l0) fun _v58 => (q_mo_rd fun v63 => (q_mo_wr (q_mo_rd fun v71 => (q_mo_wr (q_mo_wr q_mo_rt)))))) q_mo_no)) h (fun _v50 σ h => ?_) (fun N50 q50 σ h => ?_)
    · refine q_W.st (st' := []) rfl ?_
      refine q_goto (pc := 53) (tgt := 84) C dX13_assemble_53 (by decide) ?_
      refine q_aload_n (pc := 84) C 0 rfl dX13_assemble_84 rfl ?_
      refine q_getI (pc := 85) C dX13_assemble_85 ql_X13_283 h (fun v85 h => ?_)
      exact q_iret C B.2.2.2.2.1 dX13_assemble_88 h
    · by_cases cx0 : N50 = "IsaForgeModel$Fault"
      · replace h := (q_br_e h).1 cx0
        subst cx0
        refine ⟨[], ⟨49, 53, 56, 209⟩, [], "IsaForgeModel$Fault", hT, (fun z hz => nomatch hz), by decide, by decide, qb_X13_209, by decide +kernel, ?_⟩
        refine q_astore_n (pc := 56) (l' := [(1, q_R (some q50)), (0, q_R l0)]) C dX13_assemble_56 rfl (by decide) rfl ?_
        refine q_aload_n (pc := 57) C 1 rfl dX13_assemble_57 rfl ?_
        refine q_callVo (pc := 58) (As := []) (st := []) (ps := q_psV) C B.2.1 (by rw [hT]; decide) q_hpV qm_X13_226 qv_X13_clear dX13_assemble_58 rfl rfl (Nat.le_of_ble_eq_true rfl) (q_flo B.2.2.1 B.2.2.2.1 (by decide) (by decide)) (K_X13_clear l0) (M_X13_clear (q_kap E) l0) (by exact fun _v58 => (q_mo_rd fun v63 => (q_mo_wr (q_mo_rd fun v71 => (q_mo_wr (q_mo_wr q_mo_rt)))))) h (fun _v58 σ h => ?_)
        refine q_W.st (st' := []) rfl ?_
        refine q_aload_n (pc := 61) C 1 rfl dX13_assemble_61 rfl ?_
        refine q_aload_n (pc := 62) C 0 rfl dX13_assemble_62 rfl ?_
        refine q_getI (pc := 63) C dX13_assemble_63 ql_X13_382 h (fun v63 h => ?_)
        refine q_putV (pc := 66) (v := q_I v63) C dX13_assemble_66 ql_X13_377 (Or.inl rfl) rfl rfl h (fun M66 h => ?_)
        refine q_aload_n (pc := 69) C 1 rfl dX13_assemble_69 rfl ?_
        refine q_aload_n (pc := 70) C 0 rfl dX13_assemble_70 rfl ?_
        refine q_getI (pc := 71) C dX13_assemble_71 ql_X13_383 h (fun v71 h => ?_)
        refine q_putV (pc := 74) (v := q_I v71) C dX13_assemble_74 ql_X13_19 (Or.inl rfl) rfl rfl h (fun M74 h => ?_)
        refine q_aload_n (pc := 77) C 1 rfl dX13_assemble_77 rfl ?_
        refine q_iconst (pc := 78) (v := (2 : Int32)) C dX13_assemble_78 (by decide) ?_
        refine q_putV (pc := 79) (v := q_I (2 : Int32)) C dX13_assemble_79 ql_X13_138 (Or.inl rfl) rfl rfl h (fun M79 h => ?_)
        refine q_iconst (pc := 82) (v := (0 : Int32)) C dX13_assemble_82 (by decide) ?_
        exact q_iret C B.2.2.2.2.1 dX13_assemble_83 h
      replace h := (q_br_e h).2 cx0
      cases h
  · refine q_iconst (pc := 23) (v := (0 : Int32)) C dX13_assemble_23 (by decide) ?_
    exact q_iret C B.2.2.2.2.1 dX13_assemble_24 h
def F_X13_assemble (κ : Nat → Nat) (l0 : Option Nat) : q_X Int32 :=
  q_rd (q_gI l0 16 21) fun v2 => q_br (¬ v2 = 0) (F_X13_assemble_13 κ l0 l0 (0 : Int32)) (F_X13_assemble_13 κ l0 l0 (1 : Int32))
theorem M_X13_assemble (κ : Nat → Nat) (l0 : Option Nat) : q_mo (F_X13_assemble κ l0) := (q_mo_rd fun v2 => (q_mo_br (M_X13_assemble_13 κ l0 l0 (0 : Int32)) (M_X13_assemble_13 κ l0 l0 (1 : Int32))))
set_option maxRecDepth 100000 in
set_option maxHeartbeats 4000000 in
theorem K_X13_assemble {E : q_Ev} (l0 : Option Nat) : q_Ct E yX13_assemble (.codeWith yX13_assemble cX13_assemble 2 (some .int) [(49, 53, 56, 209)]) 8 188 [q_R l0] q_oI (F_X13_assemble (q_kap E) l0) := by
  refine q_enterH (by decide) (Nat.le_of_ble_eq_true rfl) (fun Γ σ w h B hT => ?_)
  have C := B.1
  unfold F_X13_assemble at h
  refine q_aload_n (pc := 0) C 0 rfl dX13_assemble_0 rfl ?_
  refine q_aload_n (pc := 1) C 0 rfl dX13_assemble_1 rfl ?_
  refine q_getI (pc := 2) C dX13_assemble_2 ql_X13_217 h (fun v2 h => ?_)
  refine q_if_ne (pc := 5) (tgt := 12) C dX13_assemble_5 (by decide) h (fun _ h => ?_) (fun _ h => ?_)
  · refine q_iconst (pc := 12) (v := (0 : Int32)) C dX13_assemble_12 (by decide) ?_
    exact S_X13_assemble_13 B hT l0 l0 (0 : Int32) _ h
  · refine q_iconst (pc := 8) (v := (1 : Int32)) C dX13_assemble_8 (by decide) ?_
    refine q_goto (pc := 9) (tgt := 13) C dX13_assemble_9 (by decide) ?_
    exact S_X13_assemble_13 B hT l0 l0 (1 : Int32) _ h
def F_X13_kind_ (κ : Nat → Nat) (l0 : Option Nat) : q_X Int32 :=
  q_wr (q_pF l0 16 7 (.int (0 : Int32))) (q_rd (q_gI l0 16 5) fun v6 => q_rt v6)
theorem M_X13_kind_ (κ : Nat → Nat) (l0 : Option Nat) : q_mo (F_X13_kind_ κ l0) := (q_mo_wr (q_mo_rd fun v6 => q_mo_rt))
theorem N_X13_kind_ (κ : Nat → Nat) (l0 : Option Nat) : q_ni (F_X13_kind_ κ l0) := (q_ni_wr (q_ni_rd fun v6 => q_ni_rt))
set_option maxRecDepth 100000 in
set_option maxHeartbeats 4000000 in
theorem K_X13_kind_ {E : q_Ev} (l0 : Option Nat) : q_Ct E yX13_kind_ (.code yX13_kind_ cX13_kind_ 1 (some .int)) 0 0 [q_R l0] q_oI (F_X13_kind_ (q_kap E) l0) := by
  refine q_enter (by decide) (Nat.le_of_ble_eq_true rfl) (fun Γ σ w h B hT => ?_)
  have C := B.1
  unfold F_X13_kind_ at h
  refine q_aload_n (pc := 0) C 0 rfl dX13_kind__0 rfl ?_
  refine q_iconst (pc := 1) (v := (0 : Int32)) C dX13_kind__1 (by decide) ?_
  refine q_putV (pc := 2) (v := q_I (0 : Int32)) C dX13_kind__2 ql_X13_138 (Or.inl rfl) rfl rfl h (fun M2 h => ?_)
  refine q_aload_n (pc := 5) C 0 rfl dX13_kind__5 rfl ?_
  refine q_getI (pc := 6) C dX13_kind__6 ql_X13_377 h (fun v6 h => ?_)
  exact q_iret C B.2.2.2.2.1 dX13_kind__9 h
def F_X13_place (κ : Nat → Nat) (l0 : Option Nat) : q_X Int32 :=
  q_wr (q_pF l0 16 7 (.int (0 : Int32))) (q_rd (q_gI l0 16 6) fun v6 => q_rt v6)
theorem M_X13_place (κ : Nat → Nat) (l0 : Option Nat) : q_mo (F_X13_place κ l0) := (q_mo_wr (q_mo_rd fun v6 => q_mo_rt))
theorem N_X13_place (κ : Nat → Nat) (l0 : Option Nat) : q_ni (F_X13_place κ l0) := (q_ni_wr (q_ni_rd fun v6 => q_ni_rt))
set_option maxRecDepth 100000 in
set_option maxHeartbeats 4000000 in
theorem K_X13_place {E : q_Ev} (l0 : Option Nat) : q_Ct E yX13_place (.code yX13_place cX13_place 1 (some .int)) 0 0 [q_R l0] q_oI (F_X13_place (q_kap E) l0) := by
  refine q_enter (by decide) (Nat.le_of_ble_eq_true rfl) (fun Γ σ w h B hT => ?_)
  have C := B.1
  unfold F_X13_place at h
  refine q_aload_n (pc := 0) C 0 rfl dX13_place_0 rfl ?_
  refine q_iconst (pc := 1) (v := (0 : Int32)) C dX13_place_1 (by decide) ?_
  refine q_putV (pc := 2) (v := q_I (0 : Int32)) C dX13_place_2 ql_X13_138 (Or.inl rfl) rfl rfl h (fun M2 h => ?_)
  refine q_aload_n (pc := 5) C 0 rfl dX13_place_5 rfl ?_
  refine q_getI (pc := 6) C dX13_place_6 ql_X13_19 h (fun v6 h => ?_)
  exact q_iret C B.2.2.2.2.1 dX13_place_9 h
def F_X13_isLaid_41 (κ : Nat → Nat) (s0 : Int32) : q_X Int32 :=
  q_rz s0
theorem M_X13_isLaid_41 (κ : Nat → Nat) (s0 : Int32) : q_mo (F_X13_isLaid_41 κ s0) := q_mo_rz
set_option maxRecDepth 100000 in
set_option maxHeartbeats 4000000 in
theorem S_X13_isLaid_41 {E : q_Ev} {Γ : q_Gm} {w : (Int32 ⊕ q_Exn) × q_St} (B : q_Bd E Γ cX13_isLaid yX13_isLaid.cls 2 0 0 (some .boolean) yX13_isLaid.name w) (hT : q_nT Γ) (s0 : Int32) (σ : q_St) (h : F_X13_isLaid_41 (q_kap E) s0 σ = some w) : q_W E Γ (q_QF E Γ q_oI w) 2 σ 41 [] [q_I s0] := by
  have C := B.1
  unfold F_X13_isLaid_41 at h
  exact q_zret C B.2.2.2.2.1 dX13_isLaid_41 h
def F_X13_isLaid_26 (κ : Nat → Nat) (l0 : Option Nat) (s0 : Option Nat) (s1 : Int32) : q_X Int32 :=
  q_wr (q_pF s0 16 7 (.int s1)) (q_rd (q_gI l0 16 7) fun v30 => q_br (¬ v30 = 0) (F_X13_isLaid_41 κ (0 : Int32)) (F_X13_isLaid_41 κ (1 : Int32)))
theorem M_X13_isLaid_26 (κ : Nat → Nat) (l0 : Option Nat) (s0 : Option Nat) (s1 : Int32) : q_mo (F_X13_isLaid_26 κ l0 s0 s1) := (q_mo_wr (q_mo_rd fun v30 => (q_mo_br (M_X13_isLaid_41 κ (0 : Int32)) (M_X13_isLaid_41 κ (1 : Int32)))))
set_option maxRecDepth 100000 in
set_option maxHeartbeats 4000000 in
theorem S_X13_isLaid_26 {E : q_Ev} {Γ : q_Gm} {w : (Int32 ⊕ q_Exn) × q_St} (B : q_Bd E Γ cX13_isLaid yX13_isLaid.cls 2 0 0 (some .boolean) yX13_isLaid.name w) (hT : q_nT Γ) (l0 : Option Nat) (s0 : Option Nat) (s1 : Int32) (σ : q_St) (h : F_X13_isLaid_26 (q_kap E) l0 s0 s1 σ = some w) : q_W E Γ (q_QF E Γ q_oI w) 2 σ 26 [(0, q_R l0)] [q_I s1, q_R s0] := by
  have C := B.1
  unfold F_X13_isLaid_26 at h
  refine q_putV (pc := 26) (v := q_I s1) C dX13_isLaid_26 ql_X13_138 (Or.inl rfl) rfl rfl h (fun M26 h => ?_)
  refine q_aload_n (pc := 29) C 0 rfl dX13_isLaid_29 rfl ?_
  refine q_getI (pc := 30) C dX13_isLaid_30 ql_X13_138 h (fun v30 h => ?_)
  refine q_if_ne (pc := 33) (tgt := 40) C dX13_isLaid_33 (by decide) h (fun _ h => ?_) (fun _ h => ?_)
  · refine q_iconst (pc := 40) (v := (0 : Int32)) C dX13_isLaid_40 (by decide) ?_
    refine q_W.sub [] rfl ?_
    exact S_X13_isLaid_41 B hT (0 : Int32) _ h
  · refine q_iconst (pc := 36) (v := (1 : Int32)) C dX13_isLaid_36 (by decide) ?_
    refine q_goto (pc := 37) (tgt := 41) C dX13_isLaid_37 (by decide) ?_
    refine q_W.sub [] rfl ?_
    exact S_X13_isLaid_41 B hT (1 : Int32) _ h
def F_X13_isLaid_21 (κ : Nat → Nat) (l0 : Option Nat) (s0 : Option Nat) : q_X Int32 :=
  F_X13_isLaid_26 κ l0 s0 (1 : Int32)
theorem M_X13_isLaid_21 (κ : Nat → Nat) (l0 : Option Nat) (s0 : Option Nat) : q_mo (F_X13_isLaid_21 κ l0 s0) := (M_X13_isLaid_26 κ l0 s0 (1 : Int32))
set_option maxRecDepth 100000 in
set_option maxHeartbeats 4000000 in
theorem S_X13_isLaid_21 {E : q_Ev} {Γ : q_Gm} {w : (Int32 ⊕ q_Exn) × q_St} (B : q_Bd E Γ cX13_isLaid yX13_isLaid.cls 2 0 0 (some .boolean) yX13_isLaid.name w) (hT : q_nT Γ) (l0 : Option Nat) (s0 : Option Nat) (σ : q_St) (h : F_X13_isLaid_21 (q_kap E) l0 s0 σ = some w) : q_W E Γ (q_QF E Γ q_oI w) 2 σ 21 [(0, q_R l0)] [q_R s0] := by
  have C := B.1
  unfold F_X13_isLaid_21 at h
  refine q_iconst (pc := 21) (v := (1 : Int32)) C dX13_isLaid_21 (by decide) ?_
  refine q_goto (pc := 22) (tgt := 26) C dX13_isLaid_22 (by decide) ?_
  exact S_X13_isLaid_26 B hT l0 s0 (1 : Int32) _ h
def F_X13_isLaid (κ : Nat → Nat) (l0 : Option Nat) (l1 : Int32) : q_X Int32 :=
  q_br (l1 < 0) (F_X13_isLaid_21 κ l0 l0) (q_br ((4096 : Int32) ≤ l1) (F_X13_isLaid_21 κ l0 l0) (q_rd (q_gA l0 16 41) fun v13 => q_rd (q_lI 3 v13 l1) fun v17 => q_br (¬ v17 = 0) (F_X13_isLaid_26 κ l0 l0 (0 : Int32)) (F_X13_isLaid_21 κ l0 l0)))
theorem M_X13_isLaid (κ : Nat → Nat) (l0 : Option Nat) (l1 : Int32) : q_mo (F_X13_isLaid κ l0 l1) := (q_mo_br (M_X13_isLaid_21 κ l0 l0) (q_mo_br (M_X13_isLaid_21 κ l0 l0) (q_mo_rd fun v13 => (q_mo_rd fun v17 => (q_mo_br (M_X13_isLaid_26 κ l0 l0 (0 : Int32)) (M_X13_isLaid_21 κ l0 l0))))))
set_option maxRecDepth 100000 in
set_option maxHeartbeats 4000000 in
theorem K_X13_isLaid {E : q_Ev} (l0 : Option Nat) (l1 : Int32) : q_Ct E yX13_isLaid (.code yX13_isLaid cX13_isLaid 2 (some .boolean)) 0 0 [q_R l0, q_I l1] q_oI (F_X13_isLaid (q_kap E) l0 l1) := by
  refine q_enter (by decide) (Nat.le_of_ble_eq_true rfl) (fun Γ σ w h B hT => ?_)
  have C := B.1
  unfold F_X13_isLaid at h
  refine q_aload_n (pc := 0) C 0 rfl dX13_isLaid_0 rfl ?_
  refine q_iload_n (pc := 1) C 1 rfl dX13_isLaid_1 rfl ?_
  refine q_if_lt (pc := 2) (tgt := 21) C dX13_isLaid_2 (by decide) h (fun _ h => ?_) (fun _ h => ?_)
  · refine q_W.sub [0] rfl ?_
    exact S_X13_isLaid_21 B hT l0 l0 _ h
  · refine q_iload_n (pc := 5) C 1 rfl dX13_isLaid_5 rfl ?_
    refine q_sipush (pc := 6) (v := (4096 : Int32)) C dX13_isLaid_6 (by decide) ?_
    refine q_icmp_ge (pc := 9) (tgt := 21) C dX13_isLaid_9 (by decide) h (fun _ h => ?_) (fun _ h => ?_)
    · refine q_W.sub [0] rfl ?_
      exact S_X13_isLaid_21 B hT l0 l0 _ h
    · refine q_aload_n (pc := 12) C 0 rfl dX13_isLaid_12 rfl ?_
      refine q_getA (pc := 13) C dX13_isLaid_13 ql_X13_101 h (fun v13 h => ?_)
      refine q_iload_n (pc := 16) C 1 rfl dX13_isLaid_16 rfl ?_
      refine q_ldI (pc := 17) C dX13_isLaid_17 (Or.inr (Or.inr ⟨rfl, rfl⟩)) h (fun v17 h => ?_)
      refine q_if_ne (pc := 18) (tgt := 25) C dX13_isLaid_18 (by decide) h (fun _ h => ?_) (fun _ h => ?_)
      · refine q_iconst (pc := 25) (v := (0 : Int32)) C dX13_isLaid_25 (by decide) ?_
        refine q_W.sub [0] rfl ?_
        exact S_X13_isLaid_26 B hT l0 l0 (0 : Int32) _ h
      · refine q_W.sub [0] rfl ?_
        exact S_X13_isLaid_21 B hT l0 l0 _ h
def F_X13_word_18 (κ : Nat → Nat) (s0 : Int64) : q_X Int64 :=
  q_rt s0
theorem M_X13_word_18 (κ : Nat → Nat) (s0 : Int64) : q_mo (F_X13_word_18 κ s0) := q_mo_rt
theorem N_X13_word_18 (κ : Nat → Nat) (s0 : Int64) : q_ni (F_X13_word_18 κ s0) := q_ni_rt
set_option maxRecDepth 100000 in
set_option maxHeartbeats 4000000 in
theorem S_X13_word_18 {E : q_Ev} {Γ : q_Gm} {w : (Int64 ⊕ q_Exn) × q_St} (B : q_Bd E Γ cX13_word yX13_word.cls 2 1 21 (some .long) yX13_word.name w) (hT : q_nT Γ) (s0 : Int64) (σ : q_St) (h : F_X13_word_18 (q_kap E) s0 σ = some w) : q_W E Γ (q_QF E Γ q_oL w) 2 σ 18 [] [q_L s0] := by
  have C := B.1
  unfold F_X13_word_18 at h
  exact q_lret C B.2.2.2.2.1 dX13_word_18 h
def F_X13_word (κ : Nat → Nat) (l0 : Option Nat) (l1 : Int32) : q_X Int64 :=
  q_rd (q_is l0 16) fun _ => q_ca (F_X13_isLaid κ l0 l1) fun v2 => q_br (v2 = 0) (F_X13_word_18 κ (0 : Int64)) (q_rd (q_gA l0 16 40) fun v9 => q_rd (q_lL v9 l1) fun v13 => F_X13_word_18 κ v13)
theorem M_X13_word (κ : Nat → Nat) (l0 : Option Nat) (l1 : Int32) : q_mo (F_X13_word κ l0 l1) := (q_mo_rd fun _ => q_mo_ca (M_X13_isLaid κ l0 l1) fun v2 => (q_mo_br (M_X13_word_18 κ (0 : Int64)) (q_mo_rd fun v9 => (q_mo_rd fun v13 => (M_X13_word_18 κ v13)))))
set_option maxRecDepth 100000 in
set_option maxHeartbeats 4000000 in
theorem K_X13_word {E : q_Ev} (l0 : Option Nat) (l1 : Int32) : q_Ct E yX13_word (.code yX13_word cX13_word 2 (some .long)) 1 21 [q_R l0, q_I l1] q_oL (F_X13_word (q_kap E) l0 l1) := by
  refine q_enter (by decide) (Nat.le_of_ble_eq_true rfl) (fun Γ σ w h B hT => ?_)
  have C := B.1
  unfold F_X13_word at h
  refine q_aload_n (pc := 0) C 0 rfl dX13_word_0 rfl ?_
  refine q_iload_n (pc := 1) C 1 rfl dX13_word_1 rfl ?_
  refine q_callV (pc := 2) (As := [q_I l1]) (st := []) (ps := q_psI) C B.2.1 hT q_hpI qm_X13_387 qv_X13_isLaid dX13_word_2 rfl rfl (Nat.le_of_ble_eq_true rfl) (q_flo B.2.2.1 B.2.2.2.1 (by decide) (by decide)) (K_X13_isLaid l0 l1) (M_X13_isLaid (q_kap E) l0 l1) (by exact fun v2 => (q_mo_br (M_X13_word_18 (q_kap E) (0 : Int64)) (q_mo_rd fun v9 => (q_mo_rd fun v13 => (M_X13_word_18 (q_kap E) v13))))) h (fun v2 σ h => ?_)
  refine q_W.st (st' := [q_I v2]) rfl ?_
  refine q_if_eq (pc := 5) (tgt := 17) C dX13_word_5 (by decide) h (fun _ h => ?_) (fun _ h => ?_)
  · refine q_lconst (pc := 17) (v := (0 : Int64)) C dX13_word_17 (by decide) ?_
    refine q_W.sub [] rfl ?_
    exact S_X13_word_18 B hT (0 : Int64) _ h
  · refine q_aload_n (pc := 8) C 0 rfl dX13_word_8 rfl ?_
    refine q_getA (pc := 9) C dX13_word_9 ql_X13_98 h (fun v9 h => ?_)
    refine q_iload_n (pc := 12) C 1 rfl dX13_word_12 rfl ?_
    refine q_ldL (pc := 13) C dX13_word_13 h (fun v13 h => ?_)
    refine q_goto (pc := 14) (tgt := 18) C dX13_word_14 (by decide) ?_
    refine q_W.sub [] rfl ?_
    exact S_X13_word_18 B hT v13 _ h
