def F_L_law_911 (κ : Nat → Nat) (sb L : Nat) (xs : Nat → Int32) (r23 : Option Nat → Option Nat → Option Nat → Option Nat → Int32 → q_X Int32) (l0 : Option Nat) (l1 : Option Nat) (l2 : Option Nat) (l3 : Option Nat) (l4 : Int32) : q_X Int32 :=
  r23 l0 l1 l2 l3 (l4 + (6 : Int32))
theorem M_L_law_911 (κ : Nat → Nat) (sb L : Nat) (xs : Nat → Int32) (r23 : Option Nat → Option Nat → Option Nat → Option Nat → Int32 → q_X Int32) (mr23 : ∀ (l0 : Option Nat) (l1 : Option Nat) (l2 : Option Nat) (l3 : Option Nat) (l4 : Int32), q_mo (r23 l0 l1 l2 l3 l4)) (l0 : Option Nat) (l1 : Option Nat) (l2 : Option Nat) (l3 : Option Nat) (l4 : Int32) : q_mo (F_L_law_911 κ sb L xs r23 l0 l1 l2 l3 l4) := (mr23 l0 l1 l2 l3 (l4 + (6 : Int32)))
set_option maxRecDepth 100000 in
set_option maxHeartbeats 4000000 in
theorem S_L_law_911 {E : q_Ev} {Γ : q_Gm} {w : (Int32 ⊕ q_Exn) × q_St} (B : q_Bd E Γ code RL 8 2048 84000 (some .boolean) "law" w) (hT : q_nT Γ) {sb L : Nat} {xs : Nat → Int32} (X : q_LX E Γ sb L xs w) (r23 : Option Nat → Option Nat → Option Nat → Option Nat → Int32 → q_X Int32) (hr23 : ∀ (l0 : Option Nat) (l1 : Option Nat) (l2 : Option Nat) (l3 : Option Nat) (l4 : Int32) (σ : q_St), r23 l0 l1 l2 l3 l4 σ = some w → q_W E Γ (q_LZ Γ) 8 σ 23 [(0, q_R l0), (1, q_R l1), (2, q_R l2), (3, q_R l3), (4, q_I l4)] []) (mr23 : ∀ (l0 : Option Nat) (l1 : Option Nat) (l2 : Option Nat) (l3 : Option Nat) (l4 : Int32), q_mo (r23 l0 l1 l2 l3 l4)) (l0 : Option Nat) (l1 : Option Nat) (l2 : Option Nat) (l3 : Option Nat) (l4 : Int32) (σ : q_St) (h : F_L_law_911 (q_kap E) sb L xs r23 l0 l1 l2 l3 l4 σ = some w) : q_W E Γ (q_LZ Γ) 8 σ 911 [(0, q_R l0), (1, q_R l1), (2, q_R l2), (3, q_R l3), (4, q_I l4)] [] := by
  have C := B.1
  unfold F_L_law_911 at h
  refine q_iinc (pc := 911) (v := (6 : Int32)) (l' := [(4, q_I (l4 + (6 : Int32))), (0, q_R l0), (1, q_R l1), (2, q_R l2), (3, q_R l3)]) C 4 rfl dL_law_911 (by decide) (by decide) rfl ?_
  refine q_goto (pc := 914) (tgt := 23) C dL_law_914 (by decide) ?_
  refine q_W.sub [1, 2, 3, 4, 0] rfl ?_
  exact hr23 l0 l1 l2 l3 (l4 + (6 : Int32)) _ h
def F_L_law_908 (κ : Nat → Nat) (sb L : Nat) (xs : Nat → Int32) (r23 : Option Nat → Option Nat → Option Nat → Option Nat → Int32 → q_X Int32) (l0 : Option Nat) (l1 : Option Nat) (l2 : Option Nat) (l3 : Option Nat) (l4 : Int32) : q_X Int32 :=
  F_L_law_911 κ sb L xs r23 l0 l1 l2 l3 l4
theorem M_L_law_908 (κ : Nat → Nat) (sb L : Nat) (xs : Nat → Int32) (r23 : Option Nat → Option Nat → Option Nat → Option Nat → Int32 → q_X Int32) (mr23 : ∀ (l0 : Option Nat) (l1 : Option Nat) (l2 : Option Nat) (l3 : Option Nat) (l4 : Int32), q_mo (r23 l0 l1 l2 l3 l4)) (l0 : Option Nat) (l1 : Option Nat) (l2 : Option Nat) (l3 : Option Nat) (l4 : Int32) : q_mo (F_L_law_908 κ sb L xs r23 l0 l1 l2 l3 l4) := (M_L_law_911 κ sb L xs r23 mr23 l0 l1 l2 l3 l4)
set_option maxRecDepth 100000 in
set_option maxHeartbeats 4000000 in
theorem S_L_law_908 {E : q_Ev} {Γ : q_Gm} {w : (Int32 ⊕ q_Exn) × q_St} (B : q_Bd E Γ code RL 8 2048 84000 (some .boolean) "law" w) (hT : q_nT Γ) {sb L : Nat} {xs : Nat → Int32} (X : q_LX E Γ sb L xs w) (r23 : Option Nat → Option Nat → Option Nat → Option Nat → Int32 → q_X Int32) (hr23 : ∀ (l0 : Option Nat) (l1 : Option Nat) (l2 : Option Nat) (l3 : Option Nat) (l4 : Int32) (σ : q_St), r23 l0 l1 l2 l3 l4 σ = some w → q_W E Γ (q_LZ Γ) 8 σ 23 [(0, q_R l0), (1, q_R l1), (2, q_R l2), (3, q_R l3), (4, q_I l4)] []) (mr23 : ∀ (l0 : Option Nat) (l1 : Option Nat) (l2 : Option Nat) (l3 : Option Nat) (l4 : Int32), q_mo (r23 l0 l1 l2 l3 l4)) (l0 : Option Nat) (l1 : Option Nat) (l2 : Option Nat) (l3 : Option Nat) (l4 : Int32) (σ : q_St) (h : F_L_law_908 (q_kap E) sb L xs r23 l0 l1 l2 l3 l4 σ = some w) : q_W E Γ (q_LZ Γ) 8 σ 908 [(0, q_R l0), (1, q_R l1), (2, q_R l2), (3, q_R l3), (4, q_I l4)] [] := by
  have C := B.1
  unfold F_L_law_908 at h
  refine q_goto (pc := 908) (tgt := 911) C dL_law_908 (by decide) ?_
  exact S_L_law_911 B hT X r23 hr23 mr23 l0 l1 l2 l3 l4 _ h
def F_L_law_852 (κ : Nat → Nat) (sb L : Nat) (xs : Nat → Int32) (r23 : Option Nat → Option Nat → Option Nat → Option Nat → Int32 → q_X Int32) (l0 : Option Nat) (l1 : Option Nat) (l2 : Option Nat) (l3 : Option Nat) (l4 : Int32) : q_X Int32 :=
  F_L_law_911 κ sb L xs r23 l0 l1 l2 l3 l4
theorem M_L_law_852 (κ : Nat → Nat) (sb L : Nat) (xs : Nat → Int32) (r23 : Option Nat → Option Nat → Option Nat → Option Nat → Int32 → q_X Int32) (mr23 : ∀ (l0 : Option Nat) (l1 : Option Nat) (l2 : Option Nat) (l3 : Option Nat) (l4 : Int32), q_mo (r23 l0 l1 l2 l3 l4)) (l0 : Option Nat) (l1 : Option Nat) (l2 : Option Nat) (l3 : Option Nat) (l4 : Int32) : q_mo (F_L_law_852 κ sb L xs r23 l0 l1 l2 l3 l4) := (M_L_law_911 κ sb L xs r23 mr23 l0 l1 l2 l3 l4)
set_option maxRecDepth 100000 in
set_option maxHeartbeats 4000000 in
theorem S_L_law_852 {E : q_Ev} {Γ : q_Gm} {w : (Int32 ⊕ q_Exn) × q_St} (B : q_Bd E Γ code RL 8 2048 84000 (some .boolean) "law" w) (hT : q_nT Γ) {sb L : Nat} {xs : Nat → Int32} (X : q_LX E Γ sb L xs w) (r23 : Option Nat → Option Nat → Option Nat → Option Nat → Int32 → q_X Int32) (hr23 : ∀ (l0 : Option Nat) (l1 : Option Nat) (l2 : Option Nat) (l3 : Option Nat) (l4 : Int32) (σ : q_St), r23 l0 l1 l2 l3 l4 σ = some w → q_W E Γ (q_LZ Γ) 8 σ 23 [(0, q_R l0), (1, q_R l1), (2, q_R l2), (3, q_R l3), (4, q_I l4)] []) (mr23 : ∀ (l0 : Option Nat) (l1 : Option Nat) (l2 : Option Nat) (l3 : Option Nat) (l4 : Int32), q_mo (r23 l0 l1 l2 l3 l4)) (l0 : Option Nat) (l1 : Option Nat) (l2 : Option Nat) (l3 : Option Nat) (l4 : Int32) (σ : q_St) (h : F_L_law_852 (q_kap E) sb L xs r23 l0 l1 l2 l3 l4 σ = some w) : q_W E Γ (q_LZ Γ) 8 σ 852 [(0, q_R l0), (1, q_R l1), (2, q_R l2), (3, q_R l3), (4, q_I l4)] [] := by
  have C := B.1
  unfold F_L_law_852 at h
  refine q_goto (pc := 852) (tgt := 911) C dL_law_852 (by decide) ?_
  exact S_L_law_911 B hT X r23 hr23 mr23 l0 l1 l2 l3 l4 _ h
def F_L_law_846 (κ : Nat → Nat) (sb L : Nat) (xs : Nat → Int32) (r23 : Option Nat → Option Nat → Option Nat → Option Nat → Int32 → q_X Int32) (l0 : Option Nat) (l1 : Option Nat) (l2 : Option Nat) (l3 : Option Nat) (l4 : Int32) (s0 : Int64) (s1 : Int64) : q_X Int32 :=
  q_br ((lg_cmp s0 s1) = 0) (F_L_law_852 κ sb L xs r23 l0 l1 l2 l3 l4) (q_rz (0 : Int32))
theorem M_L_law_846 (κ : Nat → Nat) (sb L : Nat) (xs : Nat → Int32) (r23 : Option Nat → Option Nat → Option Nat → Option Nat → Int32 → q_X Int32) (mr23 : ∀ (l0 : Option Nat) (l1 : Option Nat) (l2 : Option Nat) (l3 : Option Nat) (l4 : Int32), q_mo (r23 l0 l1 l2 l3 l4)) (l0 : Option Nat) (l1 : Option Nat) (l2 : Option Nat) (l3 : Option Nat) (l4 : Int32) (s0 : Int64) (s1 : Int64) : q_mo (F_L_law_846 κ sb L xs r23 l0 l1 l2 l3 l4 s0 s1) := (q_mo_br (M_L_law_852 κ sb L xs r23 mr23 l0 l1 l2 l3 l4) q_mo_rz)
set_option maxRecDepth 100000 in
set_option maxHeartbeats 4000000 in
theorem S_L_law_846 {E : q_Ev} {Γ : q_Gm} {w : (Int32 ⊕ q_Exn) × q_St} (B : q_Bd E Γ code RL 8 2048 84000 (some .boolean) "law" w) (hT : q_nT Γ) {sb L : Nat} {xs : Nat → Int32} (X : q_LX E Γ sb L xs w) (r23 : Option Nat → Option Nat → Option Nat → Option Nat → Int32 → q_X Int32) (hr23 : ∀ (l0 : Option Nat) (l1 : Option Nat) (l2 : Option Nat) (l3 : Option Nat) (l4 : Int32) (σ : q_St), r23 l0 l1 l2 l3 l4 σ = some w → q_W E Γ (q_LZ Γ) 8 σ 23 [(0, q_R l0), (1, q_R l1), (2, q_R l2), (3, q_R l3), (4, q_I l4)] []) (mr23 : ∀ (l0 : Option Nat) (l1 : Option Nat) (l2 : Option Nat) (l3 : Option Nat) (l4 : Int32), q_mo (r23 l0 l1 l2 l3 l4)) (l0 : Option Nat) (l1 : Option Nat) (l2 : Option Nat) (l3 : Option Nat) (l4 : Int32) (s0 : Int64) (s1 : Int64) (σ : q_St) (h : F_L_law_846 (q_kap E) sb L xs r23 l0 l1 l2 l3 l4 s0 s1 σ = some w) : q_W E Γ (q_LZ Γ) 8 σ 846 [(0, q_R l0), (1, q_R l1), (2, q_R l2), (3, q_R l3), (4, q_I l4)] [q_L s1, q_L s0] := by
  have C := B.1
  unfold F_L_law_846 at h
  refine q_lcmp (pc := 846) C dL_law_846 ?_
  refine q_if_eq (pc := 847) (tgt := 852) C dL_law_847 (by decide) h (fun _ h => ?_) (fun _ h => ?_)
  · exact S_L_law_852 B hT X r23 hr23 mr23 l0 l1 l2 l3 l4 _ h
  · refine q_iconst (pc := 850) (v := (0 : Int32)) C dL_law_850 (by decide) ?_
    exact q_lawR C X B.2.1 B.2.2.2.2.1 dL_law_851 h
def F_L_law_777 (κ : Nat → Nat) (sb L : Nat) (xs : Nat → Int32) (r23 : Option Nat → Option Nat → Option Nat → Option Nat → Int32 → q_X Int32) (l0 : Option Nat) (l1 : Option Nat) (l2 : Option Nat) (l3 : Option Nat) (l4 : Int32) : q_X Int32 :=
  F_L_law_911 κ sb L xs r23 l0 l1 l2 l3 l4
theorem M_L_law_777 (κ : Nat → Nat) (sb L : Nat) (xs : Nat → Int32) (r23 : Option Nat → Option Nat → Option Nat → Option Nat → Int32 → q_X Int32) (mr23 : ∀ (l0 : Option Nat) (l1 : Option Nat) (l2 : Option Nat) (l3 : Option Nat) (l4 : Int32), q_mo (r23 l0 l1 l2 l3 l4)) (l0 : Option Nat) (l1 : Option Nat) (l2 : Option Nat) (l3 : Option Nat) (l4 : Int32) : q_mo (F_L_law_777 κ sb L xs r23 l0 l1 l2 l3 l4) := (M_L_law_911 κ sb L xs r23 mr23 l0 l1 l2 l3 l4)
set_option maxRecDepth 100000 in
set_option maxHeartbeats 4000000 in
theorem S_L_law_777 {E : q_Ev} {Γ : q_Gm} {w : (Int32 ⊕ q_Exn) × q_St} (B : q_Bd E Γ code RL 8 2048 84000 (some .boolean) "law" w) (hT : q_nT Γ) {sb L : Nat} {xs : Nat → Int32} (X : q_LX E Γ sb L xs w) (r23 : Option Nat → Option Nat → Option Nat → Option Nat → Int32 → q_X Int32) (hr23 : ∀ (l0 : Option Nat) (l1 : Option Nat) (l2 : Option Nat) (l3 : Option Nat) (l4 : Int32) (σ : q_St), r23 l0 l1 l2 l3 l4 σ = some w → q_W E Γ (q_LZ Γ) 8 σ 23 [(0, q_R l0), (1, q_R l1), (2, q_R l2), (3, q_R l3), (4, q_I l4)] []) (mr23 : ∀ (l0 : Option Nat) (l1 : Option Nat) (l2 : Option Nat) (l3 : Option Nat) (l4 : Int32), q_mo (r23 l0 l1 l2 l3 l4)) (l0 : Option Nat) (l1 : Option Nat) (l2 : Option Nat) (l3 : Option Nat) (l4 : Int32) (σ : q_St) (h : F_L_law_777 (q_kap E) sb L xs r23 l0 l1 l2 l3 l4 σ = some w) : q_W E Γ (q_LZ Γ) 8 σ 777 [(0, q_R l0), (1, q_R l1), (2, q_R l2), (3, q_R l3), (4, q_I l4)] [] := by
  have C := B.1
  unfold F_L_law_777 at h
  refine q_goto (pc := 777) (tgt := 911) C dL_law_777 (by decide) ?_
  exact S_L_law_911 B hT X r23 hr23 mr23 l0 l1 l2 l3 l4 _ h
def F_L_law_710 (κ : Nat → Nat) (sb L : Nat) (xs : Nat → Int32) (r23 : Option Nat → Option Nat → Option Nat → Option Nat → Int32 → q_X Int32) (l0 : Option Nat) (l1 : Option Nat) (l2 : Option Nat) (l3 : Option Nat) (l4 : Int32) : q_X Int32 :=
  F_L_law_911 κ sb L xs r23 l0 l1 l2 l3 l4
theorem M_L_law_710 (κ : Nat → Nat) (sb L : Nat) (xs : Nat → Int32) (r23 : Option Nat → Option Nat → Option Nat → Option Nat → Int32 → q_X Int32) (mr23 : ∀ (l0 : Option Nat) (l1 : Option Nat) (l2 : Option Nat) (l3 : Option Nat) (l4 : Int32), q_mo (r23 l0 l1 l2 l3 l4)) (l0 : Option Nat) (l1 : Option Nat) (l2 : Option Nat) (l3 : Option Nat) (l4 : Int32) : q_mo (F_L_law_710 κ sb L xs r23 l0 l1 l2 l3 l4) := (M_L_law_911 κ sb L xs r23 mr23 l0 l1 l2 l3 l4)
set_option maxRecDepth 100000 in
set_option maxHeartbeats 4000000 in
theorem S_L_law_710 {E : q_Ev} {Γ : q_Gm} {w : (Int32 ⊕ q_Exn) × q_St} (B : q_Bd E Γ code RL 8 2048 84000 (some .boolean) "law" w) (hT : q_nT Γ) {sb L : Nat} {xs : Nat → Int32} (X : q_LX E Γ sb L xs w) (r23 : Option Nat → Option Nat → Option Nat → Option Nat → Int32 → q_X Int32) (hr23 : ∀ (l0 : Option Nat) (l1 : Option Nat) (l2 : Option Nat) (l3 : Option Nat) (l4 : Int32) (σ : q_St), r23 l0 l1 l2 l3 l4 σ = some w → q_W E Γ (q_LZ Γ) 8 σ 23 [(0, q_R l0), (1, q_R l1), (2, q_R l2), (3, q_R l3), (4, q_I l4)] []) (mr23 : ∀ (l0 : Option Nat) (l1 : Option Nat) (l2 : Option Nat) (l3 : Option Nat) (l4 : Int32), q_mo (r23 l0 l1 l2 l3 l4)) (l0 : Option Nat) (l1 : Option Nat) (l2 : Option Nat) (l3 : Option Nat) (l4 : Int32) (σ : q_St) (h : F_L_law_710 (q_kap E) sb L xs r23 l0 l1 l2 l3 l4 σ = some w) : q_W E Γ (q_LZ Γ) 8 σ 710 [(0, q_R l0), (1, q_R l1), (2, q_R l2), (3, q_R l3), (4, q_I l4)] [] := by
  have C := B.1
  unfold F_L_law_710 at h
  refine q_goto (pc := 710) (tgt := 911) C dL_law_710 (by decide) ?_
  exact S_L_law_911 B hT X r23 hr23 mr23 l0 l1 l2 l3 l4 _ h
def F_L_law_666 (κ : Nat → Nat) (sb L : Nat) (xs : Nat → Int32) (r23 : Option Nat → Option Nat → Option Nat → Option Nat → Int32 → q_X Int32) (l0 : Option Nat) (l1 : Option Nat) (l2 : Option Nat) (l3 : Option Nat) (l4 : Int32) : q_X Int32 :=
  F_L_law_911 κ sb L xs r23 l0 l1 l2 l3 l4
theorem M_L_law_666 (κ : Nat → Nat) (sb L : Nat) (xs : Nat → Int32) (r23 : Option Nat → Option Nat → Option Nat → Option Nat → Int32 → q_X Int32) (mr23 : ∀ (l0 : Option Nat) (l1 : Option Nat) (l2 : Option Nat) (l3 : Option Nat) (l4 : Int32), q_mo (r23 l0 l1 l2 l3 l4)) (l0 : Option Nat) (l1 : Option Nat) (l2 : Option Nat) (l3 : Option Nat) (l4 : Int32) : q_mo (F_L_law_666 κ sb L xs r23 l0 l1 l2 l3 l4) := (M_L_law_911 κ sb L xs r23 mr23 l0 l1 l2 l3 l4)
set_option maxRecDepth 100000 in
set_option maxHeartbeats 4000000 in
theorem S_L_law_666 {E : q_Ev} {Γ : q_Gm} {w : (Int32 ⊕ q_Exn) × q_St} (B : q_Bd E Γ code RL 8 2048 84000 (some .boolean) "law" w) (hT : q_nT Γ) {sb L : Nat} {xs : Nat → Int32} (X : q_LX E Γ sb L xs w) (r23 : Option Nat → Option Nat → Option Nat → Option Nat → Int32 → q_X Int32) (hr23 : ∀ (l0 : Option Nat) (l1 : Option Nat) (l2 : Option Nat) (l3 : Option Nat) (l4 : Int32) (σ : q_St), r23 l0 l1 l2 l3 l4 σ = some w → q_W E Γ (q_LZ Γ) 8 σ 23 [(0, q_R l0), (1, q_R l1), (2, q_R l2), (3, q_R l3), (4, q_I l4)] []) (mr23 : ∀ (l0 : Option Nat) (l1 : Option Nat) (l2 : Option Nat) (l3 : Option Nat) (l4 : Int32), q_mo (r23 l0 l1 l2 l3 l4)) (l0 : Option Nat) (l1 : Option Nat) (l2 : Option Nat) (l3 : Option Nat) (l4 : Int32) (σ : q_St) (h : F_L_law_666 (q_kap E) sb L xs r23 l0 l1 l2 l3 l4 σ = some w) : q_W E Γ (q_LZ Γ) 8 σ 666 [(0, q_R l0), (1, q_R l1), (2, q_R l2), (3, q_R l3), (4, q_I l4)] [] := by
  have C := B.1
  unfold F_L_law_666 at h
  refine q_goto (pc := 666) (tgt := 911) C dL_law_666 (by decide) ?_
  exact S_L_law_911 B hT X r23 hr23 mr23 l0 l1 l2 l3 l4 _ h
def F_L_law_598 (κ : Nat → Nat) (sb L : Nat) (xs : Nat → Int32) (r23 : Option Nat → Option Nat → Option Nat → Option Nat → Int32 → q_X Int32) (l0 : Option Nat) (l1 : Option Nat) (l2 : Option Nat) (l3 : Option Nat) (l4 : Int32) : q_X Int32 :=
  F_L_law_911 κ sb L xs r23 l0 l1 l2 l3 l4
theorem M_L_law_598 (κ : Nat → Nat) (sb L : Nat) (xs : Nat → Int32) (r23 : Option Nat → Option Nat → Option Nat → Option Nat → Int32 → q_X Int32) (mr23 : ∀ (l0 : Option Nat) (l1 : Option Nat) (l2 : Option Nat) (l3 : Option Nat) (l4 : Int32), q_mo (r23 l0 l1 l2 l3 l4)) (l0 : Option Nat) (l1 : Option Nat) (l2 : Option Nat) (l3 : Option Nat) (l4 : Int32) : q_mo (F_L_law_598 κ sb L xs r23 l0 l1 l2 l3 l4) := (M_L_law_911 κ sb L xs r23 mr23 l0 l1 l2 l3 l4)
set_option maxRecDepth 100000 in
set_option maxHeartbeats 4000000 in
theorem S_L_law_598 {E : q_Ev} {Γ : q_Gm} {w : (Int32 ⊕ q_Exn) × q_St} (B : q_Bd E Γ code RL 8 2048 84000 (some .boolean) "law" w) (hT : q_nT Γ) {sb L : Nat} {xs : Nat → Int32} (X : q_LX E Γ sb L xs w) (r23 : Option Nat → Option Nat → Option Nat → Option Nat → Int32 → q_X Int32) (hr23 : ∀ (l0 : Option Nat) (l1 : Option Nat) (l2 : Option Nat) (l3 : Option Nat) (l4 : Int32) (σ : q_St), r23 l0 l1 l2 l3 l4 σ = some w → q_W E Γ (q_LZ Γ) 8 σ 23 [(0, q_R l0), (1, q_R l1), (2, q_R l2), (3, q_R l3), (4, q_I l4)] []) (mr23 : ∀ (l0 : Option Nat) (l1 : Option Nat) (l2 : Option Nat) (l3 : Option Nat) (l4 : Int32), q_mo (r23 l0 l1 l2 l3 l4)) (l0 : Option Nat) (l1 : Option Nat) (l2 : Option Nat) (l3 : Option Nat) (l4 : Int32) (σ : q_St) (h : F_L_law_598 (q_kap E) sb L xs r23 l0 l1 l2 l3 l4 σ = some w) : q_W E Γ (q_LZ Γ) 8 σ 598 [(0, q_R l0), (1, q_R l1), (2, q_R l2), (3, q_R l3), (4, q_I l4)] [] := by
  have C := B.1
  unfold F_L_law_598 at h
  refine q_goto (pc := 598) (tgt := 911) C dL_law_598 (by decide) ?_
  exact S_L_law_911 B hT X r23 hr23 mr23 l0 l1 l2 l3 l4 _ h
def F_L_law_542 (κ : Nat → Nat) (sb L : Nat) (xs : Nat → Int32) (r23 : Option Nat → Option Nat → Option Nat → Option Nat → Int32 → q_X Int32) (l0 : Option Nat) (l1 : Option Nat) (l2 : Option Nat) (l3 : Option Nat) (l4 : Int32) : q_X Int32 :=
  F_L_law_911 κ sb L xs r23 l0 l1 l2 l3 l4
theorem M_L_law_542 (κ : Nat → Nat) (sb L : Nat) (xs : Nat → Int32) (r23 : Option Nat → Option Nat → Option Nat → Option Nat → Int32 → q_X Int32) (mr23 : ∀ (l0 : Option Nat) (l1 : Option Nat) (l2 : Option Nat) (l3 : Option Nat) (l4 : Int32), q_mo (r23 l0 l1 l2 l3 l4)) (l0 : Option Nat) (l1 : Option Nat) (l2 : Option Nat) (l3 : Option Nat) (l4 : Int32) : q_mo (F_L_law_542 κ sb L xs r23 l0 l1 l2 l3 l4) := (M_L_law_911 κ sb L xs r23 mr23 l0 l1 l2 l3 l4)
set_option maxRecDepth 100000 in
set_option maxHeartbeats 4000000 in
theorem S_L_law_542 {E : q_Ev} {Γ : q_Gm} {w : (Int32 ⊕ q_Exn) × q_St} (B : q_Bd E Γ code RL 8 2048 84000 (some .boolean) "law" w) (hT : q_nT Γ) {sb L : Nat} {xs : Nat → Int32} (X : q_LX E Γ sb L xs w) (r23 : Option Nat → Option Nat → Option Nat → Option Nat → Int32 → q_X Int32) (hr23 : ∀ (l0 : Option Nat) (l1 : Option Nat) (l2 : Option Nat) (l3 : Option Nat) (l4 : Int32) (σ : q_St), r23 l0 l1 l2 l3 l4 σ = some w → q_W E Γ (q_LZ Γ) 8 σ 23 [(0, q_R l0), (1, q_R l1), (2, q_R l2), (3, q_R l3), (4, q_I l4)] []) (mr23 : ∀ (l0 : Option Nat) (l1 : Option Nat) (l2 : Option Nat) (l3 : Option Nat) (l4 : Int32), q_mo (r23 l0 l1 l2 l3 l4)) (l0 : Option Nat) (l1 : Option Nat) (l2 : Option Nat) (l3 : Option Nat) (l4 : Int32) (σ : q_St) (h : F_L_law_542 (q_kap E) sb L xs r23 l0 l1 l2 l3 l4 σ = some w) : q_W E Γ (q_LZ Γ) 8 σ 542 [(0, q_R l0), (1, q_R l1), (2, q_R l2), (3, q_R l3), (4, q_I l4)] [] := by
  have C := B.1
  unfold F_L_law_542 at h
  refine q_goto (pc := 542) (tgt := 911) C dL_law_542 (by decide) ?_
  exact S_L_law_911 B hT X r23 hr23 mr23 l0 l1 l2 l3 l4 _ h
def F_L_law_442 (κ : Nat → Nat) (sb L : Nat) (xs : Nat → Int32) (r23 : Option Nat → Option Nat → Option Nat → Option Nat → Int32 → q_X Int32) (l0 : Option Nat) (l1 : Option Nat) (l2 : Option Nat) (l3 : Option Nat) (l4 : Int32) : q_X Int32 :=
  F_L_law_911 κ sb L xs r23 l0 l1 l2 l3 l4
theorem M_L_law_442 (κ : Nat → Nat) (sb L : Nat) (xs : Nat → Int32) (r23 : Option Nat → Option Nat → Option Nat → Option Nat → Int32 → q_X Int32) (mr23 : ∀ (l0 : Option Nat) (l1 : Option Nat) (l2 : Option Nat) (l3 : Option Nat) (l4 : Int32), q_mo (r23 l0 l1 l2 l3 l4)) (l0 : Option Nat) (l1 : Option Nat) (l2 : Option Nat) (l3 : Option Nat) (l4 : Int32) : q_mo (F_L_law_442 κ sb L xs r23 l0 l1 l2 l3 l4) := (M_L_law_911 κ sb L xs r23 mr23 l0 l1 l2 l3 l4)
set_option maxRecDepth 100000 in
set_option maxHeartbeats 4000000 in
theorem S_L_law_442 {E : q_Ev} {Γ : q_Gm} {w : (Int32 ⊕ q_Exn) × q_St} (B : q_Bd E Γ code RL 8 2048 84000 (some .boolean) "law" w) (hT : q_nT Γ) {sb L : Nat} {xs : Nat → Int32} (X : q_LX E Γ sb L xs w) (r23 : Option Nat → Option Nat → Option Nat → Option Nat → Int32 → q_X Int32) (hr23 : ∀ (l0 : Option Nat) (l1 : Option Nat) (l2 : Option Nat) (l3 : Option Nat) (l4 : Int32) (σ : q_St), r23 l0 l1 l2 l3 l4 σ = some w → q_W E Γ (q_LZ Γ) 8 σ 23 [(0, q_R l0), (1, q_R l1), (2, q_R l2), (3, q_R l3), (4, q_I l4)] []) (mr23 : ∀ (l0 : Option Nat) (l1 : Option Nat) (l2 : Option Nat) (l3 : Option Nat) (l4 : Int32), q_mo (r23 l0 l1 l2 l3 l4)) (l0 : Option Nat) (l1 : Option Nat) (l2 : Option Nat) (l3 : Option Nat) (l4 : Int32) (σ : q_St) (h : F_L_law_442 (q_kap E) sb L xs r23 l0 l1 l2 l3 l4 σ = some w) : q_W E Γ (q_LZ Γ) 8 σ 442 [(0, q_R l0), (1, q_R l1), (2, q_R l2), (3, q_R l3), (4, q_I l4)] [] := by
  have C := B.1
  unfold F_L_law_442 at h
  refine q_goto (pc := 442) (tgt := 911) C dL_law_442 (by decide) ?_
  exact S_L_law_911 B hT X r23 hr23 mr23 l0 l1 l2 l3 l4 _ h
def F_L_law_361 (κ : Nat → Nat) (sb L : Nat) (xs : Nat → Int32) (r23 : Option Nat → Option Nat → Option Nat → Option Nat → Int32 → q_X Int32) (l0 : Option Nat) (l1 : Option Nat) (l2 : Option Nat) (l3 : Option Nat) (l4 : Int32) : q_X Int32 :=
  F_L_law_911 κ sb L xs r23 l0 l1 l2 l3 l4
theorem M_L_law_361 (κ : Nat → Nat) (sb L : Nat) (xs : Nat → Int32) (r23 : Option Nat → Option Nat → Option Nat → Option Nat → Int32 → q_X Int32) (mr23 : ∀ (l0 : Option Nat) (l1 : Option Nat) (l2 : Option Nat) (l3 : Option Nat) (l4 : Int32), q_mo (r23 l0 l1 l2 l3 l4)) (l0 : Option Nat) (l1 : Option Nat) (l2 : Option Nat) (l3 : Option Nat) (l4 : Int32) : q_mo (F_L_law_361 κ sb L xs r23 l0 l1 l2 l3 l4) := (M_L_law_911 κ sb L xs r23 mr23 l0 l1 l2 l3 l4)
set_option maxRecDepth 100000 in
set_option maxHeartbeats 4000000 in
theorem S_L_law_361 {E : q_Ev} {Γ : q_Gm} {w : (Int32 ⊕ q_Exn) × q_St} (B : q_Bd E Γ code RL 8 2048 84000 (some .boolean) "law" w) (hT : q_nT Γ) {sb L : Nat} {xs : Nat → Int32} (X : q_LX E Γ sb L xs w) (r23 : Option Nat → Option Nat → Option Nat → Option Nat → Int32 → q_X Int32) (hr23 : ∀ (l0 : Option Nat) (l1 : Option Nat) (l2 : Option Nat) (l3 : Option Nat) (l4 : Int32) (σ : q_St), r23 l0 l1 l2 l3 l4 σ = some w → q_W E Γ (q_LZ Γ) 8 σ 23 [(0, q_R l0), (1, q_R l1), (2, q_R l2), (3, q_R l3), (4, q_I l4)] []) (mr23 : ∀ (l0 : Option Nat) (l1 : Option Nat) (l2 : Option Nat) (l3 : Option Nat) (l4 : Int32), q_mo (r23 l0 l1 l2 l3 l4)) (l0 : Option Nat) (l1 : Option Nat) (l2 : Option Nat) (l3 : Option Nat) (l4 : Int32) (σ : q_St) (h : F_L_law_361 (q_kap E) sb L xs r23 l0 l1 l2 l3 l4 σ = some w) : q_W E Γ (q_LZ Γ) 8 σ 361 [(0, q_R l0), (1, q_R l1), (2, q_R l2), (3, q_R l3), (4, q_I l4)] [] := by
  have C := B.1
  unfold F_L_law_361 at h
  refine q_goto (pc := 361) (tgt := 911) C dL_law_361 (by decide) ?_
  exact S_L_law_911 B hT X r23 hr23 mr23 l0 l1 l2 l3 l4 _ h
def F_L_law_317 (κ : Nat → Nat) (sb L : Nat) (xs : Nat → Int32) (r23 : Option Nat → Option Nat → Option Nat → Option Nat → Int32 → q_X Int32) (l0 : Option Nat) (l1 : Option Nat) (l2 : Option Nat) (l3 : Option Nat) (l4 : Int32) : q_X Int32 :=
  F_L_law_911 κ sb L xs r23 l0 l1 l2 l3 l4
theorem M_L_law_317 (κ : Nat → Nat) (sb L : Nat) (xs : Nat → Int32) (r23 : Option Nat → Option Nat → Option Nat → Option Nat → Int32 → q_X Int32) (mr23 : ∀ (l0 : Option Nat) (l1 : Option Nat) (l2 : Option Nat) (l3 : Option Nat) (l4 : Int32), q_mo (r23 l0 l1 l2 l3 l4)) (l0 : Option Nat) (l1 : Option Nat) (l2 : Option Nat) (l3 : Option Nat) (l4 : Int32) : q_mo (F_L_law_317 κ sb L xs r23 l0 l1 l2 l3 l4) := (M_L_law_911 κ sb L xs r23 mr23 l0 l1 l2 l3 l4)
set_option maxRecDepth 100000 in
set_option maxHeartbeats 4000000 in
theorem S_L_law_317 {E : q_Ev} {Γ : q_Gm} {w : (Int32 ⊕ q_Exn) × q_St} (B : q_Bd E Γ code RL 8 2048 84000 (some .boolean) "law" w) (hT : q_nT Γ) {sb L : Nat} {xs : Nat → Int32} (X : q_LX E Γ sb L xs w) (r23 : Option Nat → Option Nat → Option Nat → Option Nat → Int32 → q_X Int32) (hr23 : ∀ (l0 : Option Nat) (l1 : Option Nat) (l2 : Option Nat) (l3 : Option Nat) (l4 : Int32) (σ : q_St), r23 l0 l1 l2 l3 l4 σ = some w → q_W E Γ (q_LZ Γ) 8 σ 23 [(0, q_R l0), (1, q_R l1), (2, q_R l2), (3, q_R l3), (4, q_I l4)] []) (mr23 : ∀ (l0 : Option Nat) (l1 : Option Nat) (l2 : Option Nat) (l3 : Option Nat) (l4 : Int32), q_mo (r23 l0 l1 l2 l3 l4)) (l0 : Option Nat) (l1 : Option Nat) (l2 : Option Nat) (l3 : Option Nat) (l4 : Int32) (σ : q_St) (h : F_L_law_317 (q_kap E) sb L xs r23 l0 l1 l2 l3 l4 σ = some w) : q_W E Γ (q_LZ Γ) 8 σ 317 [(0, q_R l0), (1, q_R l1), (2, q_R l2), (3, q_R l3), (4, q_I l4)] [] := by
  have C := B.1
  unfold F_L_law_317 at h
  refine q_goto (pc := 317) (tgt := 911) C dL_law_317 (by decide) ?_
  exact S_L_law_911 B hT X r23 hr23 mr23 l0 l1 l2 l3 l4 _ h
def F_L_law_273 (κ : Nat → Nat) (sb L : Nat) (xs : Nat → Int32) (r23 : Option Nat → Option Nat → Option Nat → Option Nat → Int32 → q_X Int32) (l0 : Option Nat) (l1 : Option Nat) (l2 : Option Nat) (l3 : Option Nat) (l4 : Int32) : q_X Int32 :=
  F_L_law_911 κ sb L xs r23 l0 l1 l2 l3 l4
theorem M_L_law_273 (κ : Nat → Nat) (sb L : Nat) (xs : Nat → Int32) (r23 : Option Nat → Option Nat → Option Nat → Option Nat → Int32 → q_X Int32) (mr23 : ∀ (l0 : Option Nat) (l1 : Option Nat) (l2 : Option Nat) (l3 : Option Nat) (l4 : Int32), q_mo (r23 l0 l1 l2 l3 l4)) (l0 : Option Nat) (l1 : Option Nat) (l2 : Option Nat) (l3 : Option Nat) (l4 : Int32) : q_mo (F_L_law_273 κ sb L xs r23 l0 l1 l2 l3 l4) := (M_L_law_911 κ sb L xs r23 mr23 l0 l1 l2 l3 l4)
set_option maxRecDepth 100000 in
set_option maxHeartbeats 4000000 in
theorem S_L_law_273 {E : q_Ev} {Γ : q_Gm} {w : (Int32 ⊕ q_Exn) × q_St} (B : q_Bd E Γ code RL 8 2048 84000 (some .boolean) "law" w) (hT : q_nT Γ) {sb L : Nat} {xs : Nat → Int32} (X : q_LX E Γ sb L xs w) (r23 : Option Nat → Option Nat → Option Nat → Option Nat → Int32 → q_X Int32) (hr23 : ∀ (l0 : Option Nat) (l1 : Option Nat) (l2 : Option Nat) (l3 : Option Nat) (l4 : Int32) (σ : q_St), r23 l0 l1 l2 l3 l4 σ = some w → q_W E Γ (q_LZ Γ) 8 σ 23 [(0, q_R l0), (1, q_R l1), (2, q_R l2), (3, q_R l3), (4, q_I l4)] []) (mr23 : ∀ (l0 : Option Nat) (l1 : Option Nat) (l2 : Option Nat) (l3 : Option Nat) (l4 : Int32), q_mo (r23 l0 l1 l2 l3 l4)) (l0 : Option Nat) (l1 : Option Nat) (l2 : Option Nat) (l3 : Option Nat) (l4 : Int32) (σ : q_St) (h : F_L_law_273 (q_kap E) sb L xs r23 l0 l1 l2 l3 l4 σ = some w) : q_W E Γ (q_LZ Γ) 8 σ 273 [(0, q_R l0), (1, q_R l1), (2, q_R l2), (3, q_R l3), (4, q_I l4)] [] := by
  have C := B.1
  unfold F_L_law_273 at h
  refine q_goto (pc := 273) (tgt := 911) C dL_law_273 (by decide) ?_
  exact S_L_law_911 B hT X r23 hr23 mr23 l0 l1 l2 l3 l4 _ h
def F_L_law_217 (κ : Nat → Nat) (sb L : Nat) (xs : Nat → Int32) (r23 : Option Nat → Option Nat → Option Nat → Option Nat → Int32 → q_X Int32) (l0 : Option Nat) (l1 : Option Nat) (l2 : Option Nat) (l3 : Option Nat) (l4 : Int32) : q_X Int32 :=
  F_L_law_911 κ sb L xs r23 l0 l1 l2 l3 l4
theorem M_L_law_217 (κ : Nat → Nat) (sb L : Nat) (xs : Nat → Int32) (r23 : Option Nat → Option Nat → Option Nat → Option Nat → Int32 → q_X Int32) (mr23 : ∀ (l0 : Option Nat) (l1 : Option Nat) (l2 : Option Nat) (l3 : Option Nat) (l4 : Int32), q_mo (r23 l0 l1 l2 l3 l4)) (l0 : Option Nat) (l1 : Option Nat) (l2 : Option Nat) (l3 : Option Nat) (l4 : Int32) : q_mo (F_L_law_217 κ sb L xs r23 l0 l1 l2 l3 l4) := (M_L_law_911 κ sb L xs r23 mr23 l0 l1 l2 l3 l4)
set_option maxRecDepth 100000 in
set_option maxHeartbeats 4000000 in
theorem S_L_law_217 {E : q_Ev} {Γ : q_Gm} {w : (Int32 ⊕ q_Exn) × q_St} (B : q_Bd E Γ code RL 8 2048 84000 (some .boolean) "law" w) (hT : q_nT Γ) {sb L : Nat} {xs : Nat → Int32} (X : q_LX E Γ sb L xs w) (r23 : Option Nat → Option Nat → Option Nat → Option Nat → Int32 → q_X Int32) (hr23 : ∀ (l0 : Option Nat) (l1 : Option Nat) (l2 : Option Nat) (l3 : Option Nat) (l4 : Int32) (σ : q_St), r23 l0 l1 l2 l3 l4 σ = some w → q_W E Γ (q_LZ Γ) 8 σ 23 [(0, q_R l0), (1, q_R l1), (2, q_R l2), (3, q_R l3), (4, q_I l4)] []) (mr23 : ∀ (l0 : Option Nat) (l1 : Option Nat) (l2 : Option Nat) (l3 : Option Nat) (l4 : Int32), q_mo (r23 l0 l1 l2 l3 l4)) (l0 : Option Nat) (l1 : Option Nat) (l2 : Option Nat) (l3 : Option Nat) (l4 : Int32) (σ : q_St) (h : F_L_law_217 (q_kap E) sb L xs r23 l0 l1 l2 l3 l4 σ = some w) : q_W E Γ (q_LZ Γ) 8 σ 217 [(0, q_R l0), (1, q_R l1), (2, q_R l2), (3, q_R l3), (4, q_I l4)] [] := by
  have C := B.1
  unfold F_L_law_217 at h
  refine q_goto (pc := 217) (tgt := 911) C dL_law_217 (by decide) ?_
  exact S_L_law_911 B hT X r23 hr23 mr23 l0 l1 l2 l3 l4 _ h
def F_L_law_23B (κ : Nat → Nat) (sb L : Nat) (xs : Nat → Int32) (r23 : Option Nat → Option Nat → Option Nat → Option Nat → Int32 → q_X Int32) (l0 : Option Nat) (l1 : Option Nat) (l2 : Option Nat) (l3 : Option Nat) (l4 : Int32) : q_X Int32 :=
  q_gd (l0 = some sb) (q_br (((nI L) - (6 : Int32)) < l4) (q_rz (1 : Int32)) (q_gd (l0 = some sb ∧ ¬ (l4 < 0 ∨ L ≤ l4.toNatClampNeg)) (q_br (((xs l4.toNatClampNeg) &&& (15 : Int32)).toInt < 0 ∨ 14 < ((xs l4.toNatClampNeg) &&& (15 : Int32)).toInt) (F_L_law_911 κ sb L xs r23 l0 l1 l2 l3 l4) (q_br (((xs l4.toNatClampNeg) &&& (15 : Int32)) = 0) (q_gd (l0 = some sb ∧ ¬ ((l4 + (1 : Int32)) < 0 ∨ L ≤ (l4 + (1 : Int32)).toNatClampNeg)) (q_gd (l0 = some sb ∧ ¬ ((l4 + (2 : Int32)) < 0 ∨ L ≤ (l4 + (2 : Int32)).toNatClampNeg)) (q_gd (l0 = some sb ∧ ¬ ((l4 + (3 : Int32)) < 0 ∨ L ≤ (l4 + (3 : Int32)).toNatClampNeg)) (q_gd (l0 = some sb ∧ ¬ ((l4 + (4 : Int32)) < 0 ∨ L ≤ (l4 + (4 : Int32)).toNatClampNeg)) (q_gd (l0 = some sb ∧ ¬ ((l4 + (5 : Int32)) < 0 ∨ L ≤ (l4 + (5 : Int32)).toNatClampNeg)) (q_cc (F_L_feed κ l1 (xs (l4 + (1 : Int32)).toNatClampNeg) (xs (l4 + (2 : Int32)).toNatClampNeg) (xs (l4 + (3 : Int32)).toNatClampNeg) (xs (l4 + (4 : Int32)).toNatClampNeg) (xs (l4 + (5 : Int32)).toNatClampNeg) l3) (fun v148 => q_gd (l0 = some sb ∧ ¬ ((l4 + (1 : Int32)) < 0 ∨ L ≤ (l4 + (1 : Int32)).toNatClampNeg)) (q_gd (l0 = some sb ∧ ¬ ((l4 + (2 : Int32)) < 0 ∨ L ≤ (l4 + (2 : Int32)).toNatClampNeg)) (q_gd (l0 = some sb ∧ ¬ ((l4 + (3 : Int32)) < 0 ∨ L ≤ (l4 + (3 : Int32)).toNatClampNeg)) (q_gd (l0 = some sb ∧ ¬ ((l4 + (4 : Int32)) < 0 ∨ L ≤ (l4 + (4 : Int32)).toNatClampNeg)) (q_gd (l0 = some sb ∧ ¬ ((l4 + (5 : Int32)) < 0 ∨ L ≤ (l4 + (5 : Int32)).toNatClampNeg)) (q_rd (q_is l2 16) fun _ => q_cc (F_X13_feed κ l2 (xs (l4 + (1 : Int32)).toNatClampNeg) (xs (l4 + (2 : Int32)).toNatClampNeg) (xs (l4 + (3 : Int32)).toNatClampNeg) (xs (l4 + (4 : Int32)).toNatClampNeg) (xs (l4 + (5 : Int32)).toNatClampNeg)) (fun v184 => q_rd (q_is l2 16) fun _ => q_cc (F_X13_thrown κ l2) (fun v190 => q_br (v190 = v148) (q_br (¬ v148 = 0) (F_L_law_217 κ sb L xs r23 l0 l1 l2 l3 l4) (q_rd (q_lL l3 (0 : Int32)) fun v207 => q_br ((lg_cmp v207 v184.toInt64) = 0) (F_L_law_217 κ sb L xs r23 l0 l1 l2 l3 l4) (q_rz (0 : Int32)))) (q_rz (0 : Int32))) (fun _ => q_no)) (fun _ => q_no))))))) (fun _ => q_no))))))) (q_br (((xs l4.toNatClampNeg) &&& (15 : Int32)) = 1) (q_gd (l0 = some sb ∧ ¬ ((l4 + (1 : Int32)) < 0 ∨ L ≤ (l4 + (1 : Int32)).toNatClampNeg)) (q_cc (F_L_end κ l1 (xs (l4 + (1 : Int32)).toNatClampNeg) l3) (fun v228 => q_gd (l0 = some sb ∧ ¬ ((l4 + (1 : Int32)) < 0 ∨ L ≤ (l4 + (1 : Int32)).toNatClampNeg)) (q_rd (q_is l2 16) fun _ => q_cc (F_X13_end κ l2 (xs (l4 + (1 : Int32)).toNatClampNeg)) (fun v240 => q_rd (q_is l2 16) fun _ => q_cc (F_X13_thrown κ l2) (fun v246 => q_br (v246 = v228) (q_br (¬ v228 = 0) (F_L_law_273 κ sb L xs r23 l0 l1 l2 l3 l4) (q_rd (q_lL l3 (0 : Int32)) fun v263 => q_br ((lg_cmp v263 v240.toInt64) = 0) (F_L_law_273 κ sb L xs r23 l0 l1 l2 l3 l4) (q_rz (0 : Int32)))) (q_rz (0 : Int32))) (fun _ => q_no)) (fun _ => q_no))) (fun _ => q_no))) (q_br (((xs l4.toNatClampNeg) &&& (15 : Int32)) = 2) (q_cc (F_L_describe κ l1 l3) (fun v278 => q_rd (q_is l2 16) fun _ => q_cc (F_X13_describe κ l2) (fun v284 => q_rd (q_is l2 16) fun _ => q_cc (F_X13_thrown κ l2) (fun v290 => q_br (v290 = v278) (q_br (¬ v278 = 0) (F_L_law_317 κ sb L xs r23 l0 l1 l2 l3 l4) (q_rd (q_lL l3 (0 : Int32)) fun v307 => q_br ((lg_cmp v307 v284.toInt64) = 0) (F_L_law_317 κ sb L xs r23 l0 l1 l2 l3 l4) (q_rz (0 : Int32)))) (q_rz (0 : Int32))) (fun _ => q_no)) (fun _ => q_no)) (fun _ => q_no)) (q_br (((xs l4.toNatClampNeg) &&& (15 : Int32)) = 3) (q_cc (F_L_assemble κ l1 l3) (fun v322 => q_rd (q_is l2 16) fun _ => q_cc (F_X13_assemble κ l2) (fun v328 => q_rd (q_is l2 16) fun _ => q_cc (F_X13_thrown κ l2) (fun v334 => q_br (v334 = v322) (q_br (¬ v322 = 0) (F_L_law_361 κ sb L xs r23 l0 l1 l2 l3 l4) (q_rd (q_lL l3 (0 : Int32)) fun v351 => q_br ((lg_cmp v351 v328.toInt64) = 0) (F_L_law_361 κ sb L xs r23 l0 l1 l2 l3 l4) (q_rz (0 : Int32)))) (q_rz (0 : Int32))) (fun _ => q_no)) (fun _ => q_no)) (fun _ => q_no)) (q_br (((xs l4.toNatClampNeg) &&& (15 : Int32)) = 4) (q_rd (q_is l1 14) fun _ => q_cc (F_X11_kind κ l1) (fun v365 => q_rd (q_is l2 16) fun _ => q_cc (F_X13_kind_ κ l2) (fun v369 => q_br (v365 = v369) (F_L_law_911 κ sb L xs r23 l0 l1 l2 l3 l4) (q_rz (0 : Int32))) (fun _ => q_no)) (fun _ => q_no)) (q_br (((xs l4.toNatClampNeg) &&& (15 : Int32)) = 5) (q_rd (q_is l1 14) fun _ => q_cc (F_X11_place κ l1) (fun v378 => q_rd (q_is l2 16) fun _ => q_cc (F_X13_place κ l2) (fun v382 => q_br (v378 = v382) (F_L_law_911 κ sb L xs r23 l0 l1 l2 l3 l4) (q_rz (0 : Int32))) (fun _ => q_no)) (fun _ => q_no)) (q_br (((xs l4.toNatClampNeg) &&& (15 : Int32)) = 6) (q_gd (l0 = some sb ∧ ¬ ((l4 + (1 : Int32)) < 0 ∨ L ≤ (l4 + (1 : Int32)).toNatClampNeg)) (q_cc (F_L_word κ l1 (xs (l4 + (1 : Int32)).toNatClampNeg) l3) (fun v398 => q_gd (l0 = some sb ∧ ¬ ((l4 + (1 : Int32)) < 0 ∨ L ≤ (l4 + (1 : Int32)).toNatClampNeg)) (q_rd (q_is l2 16) fun _ => q_cc (F_X13_word κ l2 (xs (l4 + (1 : Int32)).toNatClampNeg)) (fun v410 => q_rd (q_is l2 16) fun _ => q_cc (F_X13_thrown κ l2) (fun v416 => q_br (v416 = v398) (q_br (¬ v398 = 0) (F_L_law_442 κ sb L xs r23 l0 l1 l2 l3 l4) (q_rd (q_lL l3 (0 : Int32)) fun v433 => q_br ((lg_cmp v433 v410) = 0) (F_L_law_442 κ sb L xs r23 l0 l1 l2 l3 l4) (q_rz (0 : Int32)))) (q_rz (0 : Int32))) (fun _ => q_no)) (fun _ => q_no))) (fun _ => q_no))) (q_br (((xs l4.toNatClampNeg) &&& (15 : Int32)) = 7) (q_gd (l0 = some sb ∧ ¬ ((l4 + (1 : Int32)) < 0 ∨ L ≤ (l4 + (1 : Int32)).toNatClampNeg)) (q_gd (l0 = some sb ∧ ¬ ((l4 + (2 : Int32)) < 0 ∨ L ≤ (l4 + (2 : Int32)).toNatClampNeg)) (q_gd (l0 = some sb ∧ ¬ ((l4 + (3 : Int32)) < 0 ∨ L ≤ (l4 + (3 : Int32)).toNatClampNeg)) (q_cc (F_L_poke κ l1 (xs (l4 + (1 : Int32)).toNatClampNeg) ((((xs (l4 + (2 : Int32)).toNatClampNeg).toInt64) <<< ((32 : Int32).toInt64 &&& 63)) ||| (((xs (l4 + (3 : Int32)).toNatClampNeg).toInt64) &&& (4294967295 : Int64))) l3) (fun v475 => q_gd (l0 = some sb ∧ ¬ ((l4 + (1 : Int32)) < 0 ∨ L ≤ (l4 + (1 : Int32)).toNatClampNeg)) (q_gd (l0 = some sb ∧ ¬ ((l4 + (2 : Int32)) < 0 ∨ L ≤ (l4 + (2 : Int32)).toNatClampNeg)) (q_gd (l0 = some sb ∧ ¬ ((l4 + (3 : Int32)) < 0 ∨ L ≤ (l4 + (3 : Int32)).toNatClampNeg)) (q_rd (q_is l2 16) fun _ => q_cc (F_X13_poke κ l2 (xs (l4 + (1 : Int32)).toNatClampNeg) ((((xs (l4 + (2 : Int32)).toNatClampNeg).toInt64) <<< ((32 : Int32).toInt64 &&& 63)) ||| (((xs (l4 + (3 : Int32)).toNatClampNeg).toInt64) &&& (4294967295 : Int64)))) (fun v509 => q_rd (q_is l2 16) fun _ => q_cc (F_X13_thrown κ l2) (fun v515 => q_br (v515 = v475) (q_br (¬ v475 = 0) (F_L_law_542 κ sb L xs r23 l0 l1 l2 l3 l4) (q_rd (q_lL l3 (0 : Int32)) fun v532 => q_br ((lg_cmp v532 v509.toInt64) = 0) (F_L_law_542 κ sb L xs r23 l0 l1 l2 l3 l4) (q_rz (0 : Int32)))) (q_rz (0 : Int32))) (fun _ => q_no)) (fun _ => q_no))))) (fun _ => q_no))))) (q_br (((xs l4.toNatClampNeg) &&& (15 : Int32)) = 8) (q_gd (l0 = some sb ∧ ¬ ((l4 + (1 : Int32)) < 0 ∨ L ≤ (l4 + (1 : Int32)).toNatClampNeg)) (q_cc (F_L_list κ l1 (xs (l4 + (1 : Int32)).toNatClampNeg) l3) (fun v553 => q_gd (l0 = some sb ∧ ¬ ((l4 + (1 : Int32)) < 0 ∨ L ≤ (l4 + (1 : Int32)).toNatClampNeg)) (q_rd (q_is l2 16) fun _ => q_cc (F_X13_list κ l2 (xs (l4 + (1 : Int32)).toNatClampNeg)) (fun v565 => q_rd (q_is l2 16) fun _ => q_cc (F_X13_thrown κ l2) (fun v571 => q_br (v571 = v553) (q_br (¬ v553 = 0) (F_L_law_598 κ sb L xs r23 l0 l1 l2 l3 l4) (q_rd (q_lL l3 (0 : Int32)) fun v588 => q_br ((lg_cmp v588 v565.toInt64) = 0) (F_L_law_598 κ sb L xs r23 l0 l1 l2 l3 l4) (q_rz (0 : Int32)))) (q_rz (0 : Int32))) (fun _ => q_no)) (fun _ => q_no))) (fun _ => q_no))) (q_br (((xs l4.toNatClampNeg) &&& (15 : Int32)) = 9) (q_rd (q_is l1 14) fun _ => q_cc (F_X11_which κ l1) (fun v602 => q_rd (q_is l2 16) fun _ => q_cc (F_X13_which κ l2) (fun v606 => q_br (v602 = v606) (F_L_law_911 κ sb L xs r23 l0 l1 l2 l3 l4) (q_rz (0 : Int32))) (fun _ => q_no)) (fun _ => q_no)) (q_br (((xs l4.toNatClampNeg) &&& (15 : Int32)) = 10) (q_gd (l0 = some sb ∧ ¬ ((l4 + (1 : Int32)) < 0 ∨ L ≤ (l4 + (1 : Int32)).toNatClampNeg)) (q_cc (F_L_listing κ l1 (xs (l4 + (1 : Int32)).toNatClampNeg) l3) (fun v622 => q_gd (l0 = some sb ∧ ¬ ((l4 + (1 : Int32)) < 0 ∨ L ≤ (l4 + (1 : Int32)).toNatClampNeg)) (q_rd (q_is l2 16) fun _ => q_cc (F_X13_listing κ l2 (xs (l4 + (1 : Int32)).toNatClampNeg)) (fun v634 => q_rd (q_is l2 16) fun _ => q_cc (F_X13_thrown κ l2) (fun v640 => q_br (v640 = v622) (q_br (¬ v622 = 0) (F_L_law_666 κ sb L xs r23 l0 l1 l2 l3 l4) (q_rd (q_lL l3 (0 : Int32)) fun v657 => q_br ((lg_cmp v657 v634) = 0) (F_L_law_666 κ sb L xs r23 l0 l1 l2 l3 l4) (q_rz (0 : Int32)))) (q_rz (0 : Int32))) (fun _ => q_no)) (fun _ => q_no))) (fun _ => q_no))) (q_br (((xs l4.toNatClampNeg) &&& (15 : Int32)) = 11) (q_cc (F_L_quote κ l1 l3) (fun v671 => q_rd (q_is l2 16) fun _ => q_cc (F_X13_quote κ l2) (fun v677 => q_rd (q_is l2 16) fun _ => q_cc (F_X13_thrown κ l2) (fun v683 => q_br (v683 = v671) (q_br (¬ v671 = 0) (F_L_law_710 κ sb L xs r23 l0 l1 l2 l3 l4) (q_rd (q_lL l3 (0 : Int32)) fun v700 => q_br ((lg_cmp v700 v677.toInt64) = 0) (F_L_law_710 κ sb L xs r23 l0 l1 l2 l3 l4) (q_rz (0 : Int32)))) (q_rz (0 : Int32))) (fun _ => q_no)) (fun _ => q_no)) (fun _ => q_no)) (q_br (((xs l4.toNatClampNeg) &&& (15 : Int32)) = 12) (q_gd (l0 = some sb ∧ ¬ ((l4 + (1 : Int32)) < 0 ∨ L ≤ (l4 + (1 : Int32)).toNatClampNeg)) (q_gd (l0 = some sb ∧ ¬ ((l4 + (2 : Int32)) < 0 ∨ L ≤ (l4 + (2 : Int32)).toNatClampNeg)) (q_cc (F_L_told κ l1 (xs (l4 + (1 : Int32)).toNatClampNeg) (xs (l4 + (2 : Int32)).toNatClampNeg) l3) (fun v727 => q_gd (l0 = some sb ∧ ¬ ((l4 + (1 : Int32)) < 0 ∨ L ≤ (l4 + (1 : Int32)).toNatClampNeg)) (q_gd (l0 = some sb ∧ ¬ ((l4 + (2 : Int32)) < 0 ∨ L ≤ (l4 + (2 : Int32)).toNatClampNeg)) (q_rd (q_is l2 16) fun _ => q_cc (F_X13_told κ l2 (xs (l4 + (1 : Int32)).toNatClampNeg) (xs (l4 + (2 : Int32)).toNatClampNeg)) (fun v745 => q_rd (q_is l2 16) fun _ => q_cc (F_X13_thrown κ l2) (fun v751 => q_br (v751 = v727) (q_br (¬ v727 = 0) (F_L_law_777 κ sb L xs r23 l0 l1 l2 l3 l4) (q_rd (q_lL l3 (0 : Int32)) fun v768 => q_br ((lg_cmp v768 v745) = 0) (F_L_law_777 κ sb L xs r23 l0 l1 l2 l3 l4) (q_rz (0 : Int32)))) (q_rz (0 : Int32))) (fun _ => q_no)) (fun _ => q_no)))) (fun _ => q_no)))) (q_br (((xs l4.toNatClampNeg) &&& (15 : Int32)) = 13) (q_gd (l0 = some sb ∧ ¬ ((l4 + (1 : Int32)) < 0 ∨ L ≤ (l4 + (1 : Int32)).toNatClampNeg)) (q_gd (l0 = some sb ∧ ¬ ((l4 + (2 : Int32)) < 0 ∨ L ≤ (l4 + (2 : Int32)).toNatClampNeg)) (q_cc (F_L_overlap κ l1 (xs (l4 + (1 : Int32)).toNatClampNeg) (xs (l4 + (2 : Int32)).toNatClampNeg) l3) (fun v794 => q_gd (l0 = some sb ∧ ¬ ((l4 + (1 : Int32)) < 0 ∨ L ≤ (l4 + (1 : Int32)).toNatClampNeg)) (q_gd (l0 = some sb ∧ ¬ ((l4 + (2 : Int32)) < 0 ∨ L ≤ (l4 + (2 : Int32)).toNatClampNeg)) (q_rd (q_is l2 16) fun _ => q_cc (F_X13_overlap κ l2 (xs (l4 + (1 : Int32)).toNatClampNeg) (xs (l4 + (2 : Int32)).toNatClampNeg)) (fun v812 => q_rd (q_is l2 16) fun _ => q_cc (F_X13_thrown κ l2) (fun v818 => q_br (v818 = v794) (q_br (¬ v794 = 0) (F_L_law_852 κ sb L xs r23 l0 l1 l2 l3 l4) (q_rd (q_lL l3 (0 : Int32)) fun v835 => q_br (v812 = 0) (F_L_law_846 κ sb L xs r23 l0 l1 l2 l3 l4 v835 (0 : Int64)) (F_L_law_846 κ sb L xs r23 l0 l1 l2 l3 l4 v835 (1 : Int64)))) (q_rz (0 : Int32))) (fun _ => q_no)) (fun _ => q_no)))) (fun _ => q_no)))) (q_br (((xs l4.toNatClampNeg) &&& (15 : Int32)) = 14) (q_gd (l0 = some sb ∧ ¬ ((l4 + (1 : Int32)) < 0 ∨ L ≤ (l4 + (1 : Int32)).toNatClampNeg)) (q_cc (F_L_count κ l1 (xs (l4 + (1 : Int32)).toNatClampNeg) l3) (fun v863 => q_gd (l0 = some sb ∧ ¬ ((l4 + (1 : Int32)) < 0 ∨ L ≤ (l4 + (1 : Int32)).toNatClampNeg)) (q_rd (q_is l2 16) fun _ => q_cc (F_X13_count κ l2 (xs (l4 + (1 : Int32)).toNatClampNeg)) (fun v875 => q_rd (q_is l2 16) fun _ => q_cc (F_X13_thrown κ l2) (fun v881 => q_br (v881 = v863) (q_br (¬ v863 = 0) (F_L_law_908 κ sb L xs r23 l0 l1 l2 l3 l4) (q_rd (q_lL l3 (0 : Int32)) fun v898 => q_br ((lg_cmp v898 v875.toInt64) = 0) (F_L_law_908 κ sb L xs r23 l0 l1 l2 l3 l4) (q_rz (0 : Int32)))) (q_rz (0 : Int32))) (fun _ => q_no)) (fun _ => q_no))) (fun _ => q_no))) (q_no)))))))))))))))))))
theorem M_L_law_23B (κ : Nat → Nat) (sb L : Nat) (xs : Nat → Int32) (r23 : Option Nat → Option Nat → Option Nat → Option Nat → Int32 → q_X Int32) (mr23 : ∀ (l0 : Option Nat) (l1 : Option Nat) (l2 : Option Nat) (l3 : Option Nat) (l4 : Int32), q_mo (r23 l0 l1 l2 l3 l4)) (l0 : Option Nat) (l1 : Option Nat) (l2 : Option Nat) (l3 : Option Nat) (l4 : Int32) : q_mo (F_L_law_23B κ sb L xs r23 l0 l1 l2 l3 l4) := (q_mo_gd (q_mo_br q_mo_rz (q_mo_gd (q_mo_br (M_L_law_911 κ sb L xs r23 mr23 l0 l1 l2 l3 l4) (q_mo_br (q_mo_gd (q_mo_gd (q_mo_gd (q_mo_gd (q_mo_gd (q_mo_cc (M_L_feed κ l1 (xs (l4 + (1 : Int32)).toNatClampNeg) (xs (l4 + (2 : Int32)).toNatClampNeg) (xs (l4 + (3 : Int32)).toNatClampNeg) (xs (l4 + (4 : Int32)).toNatClampNeg) (xs (l4 + (5 : Int32)).toNatClampNeg) l3) (fun v148 => (q_mo_gd (q_mo_gd (q_mo_gd (q_mo_gd (q_mo_gd (q_mo_rd fun _ => (q_mo_cc (M_X13_feed κ l2 (xs (l4 + (1 : Int32)).toNatClampNeg) (xs (l4 + (2 : Int32)).toNatClampNeg) (xs (l4 + (3 : Int32)).toNatClampNeg) (xs (l4 + (4 : Int32)).toNatClampNeg) (xs (l4 + (5 : Int32)).toNatClampNeg)) (fun v184 => (q_mo_rd fun _ => (q_mo_cc (M_X13_thrown κ l2) (fun v190 => (q_mo_br (q_mo_br (M_L_law_217 κ sb L xs r23 mr23 l0 l1 l2 l3 l4) (q_mo_rd fun v207 => (q_mo_br (M_L_law_217 κ sb L xs r23 mr23 l0 l1 l2 l3 l4) q_mo_rz))) q_mo_rz)) (fun _ => q_mo_no)))) (fun _ => q_mo_no))))))))) (fun _ => q_mo_no))))))) (q_mo_br (q_mo_gd (q_mo_cc (M_L_end κ l1 (xs (l4 + (1 : Int32)).toNatClampNeg) l3) (fun v228 => (q_mo_gd (q_mo_rd fun _ => (q_mo_cc (M_X13_end κ l2 (xs (l4 + (1 : Int32)).toNatClampNeg)) (fun v240 => (q_mo_rd fun _ => (q_mo_cc (M_X13_thrown κ l2) (fun v246 => (q_mo_br (q_mo_br (M_L_law_273 κ sb L xs r23 mr23 l0 l1 l2 l3 l4) (q_mo_rd fun v263 => (q_mo_br (M_L_law_273 κ sb L xs r23 mr23 l0 l1 l2 l3 l4) q_mo_rz))) q_mo_rz)) (fun _ => q_mo_no)))) (fun _ => q_mo_no))))) (fun _ => q_mo_no))) (q_mo_br (q_mo_cc (M_L_describe κ l1 l3) (fun v278 => (q_mo_rd fun _ => (q_mo_cc (M_X13_describe κ l2) (fun v284 => (q_mo_rd fun _ => (q_mo_cc (M_X13_thrown κ l2) (fun v290 => (q_mo_br (q_mo_br (M_L_law_317 κ sb L xs r23 mr23 l0 l1 l2 l3 l4) (q_mo_rd fun v307 => (q_mo_br (M_L_law_317 κ sb L xs r23 mr23 l0 l1 l2 l3 l4) q_mo_rz))) q_mo_rz)) (fun _ => q_mo_no)))) (fun _ => q_mo_no)))) (fun _ => q_mo_no)) (q_mo_br (q_mo_cc (M_L_assemble κ l1 l3) (fun v322 => (q_mo_rd fun _ => (q_mo_cc (M_X13_assemble κ l2) (fun v328 => (q_mo_rd fun _ => (q_mo_cc (M_X13_thrown κ l2) (fun v334 => (q_mo_br (q_mo_br (M_L_law_361 κ sb L xs r23 mr23 l0 l1 l2 l3 l4) (q_mo_rd fun v351 => (q_mo_br (M_L_law_361 κ sb L xs r23 mr23 l0 l1 l2 l3 l4) q_mo_rz))) q_mo_rz)) (fun _ => q_mo_no)))) (fun _ => q_mo_no)))) (fun _ => q_mo_no)) (q_mo_br (q_mo_rd fun _ => (q_mo_cc (M_X11_kind κ l1) (fun v365 => (q_mo_rd fun _ => (q_mo_cc (M_X13_kind_ κ l2) (fun v369 => (q_mo_br (M_L_law_911 κ sb L xs r23 mr23 l0 l1 l2 l3 l4) q_mo_rz)) (fun _ => q_mo_no)))) (fun _ => q_mo_no))) (q_mo_br (q_mo_rd fun _ => (q_mo_cc (M_X11_place κ l1) (fun v378 => (q_mo_rd fun _ => (q_mo_cc (M_X13_place κ l2) (fun v382 => (q_mo_br (M_L_law_911 κ sb L xs r23 mr23 l0 l1 l2 l3 l4) q_mo_rz)) (fun _ => q_mo_no)))) (fun _ => q_mo_no))) (q_mo_br (q_mo_gd (q_mo_cc (M_L_word κ l1 (xs (l4 + (1 : Int32)).toNatClampNeg) l3) (fun v398 => (q_mo_gd (q_mo_rd fun _ => (q_mo_cc (M_X13_word κ l2 (xs (l4 + (1 : Int32)).toNatClampNeg)) (fun v410 => (q_mo_rd fun _ => (q_mo_cc (M_X13_thrown κ l2) (fun v416 => (q_mo_br (q_mo_br (M_L_law_442 κ sb L xs r23 mr23 l0 l1 l2 l3 l4) (q_mo_rd fun v433 => (q_mo_br (M_L_law_442 κ sb L xs r23 mr23 l0 l1 l2 l3 l4) q_mo_rz))) q_mo_rz)) (fun _ => q_mo_no)))) (fun _ => q_mo_no))))) (fun _ => q_mo_no))) (q_mo_br (q_mo_gd (q_mo_gd (q_mo_gd (q_mo_cc (M_L_poke κ l1 (xs (l4 + (1 : Int32)).toNatClampNeg) ((((xs (l4 + (2 : Int32)).toNatClampNeg).toInt64) <<< ((32 : Int32).toInt64 &&& 63)) ||| (((xs (l4 + (3 : Int32)).toNatClampNeg).toInt64) &&& (4294967295 : Int64))) l3) (fun v475 => (q_mo_gd (q_mo_gd (q_mo_gd (q_mo_rd fun _ => (q_mo_cc (M_X13_poke κ l2 (xs (l4 + (1 : Int32)).toNatClampNeg) ((((xs (l4 + (2 : Int32)).toNatClampNeg).toInt64) <<< ((32 : Int32).toInt64 &&& 63)) ||| (((xs (l4 + (3 : Int32)).toNatClampNeg).toInt64) &&& (4294967295 : Int64)))) (fun v509 => (q_mo_rd fun _ => (q_mo_cc (M_X13_thrown κ l2) (fun v515 => (q_mo_br (q_mo_br (M_L_law_542 κ sb L xs r23 mr23 l0 l1 l2 l3 l4) (q_mo_rd fun v532 => (q_mo_br (M_L_law_542 κ sb L xs r23 mr23 l0 l1 l2 l3 l4) q_mo_rz))) q_mo_rz)) (fun _ => q_mo_no)))) (fun _ => q_mo_no))))))) (fun _ => q_mo_no))))) (q_mo_br (q_mo_gd (q_mo_cc (M_L_list κ l1 (xs (l4 + (1 : Int32)).toNatClampNeg) l3) (fun v553 => (q_mo_gd (q_mo_rd fun _ => (q_mo_cc (M_X13_list κ l2 (xs (l4 + (1 : Int32)).toNatClampNeg)) (fun v565 => (q_mo_rd fun _ => (q_mo_cc (M_X13_thrown κ l2) (fun v571 => (q_mo_br (q_mo_br (M_L_law_598 κ sb L xs r23 mr23 l0 l1 l2 l3 l4) (q_mo_rd fun v588 => (q_mo_br (M_L_law_598 κ sb L xs r23 mr23 l0 l1 l2 l3 l4) q_mo_rz))) q_mo_rz)) (fun _ => q_mo_no)))) (fun _ => q_mo_no))))) (fun _ => q_mo_no))) (q_mo_br (q_mo_rd fun _ => (q_mo_cc (M_X11_which κ l1) (fun v602 => (q_mo_rd fun _ => (q_mo_cc (M_X13_which κ l2) (fun v606 => (q_mo_br (M_L_law_911 κ sb L xs r23 mr23 l0 l1 l2 l3 l4) q_mo_rz)) (fun _ => q_mo_no)))) (fun _ => q_mo_no))) (q_mo_br (q_mo_gd (q_mo_cc (M_L_listing κ l1 (xs (l4 + (1 : Int32)).toNatClampNeg) l3) (fun v622 => (q_mo_gd (q_mo_rd fun _ => (q_mo_cc (M_X13_listing κ l2 (xs (l4 + (1 : Int32)).toNatClampNeg)) (fun v634 => (q_mo_rd fun _ => (q_mo_cc (M_X13_thrown κ l2) (fun v640 => (q_mo_br (q_mo_br (M_L_law_666 κ sb L xs r23 mr23 l0 l1 l2 l3 l4) (q_mo_rd fun v657 => (q_mo_br (M_L_law_666 κ sb L xs r23 mr23 l0 l1 l2 l3 l4) q_mo_rz))) q_mo_rz)) (fun _ => q_mo_no)))) (fun _ => q_mo_no))))) (fun _ => q_mo_no))) (q_mo_br (q_mo_cc (M_L_quote κ l1 l3) (fun v671 => (q_mo_rd fun _ => (q_mo_cc (M_X13_quote κ l2) (fun v677 => (q_mo_rd fun _ => (q_mo_cc (M_X13_thrown κ l2) (fun v683 => (q_mo_br (q_mo_br (M_L_law_710 κ sb L xs r23 mr23 l0 l1 l2 l3 l4) (q_mo_rd fun v700 => (q_mo_br (M_L_law_710 κ sb L xs r23 mr23 l0 l1 l2 l3 l4) q_mo_rz))) q_mo_rz)) (fun _ => q_mo_no)))) (fun _ => q_mo_no)))) (fun _ => q_mo_no)) (q_mo_br (q_mo_gd (q_mo_gd (q_mo_cc (M_L_told κ l1 (xs (l4 + (1 : Int32)).toNatClampNeg) (xs (l4 + (2 : Int32)).toNatClampNeg) l3) (fun v727 => (q_mo_gd (q_mo_gd (q_mo_rd fun _ => (q_mo_cc (M_X13_told κ l2 (xs (l4 + (1 : Int32)).toNatClampNeg) (xs (l4 + (2 : Int32)).toNatClampNeg)) (fun v745 => (q_mo_rd fun _ => (q_mo_cc (M_X13_thrown κ l2) (fun v751 => (q_mo_br (q_mo_br (M_L_law_777 κ sb L xs r23 mr23 l0 l1 l2 l3 l4) (q_mo_rd fun v768 => (q_mo_br (M_L_law_777 κ sb L xs r23 mr23 l0 l1 l2 l3 l4) q_mo_rz))) q_mo_rz)) (fun _ => q_mo_no)))) (fun _ => q_mo_no)))))) (fun _ => q_mo_no)))) (q_mo_br (q_mo_gd (q_mo_gd (q_mo_cc (M_L_overlap κ l1 (xs (l4 + (1 : Int32)).toNatClampNeg) (xs (l4 + (2 : Int32)).toNatClampNeg) l3) (fun v794 => (q_mo_gd (q_mo_gd (q_mo_rd fun _ => (q_mo_cc (M_X13_overlap κ l2 (xs (l4 + (1 : Int32)).toNatClampNeg) (xs (l4 + (2 : Int32)).toNatClampNeg)) (fun v812 => (q_mo_rd fun _ => (q_mo_cc (M_X13_thrown κ l2) (fun v818 => (q_mo_br (q_mo_br (M_L_law_852 κ sb L xs r23 mr23 l0 l1 l2 l3 l4) (q_mo_rd fun v835 => (q_mo_br (M_L_law_846 κ sb L xs r23 mr23 l0 l1 l2 l3 l4 v835 (0 : Int64)) (M_L_law_846 κ sb L xs r23 mr23 l0 l1 l2 l3 l4 v835 (1 : Int64))))) q_mo_rz)) (fun _ => q_mo_no)))) (fun _ => q_mo_no)))))) (fun _ => q_mo_no)))) (q_mo_br (q_mo_gd (q_mo_cc (M_L_count κ l1 (xs (l4 + (1 : Int32)).toNatClampNeg) l3) (fun v863 => (q_mo_gd (q_mo_rd fun _ => (q_mo_cc (M_X13_count κ l2 (xs (l4 + (1 : Int32)).toNatClampNeg)) (fun v875 => (q_mo_rd fun _ => (q_mo_cc (M_X13_thrown κ l2) (fun v881 => (q_mo_br (q_mo_br (M_L_law_908 κ sb L xs r23 mr23 l0 l1 l2 l3 l4) (q_mo_rd fun v898 => (q_mo_br (M_L_law_908 κ sb L xs r23 mr23 l0 l1 l2 l3 l4) q_mo_rz))) q_mo_rz)) (fun _ => q_mo_no)))) (fun _ => q_mo_no))))) (fun _ => q_mo_no))) q_mo_no)))))))))))))))))))
set_option maxRecDepth 100000 in
set_option maxHeartbeats 4000000 in
theorem S_L_law_23B {E : q_Ev} {Γ : q_Gm} {w : (Int32 ⊕ q_Exn) × q_St} (B : q_Bd E Γ code RL 8 2048 84000 (some .boolean) "law" w) (hT : q_nT Γ) {sb L : Nat} {xs : Nat → Int32} (X : q_LX E Γ sb L xs w) (r23 : Option Nat → Option Nat → Option Nat → Option Nat → Int32 → q_X Int32) (hr23 : ∀ (l0 : Option Nat) (l1 : Option Nat) (l2 : Option Nat) (l3 : Option Nat) (l4 : Int32) (σ : q_St), r23 l0 l1 l2 l3 l4 σ = some w → q_W E Γ (q_LZ Γ) 8 σ 23 [(0, q_R l0), (1, q_R l1), (2, q_R l2), (3, q_R l3), (4, q_I l4)] []) (mr23 : ∀ (l0 : Option Nat) (l1 : Option Nat) (l2 : Option Nat) (l3 : Option Nat) (l4 : Int32), q_mo (r23 l0 l1 l2 l3 l4)) (l0 : Option Nat) (l1 : Option Nat) (l2 : Option Nat) (l3 : Option Nat) (l4 : Int32) (σ : q_St) (h : F_L_law_23B (q_kap E) sb L xs r23 l0 l1 l2 l3 l4 σ = some w) : q_W E Γ (q_LZ Γ) 8 σ 23 [(0, q_R l0), (1, q_R l1), (2, q_R l2), (3, q_R l3), (4, q_I l4)] [] := by
  have C := B.1
  unfold F_L_law_23B at h
  refine q_iload (pc := 23) C 4 rfl dL_law_23 ?_
  refine q_aload_n (pc := 25) C 0 rfl dL_law_25 rfl ?_
  obtain ⟨g26, h⟩ := q_gd_e h
  refine q_slen (pc := 26) C X g26 dL_law_26 ?_
  refine q_bipush (pc := 27) (v := (6 : Int32)) C dL_law_27 (by decide) ?_
  refine q_isub (pc := 29) C dL_law_29 ?_
  refine q_icmp_gt (pc := 30) (tgt := 917) C dL_law_30 (by decide) h (fun _ h => ?_) (fun _ h => ?_)
  · refine q_iconst (pc := 917) (v := (1 : Int32)) C dL_law_917 (by decide) ?_
    exact q_lawR C X B.2.1 B.2.2.2.2.1 dL_law_918 h
  · refine q_aload_n (pc := 33) C 0 rfl dL_law_33 rfl ?_
    refine q_iload (pc := 34) C 4 rfl dL_law_34 ?_
    obtain ⟨g36, h⟩ := q_gd_e h
    refine q_sld (pc := 36) C X g36.1 dL_law_36 g36.2 ?_
    refine q_bipush (pc := 37) (v := (15 : Int32)) C dL_law_37 (by decide) ?_
    refine q_iand (pc := 39) C dL_law_39 ?_
    by_cases cd : ((xs l4.toNatClampNeg) &&& (15 : Int32)).toInt < 0 ∨ 14 < ((xs l4.toNatClampNeg) &&& (15 : Int32)).toInt
    · replace h := (q_br_e h).1 cd
      refine q_tabOut (pc := 40) (tgt := 911) C dL_law_40 cd (by decide) ?_
      exact S_L_law_911 B hT X r23 hr23 mr23 l0 l1 l2 l3 l4 _ h
    replace h := (q_br_e h).2 cd
    by_cases cv : ((xs l4.toNatClampNeg) &&& (15 : Int32)) = 0
    · replace h := (q_br_e h).1 cv
      refine q_tabIn (pc := 40) (tgt := 116) (off := 76) C dL_law_40 (by rw [cv]; decide) (by rw [cv]; decide) (by rw [cv]; rfl) (by decide) ?_
      refine q_aload_n (pc := 116) C 1 rfl dL_law_116 rfl ?_
      refine q_aload_n (pc := 117) C 0 rfl dL_law_117 rfl ?_
      refine q_iload (pc := 118) C 4 rfl dL_law_118 ?_
      refine q_iconst (pc := 120) (v := (1 : Int32)) C dL_law_120 (by decide) ?_
      refine q_iadd (pc := 121) C dL_law_121 ?_
      obtain ⟨g122, h⟩ := q_gd_e h
      refine q_sld (pc := 122) C X g122.1 dL_law_122 g122.2 ?_
      refine q_aload_n (pc := 123) C 0 rfl dL_law_123 rfl ?_
      refine q_iload (pc := 124) C 4 rfl dL_law_124 ?_
      refine q_iconst (pc := 126) (v := (2 : Int32)) C dL_law_126 (by decide) ?_
      refine q_iadd (pc := 127) C dL_law_127 ?_
      obtain ⟨g128, h⟩ := q_gd_e h
      refine q_sld (pc := 128) C X g128.1 dL_law_128 g128.2 ?_
      refine q_aload_n (pc := 129) C 0 rfl dL_law_129 rfl ?_
      refine q_iload (pc := 130) C 4 rfl dL_law_130 ?_
      refine q_iconst (pc := 132) (v := (3 : Int32)) C dL_law_132 (by decide) ?_
      refine q_iadd (pc := 133) C dL_law_133 ?_
      obtain ⟨g134, h⟩ := q_gd_e h
      refine q_sld (pc := 134) C X g134.1 dL_law_134 g134.2 ?_
      refine q_aload_n (pc := 135) C 0 rfl dL_law_135 rfl ?_
      refine q_iload (pc := 136) C 4 rfl dL_law_136 ?_
      refine q_iconst (pc := 138) (v := (4 : Int32)) C dL_law_138 (by decide) ?_
      refine q_iadd (pc := 139) C dL_law_139 ?_
      obtain ⟨g140, h⟩ := q_gd_e h
      refine q_sld (pc := 140) C X g140.1 dL_law_140 g140.2 ?_
      refine q_aload_n (pc := 141) C 0 rfl dL_law_141 rfl ?_
      refine q_iload (pc := 142) C 4 rfl dL_law_142 ?_
      refine q_iconst (pc := 144) (v := (5 : Int32)) C dL_law_144 (by decide) ?_
      refine q_iadd (pc := 145) C dL_law_145 ?_
      obtain ⟨g146, h⟩ := q_gd_e h
      refine q_sld (pc := 146) C X g146.1 dL_law_146 g146.2 ?_
      refine q_aload_n (pc := 147) C 3 rfl dL_law_147 rfl ?_
      refine q_callSXn (pc := 148) (As := [q_R l1, q_I (xs (l4 + (1 : Int32)).toNatClampNeg), q_I (xs (l4 + (2 : Int32)).toNatClampNeg), q_I (xs (l4 + (3 : Int32)).toNatClampNeg), q_I (xs (l4 + (4 : Int32)).toNatClampNeg), q_I (xs (l4 + (5 : Int32)).toNatClampNeg), q_R l3]) (st := []) (ps := q_psI) C B.2.1 q_hpI qm_L_66 qs_L_feed dL_law_148 rfl rfl (Nat.le_of_ble_eq_true rfl) (q_flo B.2.2.1 B.2.2.2.1 (by decide) (by decide)) (K_L_feed l1 (xs (l4 + (1 : Int32)).toNatClampNeg) (xs (l4 + (2 : Int32)).toNatClampNeg) (xs (l4 + (3 : Int32)).toNatClampNeg) (xs (l4 + (4 : Int32)).toNatClampNeg) (xs (l4 + (5 : Int32)).toNatClampNeg) l3) (M_L_feed (q_kap E) l1 (xs (l4 + (1 : Int32)).toNatClampNeg) (xs (l4 + (2 : Int32)).toNatClampNeg) (xs (l4 + (3 : Int32)).toNatClampNeg) (xs (l4 + (4 : Int32)).toNatClampNeg) (xs (l4 + (5 : Int32)).toNatClampNeg) l3) (by exact fun v148 => (q_mo_gd (q_mo_gd (q_mo_gd (q_mo_gd (q_mo_gd (q_mo_rd fun _ => (q_mo_cc (M_X13_feed (q_kap E) l2 (xs (l4 + (1 : Int32)).toNatClampNeg) (xs (l4 + (2 : Int32)).toNatClampNeg) (xs (l4 + (3 : Int32)).toNatClampNeg) (xs (l4 + (4 : Int32)).toNatClampNeg) (xs (l4 + (5 : Int32)).toNatClampNeg)) (fun v184 => (q_mo_rd fun _ => (q_mo_cc (M_X13_thrown (q_kap E) l2) (fun v190 => (q_mo_br (q_mo_br (M_L_law_217 (q_kap E) sb L xs r23 mr23 l0 l1 l2 l3 l4) (q_mo_rd fun v207 => (q_mo_br (M_L_law_217 (q_kap E) sb L xs r23 mr23 l0 l1 l2 l3 l4) q_mo_rz))) q_mo_rz)) (fun _ => q_mo_no)))) (fun _ => q_mo_no))))))))) (fun _ => q_mo_no) h (fun v148 σ h => ?_) (fun _ _ h => by cases h)
      refine q_W.st (st' := [q_I v148]) rfl ?_
      refine q_istore (pc := 151) (l' := [(5, q_I v148), (0, q_R l0), (1, q_R l1), (2, q_R l2), (3, q_R l3), (4, q_I l4)]) C dL_law_151 (by decide) rfl ?_
      refine q_aload_n (pc := 153) C 3 rfl dL_law_153 rfl ?_
      refine q_aload_n (pc := 154) C 1 rfl dL_law_154 rfl ?_
      refine q_iload (pc := 155) C 5 rfl dL_law_155 ?_
      refine q_iconst (pc := 157) (v := (1 : Int32)) C dL_law_157 (by decide) ?_
      refine q_iadd (pc := 158) C dL_law_158 ?_
      obtain ⟨g159, h⟩ := q_gd_e h
      refine q_sld (pc := 159) C X g159.1 dL_law_159 g159.2 ?_
      refine q_aload_n (pc := 160) C 1 rfl dL_law_160 rfl ?_
      refine q_iload (pc := 161) C 5 rfl dL_law_161 ?_
      refine q_iconst (pc := 163) (v := (2 : Int32)) C dL_law_163 (by decide) ?_
      refine q_iadd (pc := 164) C dL_law_164 ?_
      obtain ⟨g165, h⟩ := q_gd_e h
      refine q_sld (pc := 165) C X g165.1 dL_law_165 g165.2 ?_
      refine q_aload_n (pc := 166) C 1 rfl dL_law_166 rfl ?_
      refine q_iload (pc := 167) C 5 rfl dL_law_167 ?_
      refine q_iconst (pc := 169) (v := (3 : Int32)) C dL_law_169 (by decide) ?_
      refine q_iadd (pc := 170) C dL_law_170 ?_
      obtain ⟨g171, h⟩ := q_gd_e h
      refine q_sld (pc := 171) C X g171.1 dL_law_171 g171.2 ?_
      refine q_aload_n (pc := 172) C 1 rfl dL_law_172 rfl ?_
      refine q_iload (pc := 173) C 5 rfl dL_law_173 ?_
      refine q_iconst (pc := 175) (v := (4 : Int32)) C dL_law_175 (by decide) ?_
      refine q_iadd (pc := 176) C dL_law_176 ?_
      obtain ⟨g177, h⟩ := q_gd_e h
      refine q_sld (pc := 177) C X g177.1 dL_law_177 g177.2 ?_
      refine q_aload_n (pc := 178) C 1 rfl dL_law_178 rfl ?_
      refine q_iload (pc := 179) C 5 rfl dL_law_179 ?_
      refine q_iconst (pc := 181) (v := (5 : Int32)) C dL_law_181 (by decide) ?_
      refine q_iadd (pc := 182) C dL_law_182 ?_
      obtain ⟨g183, h⟩ := q_gd_e h
      refine q_sld (pc := 183) C X g183.1 dL_law_183 g183.2 ?_
      refine q_callVn (pc := 184) (As := [q_I (xs (l4 + (1 : Int32)).toNatClampNeg), q_I (xs (l4 + (2 : Int32)).toNatClampNeg), q_I (xs (l4 + (3 : Int32)).toNatClampNeg), q_I (xs (l4 + (4 : Int32)).toNatClampNeg), q_I (xs (l4 + (5 : Int32)).toNatClampNeg)]) (st := []) (ps := q_psI) C B.2.1 q_hpI qm_L_71 qv_X13_feed dL_law_184 rfl rfl (Nat.le_of_ble_eq_true rfl) (q_flo B.2.2.1 B.2.2.2.1 (by decide) (by decide)) (K_X13_feed l2 (xs (l4 + (1 : Int32)).toNatClampNeg) (xs (l4 + (2 : Int32)).toNatClampNeg) (xs (l4 + (3 : Int32)).toNatClampNeg) (xs (l4 + (4 : Int32)).toNatClampNeg) (xs (l4 + (5 : Int32)).toNatClampNeg)) (M_X13_feed (q_kap E) l2 (xs (l4 + (1 : Int32)).toNatClampNeg) (xs (l4 + (2 : Int32)).toNatClampNeg) (xs (l4 + (3 : Int32)).toNatClampNeg) (xs (l4 + (4 : Int32)).toNatClampNeg) (xs (l4 + (5 : Int32)).toNatClampNeg)) (by exact fun v184 => (q_mo_rd fun _ => (q_mo_cc (M_X13_thrown (q_kap E) l2) (fun v190 => (q_mo_br (q_mo_br (M_L_law_217 (q_kap E) sb L xs r23 mr23 l0 l1 l2 l3 l4) (q_mo_rd fun v207 => (q_mo_br (M_L_law_217 (q_kap E) sb L xs r23 mr23 l0 l1 l2 l3 l4) q_mo_rz))) q_mo_rz)) (fun _ => q_mo_no)))) (fun _ => q_mo_no) h (fun v184 σ h => ?_) (fun _ _ h => by cases h)
      refine q_W.st (st' := [q_I v184]) rfl ?_
      refine q_istore (pc := 187) (l' := [(6, q_I v184), (5, q_I v148), (0, q_R l0), (1, q_R l1), (2, q_R l2), (3, q_R l3), (4, q_I l4)]) C dL_law_187 (by decide) rfl ?_
      refine q_aload_n (pc := 189) C 4 rfl dL_law_189 rfl ?_
      refine q_callVn (pc := 190) (As := []) (st := []) (ps := q_psI) C B.2.1 q_hpI qm_L_72 qv_X13_thrown dL_law_190 rfl rfl (Nat.le_of_ble_eq_true rfl) (q_flo B.2.2.1 B.2.2.2.1 (by decide) (by decide)) (K_X13_thrown l2) (M_X13_thrown (q_kap E) l2) (by exact fun v190 => (q_mo_br (q_mo_br (M_L_law_217 (q_kap E) sb L xs r23 mr23 l0 l1 l2 l3 l4) (q_mo_rd fun v207 => (q_mo_br (M_L_law_217 (q_kap E) sb L xs r23 mr23 l0 l1 l2 l3 l4) q_mo_rz))) q_mo_rz)) (fun _ => q_mo_no) h (fun v190 σ h => ?_) (fun _ _ h => by cases h)
      refine q_W.st (st' := [q_I v190]) rfl ?_
      refine q_iload (pc := 193) C 1 rfl dL_law_193 ?_
      refine q_icmp_eq (pc := 195) (tgt := 200) C dL_law_195 (by decide) h (fun _ h => ?_) (fun _ h => ?_)
      · refine q_iload (pc := 200) C 1 rfl dL_law_200 ?_
        refine q_if_ne (pc := 202) (tgt := 217) C dL_law_202 (by decide) h (fun _ h => ?_) (fun _ h => ?_)
        · refine q_W.sub [2, 3, 4, 5, 6] rfl ?_
          exact S_L_law_217 B hT X r23 hr23 mr23 l0 l1 l2 l3 l4 _ h
        · refine q_aload_n (pc := 205) C 5 rfl dL_law_205 rfl ?_
          refine q_iconst (pc := 206) (v := (0 : Int32)) C dL_law_206 (by decide) ?_
          refine q_ldL (pc := 207) C dL_law_207 h (fun v207 h => ?_)
          refine q_iload (pc := 208) C 0 rfl dL_law_208 ?_
          refine q_i2l (pc := 210) C dL_law_210 ?_
          refine q_lcmp (pc := 211) C dL_law_211 ?_
          refine q_if_eq (pc := 212) (tgt := 217) C dL_law_212 (by decide) h (fun _ h => ?_) (fun _ h => ?_)
          · refine q_W.sub [2, 3, 4, 5, 6] rfl ?_
            exact S_L_law_217 B hT X r23 hr23 mr23 l0 l1 l2 l3 l4 _ h
          · refine q_iconst (pc := 215) (v := (0 : Int32)) C dL_law_215 (by decide) ?_
            exact q_lawR C X B.2.1 B.2.2.2.2.1 dL_law_216 h
      · refine q_iconst (pc := 198) (v := (0 : Int32)) C dL_law_198 (by decide) ?_
        exact q_lawR C X B.2.1 B.2.2.2.2.1 dL_law_199 h
    replace h := (q_br_e h).2 cv
    by_cases cv : ((xs l4.toNatClampNeg) &&& (15 : Int32)) = 1
    · replace h := (q_br_e h).1 cv
      refine q_tabIn (pc := 40) (tgt := 220) (off := 180) C dL_law_40 (by rw [cv]; decide) (by rw [cv]; decide) (by rw [cv]; rfl) (by decide) ?_
      refine q_aload_n (pc := 220) C 1 rfl dL_law_220 rfl ?_
      refine q_aload_n (pc := 221) C 0 rfl dL_law_221 rfl ?_
      refine q_iload (pc := 222) C 4 rfl dL_law_222 ?_
      refine q_iconst (pc := 224) (v := (1 : Int32)) C dL_law_224 (by decide) ?_
      refine q_iadd (pc := 225) C dL_law_225 ?_
      obtain ⟨g226, h⟩ := q_gd_e h
      refine q_sld (pc := 226) C X g226.1 dL_law_226 g226.2 ?_
      refine q_aload_n (pc := 227) C 3 rfl dL_law_227 rfl ?_
      refine q_callSXn (pc := 228) (As := [q_R l1, q_I (xs (l4 + (1 : Int32)).toNatClampNeg), q_R l3]) (st := []) (ps := q_psI) C B.2.1 q_hpI qm_L_75 qs_L_end dL_law_228 rfl rfl (Nat.le_of_ble_eq_true rfl) (q_flo B.2.2.1 B.2.2.2.1 (by decide) (by decide)) (K_L_end l1 (xs (l4 + (1 : Int32)).toNatClampNeg) l3) (M_L_end (q_kap E) l1 (xs (l4 + (1 : Int32)).toNatClampNeg) l3) (by exact fun v228 => (q_mo_gd (q_mo_rd fun _ => (q_mo_cc (M_X13_end (q_kap E) l2 (xs (l4 + (1 : Int32)).toNatClampNeg)) (fun v240 => (q_mo_rd fun _ => (q_mo_cc (M_X13_thrown (q_kap E) l2) (fun v246 => (q_mo_br (q_mo_br (M_L_law_273 (q_kap E) sb L xs r23 mr23 l0 l1 l2 l3 l4) (q_mo_rd fun v263 => (q_mo_br (M_L_law_273 (q_kap E) sb L xs r23 mr23 l0 l1 l2 l3 l4) q_mo_rz))) q_mo_rz)) (fun _ => q_mo_no)))) (fun _ => q_mo_no))))) (fun _ => q_mo_no) h (fun v228 σ h => ?_) (fun _ _ h => by cases h)
      refine q_W.st (st' := [q_I v228]) rfl ?_
      refine q_istore (pc := 231) (l' := [(5, q_I v228), (0, q_R l0), (1, q_R l1), (2, q_R l2), (3, q_R l3), (4, q_I l4)]) C dL_law_231 (by decide) rfl ?_
      refine q_aload_n (pc := 233) C 3 rfl dL_law_233 rfl ?_
      refine q_aload_n (pc := 234) C 1 rfl dL_law_234 rfl ?_
      refine q_iload (pc := 235) C 5 rfl dL_law_235 ?_
      refine q_iconst (pc := 237) (v := (1 : Int32)) C dL_law_237 (by decide) ?_
      refine q_iadd (pc := 238) C dL_law_238 ?_
      obtain ⟨g239, h⟩ := q_gd_e h
      refine q_sld (pc := 239) C X g239.1 dL_law_239 g239.2 ?_
      refine q_callVn (pc := 240) (As := [q_I (xs (l4 + (1 : Int32)).toNatClampNeg)]) (st := []) (ps := q_psI) C B.2.1 q_hpI qm_L_78 qv_X13_end dL_law_240 rfl rfl (Nat.le_of_ble_eq_true rfl) (q_flo B.2.2.1 B.2.2.2.1 (by decide) (by decide)) (K_X13_end l2 (xs (l4 + (1 : Int32)).toNatClampNeg)) (M_X13_end (q_kap E) l2 (xs (l4 + (1 : Int32)).toNatClampNeg)) (by exact fun v240 => (q_mo_rd fun _ => (q_mo_cc (M_X13_thrown (q_kap E) l2) (fun v246 => (q_mo_br (q_mo_br (M_L_law_273 (q_kap E) sb L xs r23 mr23 l0 l1 l2 l3 l4) (q_mo_rd fun v263 => (q_mo_br (M_L_law_273 (q_kap E) sb L xs r23 mr23 l0 l1 l2 l3 l4) q_mo_rz))) q_mo_rz)) (fun _ => q_mo_no)))) (fun _ => q_mo_no) h (fun v240 σ h => ?_) (fun _ _ h => by cases h)
      refine q_W.st (st' := [q_I v240]) rfl ?_
      refine q_istore (pc := 243) (l' := [(6, q_I v240), (5, q_I v228), (0, q_R l0), (1, q_R l1), (2, q_R l2), (3, q_R l3), (4, q_I l4)]) C dL_law_243 (by decide) rfl ?_
      refine q_aload_n (pc := 245) C 4 rfl dL_law_245 rfl ?_
      refine q_callVn (pc := 246) (As := []) (st := []) (ps := q_psI) C B.2.1 q_hpI qm_L_72 qv_X13_thrown dL_law_246 rfl rfl (Nat.le_of_ble_eq_true rfl) (q_flo B.2.2.1 B.2.2.2.1 (by decide) (by decide)) (K_X13_thrown l2) (M_X13_thrown (q_kap E) l2) (by exact fun v246 => (q_mo_br (q_mo_br (M_L_law_273 (q_kap E) sb L xs r23 mr23 l0 l1 l2 l3 l4) (q_mo_rd fun v263 => (q_mo_br (M_L_law_273 (q_kap E) sb L xs r23 mr23 l0 l1 l2 l3 l4) q_mo_rz))) q_mo_rz)) (fun _ => q_mo_no) h (fun v246 σ h => ?_) (fun _ _ h => by cases h)
      refine q_W.st (st' := [q_I v246]) rfl ?_
      refine q_iload (pc := 249) C 1 rfl dL_law_249 ?_
      refine q_icmp_eq (pc := 251) (tgt := 256) C dL_law_251 (by decide) h (fun _ h => ?_) (fun _ h => ?_)
      · refine q_iload (pc := 256) C 1 rfl dL_law_256 ?_
        refine q_if_ne (pc := 258) (tgt := 273) C dL_law_258 (by decide) h (fun _ h => ?_) (fun _ h => ?_)
        · refine q_W.sub [2, 3, 4, 5, 6] rfl ?_
          exact S_L_law_273 B hT X r23 hr23 mr23 l0 l1 l2 l3 l4 _ h
        · refine q_aload_n (pc := 261) C 5 rfl dL_law_261 rfl ?_
          refine q_iconst (pc := 262) (v := (0 : Int32)) C dL_law_262 (by decide) ?_
          refine q_ldL (pc := 263) C dL_law_263 h (fun v263 h => ?_)
          refine q_iload (pc := 264) C 0 rfl dL_law_264 ?_
          refine q_i2l (pc := 266) C dL_law_266 ?_
          refine q_lcmp (pc := 267) C dL_law_267 ?_
          refine q_if_eq (pc := 268) (tgt := 273) C dL_law_268 (by decide) h (fun _ h => ?_) (fun _ h => ?_)
          · refine q_W.sub [2, 3, 4, 5, 6] rfl ?_
            exact S_L_law_273 B hT X r23 hr23 mr23 l0 l1 l2 l3 l4 _ h
          · refine q_iconst (pc := 271) (v := (0 : Int32)) C dL_law_271 (by decide) ?_
            exact q_lawR C X B.2.1 B.2.2.2.2.1 dL_law_272 h
      · refine q_iconst (pc := 254) (v := (0 : Int32)) C dL_law_254 (by decide) ?_
        exact q_lawR C X B.2.1 B.2.2.2.2.1 dL_law_255 h
    replace h := (q_br_e h).2 cv
    by_cases cv : ((xs l4.toNatClampNeg) &&& (15 : Int32)) = 2
    · replace h := (q_br_e h).1 cv
      refine q_tabIn (pc := 40) (tgt := 276) (off := 236) C dL_law_40 (by rw [cv]; decide) (by rw [cv]; decide) (by rw [cv]; rfl) (by decide) ?_
      refine q_aload_n (pc := 276) C 1 rfl dL_law_276 rfl ?_
      refine q_aload_n (pc := 277) C 3 rfl dL_law_277 rfl ?_
      refine q_callSXn (pc := 278) (As := [q_R l1, q_R l3]) (st := []) (ps := q_psI) C B.2.1 q_hpI qm_L_79 qs_L_describe dL_law_278 rfl rfl (Nat.le_of_ble_eq_true rfl) (q_flo B.2.2.1 B.2.2.2.1 (by decide) (by decide)) (K_L_describe l1 l3) (M_L_describe (q_kap E) l1 l3) (by exact fun v278 => (q_mo_rd fun _ => (q_mo_cc (M_X13_describe (q_kap E) l2) (fun v284 => (q_mo_rd fun _ => (q_mo_cc (M_X13_thrown (q_kap E) l2) (fun v290 => (q_mo_br (q_mo_br (M_L_law_317 (q_kap E) sb L xs r23 mr23 l0 l1 l2 l3 l4) (q_mo_rd fun v307 => (q_mo_br (M_L_law_317 (q_kap E) sb L xs r23 mr23 l0 l1 l2 l3 l4) q_mo_rz))) q_mo_rz)) (fun _ => q_mo_no)))) (fun _ => q_mo_no)))) (fun _ => q_mo_no) h (fun v278 σ h => ?_) (fun _ _ h => by cases h)
      refine q_W.st (st' := [q_I v278]) rfl ?_
      refine q_istore (pc := 281) (l' := [(5, q_I v278), (0, q_R l0), (1, q_R l1), (2, q_R l2), (3, q_R l3), (4, q_I l4)]) C dL_law_281 (by decide) rfl ?_
      refine q_aload_n (pc := 283) C 3 rfl dL_law_283 rfl ?_
      refine q_callVXn (pc := 284) (As := []) (st := []) (ps := q_psI) C B.2.1 q_hpI qm_L_82 qv_X13_describe dL_law_284 rfl rfl (Nat.le_of_ble_eq_true rfl) (q_flo B.2.2.1 B.2.2.2.1 (by decide) (by decide)) (K_X13_describe l2) (M_X13_describe (q_kap E) l2) (by exact fun v284 => (q_mo_rd fun _ => (q_mo_cc (M_X13_thrown (q_kap E) l2) (fun v290 => (q_mo_br (q_mo_br (M_L_law_317 (q_kap E) sb L xs r23 mr23 l0 l1 l2 l3 l4) (q_mo_rd fun v307 => (q_mo_br (M_L_law_317 (q_kap E) sb L xs r23 mr23 l0 l1 l2 l3 l4) q_mo_rz))) q_mo_rz)) (fun _ => q_mo_no)))) (fun _ => q_mo_no) h (fun v284 σ h => ?_) (fun _ _ h => by cases h)
      refine q_W.st (st' := [q_I v284]) rfl ?_
      refine q_istore (pc := 287) (l' := [(6, q_I v284), (5, q_I v278), (0, q_R l0), (1, q_R l1), (2, q_R l2), (3, q_R l3), (4, q_I l4)]) C dL_law_287 (by decide) rfl ?_
      refine q_aload_n (pc := 289) C 4 rfl dL_law_289 rfl ?_
      refine q_callVn (pc := 290) (As := []) (st := []) (ps := q_psI) C B.2.1 q_hpI qm_L_72 qv_X13_thrown dL_law_290 rfl rfl (Nat.le_of_ble_eq_true rfl) (q_flo B.2.2.1 B.2.2.2.1 (by decide) (by decide)) (K_X13_thrown l2) (M_X13_thrown (q_kap E) l2) (by exact fun v290 => (q_mo_br (q_mo_br (M_L_law_317 (q_kap E) sb L xs r23 mr23 l0 l1 l2 l3 l4) (q_mo_rd fun v307 => (q_mo_br (M_L_law_317 (q_kap E) sb L xs r23 mr23 l0 l1 l2 l3 l4) q_mo_rz))) q_mo_rz)) (fun _ => q_mo_no) h (fun v290 σ h => ?_) (fun _ _ h => by cases h)
      refine q_W.st (st' := [q_I v290]) rfl ?_
      refine q_iload (pc := 293) C 1 rfl dL_law_293 ?_
      refine q_icmp_eq (pc := 295) (tgt := 300) C dL_law_295 (by decide) h (fun _ h => ?_) (fun _ h => ?_)
      · refine q_iload (pc := 300) C 1 rfl dL_law_300 ?_
        refine q_if_ne (pc := 302) (tgt := 317) C dL_law_302 (by decide) h (fun _ h => ?_) (fun _ h => ?_)
        · refine q_W.sub [2, 3, 4, 5, 6] rfl ?_
          exact S_L_law_317 B hT X r23 hr23 mr23 l0 l1 l2 l3 l4 _ h
        · refine q_aload_n (pc := 305) C 5 rfl dL_law_305 rfl ?_
          refine q_iconst (pc := 306) (v := (0 : Int32)) C dL_law_306 (by decide) ?_
          refine q_ldL (pc := 307) C dL_law_307 h (fun v307 h => ?_)
          refine q_iload (pc := 308) C 0 rfl dL_law_308 ?_
          refine q_i2l (pc := 310) C dL_law_310 ?_
          refine q_lcmp (pc := 311) C dL_law_311 ?_
          refine q_if_eq (pc := 312) (tgt := 317) C dL_law_312 (by decide) h (fun _ h => ?_) (fun _ h => ?_)
          · refine q_W.sub [2, 3, 4, 5, 6] rfl ?_
            exact S_L_law_317 B hT X r23 hr23 mr23 l0 l1 l2 l3 l4 _ h
          · refine q_iconst (pc := 315) (v := (0 : Int32)) C dL_law_315 (by decide) ?_
            exact q_lawR C X B.2.1 B.2.2.2.2.1 dL_law_316 h
      · refine q_iconst (pc := 298) (v := (0 : Int32)) C dL_law_298 (by decide) ?_
        exact q_lawR C X B.2.1 B.2.2.2.2.1 dL_law_299 h
    replace h := (q_br_e h).2 cv
    by_cases cv : ((xs l4.toNatClampNeg) &&& (15 : Int32)) = 3
    · replace h := (q_br_e h).1 cv
      refine q_tabIn (pc := 40) (tgt := 320) (off := 280) C dL_law_40 (by rw [cv]; decide) (by rw [cv]; decide) (by rw [cv]; rfl) (by decide) ?_
      refine q_aload_n (pc := 320) C 1 rfl dL_law_320 rfl ?_
      refine q_aload_n (pc := 321) C 3 rfl dL_law_321 rfl ?_
      refine q_callSXn (pc := 322) (As := [q_R l1, q_R l3]) (st := []) (ps := q_psI) C B.2.1 q_hpI qm_L_83 qs_L_assemble dL_law_322 rfl rfl (Nat.le_of_ble_eq_true rfl) (q_flo B.2.2.1 B.2.2.2.1 (by decide) (by decide)) (K_L_assemble l1 l3) (M_L_assemble (q_kap E) l1 l3) (by exact fun v322 => (q_mo_rd fun _ => (q_mo_cc (M_X13_assemble (q_kap E) l2) (fun v328 => (q_mo_rd fun _ => (q_mo_cc (M_X13_thrown (q_kap E) l2) (fun v334 => (q_mo_br (q_mo_br (M_L_law_361 (q_kap E) sb L xs r23 mr23 l0 l1 l2 l3 l4) (q_mo_rd fun v351 => (q_mo_br (M_L_law_361 (q_kap E) sb L xs r23 mr23 l0 l1 l2 l3 l4) q_mo_rz))) q_mo_rz)) (fun _ => q_mo_no)))) (fun _ => q_mo_no)))) (fun _ => q_mo_no) h (fun v322 σ h => ?_) (fun _ _ h => by cases h)
      refine q_W.st (st' := [q_I v322]) rfl ?_
      refine q_istore (pc := 325) (l' := [(5, q_I v322), (0, q_R l0), (1, q_R l1), (2, q_R l2), (3, q_R l3), (4, q_I l4)]) C dL_law_325 (by decide) rfl ?_
      refine q_aload_n (pc := 327) C 3 rfl dL_law_327 rfl ?_
      refine q_callVXn (pc := 328) (As := []) (st := []) (ps := q_psI) C B.2.1 q_hpI qm_L_85 qv_X13_assemble dL_law_328 rfl rfl (Nat.le_of_ble_eq_true rfl) (q_flo B.2.2.1 B.2.2.2.1 (by decide) (by decide)) (K_X13_assemble l2) (M_X13_assemble (q_kap E) l2) (by exact fun v328 => (q_mo_rd fun _ => (q_mo_cc (M_X13_thrown (q_kap E) l2) (fun v334 => (q_mo_br (q_mo_br (M_L_law_361 (q_kap E) sb L xs r23 mr23 l0 l1 l2 l3 l4) (q_mo_rd fun v351 => (q_mo_br (M_L_law_361 (q_kap E) sb L xs r23 mr23 l0 l1 l2 l3 l4) q_mo_rz))) q_mo_rz)) (fun _ => q_mo_no)))) (fun _ => q_mo_no) h (fun v328 σ h => ?_) (fun _ _ h => by cases h)
      refine q_W.st (st' := [q_I v328]) rfl ?_
      refine q_istore (pc := 331) (l' := [(6, q_I v328), (5, q_I v322), (0, q_R l0), (1, q_R l1), (2, q_R l2), (3, q_R l3), (4, q_I l4)]) C dL_law_331 (by decide) rfl ?_
      refine q_aload_n (pc := 333) C 4 rfl dL_law_333 rfl ?_
      refine q_callVn (pc := 334) (As := []) (st := []) (ps := q_psI) C B.2.1 q_hpI qm_L_72 qv_X13_thrown dL_law_334 rfl rfl (Nat.le_of_ble_eq_true rfl) (q_flo B.2.2.1 B.2.2.2.1 (by decide) (by decide)) (K_X13_thrown l2) (M_X13_thrown (q_kap E) l2) (by exact fun v334 => (q_mo_br (q_mo_br (M_L_law_361 (q_kap E) sb L xs r23 mr23 l0 l1 l2 l3 l4) (q_mo_rd fun v351 => (q_mo_br (M_L_law_361 (q_kap E) sb L xs r23 mr23 l0 l1 l2 l3 l4) q_mo_rz))) q_mo_rz)) (fun _ => q_mo_no) h (fun v334 σ h => ?_) (fun _ _ h => by cases h)
      refine q_W.st (st' := [q_I v334]) rfl ?_
      refine q_iload (pc := 337) C 1 rfl dL_law_337 ?_
      refine q_icmp_eq (pc := 339) (tgt := 344) C dL_law_339 (by decide) h (fun _ h => ?_) (fun _ h => ?_)
      · refine q_iload (pc := 344) C 1 rfl dL_law_344 ?_
        refine q_if_ne (pc := 346) (tgt := 361) C dL_law_346 (by decide) h (fun _ h => ?_) (fun _ h => ?_)
        · refine q_W.sub [2, 3, 4, 5, 6] rfl ?_
          exact S_L_law_361 B hT X r23 hr23 mr23 l0 l1 l2 l3 l4 _ h
        · refine q_aload_n (pc := 349) C 5 rfl dL_law_349 rfl ?_
          refine q_iconst (pc := 350) (v := (0 : Int32)) C dL_law_350 (by decide) ?_
          refine q_ldL (pc := 351) C dL_law_351 h (fun v351 h => ?_)
          refine q_iload (pc := 352) C 0 rfl dL_law_352 ?_
          refine q_i2l (pc := 354) C dL_law_354 ?_
          refine q_lcmp (pc := 355) C dL_law_355 ?_
          refine q_if_eq (pc := 356) (tgt := 361) C dL_law_356 (by decide) h (fun _ h => ?_) (fun _ h => ?_)
          · refine q_W.sub [2, 3, 4, 5, 6] rfl ?_
            exact S_L_law_361 B hT X r23 hr23 mr23 l0 l1 l2 l3 l4 _ h
          · refine q_iconst (pc := 359) (v := (0 : Int32)) C dL_law_359 (by decide) ?_
            exact q_lawR C X B.2.1 B.2.2.2.2.1 dL_law_360 h
      · refine q_iconst (pc := 342) (v := (0 : Int32)) C dL_law_342 (by decide) ?_
        exact q_lawR C X B.2.1 B.2.2.2.2.1 dL_law_343 h
    replace h := (q_br_e h).2 cv
    by_cases cv : ((xs l4.toNatClampNeg) &&& (15 : Int32)) = 4
    · replace h := (q_br_e h).1 cv
      refine q_tabIn (pc := 40) (tgt := 364) (off := 324) C dL_law_40 (by rw [cv]; decide) (by rw [cv]; decide) (by rw [cv]; rfl) (by decide) ?_
      refine q_aload_n (pc := 364) C 1 rfl dL_law_364 rfl ?_
      refine q_callVn (pc := 365) (As := []) (st := []) (ps := q_psI) C B.2.1 q_hpI qm_L_86 qv_X11_kind dL_law_365 rfl rfl (Nat.le_of_ble_eq_true rfl) (q_flo B.2.2.1 B.2.2.2.1 (by decide) (by decide)) (K_X11_kind l1) (M_X11_kind (q_kap E) l1) (by exact fun v365 => (q_mo_rd fun _ => (q_mo_cc (M_X13_kind_ (q_kap E) l2) (fun v369 => (q_mo_br (M_L_law_911 (q_kap E) sb L xs r23 mr23 l0 l1 l2 l3 l4) q_mo_rz)) (fun _ => q_mo_no)))) (fun _ => q_mo_no) h (fun v365 σ h => ?_) (fun _ _ h => by cases h)
      refine q_W.st (st' := [q_I v365]) rfl ?_
      refine q_aload_n (pc := 368) C 2 rfl dL_law_368 rfl ?_
      refine q_callVn (pc := 369) (As := []) (st := [q_I v365]) (ps := q_psI) C B.2.1 q_hpI qm_L_89 qv_X13_kind_ dL_law_369 rfl rfl (Nat.le_of_ble_eq_true rfl) (q_flo B.2.2.1 B.2.2.2.1 (by decide) (by decide)) (K_X13_kind_ l2) (M_X13_kind_ (q_kap E) l2) (by exact fun v369 => (q_mo_br (M_L_law_911 (q_kap E) sb L xs r23 mr23 l0 l1 l2 l3 l4) q_mo_rz)) (fun _ => q_mo_no) h (fun v369 σ h => ?_) (fun _ _ h => by cases h)
      refine q_W.st (st' := [q_I v369, q_I v365]) rfl ?_
      refine q_icmp_eq (pc := 372) (tgt := 911) C dL_law_372 (by decide) h (fun _ h => ?_) (fun _ h => ?_)
      · exact S_L_law_911 B hT X r23 hr23 mr23 l0 l1 l2 l3 l4 _ h
      · refine q_iconst (pc := 375) (v := (0 : Int32)) C dL_law_375 (by decide) ?_
        exact q_lawR C X B.2.1 B.2.2.2.2.1 dL_law_376 h
    replace h := (q_br_e h).2 cv
    by_cases cv : ((xs l4.toNatClampNeg) &&& (15 : Int32)) = 5
    · replace h := (q_br_e h).1 cv
      refine q_tabIn (pc := 40) (tgt := 377) (off := 337) C dL_law_40 (by rw [cv]; decide) (by rw [cv]; decide) (by rw [cv]; rfl) (by decide) ?_
      refine q_aload_n (pc := 377) C 1 rfl dL_law_377 rfl ?_
      refine q_callVn (pc := 378) (As := []) (st := []) (ps := q_psI) C B.2.1 q_hpI qm_L_90 qv_X11_place dL_law_378 rfl rfl (Nat.le_of_ble_eq_true rfl) (q_flo B.2.2.1 B.2.2.2.1 (by decide) (by decide)) (K_X11_place l1) (M_X11_place (q_kap E) l1) (by exact fun v378 => (q_mo_rd fun _ => (q_mo_cc (M_X13_place (q_kap E) l2) (fun v382 => (q_mo_br (M_L_law_911 (q_kap E) sb L xs r23 mr23 l0 l1 l2 l3 l4) q_mo_rz)) (fun _ => q_mo_no)))) (fun _ => q_mo_no) h (fun v378 σ h => ?_) (fun _ _ h => by cases h)
      refine q_W.st (st' := [q_I v378]) rfl ?_
      refine q_aload_n (pc := 381) C 2 rfl dL_law_381 rfl ?_
      refine q_callVn (pc := 382) (As := []) (st := [q_I v378]) (ps := q_psI) C B.2.1 q_hpI qm_L_93 qv_X13_place dL_law_382 rfl rfl (Nat.le_of_ble_eq_true rfl) (q_flo B.2.2.1 B.2.2.2.1 (by decide) (by decide)) (K_X13_place l2) (M_X13_place (q_kap E) l2) (by exact fun v382 => (q_mo_br (M_L_law_911 (q_kap E) sb L xs r23 mr23 l0 l1 l2 l3 l4) q_mo_rz)) (fun _ => q_mo_no) h (fun v382 σ h => ?_) (fun _ _ h => by cases h)
      refine q_W.st (st' := [q_I v382, q_I v378]) rfl ?_
      refine q_icmp_eq (pc := 385) (tgt := 911) C dL_law_385 (by decide) h (fun _ h => ?_) (fun _ h => ?_)
      · exact S_L_law_911 B hT X r23 hr23 mr23 l0 l1 l2 l3 l4 _ h
      · refine q_iconst (pc := 388) (v := (0 : Int32)) C dL_law_388 (by decide) ?_
        exact q_lawR C X B.2.1 B.2.2.2.2.1 dL_law_389 h
    replace h := (q_br_e h).2 cv
    by_cases cv : ((xs l4.toNatClampNeg) &&& (15 : Int32)) = 6
    · replace h := (q_br_e h).1 cv
      refine q_tabIn (pc := 40) (tgt := 390) (off := 350) C dL_law_40 (by rw [cv]; decide) (by rw [cv]; decide) (by rw [cv]; rfl) (by decide) ?_
      refine q_aload_n (pc := 390) C 1 rfl dL_law_390 rfl ?_
      refine q_aload_n (pc := 391) C 0 rfl dL_law_391 rfl ?_
      refine q_iload (pc := 392) C 4 rfl dL_law_392 ?_
      refine q_iconst (pc := 394) (v := (1 : Int32)) C dL_law_394 (by decide) ?_
      refine q_iadd (pc := 395) C dL_law_395 ?_
      obtain ⟨g396, h⟩ := q_gd_e h
      refine q_sld (pc := 396) C X g396.1 dL_law_396 g396.2 ?_
      refine q_aload_n (pc := 397) C 3 rfl dL_law_397 rfl ?_
      refine q_callSXn (pc := 398) (As := [q_R l1, q_I (xs (l4 + (1 : Int32)).toNatClampNeg), q_R l3]) (st := []) (ps := q_psI) C B.2.1 q_hpI qm_L_94 qs_L_word dL_law_398 rfl rfl (Nat.le_of_ble_eq_true rfl) (q_flo B.2.2.1 B.2.2.2.1 (by decide) (by decide)) (K_L_word l1 (xs (l4 + (1 : Int32)).toNatClampNeg) l3) (M_L_word (q_kap E) l1 (xs (l4 + (1 : Int32)).toNatClampNeg) l3) (by exact fun v398 => (q_mo_gd (q_mo_rd fun _ => (q_mo_cc (M_X13_word (q_kap E) l2 (xs (l4 + (1 : Int32)).toNatClampNeg)) (fun v410 => (q_mo_rd fun _ => (q_mo_cc (M_X13_thrown (q_kap E) l2) (fun v416 => (q_mo_br (q_mo_br (M_L_law_442 (q_kap E) sb L xs r23 mr23 l0 l1 l2 l3 l4) (q_mo_rd fun v433 => (q_mo_br (M_L_law_442 (q_kap E) sb L xs r23 mr23 l0 l1 l2 l3 l4) q_mo_rz))) q_mo_rz)) (fun _ => q_mo_no)))) (fun _ => q_mo_no))))) (fun _ => q_mo_no) h (fun v398 σ h => ?_) (fun _ _ h => by cases h)
      refine q_W.st (st' := [q_I v398]) rfl ?_
      refine q_istore (pc := 401) (l' := [(5, q_I v398), (0, q_R l0), (1, q_R l1), (2, q_R l2), (3, q_R l3), (4, q_I l4)]) C dL_law_401 (by decide) rfl ?_
      refine q_aload_n (pc := 403) C 3 rfl dL_law_403 rfl ?_
      refine q_aload_n (pc := 404) C 1 rfl dL_law_404 rfl ?_
      refine q_iload (pc := 405) C 5 rfl dL_law_405 ?_
      refine q_iconst (pc := 407) (v := (1 : Int32)) C dL_law_407 (by decide) ?_
      refine q_iadd (pc := 408) C dL_law_408 ?_
      obtain ⟨g409, h⟩ := q_gd_e h
      refine q_sld (pc := 409) C X g409.1 dL_law_409 g409.2 ?_
      refine q_callVn (pc := 410) (As := [q_I (xs (l4 + (1 : Int32)).toNatClampNeg)]) (st := []) (ps := q_psL) C B.2.1 q_hpL qm_L_96 qv_X13_word dL_law_410 rfl rfl (Nat.le_of_ble_eq_true rfl) (q_flo B.2.2.1 B.2.2.2.1 (by decide) (by decide)) (K_X13_word l2 (xs (l4 + (1 : Int32)).toNatClampNeg)) (M_X13_word (q_kap E) l2 (xs (l4 + (1 : Int32)).toNatClampNeg)) (by exact fun v410 => (q_mo_rd fun _ => (q_mo_cc (M_X13_thrown (q_kap E) l2) (fun v416 => (q_mo_br (q_mo_br (M_L_law_442 (q_kap E) sb L xs r23 mr23 l0 l1 l2 l3 l4) (q_mo_rd fun v433 => (q_mo_br (M_L_law_442 (q_kap E) sb L xs r23 mr23 l0 l1 l2 l3 l4) q_mo_rz))) q_mo_rz)) (fun _ => q_mo_no)))) (fun _ => q_mo_no) h (fun v410 σ h => ?_) (fun _ _ h => by cases h)
      refine q_W.st (st' := [q_L v410]) rfl ?_
      refine q_lstore (pc := 413) (l' := [(6, q_L v410), (5, q_I v398), (0, q_R l0), (1, q_R l1), (2, q_R l2), (3, q_R l3), (4, q_I l4)]) C dL_law_413 (by decide) rfl ?_
      refine q_aload_n (pc := 415) C 4 rfl dL_law_415 rfl ?_
      refine q_callVn (pc := 416) (As := []) (st := []) (ps := q_psI) C B.2.1 q_hpI qm_L_72 qv_X13_thrown dL_law_416 rfl rfl (Nat.le_of_ble_eq_true rfl) (q_flo B.2.2.1 B.2.2.2.1 (by decide) (by decide)) (K_X13_thrown l2) (M_X13_thrown (q_kap E) l2) (by exact fun v416 => (q_mo_br (q_mo_br (M_L_law_442 (q_kap E) sb L xs r23 mr23 l0 l1 l2 l3 l4) (q_mo_rd fun v433 => (q_mo_br (M_L_law_442 (q_kap E) sb L xs r23 mr23 l0 l1 l2 l3 l4) q_mo_rz))) q_mo_rz)) (fun _ => q_mo_no) h (fun v416 σ h => ?_) (fun _ _ h => by cases h)
      refine q_W.st (st' := [q_I v416]) rfl ?_
      refine q_iload (pc := 419) C 1 rfl dL_law_419 ?_
      refine q_icmp_eq (pc := 421) (tgt := 426) C dL_law_421 (by decide) h (fun _ h => ?_) (fun _ h => ?_)
      · refine q_iload (pc := 426) C 1 rfl dL_law_426 ?_
        refine q_if_ne (pc := 428) (tgt := 442) C dL_law_428 (by decide) h (fun _ h => ?_) (fun _ h => ?_)
        · refine q_W.sub [2, 3, 4, 5, 6] rfl ?_
          exact S_L_law_442 B hT X r23 hr23 mr23 l0 l1 l2 l3 l4 _ h
        · refine q_aload_n (pc := 431) C 5 rfl dL_law_431 rfl ?_
          refine q_iconst (pc := 432) (v := (0 : Int32)) C dL_law_432 (by decide) ?_
          refine q_ldL (pc := 433) C dL_law_433 h (fun v433 h => ?_)
          refine q_lload (pc := 434) C 0 rfl dL_law_434 ?_
          refine q_lcmp (pc := 436) C dL_law_436 ?_
          refine q_if_eq (pc := 437) (tgt := 442) C dL_law_437 (by decide) h (fun _ h => ?_) (fun _ h => ?_)
          · refine q_W.sub [2, 3, 4, 5, 6] rfl ?_
            exact S_L_law_442 B hT X r23 hr23 mr23 l0 l1 l2 l3 l4 _ h
          · refine q_iconst (pc := 440) (v := (0 : Int32)) C dL_law_440 (by decide) ?_
            exact q_lawR C X B.2.1 B.2.2.2.2.1 dL_law_441 h
      · refine q_iconst (pc := 424) (v := (0 : Int32)) C dL_law_424 (by decide) ?_
        exact q_lawR C X B.2.1 B.2.2.2.2.1 dL_law_425 h
    replace h := (q_br_e h).2 cv
    by_cases cv : ((xs l4.toNatClampNeg) &&& (15 : Int32)) = 7
    · replace h := (q_br_e h).1 cv
      refine q_tabIn (pc := 40) (tgt := 445) (off := 405) C dL_law_40 (by rw [cv]; decide) (by rw [cv]; decide) (by rw [cv]; rfl) (by decide) ?_
      refine q_aload_n (pc := 445) C 1 rfl dL_law_445 rfl ?_
      refine q_aload_n (pc := 446) C 0 rfl dL_law_446 rfl ?_
      refine q_iload (pc := 447) C 4 rfl dL_law_447 ?_
      refine q_iconst (pc := 449) (v := (1 : Int32)) C dL_law_449 (by decide) ?_
      refine q_iadd (pc := 450) C dL_law_450 ?_
      obtain ⟨g451, h⟩ := q_gd_e h
      refine q_sld (pc := 451) C X g451.1 dL_law_451 g451.2 ?_
      refine q_aload_n (pc := 452) C 0 rfl dL_law_452 rfl ?_
      refine q_iload (pc := 453) C 4 rfl dL_law_453 ?_
      refine q_iconst (pc := 455) (v := (2 : Int32)) C dL_law_455 (by decide) ?_
      refine q_iadd (pc := 456) C dL_law_456 ?_
      obtain ⟨g457, h⟩ := q_gd_e h
      refine q_sld (pc := 457) C X g457.1 dL_law_457 g457.2 ?_
      refine q_i2l (pc := 458) C dL_law_458 ?_
      refine q_bipush (pc := 459) (v := (32 : Int32)) C dL_law_459 (by decide) ?_
      refine q_lshl (pc := 461) C dL_law_461 ?_
      refine q_aload_n (pc := 462) C 0 rfl dL_law_462 rfl ?_
      refine q_iload (pc := 463) C 4 rfl dL_law_463 ?_
      refine q_iconst (pc := 465) (v := (3 : Int32)) C dL_law_465 (by decide) ?_
      refine q_iadd (pc := 466) C dL_law_466 ?_
      obtain ⟨g467, h⟩ := q_gd_e h
      refine q_sld (pc := 467) C X g467.1 dL_law_467 g467.2 ?_
      refine q_i2l (pc := 468) C dL_law_468 ?_
      refine q_ldc2 (pc := 469) (v := (4294967295 : Int64)) C dL_law_469 qc_L_97 ?_
      refine q_land (pc := 472) C dL_law_472 ?_
      refine q_lor (pc := 473) C dL_law_473 ?_
      refine q_aload_n (pc := 474) C 3 rfl dL_law_474 rfl ?_
      refine q_callSXn (pc := 475) (As := [q_R l1, q_I (xs (l4 + (1 : Int32)).toNatClampNeg), q_L ((((xs (l4 + (2 : Int32)).toNatClampNeg).toInt64) <<< ((32 : Int32).toInt64 &&& 63)) ||| (((xs (l4 + (3 : Int32)).toNatClampNeg).toInt64) &&& (4294967295 : Int64))), q_R l3]) (st := []) (ps := q_psI) C B.2.1 q_hpI qm_L_99 qs_L_poke dL_law_475 rfl rfl (Nat.le_of_ble_eq_true rfl) (q_flo B.2.2.1 B.2.2.2.1 (by decide) (by decide)) (K_L_poke l1 (xs (l4 + (1 : Int32)).toNatClampNeg) ((((xs (l4 + (2 : Int32)).toNatClampNeg).toInt64) <<< ((32 : Int32).toInt64 &&& 63)) ||| (((xs (l4 + (3 : Int32)).toNatClampNeg).toInt64) &&& (4294967295 : Int64))) l3) (M_L_poke (q_kap E) l1 (xs (l4 + (1 : Int32)).toNatClampNeg) ((((xs (l4 + (2 : Int32)).toNatClampNeg).toInt64) <<< ((32 : Int32).toInt64 &&& 63)) ||| (((xs (l4 + (3 : Int32)).toNatClampNeg).toInt64) &&& (4294967295 : Int64))) l3) (by exact fun v475 => (q_mo_gd (q_mo_gd (q_mo_gd (q_mo_rd fun _ => (q_mo_cc (M_X13_poke (q_kap E) l2 (xs (l4 + (1 : Int32)).toNatClampNeg) ((((xs (l4 + (2 : Int32)).toNatClampNeg).toInt64) <<< ((32 : Int32).toInt64 &&& 63)) ||| (((xs (l4 + (3 : Int32)).toNatClampNeg).toInt64) &&& (4294967295 : Int64)))) (fun v509 => (q_mo_rd fun _ => (q_mo_cc (M_X13_thrown (q_kap E) l2) (fun v515 => (q_mo_br (q_mo_br (M_L_law_542 (q_kap E) sb L xs r23 mr23 l0 l1 l2 l3 l4) (q_mo_rd fun v532 => (q_mo_br (M_L_law_542 (q_kap E) sb L xs r23 mr23 l0 l1 l2 l3 l4) q_mo_rz))) q_mo_rz)) (fun _ => q_mo_no)))) (fun _ => q_mo_no))))))) (fun _ => q_mo_no) h (fun v475 σ h => ?_) (fun _ _ h => by cases h)
      refine q_W.st (st' := [q_I v475]) rfl ?_
      refine q_istore (pc := 478) (l' := [(5, q_I v475), (0, q_R l0), (1, q_R l1), (2, q_R l2), (3, q_R l3), (4, q_I l4)]) C dL_law_478 (by decide) rfl ?_
      refine q_aload_n (pc := 480) C 3 rfl dL_law_480 rfl ?_
      refine q_aload_n (pc := 481) C 1 rfl dL_law_481 rfl ?_
      refine q_iload (pc := 482) C 5 rfl dL_law_482 ?_
      refine q_iconst (pc := 484) (v := (1 : Int32)) C dL_law_484 (by decide) ?_
      refine q_iadd (pc := 485) C dL_law_485 ?_
      obtain ⟨g486, h⟩ := q_gd_e h
      refine q_sld (pc := 486) C X g486.1 dL_law_486 g486.2 ?_
      refine q_aload_n (pc := 487) C 1 rfl dL_law_487 rfl ?_
      refine q_iload (pc := 488) C 5 rfl dL_law_488 ?_
      refine q_iconst (pc := 490) (v := (2 : Int32)) C dL_law_490 (by decide) ?_
      refine q_iadd (pc := 491) C dL_law_491 ?_
      obtain ⟨g492, h⟩ := q_gd_e h
      refine q_sld (pc := 492) C X g492.1 dL_law_492 g492.2 ?_
      refine q_i2l (pc := 493) C dL_law_493 ?_
      refine q_bipush (pc := 494) (v := (32 : Int32)) C dL_law_494 (by decide) ?_
      refine q_lshl (pc := 496) C dL_law_496 ?_
      refine q_aload_n (pc := 497) C 1 rfl dL_law_497 rfl ?_
      refine q_iload (pc := 498) C 5 rfl dL_law_498 ?_
      refine q_iconst (pc := 500) (v := (3 : Int32)) C dL_law_500 (by decide) ?_
      refine q_iadd (pc := 501) C dL_law_501 ?_
      obtain ⟨g502, h⟩ := q_gd_e h
      refine q_sld (pc := 502) C X g502.1 dL_law_502 g502.2 ?_
      refine q_i2l (pc := 503) C dL_law_503 ?_
      refine q_ldc2 (pc := 504) (v := (4294967295 : Int64)) C dL_law_504 qc_L_97 ?_
      refine q_land (pc := 507) C dL_law_507 ?_
      refine q_lor (pc := 508) C dL_law_508 ?_
      refine q_callVn (pc := 509) (As := [q_I (xs (l4 + (1 : Int32)).toNatClampNeg), q_L ((((xs (l4 + (2 : Int32)).toNatClampNeg).toInt64) <<< ((32 : Int32).toInt64 &&& 63)) ||| (((xs (l4 + (3 : Int32)).toNatClampNeg).toInt64) &&& (4294967295 : Int64)))]) (st := []) (ps := q_psI) C B.2.1 q_hpI qm_L_102 qv_X13_poke dL_law_509 rfl rfl (Nat.le_of_ble_eq_true rfl) (q_flo B.2.2.1 B.2.2.2.1 (by decide) (by decide)) (K_X13_poke l2 (xs (l4 + (1 : Int32)).toNatClampNeg) ((((xs (l4 + (2 : Int32)).toNatClampNeg).toInt64) <<< ((32 : Int32).toInt64 &&& 63)) ||| (((xs (l4 + (3 : Int32)).toNatClampNeg).toInt64) &&& (4294967295 : Int64)))) (M_X13_poke (q_kap E) l2 (xs (l4 + (1 : Int32)).toNatClampNeg) ((((xs (l4 + (2 : Int32)).toNatClampNeg).toInt64) <<< ((32 : Int32).toInt64 &&& 63)) ||| (((xs (l4 + (3 : Int32)).toNatClampNeg).toInt64) &&& (4294967295 : Int64)))) (by exact fun v509 => (q_mo_rd fun _ => (q_mo_cc (M_X13_thrown (q_kap E) l2) (fun v515 => (q_mo_br (q_mo_br (M_L_law_542 (q_kap E) sb L xs r23 mr23 l0 l1 l2 l3 l4) (q_mo_rd fun v532 => (q_mo_br (M_L_law_542 (q_kap E) sb L xs r23 mr23 l0 l1 l2 l3 l4) q_mo_rz))) q_mo_rz)) (fun _ => q_mo_no)))) (fun _ => q_mo_no) h (fun v509 σ h => ?_) (fun _ _ h => by cases h)
      refine q_W.st (st' := [q_I v509]) rfl ?_
      refine q_istore (pc := 512) (l' := [(6, q_I v509), (5, q_I v475), (0, q_R l0), (1, q_R l1), (2, q_R l2), (3, q_R l3), (4, q_I l4)]) C dL_law_512 (by decide) rfl ?_
      refine q_aload_n (pc := 514) C 4 rfl dL_law_514 rfl ?_
      refine q_callVn (pc := 515) (As := []) (st := []) (ps := q_psI) C B.2.1 q_hpI qm_L_72 qv_X13_thrown dL_law_515 rfl rfl (Nat.le_of_ble_eq_true rfl) (q_flo B.2.2.1 B.2.2.2.1 (by decide) (by decide)) (K_X13_thrown l2) (M_X13_thrown (q_kap E) l2) (by exact fun v515 => (q_mo_br (q_mo_br (M_L_law_542 (q_kap E) sb L xs r23 mr23 l0 l1 l2 l3 l4) (q_mo_rd fun v532 => (q_mo_br (M_L_law_542 (q_kap E) sb L xs r23 mr23 l0 l1 l2 l3 l4) q_mo_rz))) q_mo_rz)) (fun _ => q_mo_no) h (fun v515 σ h => ?_) (fun _ _ h => by cases h)
      refine q_W.st (st' := [q_I v515]) rfl ?_
      refine q_iload (pc := 518) C 1 rfl dL_law_518 ?_
      refine q_icmp_eq (pc := 520) (tgt := 525) C dL_law_520 (by decide) h (fun _ h => ?_) (fun _ h => ?_)
      · refine q_iload (pc := 525) C 1 rfl dL_law_525 ?_
        refine q_if_ne (pc := 527) (tgt := 542) C dL_law_527 (by decide) h (fun _ h => ?_) (fun _ h => ?_)
        · refine q_W.sub [2, 3, 4, 5, 6] rfl ?_
          exact S_L_law_542 B hT X r23 hr23 mr23 l0 l1 l2 l3 l4 _ h
        · refine q_aload_n (pc := 530) C 5 rfl dL_law_530 rfl ?_
          refine q_iconst (pc := 531) (v := (0 : Int32)) C dL_law_531 (by decide) ?_
          refine q_ldL (pc := 532) C dL_law_532 h (fun v532 h => ?_)
          refine q_iload (pc := 533) C 0 rfl dL_law_533 ?_
          refine q_i2l (pc := 535) C dL_law_535 ?_
          refine q_lcmp (pc := 536) C dL_law_536 ?_
          refine q_if_eq (pc := 537) (tgt := 542) C dL_law_537 (by decide) h (fun _ h => ?_) (fun _ h => ?_)
          · refine q_W.sub [2, 3, 4, 5, 6] rfl ?_
            exact S_L_law_542 B hT X r23 hr23 mr23 l0 l1 l2 l3 l4 _ h
          · refine q_iconst (pc := 540) (v := (0 : Int32)) C dL_law_540 (by decide) ?_
            exact q_lawR C X B.2.1 B.2.2.2.2.1 dL_law_541 h
      · refine q_iconst (pc := 523) (v := (0 : Int32)) C dL_law_523 (by decide) ?_
        exact q_lawR C X B.2.1 B.2.2.2.2.1 dL_law_524 h
    replace h := (q_br_e h).2 cv
    by_cases cv : ((xs l4.toNatClampNeg) &&& (15 : Int32)) = 8
    · replace h := (q_br_e h).1 cv
      refine q_tabIn (pc := 40) (tgt := 545) (off := 505) C dL_law_40 (by rw [cv]; decide) (by rw [cv]; decide) (by rw [cv]; rfl) (by decide) ?_
      refine q_aload_n (pc := 545) C 1 rfl dL_law_545 rfl ?_
      refine q_aload_n (pc := 546) C 0 rfl dL_law_546 rfl ?_
      refine q_iload (pc := 547) C 4 rfl dL_law_547 ?_
      refine q_iconst (pc := 549) (v := (1 : Int32)) C dL_law_549 (by decide) ?_
      refine q_iadd (pc := 550) C dL_law_550 ?_
      obtain ⟨g551, h⟩ := q_gd_e h
      refine q_sld (pc := 551) C X g551.1 dL_law_551 g551.2 ?_
      refine q_aload_n (pc := 552) C 3 rfl dL_law_552 rfl ?_
      refine q_callSXn (pc := 553) (As := [q_R l1, q_I (xs (l4 + (1 : Int32)).toNatClampNeg), q_R l3]) (st := []) (ps := q_psI) C B.2.1 q_hpI qm_L_103 qs_L_list dL_law_553 rfl rfl (Nat.le_of_ble_eq_true rfl) (q_flo B.2.2.1 B.2.2.2.1 (by decide) (by decide)) (K_L_list l1 (xs (l4 + (1 : Int32)).toNatClampNeg) l3) (M_L_list (q_kap E) l1 (xs (l4 + (1 : Int32)).toNatClampNeg) l3) (by exact fun v553 => (q_mo_gd (q_mo_rd fun _ => (q_mo_cc (M_X13_list (q_kap E) l2 (xs (l4 + (1 : Int32)).toNatClampNeg)) (fun v565 => (q_mo_rd fun _ => (q_mo_cc (M_X13_thrown (q_kap E) l2) (fun v571 => (q_mo_br (q_mo_br (M_L_law_598 (q_kap E) sb L xs r23 mr23 l0 l1 l2 l3 l4) (q_mo_rd fun v588 => (q_mo_br (M_L_law_598 (q_kap E) sb L xs r23 mr23 l0 l1 l2 l3 l4) q_mo_rz))) q_mo_rz)) (fun _ => q_mo_no)))) (fun _ => q_mo_no))))) (fun _ => q_mo_no) h (fun v553 σ h => ?_) (fun _ _ h => by cases h)
      refine q_W.st (st' := [q_I v553]) rfl ?_
      refine q_istore (pc := 556) (l' := [(5, q_I v553), (0, q_R l0), (1, q_R l1), (2, q_R l2), (3, q_R l3), (4, q_I l4)]) C dL_law_556 (by decide) rfl ?_
      refine q_aload_n (pc := 558) C 3 rfl dL_law_558 rfl ?_
      refine q_aload_n (pc := 559) C 1 rfl dL_law_559 rfl ?_
      refine q_iload (pc := 560) C 5 rfl dL_law_560 ?_
      refine q_iconst (pc := 562) (v := (1 : Int32)) C dL_law_562 (by decide) ?_
      refine q_iadd (pc := 563) C dL_law_563 ?_
      obtain ⟨g564, h⟩ := q_gd_e h
      refine q_sld (pc := 564) C X g564.1 dL_law_564 g564.2 ?_
      refine q_callVn (pc := 565) (As := [q_I (xs (l4 + (1 : Int32)).toNatClampNeg)]) (st := []) (ps := q_psI) C B.2.1 q_hpI qm_L_105 qv_X13_list dL_law_565 rfl rfl (Nat.le_of_ble_eq_true rfl) (q_flo B.2.2.1 B.2.2.2.1 (by decide) (by decide)) (K_X13_list l2 (xs (l4 + (1 : Int32)).toNatClampNeg)) (M_X13_list (q_kap E) l2 (xs (l4 + (1 : Int32)).toNatClampNeg)) (by exact fun v565 => (q_mo_rd fun _ => (q_mo_cc (M_X13_thrown (q_kap E) l2) (fun v571 => (q_mo_br (q_mo_br (M_L_law_598 (q_kap E) sb L xs r23 mr23 l0 l1 l2 l3 l4) (q_mo_rd fun v588 => (q_mo_br (M_L_law_598 (q_kap E) sb L xs r23 mr23 l0 l1 l2 l3 l4) q_mo_rz))) q_mo_rz)) (fun _ => q_mo_no)))) (fun _ => q_mo_no) h (fun v565 σ h => ?_) (fun _ _ h => by cases h)
      refine q_W.st (st' := [q_I v565]) rfl ?_
      refine q_istore (pc := 568) (l' := [(6, q_I v565), (5, q_I v553), (0, q_R l0), (1, q_R l1), (2, q_R l2), (3, q_R l3), (4, q_I l4)]) C dL_law_568 (by decide) rfl ?_
      refine q_aload_n (pc := 570) C 4 rfl dL_law_570 rfl ?_
      refine q_callVn (pc := 571) (As := []) (st := []) (ps := q_psI) C B.2.1 q_hpI qm_L_72 qv_X13_thrown dL_law_571 rfl rfl (Nat.le_of_ble_eq_true rfl) (q_flo B.2.2.1 B.2.2.2.1 (by decide) (by decide)) (K_X13_thrown l2) (M_X13_thrown (q_kap E) l2) (by exact fun v571 => (q_mo_br (q_mo_br (M_L_law_598 (q_kap E) sb L xs r23 mr23 l0 l1 l2 l3 l4) (q_mo_rd fun v588 => (q_mo_br (M_L_law_598 (q_kap E) sb L xs r23 mr23 l0 l1 l2 l3 l4) q_mo_rz))) q_mo_rz)) (fun _ => q_mo_no) h (fun v571 σ h => ?_) (fun _ _ h => by cases h)
      refine q_W.st (st' := [q_I v571]) rfl ?_
      refine q_iload (pc := 574) C 1 rfl dL_law_574 ?_
      refine q_icmp_eq (pc := 576) (tgt := 581) C dL_law_576 (by decide) h (fun _ h => ?_) (fun _ h => ?_)
      · refine q_iload (pc := 581) C 1 rfl dL_law_581 ?_
        refine q_if_ne (pc := 583) (tgt := 598) C dL_law_583 (by decide) h (fun _ h => ?_) (fun _ h => ?_)
        · refine q_W.sub [2, 3, 4, 5, 6] rfl ?_
          exact S_L_law_598 B hT X r23 hr23 mr23 l0 l1 l2 l3 l4 _ h
        · refine q_aload_n (pc := 586) C 5 rfl dL_law_586 rfl ?_
          refine q_iconst (pc := 587) (v := (0 : Int32)) C dL_law_587 (by decide) ?_
          refine q_ldL (pc := 588) C dL_law_588 h (fun v588 h => ?_)
          refine q_iload (pc := 589) C 0 rfl dL_law_589 ?_
          refine q_i2l (pc := 591) C dL_law_591 ?_
          refine q_lcmp (pc := 592) C dL_law_592 ?_
          refine q_if_eq (pc := 593) (tgt := 598) C dL_law_593 (by decide) h (fun _ h => ?_) (fun _ h => ?_)
          · refine q_W.sub [2, 3, 4, 5, 6] rfl ?_
            exact S_L_law_598 B hT X r23 hr23 mr23 l0 l1 l2 l3 l4 _ h
          · refine q_iconst (pc := 596) (v := (0 : Int32)) C dL_law_596 (by decide) ?_
            exact q_lawR C X B.2.1 B.2.2.2.2.1 dL_law_597 h
      · refine q_iconst (pc := 579) (v := (0 : Int32)) C dL_law_579 (by decide) ?_
        exact q_lawR C X B.2.1 B.2.2.2.2.1 dL_law_580 h
    replace h := (q_br_e h).2 cv
    by_cases cv : ((xs l4.toNatClampNeg) &&& (15 : Int32)) = 9
    · replace h := (q_br_e h).1 cv
      refine q_tabIn (pc := 40) (tgt := 601) (off := 561) C dL_law_40 (by rw [cv]; decide) (by rw [cv]; decide) (by rw [cv]; rfl) (by decide) ?_
      refine q_aload_n (pc := 601) C 1 rfl dL_law_601 rfl ?_
      refine q_callVn (pc := 602) (As := []) (st := []) (ps := q_psI) C B.2.1 q_hpI qm_L_106 qv_X11_which dL_law_602 rfl rfl (Nat.le_of_ble_eq_true rfl) (q_flo B.2.2.1 B.2.2.2.1 (by decide) (by decide)) (K_X11_which l1) (M_X11_which (q_kap E) l1) (by exact fun v602 => (q_mo_rd fun _ => (q_mo_cc (M_X13_which (q_kap E) l2) (fun v606 => (q_mo_br (M_L_law_911 (q_kap E) sb L xs r23 mr23 l0 l1 l2 l3 l4) q_mo_rz)) (fun _ => q_mo_no)))) (fun _ => q_mo_no) h (fun v602 σ h => ?_) (fun _ _ h => by cases h)
      refine q_W.st (st' := [q_I v602]) rfl ?_
      refine q_aload_n (pc := 605) C 2 rfl dL_law_605 rfl ?_
      refine q_callVn (pc := 606) (As := []) (st := [q_I v602]) (ps := q_psI) C B.2.1 q_hpI qm_L_109 qv_X13_which dL_law_606 rfl rfl (Nat.le_of_ble_eq_true rfl) (q_flo B.2.2.1 B.2.2.2.1 (by decide) (by decide)) (K_X13_which l2) (M_X13_which (q_kap E) l2) (by exact fun v606 => (q_mo_br (M_L_law_911 (q_kap E) sb L xs r23 mr23 l0 l1 l2 l3 l4) q_mo_rz)) (fun _ => q_mo_no) h (fun v606 σ h => ?_) (fun _ _ h => by cases h)
      refine q_W.st (st' := [q_I v606, q_I v602]) rfl ?_
      refine q_icmp_eq (pc := 609) (tgt := 911) C dL_law_609 (by decide) h (fun _ h => ?_) (fun _ h => ?_)
      · exact S_L_law_911 B hT X r23 hr23 mr23 l0 l1 l2 l3 l4 _ h
      · refine q_iconst (pc := 612) (v := (0 : Int32)) C dL_law_612 (by decide) ?_
        exact q_lawR C X B.2.1 B.2.2.2.2.1 dL_law_613 h
    replace h := (q_br_e h).2 cv
    by_cases cv : ((xs l4.toNatClampNeg) &&& (15 : Int32)) = 10
    · replace h := (q_br_e h).1 cv
      refine q_tabIn (pc := 40) (tgt := 614) (off := 574) C dL_law_40 (by rw [cv]; decide) (by rw [cv]; decide) (by rw [cv]; rfl) (by decide) ?_
      refine q_aload_n (pc := 614) C 1 rfl dL_law_614 rfl ?_
      refine q_aload_n (pc := 615) C 0 rfl dL_law_615 rfl ?_
      refine q_iload (pc := 616) C 4 rfl dL_law_616 ?_
      refine q_iconst (pc := 618) (v := (1 : Int32)) C dL_law_618 (by decide) ?_
      refine q_iadd (pc := 619) C dL_law_619 ?_
      obtain ⟨g620, h⟩ := q_gd_e h
      refine q_sld (pc := 620) C X g620.1 dL_law_620 g620.2 ?_
      refine q_aload_n (pc := 621) C 3 rfl dL_law_621 rfl ?_
      refine q_callSXn (pc := 622) (As := [q_R l1, q_I (xs (l4 + (1 : Int32)).toNatClampNeg), q_R l3]) (st := []) (ps := q_psI) C B.2.1 q_hpI qm_L_110 qs_L_listing dL_law_622 rfl rfl (Nat.le_of_ble_eq_true rfl) (q_flo B.2.2.1 B.2.2.2.1 (by decide) (by decide)) (K_L_listing l1 (xs (l4 + (1 : Int32)).toNatClampNeg) l3) (M_L_listing (q_kap E) l1 (xs (l4 + (1 : Int32)).toNatClampNeg) l3) (by exact fun v622 => (q_mo_gd (q_mo_rd fun _ => (q_mo_cc (M_X13_listing (q_kap E) l2 (xs (l4 + (1 : Int32)).toNatClampNeg)) (fun v634 => (q_mo_rd fun _ => (q_mo_cc (M_X13_thrown (q_kap E) l2) (fun v640 => (q_mo_br (q_mo_br (M_L_law_666 (q_kap E) sb L xs r23 mr23 l0 l1 l2 l3 l4) (q_mo_rd fun v657 => (q_mo_br (M_L_law_666 (q_kap E) sb L xs r23 mr23 l0 l1 l2 l3 l4) q_mo_rz))) q_mo_rz)) (fun _ => q_mo_no)))) (fun _ => q_mo_no))))) (fun _ => q_mo_no) h (fun v622 σ h => ?_) (fun _ _ h => by cases h)
      refine q_W.st (st' := [q_I v622]) rfl ?_
      refine q_istore (pc := 625) (l' := [(5, q_I v622), (0, q_R l0), (1, q_R l1), (2, q_R l2), (3, q_R l3), (4, q_I l4)]) C dL_law_625 (by decide) rfl ?_
      refine q_aload_n (pc := 627) C 3 rfl dL_law_627 rfl ?_
      refine q_aload_n (pc := 628) C 1 rfl dL_law_628 rfl ?_
      refine q_iload (pc := 629) C 5 rfl dL_law_629 ?_
      refine q_iconst (pc := 631) (v := (1 : Int32)) C dL_law_631 (by decide) ?_
      refine q_iadd (pc := 632) C dL_law_632 ?_
      obtain ⟨g633, h⟩ := q_gd_e h
      refine q_sld (pc := 633) C X g633.1 dL_law_633 g633.2 ?_
      refine q_callVn (pc := 634) (As := [q_I (xs (l4 + (1 : Int32)).toNatClampNeg)]) (st := []) (ps := q_psL) C B.2.1 q_hpL qm_L_112 qv_X13_listing dL_law_634 rfl rfl (Nat.le_of_ble_eq_true rfl) (q_flo B.2.2.1 B.2.2.2.1 (by decide) (by decide)) (K_X13_listing l2 (xs (l4 + (1 : Int32)).toNatClampNeg)) (M_X13_listing (q_kap E) l2 (xs (l4 + (1 : Int32)).toNatClampNeg)) (by exact fun v634 => (q_mo_rd fun _ => (q_mo_cc (M_X13_thrown (q_kap E) l2) (fun v640 => (q_mo_br (q_mo_br (M_L_law_666 (q_kap E) sb L xs r23 mr23 l0 l1 l2 l3 l4) (q_mo_rd fun v657 => (q_mo_br (M_L_law_666 (q_kap E) sb L xs r23 mr23 l0 l1 l2 l3 l4) q_mo_rz))) q_mo_rz)) (fun _ => q_mo_no)))) (fun _ => q_mo_no) h (fun v634 σ h => ?_) (fun _ _ h => by cases h)
      refine q_W.st (st' := [q_L v634]) rfl ?_
      refine q_lstore (pc := 637) (l' := [(6, q_L v634), (5, q_I v622), (0, q_R l0), (1, q_R l1), (2, q_R l2), (3, q_R l3), (4, q_I l4)]) C dL_law_637 (by decide) rfl ?_
      refine q_aload_n (pc := 639) C 4 rfl dL_law_639 rfl ?_
      refine q_callVn (pc := 640) (As := []) (st := []) (ps := q_psI) C B.2.1 q_hpI qm_L_72 qv_X13_thrown dL_law_640 rfl rfl (Nat.le_of_ble_eq_true rfl) (q_flo B.2.2.1 B.2.2.2.1 (by decide) (by decide)) (K_X13_thrown l2) (M_X13_thrown (q_kap E) l2) (by exact fun v640 => (q_mo_br (q_mo_br (M_L_law_666 (q_kap E) sb L xs r23 mr23 l0 l1 l2 l3 l4) (q_mo_rd fun v657 => (q_mo_br (M_L_law_666 (q_kap E) sb L xs r23 mr23 l0 l1 l2 l3 l4) q_mo_rz))) q_mo_rz)) (fun _ => q_mo_no) h (fun v640 σ h => ?_) (fun _ _ h => by cases h)
      refine q_W.st (st' := [q_I v640]) rfl ?_
      refine q_iload (pc := 643) C 1 rfl dL_law_643 ?_
      refine q_icmp_eq (pc := 645) (tgt := 650) C dL_law_645 (by decide) h (fun _ h => ?_) (fun _ h => ?_)
      · refine q_iload (pc := 650) C 1 rfl dL_law_650 ?_
        refine q_if_ne (pc := 652) (tgt := 666) C dL_law_652 (by decide) h (fun _ h => ?_) (fun _ h => ?_)
        · refine q_W.sub [2, 3, 4, 5, 6] rfl ?_
          exact S_L_law_666 B hT X r23 hr23 mr23 l0 l1 l2 l3 l4 _ h
        · refine q_aload_n (pc := 655) C 5 rfl dL_law_655 rfl ?_
          refine q_iconst (pc := 656) (v := (0 : Int32)) C dL_law_656 (by decide) ?_
          refine q_ldL (pc := 657) C dL_law_657 h (fun v657 h => ?_)
          refine q_lload (pc := 658) C 0 rfl dL_law_658 ?_
          refine q_lcmp (pc := 660) C dL_law_660 ?_
          refine q_if_eq (pc := 661) (tgt := 666) C dL_law_661 (by decide) h (fun _ h => ?_) (fun _ h => ?_)
          · refine q_W.sub [2, 3, 4, 5, 6] rfl ?_
            exact S_L_law_666 B hT X r23 hr23 mr23 l0 l1 l2 l3 l4 _ h
          · refine q_iconst (pc := 664) (v := (0 : Int32)) C dL_law_664 (by decide) ?_
            exact q_lawR C X B.2.1 B.2.2.2.2.1 dL_law_665 h
      · refine q_iconst (pc := 648) (v := (0 : Int32)) C dL_law_648 (by decide) ?_
        exact q_lawR C X B.2.1 B.2.2.2.2.1 dL_law_649 h
    replace h := (q_br_e h).2 cv
    by_cases cv : ((xs l4.toNatClampNeg) &&& (15 : Int32)) = 11
    · replace h := (q_br_e h).1 cv
      refine q_tabIn (pc := 40) (tgt := 669) (off := 629) C dL_law_40 (by rw [cv]; decide) (by rw [cv]; decide) (by rw [cv]; rfl) (by decide) ?_
      refine q_aload_n (pc := 669) C 1 rfl dL_law_669 rfl ?_
      refine q_aload_n (pc := 670) C 3 rfl dL_law_670 rfl ?_
      refine q_callSXn (pc := 671) (As := [q_R l1, q_R l3]) (st := []) (ps := q_psI) C B.2.1 q_hpI qm_L_113 qs_L_quote dL_law_671 rfl rfl (Nat.le_of_ble_eq_true rfl) (q_flo B.2.2.1 B.2.2.2.1 (by decide) (by decide)) (K_L_quote l1 l3) (M_L_quote (q_kap E) l1 l3) (by exact fun v671 => (q_mo_rd fun _ => (q_mo_cc (M_X13_quote (q_kap E) l2) (fun v677 => (q_mo_rd fun _ => (q_mo_cc (M_X13_thrown (q_kap E) l2) (fun v683 => (q_mo_br (q_mo_br (M_L_law_710 (q_kap E) sb L xs r23 mr23 l0 l1 l2 l3 l4) (q_mo_rd fun v700 => (q_mo_br (M_L_law_710 (q_kap E) sb L xs r23 mr23 l0 l1 l2 l3 l4) q_mo_rz))) q_mo_rz)) (fun _ => q_mo_no)))) (fun _ => q_mo_no)))) (fun _ => q_mo_no) h (fun v671 σ h => ?_) (fun _ _ h => by cases h)
      refine q_W.st (st' := [q_I v671]) rfl ?_
      refine q_istore (pc := 674) (l' := [(5, q_I v671), (0, q_R l0), (1, q_R l1), (2, q_R l2), (3, q_R l3), (4, q_I l4)]) C dL_law_674 (by decide) rfl ?_
      refine q_aload_n (pc := 676) C 3 rfl dL_law_676 rfl ?_
      refine q_callVn (pc := 677) (As := []) (st := []) (ps := q_psI) C B.2.1 q_hpI qm_L_115 qv_X13_quote dL_law_677 rfl rfl (Nat.le_of_ble_eq_true rfl) (q_flo B.2.2.1 B.2.2.2.1 (by decide) (by decide)) (K_X13_quote l2) (M_X13_quote (q_kap E) l2) (by exact fun v677 => (q_mo_rd fun _ => (q_mo_cc (M_X13_thrown (q_kap E) l2) (fun v683 => (q_mo_br (q_mo_br (M_L_law_710 (q_kap E) sb L xs r23 mr23 l0 l1 l2 l3 l4) (q_mo_rd fun v700 => (q_mo_br (M_L_law_710 (q_kap E) sb L xs r23 mr23 l0 l1 l2 l3 l4) q_mo_rz))) q_mo_rz)) (fun _ => q_mo_no)))) (fun _ => q_mo_no) h (fun v677 σ h => ?_) (fun _ _ h => by cases h)
      refine q_W.st (st' := [q_I v677]) rfl ?_
      refine q_istore (pc := 680) (l' := [(6, q_I v677), (5, q_I v671), (0, q_R l0), (1, q_R l1), (2, q_R l2), (3, q_R l3), (4, q_I l4)]) C dL_law_680 (by decide) rfl ?_
      refine q_aload_n (pc := 682) C 4 rfl dL_law_682 rfl ?_
      refine q_callVn (pc := 683) (As := []) (st := []) (ps := q_psI) C B.2.1 q_hpI qm_L_72 qv_X13_thrown dL_law_683 rfl rfl (Nat.le_of_ble_eq_true rfl) (q_flo B.2.2.1 B.2.2.2.1 (by decide) (by decide)) (K_X13_thrown l2) (M_X13_thrown (q_kap E) l2) (by exact fun v683 => (q_mo_br (q_mo_br (M_L_law_710 (q_kap E) sb L xs r23 mr23 l0 l1 l2 l3 l4) (q_mo_rd fun v700 => (q_mo_br (M_L_law_710 (q_kap E) sb L xs r23 mr23 l0 l1 l2 l3 l4) q_mo_rz))) q_mo_rz)) (fun _ => q_mo_no) h (fun v683 σ h => ?_) (fun _ _ h => by cases h)
      refine q_W.st (st' := [q_I v683]) rfl ?_
      refine q_iload (pc := 686) C 1 rfl dL_law_686 ?_
      refine q_icmp_eq (pc := 688) (tgt := 693) C dL_law_688 (by decide) h (fun _ h => ?_) (fun _ h => ?_)
      · refine q_iload (pc := 693) C 1 rfl dL_law_693 ?_
        refine q_if_ne (pc := 695) (tgt := 710) C dL_law_695 (by decide) h (fun _ h => ?_) (fun _ h => ?_)
        · refine q_W.sub [2, 3, 4, 5, 6] rfl ?_
          exact S_L_law_710 B hT X r23 hr23 mr23 l0 l1 l2 l3 l4 _ h
        · refine q_aload_n (pc := 698) C 5 rfl dL_law_698 rfl ?_
          refine q_iconst (pc := 699) (v := (0 : Int32)) C dL_law_699 (by decide) ?_
          refine q_ldL (pc := 700) C dL_law_700 h (fun v700 h => ?_)
          refine q_iload (pc := 701) C 0 rfl dL_law_701 ?_
          refine q_i2l (pc := 703) C dL_law_703 ?_
          refine q_lcmp (pc := 704) C dL_law_704 ?_
          refine q_if_eq (pc := 705) (tgt := 710) C dL_law_705 (by decide) h (fun _ h => ?_) (fun _ h => ?_)
          · refine q_W.sub [2, 3, 4, 5, 6] rfl ?_
            exact S_L_law_710 B hT X r23 hr23 mr23 l0 l1 l2 l3 l4 _ h
          · refine q_iconst (pc := 708) (v := (0 : Int32)) C dL_law_708 (by decide) ?_
            exact q_lawR C X B.2.1 B.2.2.2.2.1 dL_law_709 h
      · refine q_iconst (pc := 691) (v := (0 : Int32)) C dL_law_691 (by decide) ?_
        exact q_lawR C X B.2.1 B.2.2.2.2.1 dL_law_692 h
    replace h := (q_br_e h).2 cv
    by_cases cv : ((xs l4.toNatClampNeg) &&& (15 : Int32)) = 12
    · replace h := (q_br_e h).1 cv
      refine q_tabIn (pc := 40) (tgt := 713) (off := 673) C dL_law_40 (by rw [cv]; decide) (by rw [cv]; decide) (by rw [cv]; rfl) (by decide) ?_
      refine q_aload_n (pc := 713) C 1 rfl dL_law_713 rfl ?_
      refine q_aload_n (pc := 714) C 0 rfl dL_law_714 rfl ?_
      refine q_iload (pc := 715) C 4 rfl dL_law_715 ?_
      refine q_iconst (pc := 717) (v := (1 : Int32)) C dL_law_717 (by decide) ?_
      refine q_iadd (pc := 718) C dL_law_718 ?_
      obtain ⟨g719, h⟩ := q_gd_e h
      refine q_sld (pc := 719) C X g719.1 dL_law_719 g719.2 ?_
      refine q_aload_n (pc := 720) C 0 rfl dL_law_720 rfl ?_
      refine q_iload (pc := 721) C 4 rfl dL_law_721 ?_
      refine q_iconst (pc := 723) (v := (2 : Int32)) C dL_law_723 (by decide) ?_
      refine q_iadd (pc := 724) C dL_law_724 ?_
      obtain ⟨g725, h⟩ := q_gd_e h
      refine q_sld (pc := 725) C X g725.1 dL_law_725 g725.2 ?_
      refine q_aload_n (pc := 726) C 3 rfl dL_law_726 rfl ?_
      refine q_callSXn (pc := 727) (As := [q_R l1, q_I (xs (l4 + (1 : Int32)).toNatClampNeg), q_I (xs (l4 + (2 : Int32)).toNatClampNeg), q_R l3]) (st := []) (ps := q_psI) C B.2.1 q_hpI qm_L_116 qs_L_told dL_law_727 rfl rfl (Nat.le_of_ble_eq_true rfl) (q_flo B.2.2.1 B.2.2.2.1 (by decide) (by decide)) (K_L_told l1 (xs (l4 + (1 : Int32)).toNatClampNeg) (xs (l4 + (2 : Int32)).toNatClampNeg) l3) (M_L_told (q_kap E) l1 (xs (l4 + (1 : Int32)).toNatClampNeg) (xs (l4 + (2 : Int32)).toNatClampNeg) l3) (by exact fun v727 => (q_mo_gd (q_mo_gd (q_mo_rd fun _ => (q_mo_cc (M_X13_told (q_kap E) l2 (xs (l4 + (1 : Int32)).toNatClampNeg) (xs (l4 + (2 : Int32)).toNatClampNeg)) (fun v745 => (q_mo_rd fun _ => (q_mo_cc (M_X13_thrown (q_kap E) l2) (fun v751 => (q_mo_br (q_mo_br (M_L_law_777 (q_kap E) sb L xs r23 mr23 l0 l1 l2 l3 l4) (q_mo_rd fun v768 => (q_mo_br (M_L_law_777 (q_kap E) sb L xs r23 mr23 l0 l1 l2 l3 l4) q_mo_rz))) q_mo_rz)) (fun _ => q_mo_no)))) (fun _ => q_mo_no)))))) (fun _ => q_mo_no) h (fun v727 σ h => ?_) (fun _ _ h => by cases h)
      refine q_W.st (st' := [q_I v727]) rfl ?_
      refine q_istore (pc := 730) (l' := [(5, q_I v727), (0, q_R l0), (1, q_R l1), (2, q_R l2), (3, q_R l3), (4, q_I l4)]) C dL_law_730 (by decide) rfl ?_
      refine q_aload_n (pc := 732) C 3 rfl dL_law_732 rfl ?_
      refine q_aload_n (pc := 733) C 1 rfl dL_law_733 rfl ?_
      refine q_iload (pc := 734) C 5 rfl dL_law_734 ?_
      refine q_iconst (pc := 736) (v := (1 : Int32)) C dL_law_736 (by decide) ?_
      refine q_iadd (pc := 737) C dL_law_737 ?_
      obtain ⟨g738, h⟩ := q_gd_e h
      refine q_sld (pc := 738) C X g738.1 dL_law_738 g738.2 ?_
      refine q_aload_n (pc := 739) C 1 rfl dL_law_739 rfl ?_
      refine q_iload (pc := 740) C 5 rfl dL_law_740 ?_
      refine q_iconst (pc := 742) (v := (2 : Int32)) C dL_law_742 (by decide) ?_
      refine q_iadd (pc := 743) C dL_law_743 ?_
      obtain ⟨g744, h⟩ := q_gd_e h
      refine q_sld (pc := 744) C X g744.1 dL_law_744 g744.2 ?_
      refine q_callVn (pc := 745) (As := [q_I (xs (l4 + (1 : Int32)).toNatClampNeg), q_I (xs (l4 + (2 : Int32)).toNatClampNeg)]) (st := []) (ps := q_psL) C B.2.1 q_hpL qm_L_119 qv_X13_told dL_law_745 rfl rfl (Nat.le_of_ble_eq_true rfl) (q_flo B.2.2.1 B.2.2.2.1 (by decide) (by decide)) (K_X13_told l2 (xs (l4 + (1 : Int32)).toNatClampNeg) (xs (l4 + (2 : Int32)).toNatClampNeg)) (M_X13_told (q_kap E) l2 (xs (l4 + (1 : Int32)).toNatClampNeg) (xs (l4 + (2 : Int32)).toNatClampNeg)) (by exact fun v745 => (q_mo_rd fun _ => (q_mo_cc (M_X13_thrown (q_kap E) l2) (fun v751 => (q_mo_br (q_mo_br (M_L_law_777 (q_kap E) sb L xs r23 mr23 l0 l1 l2 l3 l4) (q_mo_rd fun v768 => (q_mo_br (M_L_law_777 (q_kap E) sb L xs r23 mr23 l0 l1 l2 l3 l4) q_mo_rz))) q_mo_rz)) (fun _ => q_mo_no)))) (fun _ => q_mo_no) h (fun v745 σ h => ?_) (fun _ _ h => by cases h)
      refine q_W.st (st' := [q_L v745]) rfl ?_
      refine q_lstore (pc := 748) (l' := [(6, q_L v745), (5, q_I v727), (0, q_R l0), (1, q_R l1), (2, q_R l2), (3, q_R l3), (4, q_I l4)]) C dL_law_748 (by decide) rfl ?_
      refine q_aload_n (pc := 750) C 4 rfl dL_law_750 rfl ?_
      refine q_callVn (pc := 751) (As := []) (st := []) (ps := q_psI) C B.2.1 q_hpI qm_L_72 qv_X13_thrown dL_law_751 rfl rfl (Nat.le_of_ble_eq_true rfl) (q_flo B.2.2.1 B.2.2.2.1 (by decide) (by decide)) (K_X13_thrown l2) (M_X13_thrown (q_kap E) l2) (by exact fun v751 => (q_mo_br (q_mo_br (M_L_law_777 (q_kap E) sb L xs r23 mr23 l0 l1 l2 l3 l4) (q_mo_rd fun v768 => (q_mo_br (M_L_law_777 (q_kap E) sb L xs r23 mr23 l0 l1 l2 l3 l4) q_mo_rz))) q_mo_rz)) (fun _ => q_mo_no) h (fun v751 σ h => ?_) (fun _ _ h => by cases h)
      refine q_W.st (st' := [q_I v751]) rfl ?_
      refine q_iload (pc := 754) C 1 rfl dL_law_754 ?_
      refine q_icmp_eq (pc := 756) (tgt := 761) C dL_law_756 (by decide) h (fun _ h => ?_) (fun _ h => ?_)
      · refine q_iload (pc := 761) C 1 rfl dL_law_761 ?_
        refine q_if_ne (pc := 763) (tgt := 777) C dL_law_763 (by decide) h (fun _ h => ?_) (fun _ h => ?_)
        · refine q_W.sub [2, 3, 4, 5, 6] rfl ?_
          exact S_L_law_777 B hT X r23 hr23 mr23 l0 l1 l2 l3 l4 _ h
        · refine q_aload_n (pc := 766) C 5 rfl dL_law_766 rfl ?_
          refine q_iconst (pc := 767) (v := (0 : Int32)) C dL_law_767 (by decide) ?_
          refine q_ldL (pc := 768) C dL_law_768 h (fun v768 h => ?_)
          refine q_lload (pc := 769) C 0 rfl dL_law_769 ?_
          refine q_lcmp (pc := 771) C dL_law_771 ?_
          refine q_if_eq (pc := 772) (tgt := 777) C dL_law_772 (by decide) h (fun _ h => ?_) (fun _ h => ?_)
          · refine q_W.sub [2, 3, 4, 5, 6] rfl ?_
            exact S_L_law_777 B hT X r23 hr23 mr23 l0 l1 l2 l3 l4 _ h
          · refine q_iconst (pc := 775) (v := (0 : Int32)) C dL_law_775 (by decide) ?_
            exact q_lawR C X B.2.1 B.2.2.2.2.1 dL_law_776 h
      · refine q_iconst (pc := 759) (v := (0 : Int32)) C dL_law_759 (by decide) ?_
        exact q_lawR C X B.2.1 B.2.2.2.2.1 dL_law_760 h
    replace h := (q_br_e h).2 cv
    by_cases cv : ((xs l4.toNatClampNeg) &&& (15 : Int32)) = 13
    · replace h := (q_br_e h).1 cv
      refine q_tabIn (pc := 40) (tgt := 780) (off := 740) C dL_law_40 (by rw [cv]; decide) (by rw [cv]; decide) (by rw [cv]; rfl) (by decide) ?_
      refine q_aload_n (pc := 780) C 1 rfl dL_law_780 rfl ?_
      refine q_aload_n (pc := 781) C 0 rfl dL_law_781 rfl ?_
      refine q_iload (pc := 782) C 4 rfl dL_law_782 ?_
      refine q_iconst (pc := 784) (v := (1 : Int32)) C dL_law_784 (by decide) ?_
      refine q_iadd (pc := 785) C dL_law_785 ?_
      obtain ⟨g786, h⟩ := q_gd_e h
      refine q_sld (pc := 786) C X g786.1 dL_law_786 g786.2 ?_
      refine q_aload_n (pc := 787) C 0 rfl dL_law_787 rfl ?_
      refine q_iload (pc := 788) C 4 rfl dL_law_788 ?_
      refine q_iconst (pc := 790) (v := (2 : Int32)) C dL_law_790 (by decide) ?_
      refine q_iadd (pc := 791) C dL_law_791 ?_
      obtain ⟨g792, h⟩ := q_gd_e h
      refine q_sld (pc := 792) C X g792.1 dL_law_792 g792.2 ?_
      refine q_aload_n (pc := 793) C 3 rfl dL_law_793 rfl ?_
      refine q_callSXn (pc := 794) (As := [q_R l1, q_I (xs (l4 + (1 : Int32)).toNatClampNeg), q_I (xs (l4 + (2 : Int32)).toNatClampNeg), q_R l3]) (st := []) (ps := q_psI) C B.2.1 q_hpI qm_L_120 qs_L_overlap dL_law_794 rfl rfl (Nat.le_of_ble_eq_true rfl) (q_flo B.2.2.1 B.2.2.2.1 (by decide) (by decide)) (K_L_overlap l1 (xs (l4 + (1 : Int32)).toNatClampNeg) (xs (l4 + (2 : Int32)).toNatClampNeg) l3) (M_L_overlap (q_kap E) l1 (xs (l4 + (1 : Int32)).toNatClampNeg) (xs (l4 + (2 : Int32)).toNatClampNeg) l3) (by exact fun v794 => (q_mo_gd (q_mo_gd (q_mo_rd fun _ => (q_mo_cc (M_X13_overlap (q_kap E) l2 (xs (l4 + (1 : Int32)).toNatClampNeg) (xs (l4 + (2 : Int32)).toNatClampNeg)) (fun v812 => (q_mo_rd fun _ => (q_mo_cc (M_X13_thrown (q_kap E) l2) (fun v818 => (q_mo_br (q_mo_br (M_L_law_852 (q_kap E) sb L xs r23 mr23 l0 l1 l2 l3 l4) (q_mo_rd fun v835 => (q_mo_br (M_L_law_846 (q_kap E) sb L xs r23 mr23 l0 l1 l2 l3 l4 v835 (0 : Int64)) (M_L_law_846 (q_kap E) sb L xs r23 mr23 l0 l1 l2 l3 l4 v835 (1 : Int64))))) q_mo_rz)) (fun _ => q_mo_no)))) (fun _ => q_mo_no)))))) (fun _ => q_mo_no) h (fun v794 σ h => ?_) (fun _ _ h => by cases h)
      refine q_W.st (st' := [q_I v794]) rfl ?_
      refine q_istore (pc := 797) (l' := [(5, q_I v794), (0, q_R l0), (1, q_R l1), (2, q_R l2), (3, q_R l3), (4, q_I l4)]) C dL_law_797 (by decide) rfl ?_
      refine q_aload_n (pc := 799) C 3 rfl dL_law_799 rfl ?_
      refine q_aload_n (pc := 800) C 1 rfl dL_law_800 rfl ?_
      refine q_iload (pc := 801) C 5 rfl dL_law_801 ?_
      refine q_iconst (pc := 803) (v := (1 : Int32)) C dL_law_803 (by decide) ?_
      refine q_iadd (pc := 804) C dL_law_804 ?_
      obtain ⟨g805, h⟩ := q_gd_e h
      refine q_sld (pc := 805) C X g805.1 dL_law_805 g805.2 ?_
      refine q_aload_n (pc := 806) C 1 rfl dL_law_806 rfl ?_
      refine q_iload (pc := 807) C 5 rfl dL_law_807 ?_
      refine q_iconst (pc := 809) (v := (2 : Int32)) C dL_law_809 (by decide) ?_
      refine q_iadd (pc := 810) C dL_law_810 ?_
      obtain ⟨g811, h⟩ := q_gd_e h
      refine q_sld (pc := 811) C X g811.1 dL_law_811 g811.2 ?_
      refine q_callVn (pc := 812) (As := [q_I (xs (l4 + (1 : Int32)).toNatClampNeg), q_I (xs (l4 + (2 : Int32)).toNatClampNeg)]) (st := []) (ps := q_psI) C B.2.1 q_hpI qm_L_122 qv_X13_overlap dL_law_812 rfl rfl (Nat.le_of_ble_eq_true rfl) (q_flo B.2.2.1 B.2.2.2.1 (by decide) (by decide)) (K_X13_overlap l2 (xs (l4 + (1 : Int32)).toNatClampNeg) (xs (l4 + (2 : Int32)).toNatClampNeg)) (M_X13_overlap (q_kap E) l2 (xs (l4 + (1 : Int32)).toNatClampNeg) (xs (l4 + (2 : Int32)).toNatClampNeg)) (by exact fun v812 => (q_mo_rd fun _ => (q_mo_cc (M_X13_thrown (q_kap E) l2) (fun v818 => (q_mo_br (q_mo_br (M_L_law_852 (q_kap E) sb L xs r23 mr23 l0 l1 l2 l3 l4) (q_mo_rd fun v835 => (q_mo_br (M_L_law_846 (q_kap E) sb L xs r23 mr23 l0 l1 l2 l3 l4 v835 (0 : Int64)) (M_L_law_846 (q_kap E) sb L xs r23 mr23 l0 l1 l2 l3 l4 v835 (1 : Int64))))) q_mo_rz)) (fun _ => q_mo_no)))) (fun _ => q_mo_no) h (fun v812 σ h => ?_) (fun _ _ h => by cases h)
      refine q_W.st (st' := [q_I v812]) rfl ?_
      refine q_istore (pc := 815) (l' := [(6, q_I v812), (5, q_I v794), (0, q_R l0), (1, q_R l1), (2, q_R l2), (3, q_R l3), (4, q_I l4)]) C dL_law_815 (by decide) rfl ?_
      refine q_aload_n (pc := 817) C 4 rfl dL_law_817 rfl ?_
      refine q_callVn (pc := 818) (As := []) (st := []) (ps := q_psI) C B.2.1 q_hpI qm_L_72 qv_X13_thrown dL_law_818 rfl rfl (Nat.le_of_ble_eq_true rfl) (q_flo B.2.2.1 B.2.2.2.1 (by decide) (by decide)) (K_X13_thrown l2) (M_X13_thrown (q_kap E) l2) (by exact fun v818 => (q_mo_br (q_mo_br (M_L_law_852 (q_kap E) sb L xs r23 mr23 l0 l1 l2 l3 l4) (q_mo_rd fun v835 => (q_mo_br (M_L_law_846 (q_kap E) sb L xs r23 mr23 l0 l1 l2 l3 l4 v835 (0 : Int64)) (M_L_law_846 (q_kap E) sb L xs r23 mr23 l0 l1 l2 l3 l4 v835 (1 : Int64))))) q_mo_rz)) (fun _ => q_mo_no) h (fun v818 σ h => ?_) (fun _ _ h => by cases h)
      refine q_W.st (st' := [q_I v818]) rfl ?_
      refine q_iload (pc := 821) C 1 rfl dL_law_821 ?_
      refine q_icmp_eq (pc := 823) (tgt := 828) C dL_law_823 (by decide) h (fun _ h => ?_) (fun _ h => ?_)
      · refine q_iload (pc := 828) C 1 rfl dL_law_828 ?_
        refine q_if_ne (pc := 830) (tgt := 852) C dL_law_830 (by decide) h (fun _ h => ?_) (fun _ h => ?_)
        · refine q_W.sub [2, 3, 4, 5, 6] rfl ?_
          exact S_L_law_852 B hT X r23 hr23 mr23 l0 l1 l2 l3 l4 _ h
        · refine q_aload_n (pc := 833) C 5 rfl dL_law_833 rfl ?_
          refine q_iconst (pc := 834) (v := (0 : Int32)) C dL_law_834 (by decide) ?_
          refine q_ldL (pc := 835) C dL_law_835 h (fun v835 h => ?_)
          refine q_iload (pc := 836) C 0 rfl dL_law_836 ?_
          refine q_if_eq (pc := 838) (tgt := 845) C dL_law_838 (by decide) h (fun _ h => ?_) (fun _ h => ?_)
          · refine q_lconst (pc := 845) (v := (0 : Int64)) C dL_law_845 (by decide) ?_
            refine q_W.sub [2, 3, 4, 5, 6] rfl ?_
            exact S_L_law_846 B hT X r23 hr23 mr23 l0 l1 l2 l3 l4 v835 (0 : Int64) _ h
          · refine q_lconst (pc := 841) (v := (1 : Int64)) C dL_law_841 (by decide) ?_
            refine q_goto (pc := 842) (tgt := 846) C dL_law_842 (by decide) ?_
            refine q_W.sub [2, 3, 4, 5, 6] rfl ?_
            exact S_L_law_846 B hT X r23 hr23 mr23 l0 l1 l2 l3 l4 v835 (1 : Int64) _ h
      · refine q_iconst (pc := 826) (v := (0 : Int32)) C dL_law_826 (by decide) ?_
        exact q_lawR C X B.2.1 B.2.2.2.2.1 dL_law_827 h
    replace h := (q_br_e h).2 cv
    by_cases cv : ((xs l4.toNatClampNeg) &&& (15 : Int32)) = 14
    · replace h := (q_br_e h).1 cv
      refine q_tabIn (pc := 40) (tgt := 855) (off := 815) C dL_law_40 (by rw [cv]; decide) (by rw [cv]; decide) (by rw [cv]; rfl) (by decide) ?_
      refine q_aload_n (pc := 855) C 1 rfl dL_law_855 rfl ?_
      refine q_aload_n (pc := 856) C 0 rfl dL_law_856 rfl ?_
      refine q_iload (pc := 857) C 4 rfl dL_law_857 ?_
      refine q_iconst (pc := 859) (v := (1 : Int32)) C dL_law_859 (by decide) ?_
      refine q_iadd (pc := 860) C dL_law_860 ?_
      obtain ⟨g861, h⟩ := q_gd_e h
      refine q_sld (pc := 861) C X g861.1 dL_law_861 g861.2 ?_
      refine q_aload_n (pc := 862) C 3 rfl dL_law_862 rfl ?_
      refine q_callSXn (pc := 863) (As := [q_R l1, q_I (xs (l4 + (1 : Int32)).toNatClampNeg), q_R l3]) (st := []) (ps := q_psI) C B.2.1 q_hpI qm_L_123 qs_L_count dL_law_863 rfl rfl (Nat.le_of_ble_eq_true rfl) (q_flo B.2.2.1 B.2.2.2.1 (by decide) (by decide)) (K_L_count l1 (xs (l4 + (1 : Int32)).toNatClampNeg) l3) (M_L_count (q_kap E) l1 (xs (l4 + (1 : Int32)).toNatClampNeg) l3) (by exact fun v863 => (q_mo_gd (q_mo_rd fun _ => (q_mo_cc (M_X13_count (q_kap E) l2 (xs (l4 + (1 : Int32)).toNatClampNeg)) (fun v875 => (q_mo_rd fun _ => (q_mo_cc (M_X13_thrown (q_kap E) l2) (fun v881 => (q_mo_br (q_mo_br (M_L_law_908 (q_kap E) sb L xs r23 mr23 l0 l1 l2 l3 l4) (q_mo_rd fun v898 => (q_mo_br (M_L_law_908 (q_kap E) sb L xs r23 mr23 l0 l1 l2 l3 l4) q_mo_rz))) q_mo_rz)) (fun _ => q_mo_no)))) (fun _ => q_mo_no))))) (fun _ => q_mo_no) h (fun v863 σ h => ?_) (fun _ _ h => by cases h)
      refine q_W.st (st' := [q_I v863]) rfl ?_
      refine q_istore (pc := 866) (l' := [(5, q_I v863), (0, q_R l0), (1, q_R l1), (2, q_R l2), (3, q_R l3), (4, q_I l4)]) C dL_law_866 (by decide) rfl ?_
      refine q_aload_n (pc := 868) C 3 rfl dL_law_868 rfl ?_
      refine q_aload_n (pc := 869) C 1 rfl dL_law_869 rfl ?_
      refine q_iload (pc := 870) C 5 rfl dL_law_870 ?_
      refine q_iconst (pc := 872) (v := (1 : Int32)) C dL_law_872 (by decide) ?_
      refine q_iadd (pc := 873) C dL_law_873 ?_
      obtain ⟨g874, h⟩ := q_gd_e h
      refine q_sld (pc := 874) C X g874.1 dL_law_874 g874.2 ?_
      refine q_callVn (pc := 875) (As := [q_I (xs (l4 + (1 : Int32)).toNatClampNeg)]) (st := []) (ps := q_psI) C B.2.1 q_hpI qm_L_125 qv_X13_count dL_law_875 rfl rfl (Nat.le_of_ble_eq_true rfl) (q_flo B.2.2.1 B.2.2.2.1 (by decide) (by decide)) (K_X13_count l2 (xs (l4 + (1 : Int32)).toNatClampNeg)) (M_X13_count (q_kap E) l2 (xs (l4 + (1 : Int32)).toNatClampNeg)) (by exact fun v875 => (q_mo_rd fun _ => (q_mo_cc (M_X13_thrown (q_kap E) l2) (fun v881 => (q_mo_br (q_mo_br (M_L_law_908 (q_kap E) sb L xs r23 mr23 l0 l1 l2 l3 l4) (q_mo_rd fun v898 => (q_mo_br (M_L_law_908 (q_kap E) sb L xs r23 mr23 l0 l1 l2 l3 l4) q_mo_rz))) q_mo_rz)) (fun _ => q_mo_no)))) (fun _ => q_mo_no) h (fun v875 σ h => ?_) (fun _ _ h => by cases h)
      refine q_W.st (st' := [q_I v875]) rfl ?_
      refine q_istore (pc := 878) (l' := [(6, q_I v875), (5, q_I v863), (0, q_R l0), (1, q_R l1), (2, q_R l2), (3, q_R l3), (4, q_I l4)]) C dL_law_878 (by decide) rfl ?_
      refine q_aload_n (pc := 880) C 4 rfl dL_law_880 rfl ?_
      refine q_callVn (pc := 881) (As := []) (st := []) (ps := q_psI) C B.2.1 q_hpI qm_L_72 qv_X13_thrown dL_law_881 rfl rfl (Nat.le_of_ble_eq_true rfl) (q_flo B.2.2.1 B.2.2.2.1 (by decide) (by decide)) (K_X13_thrown l2) (M_X13_thrown (q_kap E) l2) (by exact fun v881 => (q_mo_br (q_mo_br (M_L_law_908 (q_kap E) sb L xs r23 mr23 l0 l1 l2 l3 l4) (q_mo_rd fun v898 => (q_mo_br (M_L_law_908 (q_kap E) sb L xs r23 mr23 l0 l1 l2 l3 l4) q_mo_rz))) q_mo_rz)) (fun _ => q_mo_no) h (fun v881 σ h => ?_) (fun _ _ h => by cases h)
      refine q_W.st (st' := [q_I v881]) rfl ?_
      refine q_iload (pc := 884) C 1 rfl dL_law_884 ?_
      refine q_icmp_eq (pc := 886) (tgt := 891) C dL_law_886 (by decide) h (fun _ h => ?_) (fun _ h => ?_)
      · refine q_iload (pc := 891) C 1 rfl dL_law_891 ?_
        refine q_if_ne (pc := 893) (tgt := 908) C dL_law_893 (by decide) h (fun _ h => ?_) (fun _ h => ?_)
        · refine q_W.sub [2, 3, 4, 5, 6] rfl ?_
          exact S_L_law_908 B hT X r23 hr23 mr23 l0 l1 l2 l3 l4 _ h
        · refine q_aload_n (pc := 896) C 5 rfl dL_law_896 rfl ?_
          refine q_iconst (pc := 897) (v := (0 : Int32)) C dL_law_897 (by decide) ?_
          refine q_ldL (pc := 898) C dL_law_898 h (fun v898 h => ?_)
          refine q_iload (pc := 899) C 0 rfl dL_law_899 ?_
          refine q_i2l (pc := 901) C dL_law_901 ?_
          refine q_lcmp (pc := 902) C dL_law_902 ?_
          refine q_if_eq (pc := 903) (tgt := 908) C dL_law_903 (by decide) h (fun _ h => ?_) (fun _ h => ?_)
          · refine q_W.sub [2, 3, 4, 5, 6] rfl ?_
            exact S_L_law_908 B hT X r23 hr23 mr23 l0 l1 l2 l3 l4 _ h
          · refine q_iconst (pc := 906) (v := (0 : Int32)) C dL_law_906 (by decide) ?_
            exact q_lawR C X B.2.1 B.2.2.2.2.1 dL_law_907 h
      · refine q_iconst (pc := 889) (v := (0 : Int32)) C dL_law_889 (by decide) ?_
        exact q_lawR C X B.2.1 B.2.2.2.2.1 dL_law_890 h
    replace h := (q_br_e h).2 cv
    cases h
def F_L_law_23 (κ : Nat → Nat) (sb L : Nat) (xs : Nat → Int32) : Nat → Option Nat → Option Nat → Option Nat → Option Nat → Int32 → q_X Int32
  | 0, _, _, _, _, _ => q_no
  | n + 1, l0, l1, l2, l3, l4 => F_L_law_23B κ sb L xs (F_L_law_23 κ sb L xs n) l0 l1 l2 l3 l4
theorem M_L_law_23 (κ : Nat → Nat) (sb L : Nat) (xs : Nat → Int32) : ∀ (n : Nat) (l0 : Option Nat) (l1 : Option Nat) (l2 : Option Nat) (l3 : Option Nat) (l4 : Int32), q_mo (F_L_law_23 κ sb L xs n l0 l1 l2 l3 l4)
  | 0, _, _, _, _, _ => q_mo_no
  | n + 1, l0, l1, l2, l3, l4 => M_L_law_23B κ sb L xs (F_L_law_23 κ sb L xs n) (M_L_law_23 κ sb L xs n) l0 l1 l2 l3 l4
theorem S_L_law_23 {E : q_Ev} {Γ : q_Gm} {w : (Int32 ⊕ q_Exn) × q_St} (B : q_Bd E Γ code RL 8 2048 84000 (some .boolean) "law" w) (hT : q_nT Γ) {sb L : Nat} {xs : Nat → Int32} (X : q_LX E Γ sb L xs w) : ∀ (n : Nat) (l0 : Option Nat) (l1 : Option Nat) (l2 : Option Nat) (l3 : Option Nat) (l4 : Int32) (σ : q_St), F_L_law_23 (q_kap E) sb L xs n l0 l1 l2 l3 l4 σ = some w → q_W E Γ (q_LZ Γ) 8 σ 23 [(0, q_R l0), (1, q_R l1), (2, q_R l2), (3, q_R l3), (4, q_I l4)] []
  | 0, _, _, _, _, _, _, h => by cases h
  | n + 1, l0, l1, l2, l3, l4, σ, h => S_L_law_23B B hT X (F_L_law_23 (q_kap E) sb L xs n) (S_L_law_23 B hT X n) (M_L_law_23 (q_kap E) sb L xs n) l0 l1 l2 l3 l4 σ h
def F_L_law (κ : Nat → Nat) (sb L : Nat) (xs : Nat → Int32) (l0 : Option Nat) : q_X Int32 :=
  q_mk (.inr (.inl (14, [.null, .null, .null, .null, .null, .null, .null]))) 7 fun a0 => q_gd (¬ (some a0) = none) (q_ca (F_X11_init κ (some a0)) fun _v4 => q_mk (.inr (.inl (16, [.null, .null, .null, .int 0, .int 0, .int 0, .int 0, .int 0, .int 0, .null, .null, .null, .null, .int 0, .int 0, .int 0, .null, .null, .null, .int 0, .int 0, .int 0, .int 0, .int 0, .null, .null, .null, .null, .null, .null, .null, .null, .null, .null, .null, .null, .null, .null, .null, .null, .null, .null, .int 0, .int 0, .int 0, .null, .null, .null, .null, .null, .null, .null, .int 0, .null, .null, .null, .null]))) 57 fun a8 => q_gd (¬ (some a8) = none) (q_ca (F_X13_init κ (some a8)) fun _v12 => q_gd (¬ (1 : Int32) < 0 ∧ (1 : Int32).toNatClampNeg ≤ 65536) (q_mk (q_nL (1 : Int32)) (1 : Int32).toNatClampNeg fun a17 => F_L_law_23 κ sb L xs q_fu l0 (some a0) (some a8) (some a17) (0 : Int32))))
theorem M_L_law (κ : Nat → Nat) (sb L : Nat) (xs : Nat → Int32) (l0 : Option Nat) : q_mo (F_L_law κ sb L xs l0) := (q_mo_mk fun a0 => (q_mo_gd (q_mo_ca (M_X11_init κ (some a0)) fun _v4 => (q_mo_mk fun a8 => (q_mo_gd (q_mo_ca (M_X13_init κ (some a8)) fun _v12 => (q_mo_gd (q_mo_mk fun a17 => (M_L_law_23 κ sb L xs q_fu l0 (some a0) (some a8) (some a17) (0 : Int32))))))))))
set_option maxRecDepth 100000 in
set_option maxHeartbeats 4000000 in
theorem S_L_law {E : q_Ev} {Γ : q_Gm} {w : (Int32 ⊕ q_Exn) × q_St} (B : q_Bd E Γ code RL 8 2048 84000 (some .boolean) "law" w) (hT : q_nT Γ) {sb L : Nat} {xs : Nat → Int32} (X : q_LX E Γ sb L xs w) (σ : q_St) (h : F_L_law (q_kap E) sb L xs (some sb) σ = some w) : q_W E Γ (q_LZ Γ) 8 σ 0 [(0, q_R (some sb))] [] := by
  have C := B.1
  unfold F_L_law at h
  refine q_new (pc := 0) C dL_law_0 qn_L_8 (by exact fun a0 => (q_mo_gd (q_mo_ca (M_X11_init (q_kap E) (some a0)) fun _v4 => (q_mo_mk fun a8 => (q_mo_gd (q_mo_ca (M_X13_init (q_kap E) (some a8)) fun _v12 => (q_mo_gd (q_mo_mk fun a17 => (M_L_law_23 (q_kap E) sb L xs q_fu (some sb) (some a0) (some a8) (some a17) (0 : Int32)))))))))) B.2.1 h (fun a0 σ h => ?_)
  refine q_dup (pc := 3) C dL_law_3 rfl ?_
  refine q_callI (pc := 4) (As := []) (st := [q_R (some a0)]) C B.2.1 (fun _ => rfl) qm_L_62 qI_X11_init dL_law_4 rfl rfl (Nat.le_of_ble_eq_true rfl) (q_flo B.2.2.1 B.2.2.2.1 (by decide) (by decide)) (K_X11_init (some a0)) (M_X11_init (q_kap E) (some a0)) (N_X11_init (q_kap E) (some a0)) (by exact fun _v4 => (q_mo_mk fun a8 => (q_mo_gd (q_mo_ca (M_X13_init (q_kap E) (some a8)) fun _v12 => (q_mo_gd (q_mo_mk fun a17 => (M_L_law_23 (q_kap E) sb L xs q_fu (some sb) (some a0) (some a8) (some a17) (0 : Int32)))))))) h (fun _v4 σ h => ?_)
  refine q_astore_n (pc := 7) (l' := [(1, q_R (some a0)), (0, q_R (some sb))]) C dL_law_7 rfl (by decide) rfl ?_
  refine q_new (pc := 8) C dL_law_8 qn_L_63 (by exact fun a8 => (q_mo_gd (q_mo_ca (M_X13_init (q_kap E) (some a8)) fun _v12 => (q_mo_gd (q_mo_mk fun a17 => (M_L_law_23 (q_kap E) sb L xs q_fu (some sb) (some a0) (some a8) (some a17) (0 : Int32))))))) B.2.1 h (fun a8 σ h => ?_)
  refine q_dup (pc := 11) C dL_law_11 rfl ?_
  refine q_callI (pc := 12) (As := []) (st := [q_R (some a8)]) C B.2.1 (fun _ => rfl) qm_L_65 qI_X13_init dL_law_12 rfl rfl (Nat.le_of_ble_eq_true rfl) (q_flo B.2.2.1 B.2.2.2.1 (by decide) (by decide)) (K_X13_init (some a8)) (M_X13_init (q_kap E) (some a8)) (N_X13_init (q_kap E) (some a8)) (by exact fun _v12 => (q_mo_gd (q_mo_mk fun a17 => (M_L_law_23 (q_kap E) sb L xs q_fu (some sb) (some a0) (some a8) (some a17) (0 : Int32))))) h (fun _v12 σ h => ?_)
  refine q_astore_n (pc := 15) (l' := [(2, q_R (some a8)), (1, q_R (some a0)), (0, q_R (some sb))]) C dL_law_15 rfl (by decide) rfl ?_
  refine q_iconst (pc := 16) (v := (1 : Int32)) C dL_law_16 (by decide) ?_
  refine q_newP (pc := 17) (t := 2) (A := ((1 : Int32).toNatClampNeg, .inr (.inl (fun _ => 0)))) C dL_law_17 qa_long rfl (by decide) (fun _ h => h) rfl (fun _ => rfl) (by decide) (by exact fun a17 => (M_L_law_23 (q_kap E) sb L xs q_fu (some sb) (some a0) (some a8) (some a17) (0 : Int32))) B.2.1 h (fun a17 σ h => ?_)
  refine q_astore_n (pc := 19) (l' := [(3, q_R (some a17)), (2, q_R (some a8)), (1, q_R (some a0)), (0, q_R (some sb))]) C dL_law_19 rfl (by decide) rfl ?_
  refine q_iconst (pc := 20) (v := (0 : Int32)) C dL_law_20 (by decide) ?_
  refine q_istore (pc := 21) (l' := [(4, q_I (0 : Int32)), (3, q_R (some a17)), (2, q_R (some a8)), (1, q_R (some a0)), (0, q_R (some sb))]) C dL_law_21 (by decide) rfl ?_
  refine q_W.sub [4, 3, 2, 1, 0] rfl ?_
  exact S_L_law_23 B hT X q_fu (some sb) (some a0) (some a8) (some a17) (0 : Int32) _ h
