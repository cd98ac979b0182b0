/-! ===== what more is true of instructions that are read ===== -/
def q_Pok (ps : List Int32) (no : Nat) : Prop := no ≤ 5 ∧ (∀ v ∈ ps, (∃ o, o < no ∧ v = -1 - nI o) ∨ v ∈ q_tt 10) ∧ ps.countP (fun v => decide (v < 0)) ≤ no ∧ ∀ o, o < no → -1 - nI o ∈ ps
def q_Dok (w : List Int32) : Prop := ∀ v ∈ w, v < 0 → v = -1 ∨ v = -2
def q_Jok (J : q_Ins) : Prop := q_Pok J.2.1 J.2.2.1.length ∧ ∀ w ∈ J.2.2.2, q_Dok w
theorem q_t10_p : ∀ c ∈ q_tt 10, ¬ c < 0 := by decide +kernel
theorem q_Pok_0 : q_Pok [] 0 := ⟨by decide, fun v hv => by simp at hv, by simp, fun o ho => by omega⟩
theorem q_p1_ok {B : Nat → Int32} {l : List q_Tok} {L : List q_Knd} {ps ps' : List Int32} {os os' : q_Ops} {t t' : Nat} (h : q_p1 B l L ps os t = .inr (ps', os', t')) (hp : q_Pok ps os.length) : q_Pok ps' os'.length := by
  obtain ⟨p1, p2, p3, p4⟩ := hp
  unfold q_p1 at h
  split at h
  · split at h
    · cases h
    · split at h
      · cases h
      · rename_i h5
        split at h
        · split at h
          · split at h
            · cases h
              have ho : os.length < 5 := by omega
              refine ⟨by simp; omega, fun v hv => ?_, ?_, fun o o1 => ?_⟩
              · rw [List.mem_append] at hv
                rcases hv with hv | hv
                · rcases p2 v hv with ⟨o, o1, o2⟩ | h9
                  · exact Or.inl ⟨o, by simp; omega, o2⟩
                  · exact Or.inr h9
                · rw [List.mem_singleton] at hv
                  exact Or.inl ⟨os.length, by simp, hv⟩
              · rw [List.countP_append, List.length_append]
                have : List.countP (fun v => decide (v < 0)) [-1 - nI os.length] ≤ 1 := List.countP_le_length
                simp only [List.length_singleton]
                omega
              · rw [List.length_append, List.length_singleton] at o1
                rw [List.mem_append, List.mem_singleton]
                by_cases ho9 : o = os.length
                · exact Or.inr (by rw [ho9])
                · exact Or.inl (p4 o (by omega))
            · cases h
          · cases h
        · cases h
  · split at h
    · rename_i hs
      split at h
      · cases h
      · cases h
        unfold q_psg at hs
        rw [decide_eq_true_eq] at hs
        have hm : (q_nv l t).toInt32 ∈ q_tt 10 := List.contains_iff_mem.mp hs.2
        refine ⟨p1, fun v hv => ?_, ?_, fun o o1 => List.mem_append.mpr (Or.inl (p4 o o1))⟩
        · rw [List.mem_append] at hv
          rcases hv with hv | hv
          · exact p2 v hv
          · rw [List.mem_singleton] at hv
            rw [hv]
            exact Or.inr hm
        · rw [List.countP_append, List.countP_singleton, decide_eq_false (q_t10_p _ hm)]
          simpa using p3
    · cases h
theorem q_pp_ok {B : Nat → Int32} {l : List q_Tok} {L : List q_Knd} : ∀ f ps os t x, q_pp B l L f ps os t = .inr x → q_Pok ps os.length → q_Pok x.1 x.2.1.length := by
  intro f
  induction f with
  | zero => intro ps os t x h; cases h
  | succ f ih =>
    intro ps os t x h hp
    rw [q_pp] at h
    split at h
    · cases h; exact hp
    · split at h
      · cases h
      · rename_i y hy
        obtain ⟨ps', os', t'⟩ := y
        exact ih _ _ _ _ h (q_p1_ok hy hp)
theorem q_nd_le (z : Nat) : ∀ f n, q_nd z f n ≤ n + f := by
  intro f
  induction f with
  | zero => intro n; exact Nat.le_refl _
  | succ f ih =>
    intro n
    rw [q_nd]
    split
    · omega
    · have := ih (n + 1)
      omega
theorem q_vn_le {l : List q_Tok} {t hi : Nat} (hh : hi < 2 ^ 31) (h : q_nv l t ≤ lN hi) : q_vn l t ≤ hi := by
  unfold q_vn
  have := Int64.le_iff_toInt_le.mp h
  rw [q_lN_i (by omega)] at this
  omega
theorem q_pr_B {B : Nat → Int32} {l : List q_Tok} {so t : Nat} {nm : q_Nam} {x : q_Knd × Nat} (h : q_pr B l so nm t = .inr x) : q_kB x.1 ≤ 32 := by
  unfold q_pr at h
  split at h
  · split at h
    · split at h
      · split at h
        · cases h
          have := q_nd_le (q_vn l (t + 1)) 6 1
          exact Nat.le_trans this (by decide)
        · cases h
      · cases h
    · cases h
  · split at h
    · split at h
      · cases h
      · rename_i y hy
        cases h
        exact Nat.le_trans (q_nd_le y.1.length 6 1) (by decide)
    · split at h
      · split at h
        · rename_i h9
          cases h
          exact q_vn_le (hi := 32) (by decide) h9.2
        · cases h
      · cases h
theorem q_pk_B {B : Nat → Int32} {l : List q_Tok} {L : List q_Knd} {so t : Nat} {x : q_Knd × Nat} (h : q_pk B l L so t = .inr x) : q_kB x.1 ≤ 32 := by
  unfold q_pk at h
  split at h
  · split at h
    · cases h
    · split at h
      · cases h
      · split at h
        · cases h
        · rename_i y hy
          unfold q_fin at h
          split at h
          · cases h
            have h9 := q_pr_B hy
            exact h9
          · cases h
  · cases h
theorem q_num1_le {l : List q_Tok} {t hi v : Nat} (hh : hi < 2 ^ 31) (e : q_num1 l t hi = .inr v) : v ≤ hi := by
  unfold q_num1 at e
  split at e
  · split at e
    · rename_i h9
      cases e
      exact q_vn_le hh h9.2
    · cases e
  · cases e
theorem q_pc_le {l : List q_Tok} {sz t : Nat} {x : Nat × Nat × Nat} (hz : sz ≤ 32) (h : q_pc l sz t = .inr x) : x.2.1 ≤ 32 ∧ x.1 ≤ 32 := by
  unfold q_pc at h
  split at h
  · split at h
    · cases h
    · rename_i y hy
      have h1 := q_num1_le (by omega) hy
      split at h
      · split at h
        · cases h
        · rename_i y2 hy2
          have h2 := q_num1_le (by omega) hy2
          split at h
          · cases h
            exact ⟨by show y2 ≤ 32; omega, by show y ≤ 32; omega⟩
          · cases h
      · split at h
        · cases h
          exact ⟨by show y ≤ 32; omega, by show y ≤ 32; omega⟩
        · cases h
  · cases h
    exact ⟨by show 0 ≤ 32; omega, by show sz - 1 ≤ 32; omega⟩
theorem q_Dok_a {c d : List Int32} (h : q_Dok c) (h' : q_Dok d) : q_Dok (c ++ d) := fun v hv => by
  rw [List.mem_append] at hv
  rcases hv with hv | hv
  · exact h v hv
  · exact h' v hv
theorem q_Dok_dl (B : Nat → Int32) : ∀ n p, q_Dok (q_dl B n p) := by
  intro n
  induction n with
  | zero => intro p v hv; simp [q_dl] at hv
  | succ n ih =>
    intro p v hv hn
    rw [q_dl, List.mem_cons] at hv
    rcases hv with rfl | hv
    · unfold q_d1
      split
      · exact Or.inl rfl
      · exact Or.inr rfl
    · exact ih _ v hv hn
theorem q_Dok_pl {o lo : Nat} (ho : o ≤ 5) : ∀ d, lo + d ≤ 100 → q_Dok (q_pl o lo d) := by
  intro d
  induction d with
  | zero => intro _ v hv; simp [q_pl] at hv
  | succ d ih =>
    intro hd v hv hn
    rw [q_pl, List.mem_cons] at hv
    rcases hv with rfl | hv
    · exact absurd hn (nI_pos (by omega))
    · exact ih (by omega) v hv hn
theorem q_kb_le {L : List q_Knd} (hL : ∀ K ∈ L, q_kB K ≤ 32) (os : q_Ops) (o : Nat) : q_kb L os o ≤ 32 := by
  unfold q_kb q_kg
  rw [List.getD_eq_getElem?_getD]
  cases h : L[(os.getD o ([], 0)).2]? with
  | none => exact Nat.zero_le _
  | some K => exact hL K (List.mem_of_getElem? h)
theorem q_pb_ok {B : Nat → Int32} {l : List q_Tok} {L : List q_Knd} {os : q_Ops} {z : Nat} (hL : ∀ K ∈ L, q_kB K ≤ 32) (hos : os.length ≤ 5) : ∀ f ws c t x, q_pb B l L os z f ws c t = .inr x → (∀ w ∈ ws, q_Dok w) → q_Dok c → ∀ w ∈ x.1, q_Dok w := by
  have last : ∀ {ws : List (List Int32)} {c : List Int32}, (∀ w ∈ ws, q_Dok w) → q_Dok c → ∀ w ∈ ws ++ [c], q_Dok w := by
    intro ws c h1 h2 w hw
    rw [List.mem_append, List.mem_singleton] at hw
    rcases hw with hw | rfl
    · exact h1 w hw
    · exact h2
  intro f
  induction f with
  | zero => intro ws c t x h; cases h
  | succ f ih =>
    intro ws c t x h hw hc
    rw [q_pb] at h
    split at h
    · split at h
      · exact ih _ _ _ _ h hw (q_Dok_a hc (q_Dok_dl B _ _))
      · cases h
    · split at h
      · split at h
        · cases h
        · rename_i o ho
          split at h
          · cases h
          · rename_i y hy
            have ho2 : o < os.length := by
              unfold q_oi at ho
              have := (q_fi_s _ _ _ ho).2.1
              omega
            have := q_pc_le (q_kb_le hL os o) hy
            exact ih _ _ _ _ h hw (q_Dok_a hc (q_Dok_pl (by omega) _ (by omega)))
      · split at h
        · split at h
          · cases h
          · split at h
            · exact ih _ _ _ _ h (last hw hc) (fun v hv => by simp at hv)
            · cases h
        · split at h
          · split at h
            · split at h
              · cases h
                exact last hw hc
              · cases h
            · cases h
          · cases h
theorem q_pi_ok {B : Nat → Int32} {l : List q_Tok} {L : List q_Knd} {ni z t : Nat} {x : q_Ins × Nat} (hL : ∀ K ∈ L, q_kB K ≤ 32) (h : q_pi B l L ni z t = .inr x) : q_Jok x.1 := by
  unfold q_pi at h
  split at h
  · split at h
    · cases h
    · split at h
      · cases h
      · rename_i y hy
        split at h
        · cases h
        · rename_i u hu
          cases h
          have hp := q_pp_ok _ _ _ _ _ hy q_Pok_0
          exact ⟨hp, q_pb_ok hL hp.1 _ _ _ _ _ hu (fun w hw => by simp at hw) (fun v hv => by simp at hv)⟩
  · cases h
theorem q_ps_ok {B : Nat → Int32} {l : List q_Tok} {z : Nat} : ∀ f L Js t x, q_ps B l z f L Js t = .inr x → (∀ K ∈ L, q_kB K ≤ 32) → (∀ J ∈ Js, q_Jok J) → ∀ J ∈ x.2, q_Jok J := by
  intro f
  induction f with
  | zero => intro L Js t x h; cases h
  | succ f ih =>
    intro L Js t x h hL hJ
    rw [q_ps] at h
    split at h
    · cases h; exact hJ
    · split at h
      · split at h
        · cases h
        · rename_i y hy
          refine ih _ _ _ _ h hL (fun J hm => ?_)
          rw [List.mem_append, List.mem_singleton] at hm
          rcases hm with hm | rfl
          · exact hJ J hm
          · exact q_pi_ok hL hy
      · split at h
        · cases h
        · split at h
          · cases h
          · rename_i y hy
            refine ih _ _ _ _ h (fun K hm => ?_) hJ
            rw [List.mem_append, List.mem_singleton] at hm
            rcases hm with hm | rfl
            · exact hL K hm
            · exact q_pk_B hy
theorem q_pd_ok {B : Nat → Int32} {l : List q_Tok} {z : Nat} {L : List q_Knd} {Js : List q_Ins} (h : q_pd B l = .inr (z, L, Js)) : ∀ J ∈ Js, q_Jok J := by
  unfold q_pd at h
  split at h
  · cases h
  · split at h
    · cases h
    · rename_i y hy
      cases h
      exact q_ps_ok _ _ _ _ _ hy (fun K hK => by simp at hK) (fun J hJ => by simp at hJ)
