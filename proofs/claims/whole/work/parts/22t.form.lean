def q_opn (p : Int32) : Nat := (-1 - p).toNatClampNeg
theorem q_opn_o {o : Nat} (ho : o < 5) : q_opn (-1 - nI o) = o := by
  unfold q_opn
  rw [q_m1, nI_clamp (by omega)]
theorem q_opn_i {o u : Nat} (ho : o < 5) (hu : u < 5) (h : -1 - nI o = -1 - nI u) : o = u := by
  rw [← q_opn_o ho, h, q_opn_o hu]
/-- the parts of a form, from a token on: the token behind, and where the operands begin -/
def q_fw (B : Nat → Int32) (l : List q_Tok) (LT : List Nat) (L : List q_Knd) (os : q_Ops) : List Int32 → Nat → (Nat → Nat) → Option (Nat × (Nat → Nat))
  | [], t, ps => some (t, ps)
  | p :: r, t, ps => if p < 0 then (match q_opd B l LT (q_ok L os (q_opn p)) t with
      | none => none
      | some x => q_fw B l LT L os r x.1 (q_u1 ps (q_opn p) t))
    else if q_sgn l t p = true then q_fw B l LT L os r (t + 1) ps else none
def q_LE (l : List q_Tok) (hd en : Nat) : Prop := hd < en ∧ en ≤ l.length ∧ (∀ i, hd ≤ i → i < en → (q_tok l i).1 ≠ 4 ∧ (q_tok l i).1 ≠ 5) ∧ ((q_tok l en).1 = 4 ∨ (q_tok l en).1 = 5)
theorem q_rgn_1 {B : Nat → Int32} {K : q_Knd} {x : q_Tok} {v : Nat} (h : q_rgn B K x = some v) : x.1 = 1 := by
  unfold q_rgn at h
  split at h
  · rename_i h9
    exact h9.1
  · cases h
theorem q_mem1_1 {B : Nat → Int32} {K : q_Knd} {x : q_Tok} {v : Nat} (h : q_mem1 B K x = some v) : x.1 = 1 := by
  unfold q_mem1 at h
  split at h
  · rename_i h9
    exact h9
  · cases h
theorem q_sgn_3 {l : List q_Tok} {t : Nat} {c : Int32} (h : q_sgn l t c = true) : (q_tok l t).1 = 3 := (of_decide_eq_true h).1
theorem q_opd_en {B : Nat → Int32} {l : List q_Tok} {LT : List Nat} {K : q_Knd} {t hd en : Nat} {x : q_Opd} (hE : q_LE l hd en) (h1 : hd ≤ t) (h2 : t ≤ en) (hx : q_opd B l LT K t = some x) : t < en ∧ t < x.1 ∧ x.1 ≤ en := by
  obtain ⟨e1, e2, e3, e4⟩ := hE
  have key : ∀ u, u ≤ en → ((q_tok l u).1 = 1 ∨ (q_tok l u).1 = 2 ∨ (q_tok l u).1 = 3) → u < en := fun u hu ht => by
    rcases Nat.lt_or_ge u en with h9 | h9
    · exact h9
    · have : u = en := by omega
      subst this
      omega
  unfold q_opd at hx
  split at hx
  · cases hr : q_rgn B K (q_tok l t) with
    | none => rw [hr] at hx; cases hx
    | some v =>
      rw [hr] at hx
      cases hx
      have := key t h2 (Or.inl (q_rgn_1 hr))
      exact ⟨this, Nat.lt_succ_self _, this⟩
  · split at hx
    · cases hr : q_mem1 B K (q_tok l t) with
      | none => rw [hr] at hx; cases hx
      | some v =>
        rw [hr] at hx
        cases hx
        have := key t h2 (Or.inl (q_mem1_1 hr))
        exact ⟨this, Nat.lt_succ_self _, this⟩
    · split at hx
      · rename_i c2
        cases hx
        have := key t h2 (Or.inr (Or.inl c2))
        exact ⟨this, Nat.lt_succ_self _, this⟩
      · split at hx
        · rename_i cs
          split at hx
          · rename_i c2
            cases hx
            have k1 := key t h2 (Or.inr (Or.inr (q_sgn_3 cs)))
            have k2 := key (t + 1) k1 (Or.inr (Or.inl c2))
            exact ⟨k1, by show t < t + 2; omega, k2⟩
          · cases hx
        · split at hx
          · rename_i c1
            have k1 := key t h2 (Or.inl c1)
            cases hr : q_lk B l LT t with
            | none => rw [hr] at hx; cases hx
            | some i =>
              rw [hr] at hx
              cases ct : q_tl l t with
              | true =>
                simp only [ct, if_true] at hx
                cases hx
                unfold q_tl at ct
                rw [Bool.and_eq_true, Bool.or_eq_true] at ct
                have k2 := key (t + 1) k1 (Or.inr (Or.inr (ct.1.elim q_sgn_3 q_sgn_3)))
                have k3 := key (t + 2) k2 (Or.inr (Or.inl (of_decide_eq_true ct.2)))
                exact ⟨k1, by show t < t + 3; omega, k3⟩
              | false =>
                simp only [ct, if_false, Bool.false_eq_true] at hx
                cases hx
                exact ⟨k1, Nat.lt_succ_self _, k1⟩
          · cases hx
/-- what a read form knows of its operands -/
theorem q_fw_g {B : Nat → Int32} {l : List q_Tok} {LT : List Nat} {L : List q_Knd} {os : q_Ops} {hd en no : Nat} (hE : q_LE l hd en) (hno : no ≤ 5) : ∀ (rem : List Int32) (t : Nat) (ps : Nat → Nat) (y : Nat × (Nat → Nat)), (∀ v ∈ rem, (∃ o, o < no ∧ v = -1 - nI o) ∨ v ∈ q_tt 10) → q_fw B l LT L os rem t ps = some y → hd < t → t ≤ en → (∀ o, o < no → -1 - nI o ∉ rem → hd < ps o ∧ ps o < en ∧ ∃ x, q_opd B l LT (q_ok L os o) (ps o) = some x) → (hd < y.1 ∧ y.1 ≤ en) ∧ ∀ o, o < no → hd < y.2 o ∧ y.2 o < en ∧ ∃ x, q_opd B l LT (q_ok L os o) (y.2 o) = some x := by
  intro rem
  induction rem with
  | nil =>
    intro t ps y _ h h1 h2 hp
    cases h
    exact ⟨⟨h1, h2⟩, fun o ho => hp o ho (by intro h; cases h)⟩
  | cons p r ih =>
    intro t ps y hv h h1 h2 hp
    have hv' := fun v hv9 => hv v (List.mem_cons_of_mem _ hv9)
    rw [q_fw] at h
    rcases hv p (List.mem_cons_self) with ⟨o, o1, o2⟩ | hsg
    · have np2 : p < 0 := by rw [o2]; exact Int32.not_le.mp (q_m1n (by omega))
      rw [if_pos np2] at h
      cases hx : q_opd B l LT (q_ok L os (q_opn p)) t with
      | none => rw [hx] at h; cases h
      | some x =>
        rw [hx] at h
        obtain ⟨g1, g2, g3⟩ := q_opd_en hE (by omega) h2 hx
        refine ih x.1 _ y hv' h (by omega) g3 (fun u hu hm => ?_)
        by_cases hou : u = q_opn p
        · rw [hou, q_u1_s]
          exact ⟨h1, g1, x, hx⟩
        · rw [q_u1_n _ _ hou]
          refine hp u hu (fun h9 => ?_)
          rcases List.mem_cons.mp h9 with h8 | h8
          · exact hou (by rw [← h8, q_opn_o (by omega)])
          · exact hm h8
    · have np : ¬ p < 0 := q_t10_p p hsg
      rw [if_neg np] at h
      split at h
      · rename_i cs
        have k1 : t < en := by
          rcases Nat.lt_or_ge t en with h9 | h9
          · exact h9
          · have : t = en := by omega
            have c3 := q_sgn_3 cs
            have := hE.2.2.2
            subst t
            omega
        refine ih (t + 1) ps y hv' h (by omega) k1 (fun u hu hm => hp u hu (fun h9 => ?_))
        rcases List.mem_cons.mp h9 with h8 | h8
        · exact np (by rw [← h8]; exact Int32.not_le.mp (q_m1n (by omega)))
        · exact hm h8
      · cases h
